def ctN (bt : Nat → Nat) (pc n mc kc k : Nat) : Nat := if k = 0 then pc else if k = 1 then n else if k = 2 then mc else if k = 3 then kc else cbN bt n
def ctI (bt : Nat → Nat) (pc n mc kc : Nat) (x : Int32) : Int32 := if x.toInt < 0 ∨ 4 < x.toInt then -1 else nI (ctN bt pc n mc kc (cN x))
theorem cx_k {y : Int32} {k : Nat} (h : y = nI k) (hk : k ≤ 4) : ¬ (y.toInt < 0 ∨ 4 < y.toInt) ∧ cN y = k := by
  rw [h, nI_toInt (by omega)]
  exact ⟨by omega, cN_n (by omega)⟩
theorem sL_le {n : Nat} {fo : Nat → Nat → Bool} {use : Nat → Nat → Nat} : ∀ c op R, (∀ j, R j ≤ NVc) → ∀ j, sL n fo use c op R j ≤ NVc := by
  intro c
  induction c with
  | zero => intro op R h j; exact h j
  | succ c ih =>
    intro op R h j
    cases he : (erL op R n).1 with
    | none => rw [sL_none (by omega) he]; exact h j
    | some x => rw [sL_some (by omega) he]; exact ih _ _ (fun i => Nat.le_trans (gL_le n i) (h i)) j
theorem srch_le {n us : Nat} {st : Nat → Bool} {fo : Nat → Nat → Bool} {use : Nat → Nat → Nat} {t : Nat} {R0 : Nat → Nat} (h0 : ∀ j, R0 j ≤ NVc) (h1 : ∀ i, use i t ≤ NVc) : ∀ j, srch n us st fo use t R0 j ≤ NVc := sL_le n us _ (iL_le h0 h1 n)
/-- what a search leaves -/
def lsR (bg en sc wd ht oh bt : Nat → Nat) (co n w h a b t : Nat) (re : Nat → Nat) : Nat → Nat := if a = b then re else srch n (uM wd ht oh co w h n) (stB bg a) (foB bg en bt) (uE oh sc) t re
def lsA (sa a b : Nat) : Nat := if a = b then sa else a
def lsM (fm t a b : Nat) : Nat := if a = b then fm else t
def lsV (en R : Nat → Nat) (n a b t : Nat) : Int64 := if a = b then lN 0 else (lpL en R b n).1.elim (-1) (fun x => lN (R x) - lN t)
theorem uE_le {bg en sc wd ht oh bt : Nat → Nat} {co n : Nat} (hB : bP bg en sc wd ht oh bt co n) {t : Nat} (ht0 : t ≤ 10000000) (i : Nat) : uE oh sc i t ≤ NVc := by
  have := ew_b (oh i) (sc i) t
  have := hB.2.2 i
  have : NVc = 1152921504606846976 := rfl
  show ew _ _ _ ≤ _
  omega
theorem lsR_le {bg en sc wd ht oh bt : Nat → Nat} {co n w h a b t : Nat} {re : Nat → Nat} (hB : bP bg en sc wd ht oh bt co n) (hre : ∀ j, re j ≤ 1152921504606846976) (ht0 : t ≤ 10000000) : ∀ j, lsR bg en sc wd ht oh bt co n w h a b t re j ≤ 1152921504606846976 := by
  unfold lsR
  split
  · exact hre
  · exact srch_le hre (uE_le hB ht0)
theorem lsV_ne {en R : Nat → Nat} {n a b t : Nat} (h1 : ¬ a = b) (h2 : ¬ lsV en R n a b t = -1) : (lpL en R b n).1 ≠ none := fun q => h2 (by rw [lsV, if_neg h1, q]; rfl)
theorem uM_lt (wd ht oh : Nat → Nat) (co w h : Nat) {k : Nat} (hk : k ≤ 40) : uM wd ht oh co w h k < 1099511627776 := (uM_ok wd ht oh co w h k hk).1

set_option maxHeartbeats 4000000 in
set_option maxRecDepth 100000 in
theorem ct_G_step (l : Launch) (dC : Nat → ClassId) (dI : Nat → Nat → Nat) (cI cJ cZ : ClassId) (qg q ql qs qr : Nat → Nat) (lv mw mh mk : Nat → Nat) (pc mc kc : Nat) (nu : Nat → Nat) (rl : Nat) (x : Int32) (hG : bGp lv mw mh mk pc mc kc) (hrl : rl ≤ 40) : Met l yG_step wsG_step ({ frames := 1, cells := 0, slots := 0, locals := 21 }) (PcR (dC, dI) (wG cI cJ cZ qg q ql qs qr lv mw mh mk pc mc kc ++ wR cI cJ cZ qr nu rl) (tyE cI cJ cZ) [.ref (qg 0), .int x]) (vp_Si (fun r => r = atI nu rl x)) 0 0 (fun _ => False) := by
  refine Met.ofW (cc := cG_step) (maxL := 2) (ret := (some .int)) (by decide) rfl ?_
  intro p e s m args below meth c s₁ B hml hv
  obtain ⟨rfl, hP, hK, hE⟩ := hv
  have hx := B.exec
  have hb := B.bytes
  have hr := B.returns
  have hts := atoms_spec (ws := wsG_step) B.pre
  have hg : ∀ w ∈ gw, w.before _ s = true := fun w h => hts w (List.mem_cons_of_mem _ h)
  have hown : s.vm.findClass nG = some m.cls := findClass_of_methodNamed B.named
  have hlocks := B.notSynchronized
  have hR : 1 ≤ (headSpec wsG_step ({ frames := 1, cells := 0, slots := 0, locals := 21 })).room.frames ∧ 21 ≤ (headSpec wsG_step ({ frames := 1, cells := 0, slots := 0, locals := 21 })).room.locals := ⟨Nat.le_refl _, Nat.le_refl _⟩
  have hcs : 0 ≤ (headSpec wsG_step ({ frames := 1, cells := 0, slots := 0, locals := 21 })).room.cells ∧ 0 ≤ (headSpec wsG_step ({ frames := 1, cells := 0, slots := 0, locals := 21 })).room.slots := ⟨Nat.zero_le _, Nat.zero_le _⟩
  have hl := lv_entry ([.ref (qg 0), .int x]) (n := 2) (Nat.le_of_ble_eq_true rfl)
  rw [lg_entry_eq]
  generalize (lg_sl ([.ref (qg 0), .int x]) ++ List.replicate (2 - (lg_sl ([.ref (qg 0), .int x])).length) Slot.unset).toArray = ls at hl ⊢
  have hl : lv_has ls 2 [(0, .ref (qg 0)), (1, .int x)] := hl
  refine lv_aload_n hx hb dG_step_0 rfl (lv_at hl 0 rfl) ?_
  refine va_get (D := (dC, dI)) (ci := 0) (v := .ref (qr 0)) (C := nG) (T := TG) (N := 11) hx hb hg inG hown hK hP 0 rfl rfl 10 (by decide) (hg _ kG_47) (fun _ h9 => h9) rfl dG_step_1 ?_
  refine lv_iload_n hx hb dG_step_4 rfl (lv_at hl 1 rfl) ?_
  refine cpV_i (b := (qr 0)) (C := nR) (As := [.int x]) (rest := []) (post := fun r : Int32 => r = atI nu rl x) ⟨hx, hb, hml, hown, hts⟩ (ct_R_at l dC dI cI cJ cZ qr nu rl x (hrl)) (cwV 1 hts (gv kG_185 ki_R_at ksel_R_at kin_R kc_R_at) rfl rfl rfl (by decide +kernel) ⟨Nat.le_trans (by decide) hR.1, Nat.le_trans (by decide) hR.2⟩) (va_recv hK hP (ci := 4) (q0 := 5) rfl rfl) (hP.sub (ws' := (wR cI cJ cZ qr nu rl)) [5, 6] rfl) hK hE rfl hl.1 rfl (Nat.le_of_ble_eq_true rfl) dG_step_5 hcs (fun r hr => ?_)
  subst hr
  exact W.iret hx hb hr (fun t ht hW => ⟨_, rfl, (rfl), ht⟩) (fun _ h9 => nomatch h9) dG_step_8

set_option maxHeartbeats 4000000 in
set_option maxRecDepth 100000 in
theorem ct_G_count (l : Launch) (dC : Nat → ClassId) (dI : Nat → Nat → Nat) (cI cJ cZ : ClassId) (qg q ql qs qr : Nat → Nat) (lv mw mh mk : Nat → Nat) (pc mc kc : Nat) (bg en sc wd ht oh bt : Nat → Nat) (co n : Nat) (x : Int32) (hG : bGp lv mw mh mk pc mc kc) (hB : bP bg en sc wd ht oh bt co n) : Met l yG_count wsG_count ({ frames := 2, cells := 0, slots := 0, locals := 43 }) (PcR (dC, dI) (wG cI cJ cZ qg q ql qs qr lv mw mh mk pc mc kc ++ wP cI cJ cZ q bg en sc wd ht oh bt co n) (tyE cI cJ cZ) [.ref (qg 0), .int x]) (vp_Si (fun r => r = ctI bt pc n mc kc x)) 0 0 (fun _ => False) := by
  refine Met.ofW (cc := cG_count) (maxL := 2) (ret := (some .int)) (by decide) rfl ?_
  intro p e s m args below meth c s₁ B hml hv
  obtain ⟨rfl, hP, hK, hE⟩ := hv
  have hx := B.exec
  have hb := B.bytes
  have hr := B.returns
  have hts := atoms_spec (ws := wsG_count) B.pre
  have hg : ∀ w ∈ gw, w.before _ s = true := fun w h => hts w (List.mem_cons_of_mem _ h)
  have hown : s.vm.findClass nG = some m.cls := findClass_of_methodNamed B.named
  have hlocks := B.notSynchronized
  have hR : 2 ≤ (headSpec wsG_count ({ frames := 2, cells := 0, slots := 0, locals := 43 })).room.frames ∧ 43 ≤ (headSpec wsG_count ({ frames := 2, cells := 0, slots := 0, locals := 43 })).room.locals := ⟨Nat.le_refl _, Nat.le_refl _⟩
  have hcs : 0 ≤ (headSpec wsG_count ({ frames := 2, cells := 0, slots := 0, locals := 43 })).room.cells ∧ 0 ≤ (headSpec wsG_count ({ frames := 2, cells := 0, slots := 0, locals := 43 })).room.slots := ⟨Nat.zero_le _, Nat.zero_le _⟩
  have hpc := hG.1
  have hmc := hG.2.1
  have hkc := hG.2.2.1
  have hgi := hG.2.2.2
  have hbi := hB.2.2
  have hn := hB.1
  have hco := hB.2.1
  have hl := lv_entry ([.ref (qg 0), .int x]) (n := 2) (Nat.le_of_ble_eq_true rfl)
  rw [lg_entry_eq]
  generalize (lg_sl ([.ref (qg 0), .int x]) ++ List.replicate (2 - (lg_sl ([.ref (qg 0), .int x])).length) Slot.unset).toArray = ls at hl ⊢
  have hl : lv_has ls 2 [(0, .ref (qg 0)), (1, .int x)] := hl
  refine lv_iload_n hx hb dG_count_0 rfl (lv_at hl 1 rfl) ?_
  rcases sw_of x 4 (by decide) with hsw | ⟨k9, hk9, ek9⟩
  · refine lv_tableOut (tgt := 67) hx hb dG_count_1 hsw (by decide) ?_
    refine lv_iconst (v := -1) hx hb dG_count_67 (by decide) ?_
    exact W.iret hx hb hr (fun t ht hW => ⟨_, rfl, ((if_pos hsw).symm), ht⟩) (fun _ h9 => nomatch h9) dG_count_68
  · rcases (show k9 = 0 ∨ k9 = 1 ∨ k9 = 2 ∨ k9 = 3 ∨ k9 = 4 by omega) with rfl | rfl | rfl | rfl | rfl
    · refine lv_tableIn (off := 35) (tgt := 36) hx hb dG_count_1 (by rw [ek9]; decide) (by rw [ek9]; decide) (by rw [ek9]; decide) (by decide) ?_
      refine lv_aload_n hx hb dG_count_36 rfl (lv_at hl 0 rfl) ?_
      refine va_get (D := (dC, dI)) (ci := 0) (v := .int (nI pc)) (C := nG) (T := TG) (N := 11) hx hb hg inG hown hK hP 0 rfl rfl 1 (by decide) (hg _ kG_64) (fun _ h9 => h9) rfl dG_count_37 ?_
      exact W.iret hx hb hr (fun t ht hW => ⟨_, rfl, (by rw [ctI, if_neg (cx_k ek9 (by decide)).1, (cx_k ek9 (by decide)).2]; rfl), ht⟩) (fun _ h9 => nomatch h9) dG_count_40
    · refine lv_tableIn (off := 40) (tgt := 41) hx hb dG_count_1 (by rw [ek9]; decide) (by rw [ek9]; decide) (by rw [ek9]; decide) (by decide) ?_
      refine lv_aload_n hx hb dG_count_41 rfl (lv_at hl 0 rfl) ?_
      refine va_get (D := (dC, dI)) (ci := 0) (v := .ref (q 0)) (C := nG) (T := TG) (N := 11) hx hb hg inG hown hK hP 0 rfl rfl 2 (by decide) (hg _ kG_16) (fun _ h9 => h9) rfl dG_count_42 ?_
      refine va_get (D := (dC, dI)) (ci := 1) (v := .int (nI n)) (C := nP) (T := TP) (N := 9) hx hb hg inP hown hK hP 5 rfl rfl 8 (by decide) (hg _ kG_90) (fun _ h9 => h9) rfl dG_count_45 ?_
      exact W.iret hx hb hr (fun t ht hW => ⟨_, rfl, (by rw [ctI, if_neg (cx_k ek9 (by decide)).1, (cx_k ek9 (by decide)).2]; rfl), ht⟩) (fun _ h9 => nomatch h9) dG_count_48
    · refine lv_tableIn (off := 48) (tgt := 49) hx hb dG_count_1 (by rw [ek9]; decide) (by rw [ek9]; decide) (by rw [ek9]; decide) (by decide) ?_
      refine lv_aload_n hx hb dG_count_49 rfl (lv_at hl 0 rfl) ?_
      refine va_get (D := (dC, dI)) (ci := 0) (v := .int (nI mc)) (C := nG) (T := TG) (N := 11) hx hb hg inG hown hK hP 0 rfl rfl 5 (by decide) (hg _ kG_120) (fun _ h9 => h9) rfl dG_count_50 ?_
      exact W.iret hx hb hr (fun t ht hW => ⟨_, rfl, (by rw [ctI, if_neg (cx_k ek9 (by decide)).1, (cx_k ek9 (by decide)).2]; rfl), ht⟩) (fun _ h9 => nomatch h9) dG_count_53
    · refine lv_tableIn (off := 53) (tgt := 54) hx hb dG_count_1 (by rw [ek9]; decide) (by rw [ek9]; decide) (by rw [ek9]; decide) (by decide) ?_
      refine lv_aload_n hx hb dG_count_54 rfl (lv_at hl 0 rfl) ?_
      refine va_get (D := (dC, dI)) (ci := 0) (v := .int (nI kc)) (C := nG) (T := TG) (N := 11) hx hb hg inG hown hK hP 0 rfl rfl 7 (by decide) (hg _ kG_201) (fun _ h9 => h9) rfl dG_count_55 ?_
      exact W.iret hx hb hr (fun t ht hW => ⟨_, rfl, (by rw [ctI, if_neg (cx_k ek9 (by decide)).1, (cx_k ek9 (by decide)).2]; rfl), ht⟩) (fun _ h9 => nomatch h9) dG_count_58
    · refine lv_tableIn (off := 58) (tgt := 59) hx hb dG_count_1 (by rw [ek9]; decide) (by rw [ek9]; decide) (by rw [ek9]; decide) (by decide) ?_
      refine lv_aload_n hx hb dG_count_59 rfl (lv_at hl 0 rfl) ?_
      refine va_get (D := (dC, dI)) (ci := 0) (v := .ref (q 0)) (C := nG) (T := TG) (N := 11) hx hb hg inG hown hK hP 0 rfl rfl 2 (by decide) (hg _ kG_16) (fun _ h9 => h9) rfl dG_count_60 ?_
      refine cpV_i (b := (q 0)) (C := nP) (As := []) (rest := []) (post := fun r : Int32 => r = nI (cbN bt n)) ⟨hx, hb, hml, hown, hts⟩ (ct_P_countBarredTurns l dC dI cI cJ cZ q bg en sc wd ht oh bt co n (hB)) (cwV 0 hts (gv kG_241 ki_P_countBarredTurns ksel_P_countBarredTurns kin_P kc_P_countBarredTurns) rfl rfl rfl (by decide +kernel) ⟨Nat.le_trans (by decide) hR.1, Nat.le_trans (by decide) hR.2⟩) (va_recv hK hP (ci := 1) (q0 := 5) rfl rfl) (hP.sub (ws' := (wP cI cJ cZ q bg en sc wd ht oh bt co n)) [5, 6, 7, 8, 9, 10, 11, 12] rfl) hK hE rfl hl.1 rfl (Nat.le_of_ble_eq_true rfl) dG_count_63 hcs (fun r hr => ?_)
      subst hr
      exact W.iret hx hb hr (fun t ht hW => ⟨_, rfl, (by rw [ctI, if_neg (cx_k ek9 (by decide)).1, (cx_k ek9 (by decide)).2]; rfl), ht⟩) (fun _ h9 => nomatch h9) dG_count_66

set_option maxHeartbeats 4000000 in
set_option maxRecDepth 100000 in
theorem ct_G_leastSeconds (l : Launch) (dC : Nat → ClassId) (dI : Nat → Nat → Nat) (cI cJ cZ : ClassId) (qg q ql qs qr : Nat → Nat) (lv mw mh mk : Nat → Nat) (pc mc kc : Nat) (bg en sc wd ht oh bt : Nat → Nat) (co n : Nat) (re : Nat → Nat) (sa fm : Nat) (mo a b t : Nat) (sz : Nat) (hG : bGp lv mw mh mk pc mc kc) (hB : bP bg en sc wd ht oh bt co n) (hre : ∀ j, re j ≤ 1152921504606846976) (hmo : mo < 6) (ha : a < 20) (hb9 : b < 20) (ht0 : t ≤ 10000000) : Met l yG_leastSeconds wsG_leastSeconds ({ frames := 5, cells := 0, slots := 0, locals := 123 }) (PcW (dC, dI) (wG cI cJ cZ qg q ql qs qr lv mw mh mk pc mc kc ++ wP cI cJ cZ q bg en sc wd ht oh bt co n ++ wL cI cJ cZ ql re sa fm) (tyE cI cJ cZ) sz [.ref (qg 0), .int (nI mo), .int (nI a), .int (nI b), .long (lN t)]) (QwL (dC, dI) ((lsV en (lsR bg en sc wd ht oh bt co n (mw mo) (mh mo) a b t re) n a b t)) (wG cI cJ cZ qg q ql qs qr lv mw mh mk pc mc kc ++ wP cI cJ cZ q bg en sc wd ht oh bt co n ++ wL cI cJ cZ ql (lsR bg en sc wd ht oh bt co n (mw mo) (mh mo) a b t re) (lsA sa a b) (lsM fm t a b)) (tyE cI cJ cZ) (va_A (wG cI cJ cZ qg q ql qs qr lv mw mh mk pc mc kc ++ wP cI cJ cZ q bg en sc wd ht oh bt co n ++ wL cI cJ cZ ql re sa fm) sz)) 0 0 (va_A (wG cI cJ cZ qg q ql qs qr lv mw mh mk pc mc kc ++ wP cI cJ cZ q bg en sc wd ht oh bt co n ++ wL cI cJ cZ ql re sa fm) sz) := by
  refine Met.ofW (cc := cG_leastSeconds) (maxL := 9) (ret := (some .long)) (by decide) rfl ?_
  intro p e s m args below meth c s₁ B hml hv
  obtain ⟨rfl, hsz, hP, hK, hD0, hE⟩ := hv
  have hx := B.exec
  have hb := B.bytes
  have hr := B.returns
  have hts := atoms_spec (ws := wsG_leastSeconds) B.pre
  have hg : ∀ w ∈ gw, w.before _ s = true := fun w h => hts w (List.mem_cons_of_mem _ h)
  have hown : s.vm.findClass nG = some m.cls := findClass_of_methodNamed B.named
  have hlocks := B.notSynchronized
  have hR : 5 ≤ (headSpec wsG_leastSeconds ({ frames := 5, cells := 0, slots := 0, locals := 123 })).room.frames ∧ 123 ≤ (headSpec wsG_leastSeconds ({ frames := 5, cells := 0, slots := 0, locals := 123 })).room.locals := ⟨Nat.le_refl _, Nat.le_refl _⟩
  have hcs : 0 ≤ (headSpec wsG_leastSeconds ({ frames := 5, cells := 0, slots := 0, locals := 123 })).room.cells ∧ 0 ≤ (headSpec wsG_leastSeconds ({ frames := 5, cells := 0, slots := 0, locals := 123 })).room.slots := ⟨Nat.zero_le _, Nat.zero_le _⟩
  subst hsz
  have hD := hD0.self (sz := s.heap.size)
  generalize hAe : va_A (wG cI cJ cZ qg q ql qs qr lv mw mh mk pc mc kc ++ wP cI cJ cZ q bg en sc wd ht oh bt co n ++ wL cI cJ cZ ql re sa fm) s.heap.size = A at hD ⊢
  have hA : ∀ q : Nat, s.heap.size ≤ q → A q := fun q h => by rw [← hAe]; exact Or.inr h
  obtain ⟨H, hH⟩ : ∃ H, H = s.heap := ⟨_, rfl⟩
  have hS : va_S A s.heap H [] := by rw [hH]; exact va_S.rf
  rw [← hH] at hP ⊢
  have hpc := hG.1
  have hmc := hG.2.1
  have hkc := hG.2.2.1
  have hgi := hG.2.2.2
  have hbi := hB.2.2
  have hn := hB.1
  have hco := hB.2.1
  have gm := hgi mo
  have hU := uM_lt wd ht oh co (mw mo) (mh mo) hn
  have hl := lv_entry ([.ref (qg 0), .int (nI mo), .int (nI a), .int (nI b), .long (lN t)]) (n := 9) (Nat.le_of_ble_eq_true rfl)
  rw [lg_entry_eq]
  generalize (lg_sl ([.ref (qg 0), .int (nI mo), .int (nI a), .int (nI b), .long (lN t)]) ++ List.replicate (9 - (lg_sl ([.ref (qg 0), .int (nI mo), .int (nI a), .int (nI b), .long (lN t)])).length) Slot.unset).toArray = ls at hl ⊢
  have hl : lv_has ls 9 [(0, .ref (qg 0)), (1, .int (nI mo)), (2, .int (nI a)), (3, .int (nI b)), (4, .long (lN t))] := hl
  refine lv_iload_n hx hb dG_leastSeconds_0 rfl (lv_at hl 2 rfl) ?_
  refine lv_iload_n hx hb dG_leastSeconds_1 rfl (lv_at hl 3 rfl) ?_
  refine rn_icmp_ne (tgt := 7) hx hb dG_leastSeconds_2 (by decide) (by omega) (by omega) (fun c2 => ?_) (fun c2 => ?_)
  · have hLR : lsR bg en sc wd ht oh bt co n (mw mo) (mh mo) a b t re = srch n (uM wd ht oh co (mw mo) (mh mo) n) (stB bg a) (foB bg en bt) (uE oh sc) t re := if_neg c2
    have hLA : lsA sa a b = a := if_neg c2
    have hLM : lsM fm t a b = t := if_neg c2
    have hLB : ∀ j, srch n (uM wd ht oh co (mw mo) (mh mo) n) (stB bg a) (foB bg en bt) (uE oh sc) t re j ≤ 1152921504606846976 := srch_le hre (uE_le hB ht0)
    refine lv_aload_n hx hb dG_leastSeconds_7 rfl (lv_at hl 0 rfl) ?_
    refine va_get (D := (dC, dI)) (ci := 0) (v := .ref (q 0)) (C := nG) (T := TG) (N := 11) hx hb hg inG hown hK hP 0 rfl rfl 2 (by decide) (hg _ kG_16) (fun _ h9 => h9) rfl dG_leastSeconds_8 ?_
    refine lv_aload_n hx hb dG_leastSeconds_11 rfl (lv_at hl 0 rfl) ?_
    refine va_get (D := (dC, dI)) (ci := 0) (v := .ref (qg 2)) (C := nG) (T := TG) (N := 11) hx hb hg inG hown hK hP 0 rfl rfl 3 (by decide) (hg _ kG_20) (fun _ h9 => h9) rfl dG_leastSeconds_12 ?_
    refine lv_iload_n hx hb dG_leastSeconds_15 rfl (lv_at hl 1 rfl) ?_
    refine ga_i (f := mw) hx hb hK hP 2 0 rfl rfl (by omega) (by decide) dG_leastSeconds_16 ?_
    refine lv_aload_n hx hb dG_leastSeconds_17 rfl (lv_at hl 0 rfl) ?_
    refine va_get (D := (dC, dI)) (ci := 0) (v := .ref (qg 3)) (C := nG) (T := TG) (N := 11) hx hb hg inG hown hK hP 0 rfl rfl 4 (by decide) (hg _ kG_23) (fun _ h9 => h9) rfl dG_leastSeconds_18 ?_
    refine lv_iload_n hx hb dG_leastSeconds_21 rfl (lv_at hl 1 rfl) ?_
    refine ga_l (f := mh) hx hb hK hP 3 1 rfl rfl (by omega) (by decide) dG_leastSeconds_22 ?_
    refine cpV_l (b := (q 0)) (C := nP) (As := [.int (nI (mw mo)), .long (lN (mh mo))]) (rest := []) (post := fun r : Int64 => r = lN (uM wd ht oh co (mw mo) (mh mo) n)) ⟨hx, hb, hml, hown, hts⟩ (ct_P_usableBy l dC dI cI cJ cZ q bg en sc wd ht oh bt co n (mw mo) (mh mo) (hB) (by omega) (by omega)) (cwV 2 hts (gv kG_214 ki_P_usableBy ksel_P_usableBy kin_P kc_P_usableBy) rfl rfl rfl (by decide +kernel) ⟨Nat.le_trans (by decide) hR.1, Nat.le_trans (by decide) hR.2⟩) (va_recv hK hP (ci := 1) (q0 := 5) rfl rfl) (hP.sub (ws' := (wP cI cJ cZ q bg en sc wd ht oh bt co n)) [5, 6, 7, 8, 9, 10, 11, 12] rfl) hK hE rfl hl.1 rfl (Nat.le_of_ble_eq_true rfl) dG_leastSeconds_23 hcs (fun r hr => ?_)
    subst hr
    refine lv_lstore (lv' := [(6, .long (lN (uM wd ht oh co (mw mo) (mh mo) n))), (0, .ref (qg 0)), (1, .int (nI mo)), (2, .int (nI a)), (3, .int (nI b)), (4, .long (lN t))]) hx hb dG_leastSeconds_26 hl (by decide) rfl (fun ls hl => ?_)
    refine lv_aload_n hx hb dG_leastSeconds_28 rfl (lv_at hl 1 rfl) ?_
    refine va_get (D := (dC, dI)) (ci := 0) (v := .ref (ql 0)) (C := nG) (T := TG) (N := 11) hx hb hg inG hown hK hP 0 rfl rfl 8 (by decide) (hg _ kG_33) (fun _ h9 => h9) rfl dG_leastSeconds_29 ?_
    refine lv_aload_n hx hb dG_leastSeconds_32 rfl (lv_at hl 1 rfl) ?_
    refine va_get (D := (dC, dI)) (ci := 0) (v := .ref (q 0)) (C := nG) (T := TG) (N := 11) hx hb hg inG hown hK hP 0 rfl rfl 2 (by decide) (hg _ kG_16) (fun _ h9 => h9) rfl dG_leastSeconds_33 ?_
    refine lv_lload hx hb dG_leastSeconds_36 (lv_at hl 0 rfl) ?_
    refine lv_iload_n hx hb dG_leastSeconds_38 rfl (lv_at hl 3 rfl) ?_
    refine lv_lload hx hb dG_leastSeconds_39 (lv_at hl 5 rfl) ?_
    refine kwV_v (D := (dC, dI)) (b := (ql 0)) (C := nL) (As := [.ref (q 0), .long (lN (uM wd ht oh co (mw mo) (mh mo) n)), .int (nI a), .long (lN t)]) (rest := []) (wc := (wL cI cJ cZ ql re sa fm ++ wP cI cJ cZ q bg en sc wd ht oh bt co n)) (wr := (wG cI cJ cZ qg q ql qs qr lv mw mh mk pc mc kc)) (w1 := (wL cI cJ cZ ql (srch n (uM wd ht oh co (mw mo) (mh mo) n) (stB bg a) (foB bg en bt) (uE oh sc) t re) a t ++ wP cI cJ cZ q bg en sc wd ht oh bt co n)) (wn := (wG cI cJ cZ qg q ql qs qr lv mw mh mk pc mc kc ++ wP cI cJ cZ q bg en sc wd ht oh bt co n ++ wL cI cJ cZ ql (srch n (uM wd ht oh co (mw mo) (mh mo) n) (stB bg a) (foB bg en bt) (uE oh sc) t re) a t)) ⟨hx, hb, hml, hown, hts⟩ (ct_L_search l dC dI cI cJ cZ ql re sa fm q bg en sc wd ht oh bt co n (uM wd ht oh co (mw mo) (mh mo) n) a t H.size (hre) (hB) (by omega) (ha) (ht0)) (cwV 4 hts (gv kG_245 ki_L_search ksel_L_search kin_L kc_L_search) rfl rfl rfl (by decide +kernel) ⟨Nat.le_trans (by decide) hR.1, Nat.le_trans (by decide) hR.2⟩) (va_recv hK hP (ci := 2) (q0 := 13) rfl rfl) hP hD hK hE hS hA [13, 14, 5, 6, 7, 8, 9, 10, 11, 12] [0, 1, 2, 3, 4] [0, 1, 2, 3, 4, 7, 8, 9, 10, 11, 12, 13, 14, 5, 6] rfl (by decide) rfl (by decide) (by decide) rfl (by decide) rfl hl.1 rfl (Nat.le_of_ble_eq_true rfl) dG_leastSeconds_41 hcs (fun H locs hP hD hS => ?_)
    refine lv_aload_n hx hb dG_leastSeconds_44 rfl (lv_at hl 1 rfl) ?_
    refine va_get (D := (dC, dI)) (ci := 0) (v := .ref (ql 0)) (C := nG) (T := TG) (N := 11) hx hb hg inG hown hK hP 0 rfl rfl 8 (by decide) (hg _ kG_33) (fun _ h9 => h9) rfl dG_leastSeconds_45 ?_
    refine lv_aload_n hx hb dG_leastSeconds_48 rfl (lv_at hl 1 rfl) ?_
    refine va_get (D := (dC, dI)) (ci := 0) (v := .ref (q 0)) (C := nG) (T := TG) (N := 11) hx hb hg inG hown hK hP 0 rfl rfl 2 (by decide) (hg _ kG_16) (fun _ h9 => h9) rfl dG_leastSeconds_49 ?_
    refine lv_iload_n hx hb dG_leastSeconds_52 rfl (lv_at hl 4 rfl) ?_
    refine cpV_i (b := (ql 0)) (C := nL) (As := [.ref (q 0), .int (nI b)]) (rest := []) (post := fun r : Int32 => r = oI (lpL en (srch n (uM wd ht oh co (mw mo) (mh mo) n) (stB bg a) (foB bg en bt) (uE oh sc) t re) b n).1) ⟨hx, hb, hml, hown, hts⟩ (ct_L_lastPieceTo l dC dI cI cJ cZ ql (srch n (uM wd ht oh co (mw mo) (mh mo) n) (stB bg a) (foB bg en bt) (uE oh sc) t re) a t q bg en sc wd ht oh bt co n b (hLB) (hB) (hb9)) (cwV 2 hts (gv kG_248 ki_L_lastPieceTo ksel_L_lastPieceTo kin_L kc_L_lastPieceTo) rfl rfl rfl (by decide +kernel) ⟨Nat.le_trans (by decide) hR.1, Nat.le_trans (by decide) hR.2⟩) (va_recv hK hP (ci := 2) (q0 := 13) rfl rfl) (hP.sub (ws' := (wL cI cJ cZ ql (srch n (uM wd ht oh co (mw mo) (mh mo) n) (stB bg a) (foB bg en bt) (uE oh sc) t re) a t ++ wP cI cJ cZ q bg en sc wd ht oh bt co n)) [13, 14, 5, 6, 7, 8, 9, 10, 11, 12] rfl) hK hE rfl hl.1 rfl (Nat.le_of_ble_eq_true rfl) dG_leastSeconds_53 hcs (fun r hr => ?_)
    subst hr
    refine lv_istore (lv' := [(8, .int (oI ((lpL en (srch n (uM wd ht oh co (mw mo) (mh mo) n) (stB bg a) (foB bg en bt) (uE oh sc) t re) b n).1))), (6, .long (lN (uM wd ht oh co (mw mo) (mh mo) n))), (0, .ref (qg 0)), (1, .int (nI mo)), (2, .int (nI a)), (3, .int (nI b)), (4, .long (lN t))]) hx hb dG_leastSeconds_56 hl (by decide) rfl (fun ls hl => ?_)
    refine lv_iload hx hb dG_leastSeconds_58 (lv_at hl 0 rfl) ?_
    refine lv_iconst (v := -1) hx hb dG_leastSeconds_60 (by decide) ?_
    refine ro_ne (tgt := 70) hx hb dG_leastSeconds_61 (by decide) (fun i hi => by have := (lpL_le en _ b n).2 i hi; omega) (fun x61 o61 => ?_) (fun o61 => ?_)
    · have hl : lv_has ls 9 [(8, .int (nI x61)), (6, .long (lN (uM wd ht oh co (mw mo) (mh mo) n))), (0, .ref (qg 0)), (1, .int (nI mo)), (2, .int (nI a)), (3, .int (nI b)), (4, .long (lN t))] := by rw [o61] at hl; exact hl
      have hx61 := (lpL_le en _ b n).2 _ o61
      refine lv_aload_n hx hb dG_leastSeconds_70 rfl (lv_at hl 2 rfl) ?_
      refine va_get (D := (dC, dI)) (ci := 0) (v := .ref (ql 0)) (C := nG) (T := TG) (N := 11) hx hb hg inG hown hK hP 0 rfl rfl 8 (by decide) (hg _ kG_33) (fun _ h9 => h9) rfl dG_leastSeconds_71 ?_
      refine va_get (D := (dC, dI)) (ci := 2) (v := .ref (ql 1)) (C := nL) (T := TL) (N := 3) hx hb hg inL hown hK hP 13 rfl rfl 0 (by decide) (hg _ kG_252) (fun _ h9 => h9) rfl dG_leastSeconds_74 ?_
      refine lv_iload hx hb dG_leastSeconds_77 (lv_at hl 0 rfl) ?_
      refine ga_l (f := srch n (uM wd ht oh co (mw mo) (mh mo) n) (stB bg a) (foB bg en bt) (uE oh sc) t re) hx hb hK hP 14 1 rfl rfl (by omega) (by decide) dG_leastSeconds_79 ?_
      refine lv_lload hx hb dG_leastSeconds_80 (lv_at hl 6 rfl) ?_
      refine lv_lsub hx hb dG_leastSeconds_82 ?_
      have hP9 : va_P (dC, dI) vwCl (wG cI cJ cZ qg q ql qs qr lv mw mh mk pc mc kc ++ wP cI cJ cZ q bg en sc wd ht oh bt co n ++ wL cI cJ cZ ql (lsR bg en sc wd ht oh bt co n (mw mo) (mh mo) a b t re) (lsA sa a b) (lsM fm t a b)) H := by rw [hLR, hLA, hLM]; exact hP
      have hD9 : va_D A (wG cI cJ cZ qg q ql qs qr lv mw mh mk pc mc kc ++ wP cI cJ cZ q bg en sc wd ht oh bt co n ++ wL cI cJ cZ ql (lsR bg en sc wd ht oh bt co n (mw mo) (mh mo) a b t re) (lsA sa a b) (lsM fm t a b)) := by rw [hLR, hLA, hLM]; exact hD
      exact W.lret hx hb hr (fun t ht hW => ⟨⟨_, (), rfl, (by rw [hLR, lsV, if_neg c2, o61]; rfl), by rw [ht]; exact hP9, va_K.moved hW.alike hK, hD9⟩, hS.F ht⟩) hS.2.2 dG_leastSeconds_83
    · refine lv_ldc2 (v := -1) hx hb hown (hg _ kG_179) dG_leastSeconds_64 ?_
      refine lv_goto (tgt := 83) hx hb dG_leastSeconds_67 (by decide) ?_
      have hP9 : va_P (dC, dI) vwCl (wG cI cJ cZ qg q ql qs qr lv mw mh mk pc mc kc ++ wP cI cJ cZ q bg en sc wd ht oh bt co n ++ wL cI cJ cZ ql (lsR bg en sc wd ht oh bt co n (mw mo) (mh mo) a b t re) (lsA sa a b) (lsM fm t a b)) H := by rw [hLR, hLA, hLM]; exact hP
      have hD9 : va_D A (wG cI cJ cZ qg q ql qs qr lv mw mh mk pc mc kc ++ wP cI cJ cZ q bg en sc wd ht oh bt co n ++ wL cI cJ cZ ql (lsR bg en sc wd ht oh bt co n (mw mo) (mh mo) a b t re) (lsA sa a b) (lsM fm t a b)) := by rw [hLR, hLA, hLM]; exact hD
      exact W.lret hx hb hr (fun t ht hW => ⟨⟨_, (), rfl, (by rw [hLR, lsV, if_neg c2, o61]; rfl), by rw [ht]; exact hP9, va_K.moved hW.alike hK, hD9⟩, hS.F ht⟩) hS.2.2 dG_leastSeconds_83
  · refine rn_lconst hx hb 0 dG_leastSeconds_5 rfl ?_
    have hP9 : va_P (dC, dI) vwCl (wG cI cJ cZ qg q ql qs qr lv mw mh mk pc mc kc ++ wP cI cJ cZ q bg en sc wd ht oh bt co n ++ wL cI cJ cZ ql (lsR bg en sc wd ht oh bt co n (mw mo) (mh mo) a b t re) (lsA sa a b) (lsM fm t a b)) H := by rw [show lsR bg en sc wd ht oh bt co n (mw mo) (mh mo) a b t re = re from if_pos c2, show lsA sa a b = sa from if_pos c2, show lsM fm t a b = fm from if_pos c2]; exact hP
    have hD9 : va_D A (wG cI cJ cZ qg q ql qs qr lv mw mh mk pc mc kc ++ wP cI cJ cZ q bg en sc wd ht oh bt co n ++ wL cI cJ cZ ql (lsR bg en sc wd ht oh bt co n (mw mo) (mh mo) a b t re) (lsA sa a b) (lsM fm t a b)) := by rw [show lsR bg en sc wd ht oh bt co n (mw mo) (mh mo) a b t re = re from if_pos c2, show lsA sa a b = sa from if_pos c2, show lsM fm t a b = fm from if_pos c2]; exact hD
    exact W.lret hx hb hr (fun t ht hW => ⟨⟨_, (), rfl, (by rw [lsV, if_pos c2]), by rw [ht]; exact hP9, va_K.moved hW.alike hK, hD9⟩, hS.F ht⟩) hS.2.2 dG_leastSeconds_6

def cdWa (pc mc : Nat) (x y z : Int32) (t : Int64) : Nat := if inB x mc = true ∧ inB y pc = true ∧ inB z pc = true ∧ wiB t (lN 0) (lN 10000000) = true then 0 else 1
def wyF (bg en sc oh bt R : Nat → Nat) (sa fm n a b t : Nat) (nu : Nat → Nat) : (Nat → Nat) × Nat := if ¬ a = b ∧ ¬ lsV en R n a b t = -1 then (tnF (wcF (pbO bg en sc oh bt R sa fm n) 40 (lpL en R b n).1 nu 0).1 (wcF (pbO bg en sc oh bt R sa fm n) 40 (lpL en R b n).1 nu 0).2, (wcF (pbO bg en sc oh bt R sa fm n) 40 (lpL en R b n).1 nu 0).2) else (nu, 0)
theorem wy_1 {bg en sc oh bt R : Nat → Nat} {sa fm n a b t : Nat} {nu : Nat → Nat} (h1 : ¬ a = b) (h2 : ¬ lsV en R n a b t = -1) : wyF bg en sc oh bt R sa fm n a b t nu = (tnF (wcF (pbO bg en sc oh bt R sa fm n) 40 (lpL en R b n).1 nu 0).1 (wcF (pbO bg en sc oh bt R sa fm n) 40 (lpL en R b n).1 nu 0).2, (wcF (pbO bg en sc oh bt R sa fm n) 40 (lpL en R b n).1 nu 0).2) := if_pos ⟨h1, h2⟩
theorem wy_2 {bg en sc oh bt R : Nat → Nat} {sa fm n a b t : Nat} {nu : Nat → Nat} (h2 : lsV en R n a b t = -1) : wyF bg en sc oh bt R sa fm n a b t nu = (nu, 0) := if_neg (fun q => q.2 h2)
theorem wy_3 {bg en sc oh bt R : Nat → Nat} {sa fm n a b t : Nat} {nu : Nat → Nat} (h1 : a = b) : wyF bg en sc oh bt R sa fm n a b t nu = (nu, 0) := if_neg (fun q => q.1 h1)

set_option maxHeartbeats 4000000 in
set_option maxRecDepth 100000 in
theorem ct_G_way (l : Launch) (hl0 : l.stackTraces = false) (dC : Nat → ClassId) (dI : Nat → Nat → Nat) (cI cJ cZ : ClassId) (qg q ql qs qr : Nat → Nat) (lv mw mh mk : Nat → Nat) (pc mc kc : Nat) (bg en sc wd ht oh bt : Nat → Nat) (co n : Nat) (re : Nat → Nat) (sa fm : Nat) (tr rp rn rs : Nat → Nat) (rk us gl : Nat) (nu : Nat → Nat) (rl : Nat) (x y z : Int32) (t : Int64) (sz : Nat) (hG : bGp lv mw mh mk pc mc kc) (hB : bP bg en sc wd ht oh bt co n) (hre : ∀ j, re j ≤ 1152921504606846976) (hrl : rl ≤ 40) : vx_Met l yG_way wsG_way ({ frames := 6, cells := 1, slots := 6, locals := 151 }) (PcX (dC, dI) (wG cI cJ cZ qg q ql qs qr lv mw mh mk pc mc kc ++ wP cI cJ cZ q bg en sc wd ht oh bt co n ++ wL cI cJ cZ ql re sa fm ++ wS cI cJ cZ qs tr rp rn rs rk us gl ++ wR cI cJ cZ qr nu rl) (tyE cI cJ cZ) sz [.ref (qg 0), .int x, .int y, .int z, .long t]) (va_Ql (fun r (_ : Unit) => cdWa pc mc x y z t = 0 ∧ r = (lsV en (lsR bg en sc wd ht oh bt co n (mw (cN x)) (mh (cN x)) (cN y) (cN z) (cLn t) re) n (cN y) (cN z) (cLn t))) (QwB (dC, dI) (wG cI cJ cZ qg q ql qs qr lv mw mh mk pc mc kc ++ wP cI cJ cZ q bg en sc wd ht oh bt co n ++ wL cI cJ cZ ql (lsR bg en sc wd ht oh bt co n (mw (cN x)) (mh (cN x)) (cN y) (cN z) (cLn t) re) (lsA sa (cN y) (cN z)) (lsM fm (cLn t) (cN y) (cN z)) ++ wS cI cJ cZ qs tr rp rn rs rk us gl ++ wR cI cJ cZ qr ((wyF bg en sc oh bt (lsR bg en sc wd ht oh bt co n (mw (cN x)) (mh (cN x)) (cN y) (cN z) (cLn t) re) (lsA sa (cN y) (cN z)) (lsM fm (cLn t) (cN y) (cN z)) n (cN y) (cN z) (cLn t) nu).1) ((wyF bg en sc oh bt (lsR bg en sc wd ht oh bt co n (mw (cN x)) (mh (cN x)) (cN y) (cN z) (cLn t) re) (lsA sa (cN y) (cN z)) (lsM fm (cLn t) (cN y) (cN z)) n (cN y) (cN z) (cLn t) nu).2)) (tyE cI cJ cZ) (va_A (wG cI cJ cZ qg q ql qs qr lv mw mh mk pc mc kc ++ wP cI cJ cZ q bg en sc wd ht oh bt co n ++ wL cI cJ cZ ql re sa fm ++ wS cI cJ cZ qs tr rp rn rs rk us gl ++ wR cI cJ cZ qr nu rl) sz)) (va_A (wG cI cJ cZ qg q ql qs qr lv mw mh mk pc mc kc ++ wP cI cJ cZ q bg en sc wd ht oh bt co n ++ wL cI cJ cZ ql re sa fm ++ wS cI cJ cZ qs tr rp rn rs rk us gl ++ wR cI cJ cZ qr nu rl) sz)) (XCw (cdWa pc mc x y z t) [(1, xIA)]) 1 6 (va_A (wG cI cJ cZ qg q ql qs qr lv mw mh mk pc mc kc ++ wP cI cJ cZ q bg en sc wd ht oh bt co n ++ wL cI cJ cZ ql re sa fm ++ wS cI cJ cZ qs tr rp rn rs rk us gl ++ wR cI cJ cZ qr nu rl) sz) := by
  refine vx_ofW (cc := cG_way) (maxL := 8) (ret := (some .long)) (by decide) rfl ?_
  intro p e s m args below meth c s₁ B hml hno hv
  obtain ⟨rfl, hsz, hP, hK, hD0, hE, hEX⟩ := hv
  have hx := B.exec
  have hb := B.bytes
  have hr := B.returns
  have hts := atoms_spec (ws := wsG_way) B.pre
  have hg : ∀ w ∈ gw, w.before _ s = true := fun w h => hts w (List.mem_cons_of_mem _ h)
  have hown : s.vm.findClass nG = some m.cls := findClass_of_methodNamed B.named
  have hlocks := B.notSynchronized
  have hR : 6 ≤ (headSpec wsG_way ({ frames := 6, cells := 1, slots := 6, locals := 151 })).room.frames ∧ 151 ≤ (headSpec wsG_way ({ frames := 6, cells := 1, slots := 6, locals := 151 })).room.locals := ⟨Nat.le_refl _, Nat.le_refl _⟩
  have hcs : 0 ≤ (headSpec wsG_way ({ frames := 6, cells := 1, slots := 6, locals := 151 })).room.cells ∧ 0 ≤ (headSpec wsG_way ({ frames := 6, cells := 1, slots := 6, locals := 151 })).room.slots := ⟨Nat.zero_le _, Nat.zero_le _⟩
  subst hsz
  have hD := hD0.self (sz := s.heap.size)
  generalize hAe : va_A (wG cI cJ cZ qg q ql qs qr lv mw mh mk pc mc kc ++ wP cI cJ cZ q bg en sc wd ht oh bt co n ++ wL cI cJ cZ ql re sa fm ++ wS cI cJ cZ qs tr rp rn rs rk us gl ++ wR cI cJ cZ qr nu rl) s.heap.size = A at hD ⊢
  have hA : ∀ q : Nat, s.heap.size ≤ q → A q := fun q h => by rw [← hAe]; exact Or.inr h
  obtain ⟨H, hH⟩ : ∃ H, H = s.heap := ⟨_, rfl⟩
  have hS : va_S A s.heap H [] := by rw [hH]; exact va_S.rf
  rw [← hH] at hP ⊢
  have hpc := hG.1
  have hmc := hG.2.1
  have hkc := hG.2.2.1
  have hgi := hG.2.2.2
  have hbi := hB.2.2
  have hn := hB.1
  have hco := hB.2.1
  have hl := lv_entry ([.ref (qg 0), .int x, .int y, .int z, .long t]) (n := 8) (Nat.le_of_ble_eq_true rfl)
  rw [lg_entry_eq]
  generalize (lg_sl ([.ref (qg 0), .int x, .int y, .int z, .long t]) ++ List.replicate (8 - (lg_sl ([.ref (qg 0), .int x, .int y, .int z, .long t])).length) Slot.unset).toArray = ls at hl ⊢
  have hl : lv_has ls 8 [(0, .ref (qg 0)), (1, .int x), (2, .int y), (3, .int z), (4, .long t)] := hl
  refine lv_aload_n hx hb dG_way_0 rfl (lv_at hl 0 rfl) ?_
  refine lv_iload_n hx hb dG_way_1 rfl (lv_at hl 1 rfl) ?_
  refine cpV_i (b := (qg 0)) (C := nG) (As := [.int x]) (rest := []) (post := fun r : Int32 => r = bI (inB x mc)) ⟨hx, hb, hml, hown, hts⟩ (ct_G_hasMover l dC dI cI cJ cZ qg q ql qs qr lv mw mh mk pc mc kc x (hG)) (cwV 1 hts (gv kG_167 ki_G_hasMover ksel_G_hasMover kin_G kc_G_hasMover) rfl rfl rfl (by decide +kernel) ⟨Nat.le_trans (by decide) hR.1, Nat.le_trans (by decide) hR.2⟩) (va_recv hK hP (ci := 0) (q0 := 0) rfl rfl) (hP.sub (ws' := (wG cI cJ cZ qg q ql qs qr lv mw mh mk pc mc kc)) [0, 1, 2, 3, 4] rfl) hK hE rfl hl.1 rfl (Nat.le_of_ble_eq_true rfl) dG_way_2 hcs (fun r hr => ?_)
  subst hr
  refine rb_eq (tgt := 36) hx hb dG_way_5 (by decide) (fun c5 => ?_) (fun c5 => ?_)
  · subst hH
    exact thr hx hb hl0 hown hEX hg kG_57 kin_IllegalArgumentException at_IA (by decide +kernel) (is := 170) (text := "no such mover, place or moment") (by decide) (hl.1.trans hml.symm) dG_way_36 dG_way_39 dG_way_40 dG_way_42 dG_way_45 hno (Nat.lt_of_lt_of_le (by decide) hR.1) (Nat.le_trans (Nat.le_of_ble_eq_true rfl) hR.2) (Nat.le_refl _) (Nat.le_refl _) hlocks (by simp [cdWa, c5])
  · refine lv_aload_n hx hb dG_way_8 rfl (lv_at hl 0 rfl) ?_
    refine lv_iload_n hx hb dG_way_9 rfl (lv_at hl 2 rfl) ?_
    refine cpV_i (b := (qg 0)) (C := nG) (As := [.int y]) (rest := []) (post := fun r : Int32 => r = bI (inB y pc)) ⟨hx, hb, hml, hown, hts⟩ (ct_G_hasPlace l dC dI cI cJ cZ qg q ql qs qr lv mw mh mk pc mc kc y (hG)) (cwV 1 hts (gv kG_73 ki_G_hasPlace ksel_G_hasPlace kin_G kc_G_hasPlace) rfl rfl rfl (by decide +kernel) ⟨Nat.le_trans (by decide) hR.1, Nat.le_trans (by decide) hR.2⟩) (va_recv hK hP (ci := 0) (q0 := 0) rfl rfl) (hP.sub (ws' := (wG cI cJ cZ qg q ql qs qr lv mw mh mk pc mc kc)) [0, 1, 2, 3, 4] rfl) hK hE rfl hl.1 rfl (Nat.le_of_ble_eq_true rfl) dG_way_10 hcs (fun r hr => ?_)
    subst hr
    refine rb_eq (tgt := 36) hx hb dG_way_13 (by decide) (fun c13 => ?_) (fun c13 => ?_)
    · subst hH
      exact thr hx hb hl0 hown hEX hg kG_57 kin_IllegalArgumentException at_IA (by decide +kernel) (is := 170) (text := "no such mover, place or moment") (by decide) (hl.1.trans hml.symm) dG_way_36 dG_way_39 dG_way_40 dG_way_42 dG_way_45 hno (Nat.lt_of_lt_of_le (by decide) hR.1) (Nat.le_trans (Nat.le_of_ble_eq_true rfl) hR.2) (Nat.le_refl _) (Nat.le_refl _) hlocks (by simp [cdWa, c5, c13])
    · refine lv_aload_n hx hb dG_way_16 rfl (lv_at hl 0 rfl) ?_
      refine lv_iload_n hx hb dG_way_17 rfl (lv_at hl 3 rfl) ?_
      refine cpV_i (b := (qg 0)) (C := nG) (As := [.int z]) (rest := []) (post := fun r : Int32 => r = bI (inB z pc)) ⟨hx, hb, hml, hown, hts⟩ (ct_G_hasPlace l dC dI cI cJ cZ qg q ql qs qr lv mw mh mk pc mc kc z (hG)) (cwV 1 hts (gv kG_73 ki_G_hasPlace ksel_G_hasPlace kin_G kc_G_hasPlace) rfl rfl rfl (by decide +kernel) ⟨Nat.le_trans (by decide) hR.1, Nat.le_trans (by decide) hR.2⟩) (va_recv hK hP (ci := 0) (q0 := 0) rfl rfl) (hP.sub (ws' := (wG cI cJ cZ qg q ql qs qr lv mw mh mk pc mc kc)) [0, 1, 2, 3, 4] rfl) hK hE rfl hl.1 rfl (Nat.le_of_ble_eq_true rfl) dG_way_18 hcs (fun r hr => ?_)
      subst hr
      refine rb_eq (tgt := 36) hx hb dG_way_21 (by decide) (fun c21 => ?_) (fun c21 => ?_)
      · subst hH
        exact thr hx hb hl0 hown hEX hg kG_57 kin_IllegalArgumentException at_IA (by decide +kernel) (is := 170) (text := "no such mover, place or moment") (by decide) (hl.1.trans hml.symm) dG_way_36 dG_way_39 dG_way_40 dG_way_42 dG_way_45 hno (Nat.lt_of_lt_of_le (by decide) hR.1) (Nat.le_trans (Nat.le_of_ble_eq_true rfl) hR.2) (Nat.le_refl _) (Nat.le_refl _) hlocks (by simp [cdWa, c5, c13, c21])
      · refine lv_lload hx hb dG_way_24 (lv_at hl 4 rfl) ?_
        refine rn_lconst hx hb 0 dG_way_26 rfl ?_
        refine lv_ldc2 (v := 10000000) hx hb hown (hg _ kG_79) dG_way_27 ?_
        refine tp_l (y := lN 10000000) rfl ?_
        refine cpS_i (As := [.long t, .long (lN 0), .long (lN 10000000)]) (rest := []) (post := fun r : Int32 => r = bI (wiB t (lN 0) (lN 10000000))) ⟨hx, hb, hml, hown, hts⟩ (ct_G_within l dC dI cI cJ cZ t (lN 0) (lN 10000000) ) (va_cwS 3 hts (gs kG_53 ks_G_within kin_G kc_G_within) rfl rfl rfl (by decide +kernel) ⟨Nat.le_trans (by decide) hR.1, Nat.le_trans (by decide) hR.2⟩) (hP.sub (ws' := []) [] rfl) hK hE rfl hl.1 rfl (Nat.le_of_ble_eq_true rfl) dG_way_30 hcs (fun r hr => ?_)
        subst hr
        refine rb_ne (tgt := 46) hx hb dG_way_33 (by decide) (fun c33 => ?_) (fun c33 => ?_)
        · obtain ⟨j, hj, ej⟩ := in_of c5 (by omega)
          obtain ⟨k, hk, ek⟩ := in_of c13 (by omega)
          obtain ⟨k2, hk2, ek2⟩ := in_of c21 (by omega)
          obtain ⟨a, ha1, ha2, ea⟩ := wl_of c33 (by decide) (by decide)
          have e1 : cN x = j := by rw [ej]; exact cN_n (by omega)
          have e2 : cN y = k := by rw [ek]; exact cN_n (by omega)
          have e3 : cN z = k2 := by rw [ek2]; exact cN_n (by omega)
          have e4 : cLn t = a := by rw [ea]; exact cL_n (by omega)
          have hLB : ∀ i, lsR bg en sc wd ht oh bt co n (mw j) (mh j) k k2 a re i ≤ 1152921504606846976 := lsR_le hB hre ha2
          have hl : lv_has ls 8 [(0, .ref (qg 0)), (1, .int (nI j)), (2, .int (nI k)), (3, .int (nI k2)), (4, .long (lN a))] := by rw [ej, ek, ek2, ea] at hl; exact hl
          refine lv_aload_n hx hb dG_way_46 rfl (lv_at hl 0 rfl) ?_
          refine lv_iload_n hx hb dG_way_47 rfl (lv_at hl 1 rfl) ?_
          refine lv_iload_n hx hb dG_way_48 rfl (lv_at hl 2 rfl) ?_
          refine lv_iload_n hx hb dG_way_49 rfl (lv_at hl 3 rfl) ?_
          refine lv_lload hx hb dG_way_50 (lv_at hl 4 rfl) ?_
          refine kwV_l (D := (dC, dI)) (r0 := (lsV en (lsR bg en sc wd ht oh bt co n (mw j) (mh j) k k2 a re) n k k2 a)) (b := (qg 0)) (C := nG) (As := [.int (nI j), .int (nI k), .int (nI k2), .long (lN a)]) (rest := []) (wc := (wG cI cJ cZ qg q ql qs qr lv mw mh mk pc mc kc ++ wP cI cJ cZ q bg en sc wd ht oh bt co n ++ wL cI cJ cZ ql re sa fm)) (wr := (wS cI cJ cZ qs tr rp rn rs rk us gl ++ wR cI cJ cZ qr nu rl)) (w1 := (wG cI cJ cZ qg q ql qs qr lv mw mh mk pc mc kc ++ wP cI cJ cZ q bg en sc wd ht oh bt co n ++ wL cI cJ cZ ql (lsR bg en sc wd ht oh bt co n (mw j) (mh j) k k2 a re) (lsA sa k k2) (lsM fm a k k2))) (wn := (wG cI cJ cZ qg q ql qs qr lv mw mh mk pc mc kc ++ wP cI cJ cZ q bg en sc wd ht oh bt co n ++ wL cI cJ cZ ql (lsR bg en sc wd ht oh bt co n (mw j) (mh j) k k2 a re) (lsA sa k k2) (lsM fm a k k2) ++ wS cI cJ cZ qs tr rp rn rs rk us gl ++ wR cI cJ cZ qr nu rl)) ⟨hx, hb, hml, hown, hts⟩ (ct_G_leastSeconds l dC dI cI cJ cZ qg q ql qs qr lv mw mh mk pc mc kc bg en sc wd ht oh bt co n re sa fm j k k2 a H.size (hG) (hB) (hre) (by omega) (by omega) (by omega) (by omega)) (cwV 4 hts (gv kG_172 ki_G_leastSeconds ksel_G_leastSeconds kin_G kc_G_leastSeconds) rfl rfl rfl (by decide +kernel) ⟨Nat.le_trans (by decide) hR.1, Nat.le_trans (by decide) hR.2⟩) (va_recv hK hP (ci := 0) (q0 := 0) rfl rfl) hP hD hK hE hS hA [0, 1, 2, 3, 4, 5, 6, 7, 8, 9, 10, 11, 12, 13, 14] [15, 16, 17, 18, 19, 20, 21] [7, 8, 9, 10, 11, 12, 13, 14, 15, 16, 17, 18, 19, 20, 21, 0, 1, 2, 3, 4, 5, 6] rfl (by decide) rfl (by decide) (by decide) rfl (by decide) rfl hl.1 rfl (Nat.le_of_ble_eq_true rfl) dG_way_52 hcs (fun H locs hP hD hS => ?_)
          refine lv_lstore (lv' := [(6, .long (lsV en (lsR bg en sc wd ht oh bt co n (mw j) (mh j) k k2 a re) n k k2 a)), (0, .ref (qg 0)), (1, .int (nI j)), (2, .int (nI k)), (3, .int (nI k2)), (4, .long (lN a))]) hx hb dG_way_55 hl (by decide) rfl (fun ls hl => ?_)
          refine lv_aload_n hx hb dG_way_57 rfl (lv_at hl 1 rfl) ?_
          refine va_get (D := (dC, dI)) (ci := 0) (v := .ref (qr 0)) (C := nG) (T := TG) (N := 11) hx hb hg inG hown hK hP 0 rfl rfl 10 (by decide) (hg _ kG_47) (fun _ h9 => h9) rfl dG_way_58 ?_
          refine kwV_v (D := (dC, dI)) (b := (qr 0)) (C := nR) (As := []) (rest := []) (wc := (wR cI cJ cZ qr nu rl)) (wr := (wG cI cJ cZ qg q ql qs qr lv mw mh mk pc mc kc ++ wP cI cJ cZ q bg en sc wd ht oh bt co n ++ wL cI cJ cZ ql (lsR bg en sc wd ht oh bt co n (mw j) (mh j) k k2 a re) (lsA sa k k2) (lsM fm a k k2) ++ wS cI cJ cZ qs tr rp rn rs rk us gl)) (w1 := (wR cI cJ cZ qr nu 0)) (wn := (wG cI cJ cZ qg q ql qs qr lv mw mh mk pc mc kc ++ wP cI cJ cZ q bg en sc wd ht oh bt co n ++ wL cI cJ cZ ql (lsR bg en sc wd ht oh bt co n (mw j) (mh j) k k2 a re) (lsA sa k k2) (lsM fm a k k2) ++ wS cI cJ cZ qs tr rp rn rs rk us gl ++ wR cI cJ cZ qr nu 0)) ⟨hx, hb, hml, hown, hts⟩ (ct_R_clear l dC dI cI cJ cZ qr nu rl H.size (hrl)) (cwV 0 hts (gv kG_176 ki_R_clear ksel_R_clear kin_R kc_R_clear) rfl rfl rfl (by decide +kernel) ⟨Nat.le_trans (by decide) hR.1, Nat.le_trans (by decide) hR.2⟩) (va_recv hK hP (ci := 4) (q0 := 20) rfl rfl) hP hD hK hE hS hA [20, 21] [0, 1, 2, 3, 4, 5, 6, 7, 8, 9, 10, 11, 12, 13, 14, 15, 16, 17, 18, 19] [0, 1, 2, 3, 4, 5, 6, 7, 8, 9, 10, 11, 12, 13, 14, 15, 16, 17, 18, 19, 20, 21] rfl (by decide) rfl (by decide) (by decide) rfl (by decide) rfl hl.1 rfl (Nat.le_of_ble_eq_true rfl) dG_way_61 hcs (fun H locs hP hD hS => ?_)
          refine lv_iload_n hx hb dG_way_64 rfl (lv_at hl 3 rfl) ?_
          refine lv_iload_n hx hb dG_way_65 rfl (lv_at hl 4 rfl) ?_
          refine rn_icmp_eq (tgt := 94) hx hb dG_way_66 (by decide) (by omega) (by omega) (fun c66 => ?_) (fun c66 => ?_)
          · refine lv_lload hx hb dG_way_94 (lv_at hl 0 rfl) ?_
            have hP9 : va_P (dC, dI) vwCl (wG cI cJ cZ qg q ql qs qr lv mw mh mk pc mc kc ++ wP cI cJ cZ q bg en sc wd ht oh bt co n ++ wL cI cJ cZ ql (lsR bg en sc wd ht oh bt co n (mw (cN x)) (mh (cN x)) (cN y) (cN z) (cLn t) re) (lsA sa (cN y) (cN z)) (lsM fm (cLn t) (cN y) (cN z)) ++ wS cI cJ cZ qs tr rp rn rs rk us gl ++ wR cI cJ cZ qr ((wyF bg en sc oh bt (lsR bg en sc wd ht oh bt co n (mw (cN x)) (mh (cN x)) (cN y) (cN z) (cLn t) re) (lsA sa (cN y) (cN z)) (lsM fm (cLn t) (cN y) (cN z)) n (cN y) (cN z) (cLn t) nu).1) ((wyF bg en sc oh bt (lsR bg en sc wd ht oh bt co n (mw (cN x)) (mh (cN x)) (cN y) (cN z) (cLn t) re) (lsA sa (cN y) (cN z)) (lsM fm (cLn t) (cN y) (cN z)) n (cN y) (cN z) (cLn t) nu).2)) H := by rw [e1, e2, e3, e4]; first | (rw [wy_1 c66 c75]; exact hP) | (rw [wy_2 c75]; exact hP) | (rw [wy_3 c66]; exact hP)
            have hD9 : va_D A (wG cI cJ cZ qg q ql qs qr lv mw mh mk pc mc kc ++ wP cI cJ cZ q bg en sc wd ht oh bt co n ++ wL cI cJ cZ ql (lsR bg en sc wd ht oh bt co n (mw (cN x)) (mh (cN x)) (cN y) (cN z) (cLn t) re) (lsA sa (cN y) (cN z)) (lsM fm (cLn t) (cN y) (cN z)) ++ wS cI cJ cZ qs tr rp rn rs rk us gl ++ wR cI cJ cZ qr ((wyF bg en sc oh bt (lsR bg en sc wd ht oh bt co n (mw (cN x)) (mh (cN x)) (cN y) (cN z) (cLn t) re) (lsA sa (cN y) (cN z)) (lsM fm (cLn t) (cN y) (cN z)) n (cN y) (cN z) (cLn t) nu).1) ((wyF bg en sc oh bt (lsR bg en sc wd ht oh bt co n (mw (cN x)) (mh (cN x)) (cN y) (cN z) (cLn t) re) (lsA sa (cN y) (cN z)) (lsM fm (cLn t) (cN y) (cN z)) n (cN y) (cN z) (cLn t) nu).2)) := by rw [e1, e2, e3, e4]; first | (rw [wy_1 c66 c75]; exact hD) | (rw [wy_2 c75]; exact hD) | (rw [wy_3 c66]; exact hD)
            refine W.widen (k := 1) (n := 6) (by omega) (by omega) ?_
            refine vx_ret ?_
            exact W.lret hx hb hr (fun t ht hW => ⟨⟨_, (), rfl, ⟨(by simp [cdWa, c5, c13, c21, c33, c66]), (by rw [e1, e2, e3, e4])⟩, by rw [ht]; exact hP9, va_K.moved hW.alike hK, hD9⟩, hS.F ht⟩) hS.2.2 dG_way_96
          · refine lv_lload hx hb dG_way_69 (lv_at hl 0 rfl) ?_
            refine lv_ldc2 (v := -1) hx hb hown (hg _ kG_179) dG_way_71 ?_
            refine rl_cmp_eq (tgt := 94) hx hb dG_way_74 dG_way_75 (by decide) (fun c75 => ?_) (fun c75 => ?_)
            · refine lv_lload hx hb dG_way_94 (lv_at hl 0 rfl) ?_
              have hP9 : va_P (dC, dI) vwCl (wG cI cJ cZ qg q ql qs qr lv mw mh mk pc mc kc ++ wP cI cJ cZ q bg en sc wd ht oh bt co n ++ wL cI cJ cZ ql (lsR bg en sc wd ht oh bt co n (mw (cN x)) (mh (cN x)) (cN y) (cN z) (cLn t) re) (lsA sa (cN y) (cN z)) (lsM fm (cLn t) (cN y) (cN z)) ++ wS cI cJ cZ qs tr rp rn rs rk us gl ++ wR cI cJ cZ qr ((wyF bg en sc oh bt (lsR bg en sc wd ht oh bt co n (mw (cN x)) (mh (cN x)) (cN y) (cN z) (cLn t) re) (lsA sa (cN y) (cN z)) (lsM fm (cLn t) (cN y) (cN z)) n (cN y) (cN z) (cLn t) nu).1) ((wyF bg en sc oh bt (lsR bg en sc wd ht oh bt co n (mw (cN x)) (mh (cN x)) (cN y) (cN z) (cLn t) re) (lsA sa (cN y) (cN z)) (lsM fm (cLn t) (cN y) (cN z)) n (cN y) (cN z) (cLn t) nu).2)) H := by rw [e1, e2, e3, e4]; first | (rw [wy_1 c66 c75]; exact hP) | (rw [wy_2 c75]; exact hP) | (rw [wy_3 c66]; exact hP)
              have hD9 : va_D A (wG cI cJ cZ qg q ql qs qr lv mw mh mk pc mc kc ++ wP cI cJ cZ q bg en sc wd ht oh bt co n ++ wL cI cJ cZ ql (lsR bg en sc wd ht oh bt co n (mw (cN x)) (mh (cN x)) (cN y) (cN z) (cLn t) re) (lsA sa (cN y) (cN z)) (lsM fm (cLn t) (cN y) (cN z)) ++ wS cI cJ cZ qs tr rp rn rs rk us gl ++ wR cI cJ cZ qr ((wyF bg en sc oh bt (lsR bg en sc wd ht oh bt co n (mw (cN x)) (mh (cN x)) (cN y) (cN z) (cLn t) re) (lsA sa (cN y) (cN z)) (lsM fm (cLn t) (cN y) (cN z)) n (cN y) (cN z) (cLn t) nu).1) ((wyF bg en sc oh bt (lsR bg en sc wd ht oh bt co n (mw (cN x)) (mh (cN x)) (cN y) (cN z) (cLn t) re) (lsA sa (cN y) (cN z)) (lsM fm (cLn t) (cN y) (cN z)) n (cN y) (cN z) (cLn t) nu).2)) := by rw [e1, e2, e3, e4]; first | (rw [wy_1 c66 c75]; exact hD) | (rw [wy_2 c75]; exact hD) | (rw [wy_3 c66]; exact hD)
              refine W.widen (k := 1) (n := 6) (by omega) (by omega) ?_
              refine vx_ret ?_
              exact W.lret hx hb hr (fun t ht hW => ⟨⟨_, (), rfl, ⟨(by simp [cdWa, c5, c13, c21, c33, c66, c75]), (by rw [e1, e2, e3, e4])⟩, by rw [ht]; exact hP9, va_K.moved hW.alike hK, hD9⟩, hS.F ht⟩) hS.2.2 dG_way_96
            · refine lv_aload_n hx hb dG_way_78 rfl (lv_at hl 1 rfl) ?_
              refine va_get (D := (dC, dI)) (ci := 0) (v := .ref (ql 0)) (C := nG) (T := TG) (N := 11) hx hb hg inG hown hK hP 0 rfl rfl 8 (by decide) (hg _ kG_33) (fun _ h9 => h9) rfl dG_way_79 ?_
              refine lv_aload_n hx hb dG_way_82 rfl (lv_at hl 1 rfl) ?_
              refine va_get (D := (dC, dI)) (ci := 0) (v := .ref (q 0)) (C := nG) (T := TG) (N := 11) hx hb hg inG hown hK hP 0 rfl rfl 2 (by decide) (hg _ kG_16) (fun _ h9 => h9) rfl dG_way_83 ?_
              refine lv_iload_n hx hb dG_way_86 rfl (lv_at hl 4 rfl) ?_
              refine lv_aload_n hx hb dG_way_87 rfl (lv_at hl 1 rfl) ?_
              refine va_get (D := (dC, dI)) (ci := 0) (v := .ref (qr 0)) (C := nG) (T := TG) (N := 11) hx hb hg inG hown hK hP 0 rfl rfl 10 (by decide) (hg _ kG_47) (fun _ h9 => h9) rfl dG_way_88 ?_
              refine kwV_v (D := (dC, dI)) (b := (ql 0)) (C := nL) (As := [.ref (q 0), .int (nI k2), .ref (qr 0)]) (rest := []) (wc := (wL cI cJ cZ ql (lsR bg en sc wd ht oh bt co n (mw j) (mh j) k k2 a re) (lsA sa k k2) (lsM fm a k k2) ++ wP cI cJ cZ q bg en sc wd ht oh bt co n ++ wR cI cJ cZ qr nu 0)) (wr := (wG cI cJ cZ qg q ql qs qr lv mw mh mk pc mc kc ++ wS cI cJ cZ qs tr rp rn rs rk us gl)) (w1 := (wL cI cJ cZ ql (lsR bg en sc wd ht oh bt co n (mw j) (mh j) k k2 a re) (lsA sa k k2) (lsM fm a k k2) ++ wP cI cJ cZ q bg en sc wd ht oh bt co n ++ wR cI cJ cZ qr (tnF (wcF (pbO bg en sc oh bt (lsR bg en sc wd ht oh bt co n (mw j) (mh j) k k2 a re) (lsA sa k k2) (lsM fm a k k2) n) 40 (lpL en (lsR bg en sc wd ht oh bt co n (mw j) (mh j) k k2 a re) k2 n).1 nu 0).1 (wcF (pbO bg en sc oh bt (lsR bg en sc wd ht oh bt co n (mw j) (mh j) k k2 a re) (lsA sa k k2) (lsM fm a k k2) n) 40 (lpL en (lsR bg en sc wd ht oh bt co n (mw j) (mh j) k k2 a re) k2 n).1 nu 0).2) ((wcF (pbO bg en sc oh bt (lsR bg en sc wd ht oh bt co n (mw j) (mh j) k k2 a re) (lsA sa k k2) (lsM fm a k k2) n) 40 (lpL en (lsR bg en sc wd ht oh bt co n (mw j) (mh j) k k2 a re) k2 n).1 nu 0).2))) (wn := (wG cI cJ cZ qg q ql qs qr lv mw mh mk pc mc kc ++ wP cI cJ cZ q bg en sc wd ht oh bt co n ++ wL cI cJ cZ ql (lsR bg en sc wd ht oh bt co n (mw j) (mh j) k k2 a re) (lsA sa k k2) (lsM fm a k k2) ++ wS cI cJ cZ qs tr rp rn rs rk us gl ++ wR cI cJ cZ qr (tnF (wcF (pbO bg en sc oh bt (lsR bg en sc wd ht oh bt co n (mw j) (mh j) k k2 a re) (lsA sa k k2) (lsM fm a k k2) n) 40 (lpL en (lsR bg en sc wd ht oh bt co n (mw j) (mh j) k k2 a re) k2 n).1 nu 0).1 (wcF (pbO bg en sc oh bt (lsR bg en sc wd ht oh bt co n (mw j) (mh j) k k2 a re) (lsA sa k k2) (lsM fm a k k2) n) 40 (lpL en (lsR bg en sc wd ht oh bt co n (mw j) (mh j) k k2 a re) k2 n).1 nu 0).2) ((wcF (pbO bg en sc oh bt (lsR bg en sc wd ht oh bt co n (mw j) (mh j) k k2 a re) (lsA sa k k2) (lsM fm a k k2) n) 40 (lpL en (lsR bg en sc wd ht oh bt co n (mw j) (mh j) k k2 a re) k2 n).1 nu 0).2))) ⟨hx, hb, hml, hown, hts⟩ (ct_L_writeWayTo l dC dI cI cJ cZ ql (lsR bg en sc wd ht oh bt co n (mw j) (mh j) k k2 a re) (lsA sa k k2) (lsM fm a k k2) q bg en sc wd ht oh bt co n qr nu 0 k2 H.size (hLB) (hB) (Nat.zero_le _) (by omega) (by rw [lsM, if_neg c66]; omega) (by rw [lsA, if_neg c66]; omega) (lsV_ne c66 c75)) (cwV 3 hts (gv kG_181 ki_L_writeWayTo ksel_L_writeWayTo kin_L kc_L_writeWayTo) rfl rfl rfl (by decide +kernel) ⟨Nat.le_trans (by decide) hR.1, Nat.le_trans (by decide) hR.2⟩) (va_recv hK hP (ci := 2) (q0 := 13) rfl rfl) hP hD hK hE hS hA [13, 14, 5, 6, 7, 8, 9, 10, 11, 12, 20, 21] [0, 1, 2, 3, 4, 15, 16, 17, 18, 19] [0, 1, 2, 3, 4, 12, 13, 14, 15, 16, 17, 18, 19, 10, 11, 5, 6, 7, 8, 9, 20, 21] rfl (by decide) rfl (by decide) (by decide) rfl (by decide) rfl hl.1 rfl (Nat.le_of_ble_eq_true rfl) dG_way_91 hcs (fun H locs hP hD hS => ?_)
              refine lv_lload hx hb dG_way_94 (lv_at hl 0 rfl) ?_
              have hP9 : va_P (dC, dI) vwCl (wG cI cJ cZ qg q ql qs qr lv mw mh mk pc mc kc ++ wP cI cJ cZ q bg en sc wd ht oh bt co n ++ wL cI cJ cZ ql (lsR bg en sc wd ht oh bt co n (mw (cN x)) (mh (cN x)) (cN y) (cN z) (cLn t) re) (lsA sa (cN y) (cN z)) (lsM fm (cLn t) (cN y) (cN z)) ++ wS cI cJ cZ qs tr rp rn rs rk us gl ++ wR cI cJ cZ qr ((wyF bg en sc oh bt (lsR bg en sc wd ht oh bt co n (mw (cN x)) (mh (cN x)) (cN y) (cN z) (cLn t) re) (lsA sa (cN y) (cN z)) (lsM fm (cLn t) (cN y) (cN z)) n (cN y) (cN z) (cLn t) nu).1) ((wyF bg en sc oh bt (lsR bg en sc wd ht oh bt co n (mw (cN x)) (mh (cN x)) (cN y) (cN z) (cLn t) re) (lsA sa (cN y) (cN z)) (lsM fm (cLn t) (cN y) (cN z)) n (cN y) (cN z) (cLn t) nu).2)) H := by rw [e1, e2, e3, e4]; first | (rw [wy_1 c66 c75]; exact hP) | (rw [wy_2 c75]; exact hP) | (rw [wy_3 c66]; exact hP)
              have hD9 : va_D A (wG cI cJ cZ qg q ql qs qr lv mw mh mk pc mc kc ++ wP cI cJ cZ q bg en sc wd ht oh bt co n ++ wL cI cJ cZ ql (lsR bg en sc wd ht oh bt co n (mw (cN x)) (mh (cN x)) (cN y) (cN z) (cLn t) re) (lsA sa (cN y) (cN z)) (lsM fm (cLn t) (cN y) (cN z)) ++ wS cI cJ cZ qs tr rp rn rs rk us gl ++ wR cI cJ cZ qr ((wyF bg en sc oh bt (lsR bg en sc wd ht oh bt co n (mw (cN x)) (mh (cN x)) (cN y) (cN z) (cLn t) re) (lsA sa (cN y) (cN z)) (lsM fm (cLn t) (cN y) (cN z)) n (cN y) (cN z) (cLn t) nu).1) ((wyF bg en sc oh bt (lsR bg en sc wd ht oh bt co n (mw (cN x)) (mh (cN x)) (cN y) (cN z) (cLn t) re) (lsA sa (cN y) (cN z)) (lsM fm (cLn t) (cN y) (cN z)) n (cN y) (cN z) (cLn t) nu).2)) := by rw [e1, e2, e3, e4]; first | (rw [wy_1 c66 c75]; exact hD) | (rw [wy_2 c75]; exact hD) | (rw [wy_3 c66]; exact hD)
              refine W.widen (k := 1) (n := 6) (by omega) (by omega) ?_
              refine vx_ret ?_
              exact W.lret hx hb hr (fun t ht hW => ⟨⟨_, (), rfl, ⟨(by simp [cdWa, c5, c13, c21, c33, c66, c75]), (by rw [e1, e2, e3, e4])⟩, by rw [ht]; exact hP9, va_K.moved hW.alike hK, hD9⟩, hS.F ht⟩) hS.2.2 dG_way_96
        · subst hH
          exact thr hx hb hl0 hown hEX hg kG_57 kin_IllegalArgumentException at_IA (by decide +kernel) (is := 170) (text := "no such mover, place or moment") (by decide) (hl.1.trans hml.symm) dG_way_36 dG_way_39 dG_way_40 dG_way_42 dG_way_45 hno (Nat.lt_of_lt_of_le (by decide) hR.1) (Nat.le_trans (Nat.le_of_ble_eq_true rfl) hR.2) (Nat.le_refl _) (Nat.le_refl _) hlocks (by simp [cdWa, c5, c13, c21, c33])

def cdRe (pc mc : Nat) (x y z : Int32) : Nat := if inB x mc = true ∧ inB y pc = true ∧ inB z pc = true then 0 else 1

set_option maxHeartbeats 4000000 in
set_option maxRecDepth 100000 in
theorem ct_G_reaches (l : Launch) (hl0 : l.stackTraces = false) (dC : Nat → ClassId) (dI : Nat → Nat → Nat) (cI cJ cZ : ClassId) (qg q ql qs qr : Nat → Nat) (lv mw mh mk : Nat → Nat) (pc mc kc : Nat) (bg en sc wd ht oh bt : Nat → Nat) (co n : Nat) (re : Nat → Nat) (sa fm : Nat) (tr rp rn rs : Nat → Nat) (rk us gl : Nat) (nu : Nat → Nat) (rl : Nat) (x y z : Int32) (sz : Nat) (hG : bGp lv mw mh mk pc mc kc) (hB : bP bg en sc wd ht oh bt co n) (hre : ∀ j, re j ≤ 1152921504606846976) : vx_Met l yG_reaches wsG_reaches ({ frames := 6, cells := 1, slots := 6, locals := 151 }) (PcX (dC, dI) (wG cI cJ cZ qg q ql qs qr lv mw mh mk pc mc kc ++ wP cI cJ cZ q bg en sc wd ht oh bt co n ++ wL cI cJ cZ ql re sa fm ++ wS cI cJ cZ qs tr rp rn rs rk us gl ++ wR cI cJ cZ qr nu rl) (tyE cI cJ cZ) sz [.ref (qg 0), .int x, .int y, .int z]) (va_Qi (fun r (_ : Unit) => cdRe pc mc x y z = 0 ∧ r = bI (!decide (lsV en (lsR bg en sc wd ht oh bt co n (mw (cN x)) (mh (cN x)) (cN y) (cN z) 0 re) n (cN y) (cN z) 0 = -1))) (QwB (dC, dI) (wG cI cJ cZ qg q ql qs qr lv mw mh mk pc mc kc ++ wP cI cJ cZ q bg en sc wd ht oh bt co n ++ wL cI cJ cZ ql (lsR bg en sc wd ht oh bt co n (mw (cN x)) (mh (cN x)) (cN y) (cN z) 0 re) (lsA sa (cN y) (cN z)) (lsM fm 0 (cN y) (cN z)) ++ wS cI cJ cZ qs tr rp rn rs rk us gl ++ wR cI cJ cZ qr nu rl) (tyE cI cJ cZ) (va_A (wG cI cJ cZ qg q ql qs qr lv mw mh mk pc mc kc ++ wP cI cJ cZ q bg en sc wd ht oh bt co n ++ wL cI cJ cZ ql re sa fm ++ wS cI cJ cZ qs tr rp rn rs rk us gl ++ wR cI cJ cZ qr nu rl) sz)) (va_A (wG cI cJ cZ qg q ql qs qr lv mw mh mk pc mc kc ++ wP cI cJ cZ q bg en sc wd ht oh bt co n ++ wL cI cJ cZ ql re sa fm ++ wS cI cJ cZ qs tr rp rn rs rk us gl ++ wR cI cJ cZ qr nu rl) sz)) (XCw (cdRe pc mc x y z) [(1, xIA)]) 1 6 (va_A (wG cI cJ cZ qg q ql qs qr lv mw mh mk pc mc kc ++ wP cI cJ cZ q bg en sc wd ht oh bt co n ++ wL cI cJ cZ ql re sa fm ++ wS cI cJ cZ qs tr rp rn rs rk us gl ++ wR cI cJ cZ qr nu rl) sz) := by
  refine vx_ofW (cc := cG_reaches) (maxL := 4) (ret := (some .boolean)) (by decide) rfl ?_
  intro p e s m args below meth c s₁ B hml hno hv
  obtain ⟨rfl, hsz, hP, hK, hD0, hE, hEX⟩ := hv
  have hx := B.exec
  have hb := B.bytes
  have hr := B.returns
  have hts := atoms_spec (ws := wsG_reaches) B.pre
  have hg : ∀ w ∈ gw, w.before _ s = true := fun w h => hts w (List.mem_cons_of_mem _ h)
  have hown : s.vm.findClass nG = some m.cls := findClass_of_methodNamed B.named
  have hlocks := B.notSynchronized
  have hR : 6 ≤ (headSpec wsG_reaches ({ frames := 6, cells := 1, slots := 6, locals := 151 })).room.frames ∧ 151 ≤ (headSpec wsG_reaches ({ frames := 6, cells := 1, slots := 6, locals := 151 })).room.locals := ⟨Nat.le_refl _, Nat.le_refl _⟩
  have hcs : 0 ≤ (headSpec wsG_reaches ({ frames := 6, cells := 1, slots := 6, locals := 151 })).room.cells ∧ 0 ≤ (headSpec wsG_reaches ({ frames := 6, cells := 1, slots := 6, locals := 151 })).room.slots := ⟨Nat.zero_le _, Nat.zero_le _⟩
  subst hsz
  have hD := hD0.self (sz := s.heap.size)
  generalize hAe : va_A (wG cI cJ cZ qg q ql qs qr lv mw mh mk pc mc kc ++ wP cI cJ cZ q bg en sc wd ht oh bt co n ++ wL cI cJ cZ ql re sa fm ++ wS cI cJ cZ qs tr rp rn rs rk us gl ++ wR cI cJ cZ qr nu rl) s.heap.size = A at hD ⊢
  have hA : ∀ q : Nat, s.heap.size ≤ q → A q := fun q h => by rw [← hAe]; exact Or.inr h
  obtain ⟨H, hH⟩ : ∃ H, H = s.heap := ⟨_, rfl⟩
  have hS : va_S A s.heap H [] := by rw [hH]; exact va_S.rf
  rw [← hH] at hP ⊢
  have hpc := hG.1
  have hmc := hG.2.1
  have hkc := hG.2.2.1
  have hgi := hG.2.2.2
  have hbi := hB.2.2
  have hn := hB.1
  have hco := hB.2.1
  have hl := lv_entry ([.ref (qg 0), .int x, .int y, .int z]) (n := 4) (Nat.le_of_ble_eq_true rfl)
  rw [lg_entry_eq]
  generalize (lg_sl ([.ref (qg 0), .int x, .int y, .int z]) ++ List.replicate (4 - (lg_sl ([.ref (qg 0), .int x, .int y, .int z])).length) Slot.unset).toArray = ls at hl ⊢
  have hl : lv_has ls 4 [(0, .ref (qg 0)), (1, .int x), (2, .int y), (3, .int z)] := hl
  refine lv_aload_n hx hb dG_reaches_0 rfl (lv_at hl 0 rfl) ?_
  refine lv_iload_n hx hb dG_reaches_1 rfl (lv_at hl 1 rfl) ?_
  refine cpV_i (b := (qg 0)) (C := nG) (As := [.int x]) (rest := []) (post := fun r : Int32 => r = bI (inB x mc)) ⟨hx, hb, hml, hown, hts⟩ (ct_G_hasMover l dC dI cI cJ cZ qg q ql qs qr lv mw mh mk pc mc kc x (hG)) (cwV 1 hts (gv kG_167 ki_G_hasMover ksel_G_hasMover kin_G kc_G_hasMover) rfl rfl rfl (by decide +kernel) ⟨Nat.le_trans (by decide) hR.1, Nat.le_trans (by decide) hR.2⟩) (va_recv hK hP (ci := 0) (q0 := 0) rfl rfl) (hP.sub (ws' := (wG cI cJ cZ qg q ql qs qr lv mw mh mk pc mc kc)) [0, 1, 2, 3, 4] rfl) hK hE rfl hl.1 rfl (Nat.le_of_ble_eq_true rfl) dG_reaches_2 hcs (fun r hr => ?_)
  subst hr
  refine rb_eq (tgt := 24) hx hb dG_reaches_5 (by decide) (fun c5 => ?_) (fun c5 => ?_)
  · subst hH
    exact thr hx hb hl0 hown hEX hg kG_57 kin_IllegalArgumentException at_IA (by decide +kernel) (is := 189) (text := "no such mover or place") (by decide) (hl.1.trans hml.symm) dG_reaches_24 dG_reaches_27 dG_reaches_28 dG_reaches_30 dG_reaches_33 hno (Nat.lt_of_lt_of_le (by decide) hR.1) (Nat.le_trans (Nat.le_of_ble_eq_true rfl) hR.2) (Nat.le_refl _) (Nat.le_refl _) hlocks (by simp [cdRe, c5])
  · refine lv_aload_n hx hb dG_reaches_8 rfl (lv_at hl 0 rfl) ?_
    refine lv_iload_n hx hb dG_reaches_9 rfl (lv_at hl 2 rfl) ?_
    refine cpV_i (b := (qg 0)) (C := nG) (As := [.int y]) (rest := []) (post := fun r : Int32 => r = bI (inB y pc)) ⟨hx, hb, hml, hown, hts⟩ (ct_G_hasPlace l dC dI cI cJ cZ qg q ql qs qr lv mw mh mk pc mc kc y (hG)) (cwV 1 hts (gv kG_73 ki_G_hasPlace ksel_G_hasPlace kin_G kc_G_hasPlace) rfl rfl rfl (by decide +kernel) ⟨Nat.le_trans (by decide) hR.1, Nat.le_trans (by decide) hR.2⟩) (va_recv hK hP (ci := 0) (q0 := 0) rfl rfl) (hP.sub (ws' := (wG cI cJ cZ qg q ql qs qr lv mw mh mk pc mc kc)) [0, 1, 2, 3, 4] rfl) hK hE rfl hl.1 rfl (Nat.le_of_ble_eq_true rfl) dG_reaches_10 hcs (fun r hr => ?_)
    subst hr
    refine rb_eq (tgt := 24) hx hb dG_reaches_13 (by decide) (fun c13 => ?_) (fun c13 => ?_)
    · subst hH
      exact thr hx hb hl0 hown hEX hg kG_57 kin_IllegalArgumentException at_IA (by decide +kernel) (is := 189) (text := "no such mover or place") (by decide) (hl.1.trans hml.symm) dG_reaches_24 dG_reaches_27 dG_reaches_28 dG_reaches_30 dG_reaches_33 hno (Nat.lt_of_lt_of_le (by decide) hR.1) (Nat.le_trans (Nat.le_of_ble_eq_true rfl) hR.2) (Nat.le_refl _) (Nat.le_refl _) hlocks (by simp [cdRe, c5, c13])
    · refine lv_aload_n hx hb dG_reaches_16 rfl (lv_at hl 0 rfl) ?_
      refine lv_iload_n hx hb dG_reaches_17 rfl (lv_at hl 3 rfl) ?_
      refine cpV_i (b := (qg 0)) (C := nG) (As := [.int z]) (rest := []) (post := fun r : Int32 => r = bI (inB z pc)) ⟨hx, hb, hml, hown, hts⟩ (ct_G_hasPlace l dC dI cI cJ cZ qg q ql qs qr lv mw mh mk pc mc kc z (hG)) (cwV 1 hts (gv kG_73 ki_G_hasPlace ksel_G_hasPlace kin_G kc_G_hasPlace) rfl rfl rfl (by decide +kernel) ⟨Nat.le_trans (by decide) hR.1, Nat.le_trans (by decide) hR.2⟩) (va_recv hK hP (ci := 0) (q0 := 0) rfl rfl) (hP.sub (ws' := (wG cI cJ cZ qg q ql qs qr lv mw mh mk pc mc kc)) [0, 1, 2, 3, 4] rfl) hK hE rfl hl.1 rfl (Nat.le_of_ble_eq_true rfl) dG_reaches_18 hcs (fun r hr => ?_)
      subst hr
      refine rb_ne (tgt := 34) hx hb dG_reaches_21 (by decide) (fun c21 => ?_) (fun c21 => ?_)
      · obtain ⟨j, hj, ej⟩ := in_of c5 (by omega)
        obtain ⟨k, hk, ek⟩ := in_of c13 (by omega)
        obtain ⟨k2, hk2, ek2⟩ := in_of c21 (by omega)
        have e1 : cN x = j := by rw [ej]; exact cN_n (by omega)
        have e2 : cN y = k := by rw [ek]; exact cN_n (by omega)
        have e3 : cN z = k2 := by rw [ek2]; exact cN_n (by omega)
        have hl : lv_has ls 4 [(0, .ref (qg 0)), (1, .int (nI j)), (2, .int (nI k)), (3, .int (nI k2))] := by rw [ej, ek, ek2] at hl; exact hl
        refine lv_aload_n hx hb dG_reaches_34 rfl (lv_at hl 0 rfl) ?_
        refine lv_iload_n hx hb dG_reaches_35 rfl (lv_at hl 1 rfl) ?_
        refine lv_iload_n hx hb dG_reaches_36 rfl (lv_at hl 2 rfl) ?_
        refine lv_iload_n hx hb dG_reaches_37 rfl (lv_at hl 3 rfl) ?_
        refine rn_lconst hx hb 0 dG_reaches_38 rfl ?_
        refine kwV_l (D := (dC, dI)) (r0 := (lsV en (lsR bg en sc wd ht oh bt co n (mw j) (mh j) k k2 0 re) n k k2 0)) (b := (qg 0)) (C := nG) (As := [.int (nI j), .int (nI k), .int (nI k2), .long (lN 0)]) (rest := []) (wc := (wG cI cJ cZ qg q ql qs qr lv mw mh mk pc mc kc ++ wP cI cJ cZ q bg en sc wd ht oh bt co n ++ wL cI cJ cZ ql re sa fm)) (wr := (wS cI cJ cZ qs tr rp rn rs rk us gl ++ wR cI cJ cZ qr nu rl)) (w1 := (wG cI cJ cZ qg q ql qs qr lv mw mh mk pc mc kc ++ wP cI cJ cZ q bg en sc wd ht oh bt co n ++ wL cI cJ cZ ql (lsR bg en sc wd ht oh bt co n (mw j) (mh j) k k2 0 re) (lsA sa k k2) (lsM fm 0 k k2))) (wn := (wG cI cJ cZ qg q ql qs qr lv mw mh mk pc mc kc ++ wP cI cJ cZ q bg en sc wd ht oh bt co n ++ wL cI cJ cZ ql (lsR bg en sc wd ht oh bt co n (mw j) (mh j) k k2 0 re) (lsA sa k k2) (lsM fm 0 k k2) ++ wS cI cJ cZ qs tr rp rn rs rk us gl ++ wR cI cJ cZ qr nu rl)) ⟨hx, hb, hml, hown, hts⟩ (ct_G_leastSeconds l dC dI cI cJ cZ qg q ql qs qr lv mw mh mk pc mc kc bg en sc wd ht oh bt co n re sa fm j k k2 0 H.size (hG) (hB) (hre) (by omega) (by omega) (by omega) (by omega)) (cwV 4 hts (gv kG_172 ki_G_leastSeconds ksel_G_leastSeconds kin_G kc_G_leastSeconds) rfl rfl rfl (by decide +kernel) ⟨Nat.le_trans (by decide) hR.1, Nat.le_trans (by decide) hR.2⟩) (va_recv hK hP (ci := 0) (q0 := 0) rfl rfl) hP hD hK hE hS hA [0, 1, 2, 3, 4, 5, 6, 7, 8, 9, 10, 11, 12, 13, 14] [15, 16, 17, 18, 19, 20, 21] [7, 8, 9, 10, 11, 12, 13, 14, 15, 16, 17, 18, 19, 20, 21, 0, 1, 2, 3, 4, 5, 6] rfl (by decide) rfl (by decide) (by decide) rfl (by decide) rfl hl.1 rfl (Nat.le_of_ble_eq_true rfl) dG_reaches_39 hcs (fun H locs hP hD hS => ?_)
        refine lv_ldc2 (v := -1) hx hb hown (hg _ kG_179) dG_reaches_42 ?_
        refine rl_cmp_eq (tgt := 53) hx hb dG_reaches_45 dG_reaches_46 (by decide) (fun c46 => ?_) (fun c46 => ?_)
        · refine rn_iconst hx hb 0 dG_reaches_53 (by decide) ?_
          have hP9 : va_P (dC, dI) vwCl (wG cI cJ cZ qg q ql qs qr lv mw mh mk pc mc kc ++ wP cI cJ cZ q bg en sc wd ht oh bt co n ++ wL cI cJ cZ ql (lsR bg en sc wd ht oh bt co n (mw (cN x)) (mh (cN x)) (cN y) (cN z) 0 re) (lsA sa (cN y) (cN z)) (lsM fm 0 (cN y) (cN z)) ++ wS cI cJ cZ qs tr rp rn rs rk us gl ++ wR cI cJ cZ qr nu rl) H := by rw [e1, e2, e3]; exact hP
          have hD9 : va_D A (wG cI cJ cZ qg q ql qs qr lv mw mh mk pc mc kc ++ wP cI cJ cZ q bg en sc wd ht oh bt co n ++ wL cI cJ cZ ql (lsR bg en sc wd ht oh bt co n (mw (cN x)) (mh (cN x)) (cN y) (cN z) 0 re) (lsA sa (cN y) (cN z)) (lsM fm 0 (cN y) (cN z)) ++ wS cI cJ cZ qs tr rp rn rs rk us gl ++ wR cI cJ cZ qr nu rl) := by rw [e1, e2, e3]; exact hD
          refine W.widen (k := 1) (n := 6) (by omega) (by omega) ?_
          refine vx_ret ?_
          exact W.zret hx hb hr rfl (fun t ht hW => ⟨⟨_, (), rfl, ⟨(by simp [cdRe, c5, c13, c21, c46]), (by rw [e1, e2, e3]; first | (rw [decide_eq_true c46]; rfl) | (rw [decide_eq_false c46]; rfl))⟩, by rw [ht]; exact hP9, va_K.moved hW.alike hK, hD9⟩, hS.F ht⟩) hS.2.2 dG_reaches_54
        · refine rn_iconst hx hb 1 dG_reaches_49 (by decide) ?_
          refine lv_goto (tgt := 54) hx hb dG_reaches_50 (by decide) ?_
          have hP9 : va_P (dC, dI) vwCl (wG cI cJ cZ qg q ql qs qr lv mw mh mk pc mc kc ++ wP cI cJ cZ q bg en sc wd ht oh bt co n ++ wL cI cJ cZ ql (lsR bg en sc wd ht oh bt co n (mw (cN x)) (mh (cN x)) (cN y) (cN z) 0 re) (lsA sa (cN y) (cN z)) (lsM fm 0 (cN y) (cN z)) ++ wS cI cJ cZ qs tr rp rn rs rk us gl ++ wR cI cJ cZ qr nu rl) H := by rw [e1, e2, e3]; exact hP
          have hD9 : va_D A (wG cI cJ cZ qg q ql qs qr lv mw mh mk pc mc kc ++ wP cI cJ cZ q bg en sc wd ht oh bt co n ++ wL cI cJ cZ ql (lsR bg en sc wd ht oh bt co n (mw (cN x)) (mh (cN x)) (cN y) (cN z) 0 re) (lsA sa (cN y) (cN z)) (lsM fm 0 (cN y) (cN z)) ++ wS cI cJ cZ qs tr rp rn rs rk us gl ++ wR cI cJ cZ qr nu rl) := by rw [e1, e2, e3]; exact hD
          refine W.widen (k := 1) (n := 6) (by omega) (by omega) ?_
          refine vx_ret ?_
          exact W.zret hx hb hr rfl (fun t ht hW => ⟨⟨_, (), rfl, ⟨(by simp [cdRe, c5, c13, c21, c46]), (by rw [e1, e2, e3]; first | (rw [decide_eq_true c46]; rfl) | (rw [decide_eq_false c46]; rfl))⟩, by rw [ht]; exact hP9, va_K.moved hW.alike hK, hD9⟩, hS.F ht⟩) hS.2.2 dG_reaches_54
      · subst hH
        exact thr hx hb hl0 hown hEX hg kG_57 kin_IllegalArgumentException at_IA (by decide +kernel) (is := 189) (text := "no such mover or place") (by decide) (hl.1.trans hml.symm) dG_reaches_24 dG_reaches_27 dG_reaches_28 dG_reaches_30 dG_reaches_33 hno (Nat.lt_of_lt_of_le (by decide) hR.1) (Nat.le_trans (Nat.le_of_ble_eq_true rfl) hR.2) (Nat.le_refl _) (Nat.le_refl _) hlocks (by simp [cdRe, c5, c13, c21])

def cdTa (kc mc : Nat) (x y : Int32) : Nat := if inB x kc = true ∧ inB y kc = true then (if mc = 0 then 2 else 0) else 1
theorem tb_eq {x : Int32} {kc : Nat} (h : kc ≤ 8) : wiB x.toInt64 (lN 0) (nI kc - nI 1).toInt64 = inB x kc := by
  have e : (nI kc - nI 1).toInt = (kc : Int) - 1 := by
    rw [Int32.toInt_sub, nI_toInt (by omega), nI_toInt (by omega)]
    rw [Int.bmod_eq_of_le (by omega) (by omega)]
    rfl
  unfold wiB inB
  rw [decide_eq_decide, Int64.le_iff_toInt_le, Int64.le_iff_toInt_le, Int32.le_iff_toInt_le, Int32.lt_iff_toInt_lt, pk_lT (by omega), Int32.toInt_toInt64, Int32.toInt_toInt64, e, nI_toInt (by omega), Int32.toInt_zero]
  omega
theorem n0_of6 {len : Nat} (hl : len ≤ 6) (h : nI len = 0) : len = 0 := by
  have h2 : nI len = nI 0 := h
  rwa [nI_eq (by omega) (by omega)] at h2

set_option maxHeartbeats 4000000 in
set_option maxRecDepth 100000 in
theorem ct_G_table (l : Launch) (hl0 : l.stackTraces = false) (dC : Nat → ClassId) (dI : Nat → Nat → Nat) (cI cJ cZ : ClassId) (qg q ql qs qr : Nat → Nat) (lv mw mh mk : Nat → Nat) (pc mc kc : Nat) (bg en sc wd ht oh bt : Nat → Nat) (co n : Nat) (re : Nat → Nat) (sa fm : Nat) (tr rp rn rs : Nat → Nat) (rk us gl : Nat) (nu : Nat → Nat) (rl : Nat) (x y : Int32) (sz : Nat) (hG : bGp lv mw mh mk pc mc kc) (hB : bP bg en sc wd ht oh bt co n) (hre : ∀ j, re j ≤ 1152921504606846976) : vx_Met l yG_table wsG_table ({ frames := 6, cells := 1, slots := 6, locals := 151 }) (PcX (dC, dI) (wG cI cJ cZ qg q ql qs qr lv mw mh mk pc mc kc ++ wP cI cJ cZ q bg en sc wd ht oh bt co n ++ wL cI cJ cZ ql re sa fm ++ wS cI cJ cZ qs tr rp rn rs rk us gl ++ wR cI cJ cZ qr nu rl) (tyE cI cJ cZ) sz [.ref (qg 0), .int x, .int y]) (va_Ql (fun r (_ : Unit) => cdTa kc mc x y = 0 ∧ r = (lsV en (lsR bg en sc wd ht oh bt co n (mw 0) (mh 0) (mk (cN x)) (mk (cN y)) 0 re) n (mk (cN x)) (mk (cN y)) 0)) (QwB (dC, dI) (wG cI cJ cZ qg q ql qs qr lv mw mh mk pc mc kc ++ wP cI cJ cZ q bg en sc wd ht oh bt co n ++ wL cI cJ cZ ql (lsR bg en sc wd ht oh bt co n (mw 0) (mh 0) (mk (cN x)) (mk (cN y)) 0 re) (lsA sa (mk (cN x)) (mk (cN y))) (lsM fm 0 (mk (cN x)) (mk (cN y))) ++ wS cI cJ cZ qs tr rp rn rs rk us gl ++ wR cI cJ cZ qr nu rl) (tyE cI cJ cZ) (va_A (wG cI cJ cZ qg q ql qs qr lv mw mh mk pc mc kc ++ wP cI cJ cZ q bg en sc wd ht oh bt co n ++ wL cI cJ cZ ql re sa fm ++ wS cI cJ cZ qs tr rp rn rs rk us gl ++ wR cI cJ cZ qr nu rl) sz)) (va_A (wG cI cJ cZ qg q ql qs qr lv mw mh mk pc mc kc ++ wP cI cJ cZ q bg en sc wd ht oh bt co n ++ wL cI cJ cZ ql re sa fm ++ wS cI cJ cZ qs tr rp rn rs rk us gl ++ wR cI cJ cZ qr nu rl) sz)) (XCw (cdTa kc mc x y) [(1, xIA), (2, xIS)]) 1 6 (va_A (wG cI cJ cZ qg q ql qs qr lv mw mh mk pc mc kc ++ wP cI cJ cZ q bg en sc wd ht oh bt co n ++ wL cI cJ cZ ql re sa fm ++ wS cI cJ cZ qs tr rp rn rs rk us gl ++ wR cI cJ cZ qr nu rl) sz) := by
  refine vx_ofW (cc := cG_table) (maxL := 3) (ret := (some .long)) (by decide) rfl ?_
  intro p e s m args below meth c s₁ B hml hno hv
  obtain ⟨rfl, hsz, hP, hK, hD0, hE, hEX⟩ := hv
  have hx := B.exec
  have hb := B.bytes
  have hr := B.returns
  have hts := atoms_spec (ws := wsG_table) B.pre
  have hg : ∀ w ∈ gw, w.before _ s = true := fun w h => hts w (List.mem_cons_of_mem _ h)
  have hown : s.vm.findClass nG = some m.cls := findClass_of_methodNamed B.named
  have hlocks := B.notSynchronized
  have hR : 6 ≤ (headSpec wsG_table ({ frames := 6, cells := 1, slots := 6, locals := 151 })).room.frames ∧ 151 ≤ (headSpec wsG_table ({ frames := 6, cells := 1, slots := 6, locals := 151 })).room.locals := ⟨Nat.le_refl _, Nat.le_refl _⟩
  have hcs : 0 ≤ (headSpec wsG_table ({ frames := 6, cells := 1, slots := 6, locals := 151 })).room.cells ∧ 0 ≤ (headSpec wsG_table ({ frames := 6, cells := 1, slots := 6, locals := 151 })).room.slots := ⟨Nat.zero_le _, Nat.zero_le _⟩
  subst hsz
  have hD := hD0.self (sz := s.heap.size)
  generalize hAe : va_A (wG cI cJ cZ qg q ql qs qr lv mw mh mk pc mc kc ++ wP cI cJ cZ q bg en sc wd ht oh bt co n ++ wL cI cJ cZ ql re sa fm ++ wS cI cJ cZ qs tr rp rn rs rk us gl ++ wR cI cJ cZ qr nu rl) s.heap.size = A at hD ⊢
  have hA : ∀ q : Nat, s.heap.size ≤ q → A q := fun q h => by rw [← hAe]; exact Or.inr h
  obtain ⟨H, hH⟩ : ∃ H, H = s.heap := ⟨_, rfl⟩
  have hS : va_S A s.heap H [] := by rw [hH]; exact va_S.rf
  rw [← hH] at hP ⊢
  have hpc := hG.1
  have hmc := hG.2.1
  have hkc := hG.2.2.1
  have hgi := hG.2.2.2
  have hbi := hB.2.2
  have hn := hB.1
  have hco := hB.2.1
  have hl := lv_entry ([.ref (qg 0), .int x, .int y]) (n := 3) (Nat.le_of_ble_eq_true rfl)
  rw [lg_entry_eq]
  generalize (lg_sl ([.ref (qg 0), .int x, .int y]) ++ List.replicate (3 - (lg_sl ([.ref (qg 0), .int x, .int y])).length) Slot.unset).toArray = ls at hl ⊢
  have hl : lv_has ls 3 [(0, .ref (qg 0)), (1, .int x), (2, .int y)] := hl
  refine lv_iload_n hx hb dG_table_0 rfl (lv_at hl 1 rfl) ?_
  refine lv_i2l (v := (x).toInt64) hx hb dG_table_1 rfl ?_
  refine rn_lconst hx hb 0 dG_table_2 rfl ?_
  refine lv_aload_n hx hb dG_table_3 rfl (lv_at hl 0 rfl) ?_
  refine va_get (D := (dC, dI)) (ci := 0) (v := .int (nI kc)) (C := nG) (T := TG) (N := 11) hx hb hg inG hown hK hP 0 rfl rfl 7 (by decide) (hg _ kG_201) (fun _ h9 => h9) rfl dG_table_4 ?_
  refine rn_iconst hx hb 1 dG_table_7 (by decide) ?_
  refine lv_isub hx hb dG_table_8 ?_
  refine lv_i2l (v := (((nI kc) - (nI 1))).toInt64) hx hb dG_table_9 rfl ?_
  refine cpS_i (As := [.long ((x).toInt64), .long (lN 0), .long ((((nI kc) - (nI 1))).toInt64)]) (rest := []) (post := fun r : Int32 => r = bI (wiB ((x).toInt64) (lN 0) ((((nI kc) - (nI 1))).toInt64))) ⟨hx, hb, hml, hown, hts⟩ (ct_G_within l dC dI cI cJ cZ ((x).toInt64) (lN 0) ((((nI kc) - (nI 1))).toInt64) ) (va_cwS 3 hts (gs kG_53 ks_G_within kin_G kc_G_within) rfl rfl rfl (by decide +kernel) ⟨Nat.le_trans (by decide) hR.1, Nat.le_trans (by decide) hR.2⟩) (hP.sub (ws' := []) [] rfl) hK hE rfl hl.1 rfl (Nat.le_of_ble_eq_true rfl) dG_table_10 hcs (fun r hr => ?_)
  subst hr
  refine tp_i (y := bI (inB x kc)) (congrArg bI (tb_eq hkc)) ?_
  refine rb_eq (tgt := 32) hx hb dG_table_13 (by decide) (fun c13 => ?_) (fun c13 => ?_)
  · subst hH
    exact thr hx hb hl0 hown hEX hg kG_57 kin_IllegalArgumentException at_IA (by decide +kernel) (is := 206) (text := "no such marked place") (by decide) (hl.1.trans hml.symm) dG_table_32 dG_table_35 dG_table_36 dG_table_38 dG_table_41 hno (Nat.lt_of_lt_of_le (by decide) hR.1) (Nat.le_trans (Nat.le_of_ble_eq_true rfl) hR.2) (Nat.le_refl _) (Nat.le_refl _) hlocks (by simp [cdTa, c13])
  · refine lv_iload_n hx hb dG_table_16 rfl (lv_at hl 2 rfl) ?_
    refine lv_i2l (v := (y).toInt64) hx hb dG_table_17 rfl ?_
    refine rn_lconst hx hb 0 dG_table_18 rfl ?_
    refine lv_aload_n hx hb dG_table_19 rfl (lv_at hl 0 rfl) ?_
    refine va_get (D := (dC, dI)) (ci := 0) (v := .int (nI kc)) (C := nG) (T := TG) (N := 11) hx hb hg inG hown hK hP 0 rfl rfl 7 (by decide) (hg _ kG_201) (fun _ h9 => h9) rfl dG_table_20 ?_
    refine rn_iconst hx hb 1 dG_table_23 (by decide) ?_
    refine lv_isub hx hb dG_table_24 ?_
    refine lv_i2l (v := (((nI kc) - (nI 1))).toInt64) hx hb dG_table_25 rfl ?_
    refine cpS_i (As := [.long ((y).toInt64), .long (lN 0), .long ((((nI kc) - (nI 1))).toInt64)]) (rest := []) (post := fun r : Int32 => r = bI (wiB ((y).toInt64) (lN 0) ((((nI kc) - (nI 1))).toInt64))) ⟨hx, hb, hml, hown, hts⟩ (ct_G_within l dC dI cI cJ cZ ((y).toInt64) (lN 0) ((((nI kc) - (nI 1))).toInt64) ) (va_cwS 3 hts (gs kG_53 ks_G_within kin_G kc_G_within) rfl rfl rfl (by decide +kernel) ⟨Nat.le_trans (by decide) hR.1, Nat.le_trans (by decide) hR.2⟩) (hP.sub (ws' := []) [] rfl) hK hE rfl hl.1 rfl (Nat.le_of_ble_eq_true rfl) dG_table_26 hcs (fun r hr => ?_)
    subst hr
    refine tp_i (y := bI (inB y kc)) (congrArg bI (tb_eq hkc)) ?_
    refine rb_ne (tgt := 42) hx hb dG_table_29 (by decide) (fun c29 => ?_) (fun c29 => ?_)
    · refine lv_aload_n hx hb dG_table_42 rfl (lv_at hl 0 rfl) ?_
      refine va_get (D := (dC, dI)) (ci := 0) (v := .int (nI mc)) (C := nG) (T := TG) (N := 11) hx hb hg inG hown hK hP 0 rfl rfl 5 (by decide) (hg _ kG_120) (fun _ h9 => h9) rfl dG_table_43 ?_
      refine lv_if_ne (tgt := 59) hx hb dG_table_46 (by decide) (fun c46 => ?_) (fun c46 => ?_)
      · have hm0 := n0_ne c46
        obtain ⟨j, hj, ej⟩ := in_of c13 (by omega)
        obtain ⟨k, hk, ek⟩ := in_of c29 (by omega)
        have e1 : cN x = j := by rw [ej]; exact cN_n (by omega)
        have e2 : cN y = k := by rw [ek]; exact cN_n (by omega)
        have gj := hgi j
        have gk := hgi k
        have hl : lv_has ls 3 [(0, .ref (qg 0)), (1, .int (nI j)), (2, .int (nI k))] := by rw [ej, ek] at hl; exact hl
        refine lv_aload_n hx hb dG_table_59 rfl (lv_at hl 0 rfl) ?_
        refine rn_iconst hx hb 0 dG_table_60 (by decide) ?_
        refine lv_aload_n hx hb dG_table_61 rfl (lv_at hl 0 rfl) ?_
        refine va_get (D := (dC, dI)) (ci := 0) (v := .ref (qg 4)) (C := nG) (T := TG) (N := 11) hx hb hg inG hown hK hP 0 rfl rfl 6 (by decide) (hg _ kG_27) (fun _ h9 => h9) rfl dG_table_62 ?_
        refine lv_iload_n hx hb dG_table_65 rfl (lv_at hl 1 rfl) ?_
        refine ga_i (f := mk) hx hb hK hP 4 0 rfl rfl (by omega) (by decide) dG_table_66 ?_
        refine lv_aload_n hx hb dG_table_67 rfl (lv_at hl 0 rfl) ?_
        refine va_get (D := (dC, dI)) (ci := 0) (v := .ref (qg 4)) (C := nG) (T := TG) (N := 11) hx hb hg inG hown hK hP 0 rfl rfl 6 (by decide) (hg _ kG_27) (fun _ h9 => h9) rfl dG_table_68 ?_
        refine lv_iload_n hx hb dG_table_71 rfl (lv_at hl 2 rfl) ?_
        refine ga_i (f := mk) hx hb hK hP 4 0 rfl rfl (by omega) (by decide) dG_table_72 ?_
        refine rn_lconst hx hb 0 dG_table_73 rfl ?_
        refine kwV_l (D := (dC, dI)) (r0 := (lsV en (lsR bg en sc wd ht oh bt co n (mw 0) (mh 0) (mk j) (mk k) 0 re) n (mk j) (mk k) 0)) (b := (qg 0)) (C := nG) (As := [.int (nI 0), .int (nI (mk j)), .int (nI (mk k)), .long (lN 0)]) (rest := []) (wc := (wG cI cJ cZ qg q ql qs qr lv mw mh mk pc mc kc ++ wP cI cJ cZ q bg en sc wd ht oh bt co n ++ wL cI cJ cZ ql re sa fm)) (wr := (wS cI cJ cZ qs tr rp rn rs rk us gl ++ wR cI cJ cZ qr nu rl)) (w1 := (wG cI cJ cZ qg q ql qs qr lv mw mh mk pc mc kc ++ wP cI cJ cZ q bg en sc wd ht oh bt co n ++ wL cI cJ cZ ql (lsR bg en sc wd ht oh bt co n (mw 0) (mh 0) (mk j) (mk k) 0 re) (lsA sa (mk j) (mk k)) (lsM fm 0 (mk j) (mk k)))) (wn := (wG cI cJ cZ qg q ql qs qr lv mw mh mk pc mc kc ++ wP cI cJ cZ q bg en sc wd ht oh bt co n ++ wL cI cJ cZ ql (lsR bg en sc wd ht oh bt co n (mw 0) (mh 0) (mk j) (mk k) 0 re) (lsA sa (mk j) (mk k)) (lsM fm 0 (mk j) (mk k)) ++ wS cI cJ cZ qs tr rp rn rs rk us gl ++ wR cI cJ cZ qr nu rl)) ⟨hx, hb, hml, hown, hts⟩ (ct_G_leastSeconds l dC dI cI cJ cZ qg q ql qs qr lv mw mh mk pc mc kc bg en sc wd ht oh bt co n re sa fm 0 (mk j) (mk k) 0 H.size (hG) (hB) (hre) (by omega) (by omega) (by omega) (by omega)) (cwV 4 hts (gv kG_172 ki_G_leastSeconds ksel_G_leastSeconds kin_G kc_G_leastSeconds) rfl rfl rfl (by decide +kernel) ⟨Nat.le_trans (by decide) hR.1, Nat.le_trans (by decide) hR.2⟩) (va_recv hK hP (ci := 0) (q0 := 0) rfl rfl) hP hD hK hE hS hA [0, 1, 2, 3, 4, 5, 6, 7, 8, 9, 10, 11, 12, 13, 14] [15, 16, 17, 18, 19, 20, 21] [7, 8, 9, 10, 11, 12, 13, 14, 15, 16, 17, 18, 19, 20, 21, 0, 1, 2, 3, 4, 5, 6] rfl (by decide) rfl (by decide) (by decide) rfl (by decide) rfl hl.1 rfl (Nat.le_of_ble_eq_true rfl) dG_table_74 hcs (fun H locs hP hD hS => ?_)
        have hP9 : va_P (dC, dI) vwCl (wG cI cJ cZ qg q ql qs qr lv mw mh mk pc mc kc ++ wP cI cJ cZ q bg en sc wd ht oh bt co n ++ wL cI cJ cZ ql (lsR bg en sc wd ht oh bt co n (mw 0) (mh 0) (mk (cN x)) (mk (cN y)) 0 re) (lsA sa (mk (cN x)) (mk (cN y))) (lsM fm 0 (mk (cN x)) (mk (cN y))) ++ wS cI cJ cZ qs tr rp rn rs rk us gl ++ wR cI cJ cZ qr nu rl) H := by rw [e1, e2]; exact hP
        have hD9 : va_D A (wG cI cJ cZ qg q ql qs qr lv mw mh mk pc mc kc ++ wP cI cJ cZ q bg en sc wd ht oh bt co n ++ wL cI cJ cZ ql (lsR bg en sc wd ht oh bt co n (mw 0) (mh 0) (mk (cN x)) (mk (cN y)) 0 re) (lsA sa (mk (cN x)) (mk (cN y))) (lsM fm 0 (mk (cN x)) (mk (cN y))) ++ wS cI cJ cZ qs tr rp rn rs rk us gl ++ wR cI cJ cZ qr nu rl) := by rw [e1, e2]; exact hD
        refine W.widen (k := 1) (n := 6) (by omega) (by omega) ?_
        refine vx_ret ?_
        exact W.lret hx hb hr (fun t ht hW => ⟨⟨_, (), rfl, ⟨(by rw [cdTa, if_pos ⟨c13, c29⟩, if_neg hm0]), (by rw [e1, e2])⟩, by rw [ht]; exact hP9, va_K.moved hW.alike hK, hD9⟩, hS.F ht⟩) hS.2.2 dG_table_77
      · have hm0 := n0_of6 hmc c46
        subst hH
        exact thr hx hb hl0 hown hEX hg kG_196 kin_IllegalStateException at_IS (by decide +kernel) (is := 208) (text := "no mover") (by decide) (hl.1.trans hml.symm) dG_table_49 dG_table_52 dG_table_53 dG_table_55 dG_table_58 hno (Nat.lt_of_lt_of_le (by decide) hR.1) (Nat.le_trans (Nat.le_of_ble_eq_true rfl) hR.2) (Nat.le_refl _) (Nat.le_refl _) hlocks (by rw [show cdTa kc mc x y = 2 from by rw [cdTa, if_pos ⟨c13, c29⟩, if_pos hm0]]; simp)
    · subst hH
      exact thr hx hb hl0 hown hEX hg kG_57 kin_IllegalArgumentException at_IA (by decide +kernel) (is := 206) (text := "no such marked place") (by decide) (hl.1.trans hml.symm) dG_table_32 dG_table_35 dG_table_36 dG_table_38 dG_table_41 hno (Nat.lt_of_lt_of_le (by decide) hR.1) (Nat.le_trans (Nat.le_of_ble_eq_true rfl) hR.2) (Nat.le_refl _) (Nat.le_refl _) hlocks (by simp [cdTa, c13, c29])

def cdK (pc mc : Nat) (x y z : Int32) : Nat := if inB x pc = true ∧ inB y pc = true ∧ ¬ x = y ∧ wiB z.toInt64 (lN 0) (lN 4) = true then (if mc = 0 then 2 else 0) else 1
def kxS (bg en sc wd ht oh bt : Nat → Nat) (co n w h a b : Nat) (tr rp rn rs : Nat → Nat) : XS := exF bg en sc oh bt (uM wd ht oh co w h n) b n 5 a 0 (sB 0 a true) (tr, rp, rn, rs, 0)
def kwF (X : XS) (z : Nat) (nu : Nat → Nat) : (Nat → Nat) × Nat := if z < X.2.2.2.2 then wwF X.2.1 z nu 0 (X.2.2.1 z) else (nu, 0)
def kV (X : XS) (z : Nat) : Int64 := if z < X.2.2.2.2 then lN (X.2.2.2.1 z) else -1
theorem kx_ok {bg en sc wd ht oh bt : Nat → Nat} {co n w h a b : Nat} {tr rp rn rs : Nat → Nat} (hB : bP bg en sc wd ht oh bt co n) (h1 : ∀ j, tr j < 40) (h2 : ∀ j, rn j ≤ 5) (h3 : ∀ j, rs j ≤ 1152921504806846976) : okX (kxS bg en sc wd ht oh bt co n w h a b tr rp rn rs) :=
  exF_ok hB 5 a 0 _ _ (Nat.le_refl _) (by decide) ⟨h1, h2, h3, Nat.zero_le _⟩

set_option maxHeartbeats 4000000 in
set_option maxRecDepth 100000 in
theorem ct_G_k (l : Launch) (hl0 : l.stackTraces = false) (dC : Nat → ClassId) (dI : Nat → Nat → Nat) (cI cJ cZ : ClassId) (qg q ql qs qr : Nat → Nat) (lv mw mh mk : Nat → Nat) (pc mc kc : Nat) (bg en sc wd ht oh bt : Nat → Nat) (co n : Nat) (re : Nat → Nat) (sa fm : Nat) (tr rp rn rs : Nat → Nat) (rk us gl : Nat) (nu : Nat → Nat) (rl : Nat) (x y z : Int32) (sz : Nat) (hG : bGp lv mw mh mk pc mc kc) (hB : bP bg en sc wd ht oh bt co n) (hrs : ∀ j, rs j ≤ 1152921504806846976) (htr : ∀ j, tr j < 40) (hrn : ∀ j, rn j ≤ 5) (hrl : rl ≤ 40) : vx_Met l yG_k wsG_k ({ frames := 16, cells := 1, slots := 6, locals := 743 }) (PcX (dC, dI) (wG cI cJ cZ qg q ql qs qr lv mw mh mk pc mc kc ++ wP cI cJ cZ q bg en sc wd ht oh bt co n ++ wL cI cJ cZ ql re sa fm ++ wS cI cJ cZ qs tr rp rn rs rk us gl ++ wR cI cJ cZ qr nu rl) (tyE cI cJ cZ) sz [.ref (qg 0), .int x, .int y, .int z]) (va_Ql (fun r (_ : Unit) => cdK pc mc x y z = 0 ∧ r = (kV (kxS bg en sc wd ht oh bt co n (mw 0) (mh 0) (cN x) (cN y) tr rp rn rs) (cN z))) (QwB (dC, dI) (wG cI cJ cZ qg q ql qs qr lv mw mh mk pc mc kc ++ wP cI cJ cZ q bg en sc wd ht oh bt co n ++ wL cI cJ cZ ql re sa fm ++ wS cI cJ cZ qs ((kxS bg en sc wd ht oh bt co n (mw 0) (mh 0) (cN x) (cN y) tr rp rn rs).1) ((kxS bg en sc wd ht oh bt co n (mw 0) (mh 0) (cN x) (cN y) tr rp rn rs).2.1) ((kxS bg en sc wd ht oh bt co n (mw 0) (mh 0) (cN x) (cN y) tr rp rn rs).2.2.1) ((kxS bg en sc wd ht oh bt co n (mw 0) (mh 0) (cN x) (cN y) tr rp rn rs).2.2.2.1) ((kxS bg en sc wd ht oh bt co n (mw 0) (mh 0) (cN x) (cN y) tr rp rn rs).2.2.2.2) (uM wd ht oh co (mw 0) (mh 0) n) (cN y) ++ wR cI cJ cZ qr ((kwF (kxS bg en sc wd ht oh bt co n (mw 0) (mh 0) (cN x) (cN y) tr rp rn rs) (cN z) nu).1) ((kwF (kxS bg en sc wd ht oh bt co n (mw 0) (mh 0) (cN x) (cN y) tr rp rn rs) (cN z) nu).2)) (tyE cI cJ cZ) (va_A (wG cI cJ cZ qg q ql qs qr lv mw mh mk pc mc kc ++ wP cI cJ cZ q bg en sc wd ht oh bt co n ++ wL cI cJ cZ ql re sa fm ++ wS cI cJ cZ qs tr rp rn rs rk us gl ++ wR cI cJ cZ qr nu rl) sz)) (va_A (wG cI cJ cZ qg q ql qs qr lv mw mh mk pc mc kc ++ wP cI cJ cZ q bg en sc wd ht oh bt co n ++ wL cI cJ cZ ql re sa fm ++ wS cI cJ cZ qs tr rp rn rs rk us gl ++ wR cI cJ cZ qr nu rl) sz)) (XCw (cdK pc mc x y z) [(1, xIA), (2, xIS)]) 1 6 (va_A (wG cI cJ cZ qg q ql qs qr lv mw mh mk pc mc kc ++ wP cI cJ cZ q bg en sc wd ht oh bt co n ++ wL cI cJ cZ ql re sa fm ++ wS cI cJ cZ qs tr rp rn rs rk us gl ++ wR cI cJ cZ qr nu rl) sz) := by
  refine vx_ofW (cc := cG_k) (maxL := 4) (ret := (some .long)) (by decide) rfl ?_
  intro p e s m args below meth c s₁ B hml hno hv
  obtain ⟨rfl, hsz, hP, hK, hD0, hE, hEX⟩ := hv
  have hx := B.exec
  have hb := B.bytes
  have hr := B.returns
  have hts := atoms_spec (ws := wsG_k) B.pre
  have hg : ∀ w ∈ gw, w.before _ s = true := fun w h => hts w (List.mem_cons_of_mem _ h)
  have hown : s.vm.findClass nG = some m.cls := findClass_of_methodNamed B.named
  have hlocks := B.notSynchronized
  have hR : 16 ≤ (headSpec wsG_k ({ frames := 16, cells := 1, slots := 6, locals := 743 })).room.frames ∧ 743 ≤ (headSpec wsG_k ({ frames := 16, cells := 1, slots := 6, locals := 743 })).room.locals := ⟨Nat.le_refl _, Nat.le_refl _⟩
  have hcs : 0 ≤ (headSpec wsG_k ({ frames := 16, cells := 1, slots := 6, locals := 743 })).room.cells ∧ 0 ≤ (headSpec wsG_k ({ frames := 16, cells := 1, slots := 6, locals := 743 })).room.slots := ⟨Nat.zero_le _, Nat.zero_le _⟩
  subst hsz
  have hD := hD0.self (sz := s.heap.size)
  generalize hAe : va_A (wG cI cJ cZ qg q ql qs qr lv mw mh mk pc mc kc ++ wP cI cJ cZ q bg en sc wd ht oh bt co n ++ wL cI cJ cZ ql re sa fm ++ wS cI cJ cZ qs tr rp rn rs rk us gl ++ wR cI cJ cZ qr nu rl) s.heap.size = A at hD ⊢
  have hA : ∀ q : Nat, s.heap.size ≤ q → A q := fun q h => by rw [← hAe]; exact Or.inr h
  obtain ⟨H, hH⟩ : ∃ H, H = s.heap := ⟨_, rfl⟩
  have hS : va_S A s.heap H [] := by rw [hH]; exact va_S.rf
  rw [← hH] at hP ⊢
  have hpc := hG.1
  have hmc := hG.2.1
  have hkc := hG.2.2.1
  have hgi := hG.2.2.2
  have hbi := hB.2.2
  have hn := hB.1
  have hco := hB.2.1
  have hl := lv_entry ([.ref (qg 0), .int x, .int y, .int z]) (n := 4) (Nat.le_of_ble_eq_true rfl)
  rw [lg_entry_eq]
  generalize (lg_sl ([.ref (qg 0), .int x, .int y, .int z]) ++ List.replicate (4 - (lg_sl ([.ref (qg 0), .int x, .int y, .int z])).length) Slot.unset).toArray = ls at hl ⊢
  have hl : lv_has ls 4 [(0, .ref (qg 0)), (1, .int x), (2, .int y), (3, .int z)] := hl
  refine lv_aload_n hx hb dG_k_0 rfl (lv_at hl 0 rfl) ?_
  refine lv_iload_n hx hb dG_k_1 rfl (lv_at hl 1 rfl) ?_
  refine cpV_i (b := (qg 0)) (C := nG) (As := [.int x]) (rest := []) (post := fun r : Int32 => r = bI (inB x pc)) ⟨hx, hb, hml, hown, hts⟩ (ct_G_hasPlace l dC dI cI cJ cZ qg q ql qs qr lv mw mh mk pc mc kc x (hG)) (cwV 1 hts (gv kG_73 ki_G_hasPlace ksel_G_hasPlace kin_G kc_G_hasPlace) rfl rfl rfl (by decide +kernel) ⟨Nat.le_trans (by decide) hR.1, Nat.le_trans (by decide) hR.2⟩) (va_recv hK hP (ci := 0) (q0 := 0) rfl rfl) (hP.sub (ws' := (wG cI cJ cZ qg q ql qs qr lv mw mh mk pc mc kc)) [0, 1, 2, 3, 4] rfl) hK hE rfl hl.1 rfl (Nat.le_of_ble_eq_true rfl) dG_k_2 hcs (fun r hr => ?_)
  subst hr
  refine rb_eq (tgt := 33) hx hb dG_k_5 (by decide) (fun c5 => ?_) (fun c5 => ?_)
  · subst hH
    exact thr hx hb hl0 hown hEX hg kG_57 kin_IllegalArgumentException at_IA (by decide +kernel) (is := 212) (text := "not two places, or no such rank") (by decide) (hl.1.trans hml.symm) dG_k_33 dG_k_36 dG_k_37 dG_k_39 dG_k_42 hno (Nat.lt_of_lt_of_le (by decide) hR.1) (Nat.le_trans (Nat.le_of_ble_eq_true rfl) hR.2) (Nat.le_refl _) (Nat.le_refl _) hlocks (by simp [cdK, c5])
  · refine lv_aload_n hx hb dG_k_8 rfl (lv_at hl 0 rfl) ?_
    refine lv_iload_n hx hb dG_k_9 rfl (lv_at hl 2 rfl) ?_
    refine cpV_i (b := (qg 0)) (C := nG) (As := [.int y]) (rest := []) (post := fun r : Int32 => r = bI (inB y pc)) ⟨hx, hb, hml, hown, hts⟩ (ct_G_hasPlace l dC dI cI cJ cZ qg q ql qs qr lv mw mh mk pc mc kc y (hG)) (cwV 1 hts (gv kG_73 ki_G_hasPlace ksel_G_hasPlace kin_G kc_G_hasPlace) rfl rfl rfl (by decide +kernel) ⟨Nat.le_trans (by decide) hR.1, Nat.le_trans (by decide) hR.2⟩) (va_recv hK hP (ci := 0) (q0 := 0) rfl rfl) (hP.sub (ws' := (wG cI cJ cZ qg q ql qs qr lv mw mh mk pc mc kc)) [0, 1, 2, 3, 4] rfl) hK hE rfl hl.1 rfl (Nat.le_of_ble_eq_true rfl) dG_k_10 hcs (fun r hr => ?_)
    subst hr
    refine rb_eq (tgt := 33) hx hb dG_k_13 (by decide) (fun c13 => ?_) (fun c13 => ?_)
    · subst hH
      exact thr hx hb hl0 hown hEX hg kG_57 kin_IllegalArgumentException at_IA (by decide +kernel) (is := 212) (text := "not two places, or no such rank") (by decide) (hl.1.trans hml.symm) dG_k_33 dG_k_36 dG_k_37 dG_k_39 dG_k_42 hno (Nat.lt_of_lt_of_le (by decide) hR.1) (Nat.le_trans (Nat.le_of_ble_eq_true rfl) hR.2) (Nat.le_refl _) (Nat.le_refl _) hlocks (by simp [cdK, c5, c13])
    · refine lv_iload_n hx hb dG_k_16 rfl (lv_at hl 1 rfl) ?_
      refine lv_iload_n hx hb dG_k_17 rfl (lv_at hl 2 rfl) ?_
      refine lv_icmp_eq (tgt := 33) hx hb dG_k_18 (by decide) (fun c18 => ?_) (fun c18 => ?_)
      · subst hH
        exact thr hx hb hl0 hown hEX hg kG_57 kin_IllegalArgumentException at_IA (by decide +kernel) (is := 212) (text := "not two places, or no such rank") (by decide) (hl.1.trans hml.symm) dG_k_33 dG_k_36 dG_k_37 dG_k_39 dG_k_42 hno (Nat.lt_of_lt_of_le (by decide) hR.1) (Nat.le_trans (Nat.le_of_ble_eq_true rfl) hR.2) (Nat.le_refl _) (Nat.le_refl _) hlocks (by simp [cdK, c5, c13, c18])
      · refine lv_iload_n hx hb dG_k_21 rfl (lv_at hl 3 rfl) ?_
        refine lv_i2l (v := (z).toInt64) hx hb dG_k_22 rfl ?_
        refine rn_lconst hx hb 0 dG_k_23 rfl ?_
        refine lv_ldc2 (v := 4) hx hb hown (hg _ kG_210) dG_k_24 ?_
        refine tp_l (y := lN 4) rfl ?_
        refine cpS_i (As := [.long ((z).toInt64), .long (lN 0), .long (lN 4)]) (rest := []) (post := fun r : Int32 => r = bI (wiB ((z).toInt64) (lN 0) (lN 4))) ⟨hx, hb, hml, hown, hts⟩ (ct_G_within l dC dI cI cJ cZ ((z).toInt64) (lN 0) (lN 4) ) (va_cwS 3 hts (gs kG_53 ks_G_within kin_G kc_G_within) rfl rfl rfl (by decide +kernel) ⟨Nat.le_trans (by decide) hR.1, Nat.le_trans (by decide) hR.2⟩) (hP.sub (ws' := []) [] rfl) hK hE rfl hl.1 rfl (Nat.le_of_ble_eq_true rfl) dG_k_27 hcs (fun r hr => ?_)
        subst hr
        refine rb_ne (tgt := 43) hx hb dG_k_30 (by decide) (fun c30 => ?_) (fun c30 => ?_)
        · refine lv_aload_n hx hb dG_k_43 rfl (lv_at hl 0 rfl) ?_
          refine va_get (D := (dC, dI)) (ci := 0) (v := .int (nI mc)) (C := nG) (T := TG) (N := 11) hx hb hg inG hown hK hP 0 rfl rfl 5 (by decide) (hg _ kG_120) (fun _ h9 => h9) rfl dG_k_44 ?_
          refine lv_if_ne (tgt := 60) hx hb dG_k_47 (by decide) (fun c47 => ?_) (fun c47 => ?_)
          · have hm0 := n0_ne c47
            obtain ⟨j, hj, ej⟩ := in_of c5 (by omega)
            obtain ⟨k, hk, ek⟩ := in_of c13 (by omega)
            obtain ⟨k2, hk20, hk2, ek2⟩ := wi_of c30 (by decide) (by decide)
            have e1 : cN x = j := by rw [ej]; exact cN_n (by omega)
            have e2 : cN y = k := by rw [ek]; exact cN_n (by omega)
            have e3 : cN z = k2 := by rw [ek2]; exact cN_n (by omega)
            have g0 := hgi 0
            have hU := uM_lt wd ht oh co (mw 0) (mh 0) hn
            have hok := kx_ok (w := mw 0) (h := mh 0) (a := j) (b := k) (rp := rp) hB htr hrn hrs
            have hok3 := hok.2.2.1
            have hok2 := hok.2.1 k2
            have hok4 : (exF bg en sc oh bt (uM wd ht oh co (mw 0) (mh 0) n) k n 5 j 0 (sB 0 j true) (tr, rp, rn, rs, 0)).2.2.2.2 ≤ 5 := hok.2.2.2
            have hl : lv_has ls 4 [(0, .ref (qg 0)), (1, .int (nI j)), (2, .int (nI k)), (3, .int (nI k2))] := by rw [ej, ek, ek2] at hl; exact hl
            refine lv_aload_n hx hb dG_k_60 rfl (lv_at hl 0 rfl) ?_
            refine va_get (D := (dC, dI)) (ci := 0) (v := .ref (qs 0)) (C := nG) (T := TG) (N := 11) hx hb hg inG hown hK hP 0 rfl rfl 9 (by decide) (hg _ kG_40) (fun _ h9 => h9) rfl dG_k_61 ?_
            refine lv_aload_n hx hb dG_k_64 rfl (lv_at hl 0 rfl) ?_
            refine va_get (D := (dC, dI)) (ci := 0) (v := .ref (q 0)) (C := nG) (T := TG) (N := 11) hx hb hg inG hown hK hP 0 rfl rfl 2 (by decide) (hg _ kG_16) (fun _ h9 => h9) rfl dG_k_65 ?_
            refine lv_aload_n hx hb dG_k_68 rfl (lv_at hl 0 rfl) ?_
            refine va_get (D := (dC, dI)) (ci := 0) (v := .ref (q 0)) (C := nG) (T := TG) (N := 11) hx hb hg inG hown hK hP 0 rfl rfl 2 (by decide) (hg _ kG_16) (fun _ h9 => h9) rfl dG_k_69 ?_
            refine lv_aload_n hx hb dG_k_72 rfl (lv_at hl 0 rfl) ?_
            refine va_get (D := (dC, dI)) (ci := 0) (v := .ref (qg 2)) (C := nG) (T := TG) (N := 11) hx hb hg inG hown hK hP 0 rfl rfl 3 (by decide) (hg _ kG_20) (fun _ h9 => h9) rfl dG_k_73 ?_
            refine rn_iconst hx hb 0 dG_k_76 (by decide) ?_
            refine ga_i (f := mw) hx hb hK hP 2 0 rfl rfl (by omega) (by decide) dG_k_77 ?_
            refine lv_aload_n hx hb dG_k_78 rfl (lv_at hl 0 rfl) ?_
            refine va_get (D := (dC, dI)) (ci := 0) (v := .ref (qg 3)) (C := nG) (T := TG) (N := 11) hx hb hg inG hown hK hP 0 rfl rfl 4 (by decide) (hg _ kG_23) (fun _ h9 => h9) rfl dG_k_79 ?_
            refine rn_iconst hx hb 0 dG_k_82 (by decide) ?_
            refine ga_l (f := mh) hx hb hK hP 3 1 rfl rfl (by omega) (by decide) dG_k_83 ?_
            refine cpV_l (b := (q 0)) (C := nP) (As := [.int (nI (mw 0)), .long (lN (mh 0))]) (rest := [.ref (q 0), .ref (qs 0)]) (post := fun r : Int64 => r = lN (uM wd ht oh co (mw 0) (mh 0) n)) ⟨hx, hb, hml, hown, hts⟩ (ct_P_usableBy l dC dI cI cJ cZ q bg en sc wd ht oh bt co n (mw 0) (mh 0) (hB) (by omega) (by omega)) (cwV 2 hts (gv kG_214 ki_P_usableBy ksel_P_usableBy kin_P kc_P_usableBy) rfl rfl rfl (by decide +kernel) ⟨Nat.le_trans (by decide) hR.1, Nat.le_trans (by decide) hR.2⟩) (va_recv hK hP (ci := 1) (q0 := 5) rfl rfl) (hP.sub (ws' := (wP cI cJ cZ q bg en sc wd ht oh bt co n)) [5, 6, 7, 8, 9, 10, 11, 12] rfl) hK hE rfl hl.1 rfl (Nat.le_of_ble_eq_true rfl) dG_k_84 hcs (fun r hr => ?_)
            subst hr
            refine lv_iload_n hx hb dG_k_87 rfl (lv_at hl 1 rfl) ?_
            refine lv_iload_n hx hb dG_k_88 rfl (lv_at hl 2 rfl) ?_
            refine kwV_v (D := (dC, dI)) (b := (qs 0)) (C := nS) (As := [.ref (q 0), .long (lN (uM wd ht oh co (mw 0) (mh 0) n)), .int (nI j), .int (nI k)]) (rest := []) (wc := (wS cI cJ cZ qs tr rp rn rs rk us gl ++ wP cI cJ cZ q bg en sc wd ht oh bt co n)) (wr := (wG cI cJ cZ qg q ql qs qr lv mw mh mk pc mc kc ++ wL cI cJ cZ ql re sa fm ++ wR cI cJ cZ qr nu rl)) (w1 := (wS cI cJ cZ qs ((exF bg en sc oh bt (uM wd ht oh co (mw 0) (mh 0) n) k n 5 j 0 (sB 0 j true) (tr, rp, rn, rs, 0)).1) ((exF bg en sc oh bt (uM wd ht oh co (mw 0) (mh 0) n) k n 5 j 0 (sB 0 j true) (tr, rp, rn, rs, 0)).2.1) ((exF bg en sc oh bt (uM wd ht oh co (mw 0) (mh 0) n) k n 5 j 0 (sB 0 j true) (tr, rp, rn, rs, 0)).2.2.1) ((exF bg en sc oh bt (uM wd ht oh co (mw 0) (mh 0) n) k n 5 j 0 (sB 0 j true) (tr, rp, rn, rs, 0)).2.2.2.1) ((exF bg en sc oh bt (uM wd ht oh co (mw 0) (mh 0) n) k n 5 j 0 (sB 0 j true) (tr, rp, rn, rs, 0)).2.2.2.2) (uM wd ht oh co (mw 0) (mh 0) n) k ++ wP cI cJ cZ q bg en sc wd ht oh bt co n)) (wn := (wG cI cJ cZ qg q ql qs qr lv mw mh mk pc mc kc ++ wP cI cJ cZ q bg en sc wd ht oh bt co n ++ wL cI cJ cZ ql re sa fm ++ wS cI cJ cZ qs ((exF bg en sc oh bt (uM wd ht oh co (mw 0) (mh 0) n) k n 5 j 0 (sB 0 j true) (tr, rp, rn, rs, 0)).1) ((exF bg en sc oh bt (uM wd ht oh co (mw 0) (mh 0) n) k n 5 j 0 (sB 0 j true) (tr, rp, rn, rs, 0)).2.1) ((exF bg en sc oh bt (uM wd ht oh co (mw 0) (mh 0) n) k n 5 j 0 (sB 0 j true) (tr, rp, rn, rs, 0)).2.2.1) ((exF bg en sc oh bt (uM wd ht oh co (mw 0) (mh 0) n) k n 5 j 0 (sB 0 j true) (tr, rp, rn, rs, 0)).2.2.2.1) ((exF bg en sc oh bt (uM wd ht oh co (mw 0) (mh 0) n) k n 5 j 0 (sB 0 j true) (tr, rp, rn, rs, 0)).2.2.2.2) (uM wd ht oh co (mw 0) (mh 0) n) k ++ wR cI cJ cZ qr nu rl)) ⟨hx, hb, hml, hown, hts⟩ (ct_S_search l dC dI cI cJ cZ qs tr rp rn rs rk us gl q bg en sc wd ht oh bt co n (uM wd ht oh co (mw 0) (mh 0) n) j k H.size (hrs) (htr) (hrn) (hB) (by omega) (by omega) (by omega)) (cwV 4 hts (gv kG_218 ki_S_search ksel_S_search kin_S kc_S_search) rfl rfl rfl (by decide +kernel) ⟨Nat.le_trans (by decide) hR.1, Nat.le_trans (by decide) hR.2⟩) (va_recv hK hP (ci := 3) (q0 := 15) rfl rfl) hP hD hK hE hS hA [15, 16, 17, 18, 19, 5, 6, 7, 8, 9, 10, 11, 12] [0, 1, 2, 3, 4, 13, 14, 20, 21] [0, 1, 2, 3, 4, 14, 15, 16, 17, 18, 19, 20, 21, 5, 6, 9, 10, 11, 12, 13, 7, 8] rfl (by decide) rfl (by decide) (by decide) rfl (by decide) rfl hl.1 rfl (Nat.le_of_ble_eq_true rfl) dG_k_89 hcs (fun H locs hP hD hS => ?_)
            refine lv_aload_n hx hb dG_k_92 rfl (lv_at hl 0 rfl) ?_
            refine va_get (D := (dC, dI)) (ci := 0) (v := .ref (qr 0)) (C := nG) (T := TG) (N := 11) hx hb hg inG hown hK hP 0 rfl rfl 10 (by decide) (hg _ kG_47) (fun _ h9 => h9) rfl dG_k_93 ?_
            refine kwV_v (D := (dC, dI)) (b := (qr 0)) (C := nR) (As := []) (rest := []) (wc := (wR cI cJ cZ qr nu rl)) (wr := (wG cI cJ cZ qg q ql qs qr lv mw mh mk pc mc kc ++ wP cI cJ cZ q bg en sc wd ht oh bt co n ++ wL cI cJ cZ ql re sa fm ++ wS cI cJ cZ qs ((exF bg en sc oh bt (uM wd ht oh co (mw 0) (mh 0) n) k n 5 j 0 (sB 0 j true) (tr, rp, rn, rs, 0)).1) ((exF bg en sc oh bt (uM wd ht oh co (mw 0) (mh 0) n) k n 5 j 0 (sB 0 j true) (tr, rp, rn, rs, 0)).2.1) ((exF bg en sc oh bt (uM wd ht oh co (mw 0) (mh 0) n) k n 5 j 0 (sB 0 j true) (tr, rp, rn, rs, 0)).2.2.1) ((exF bg en sc oh bt (uM wd ht oh co (mw 0) (mh 0) n) k n 5 j 0 (sB 0 j true) (tr, rp, rn, rs, 0)).2.2.2.1) ((exF bg en sc oh bt (uM wd ht oh co (mw 0) (mh 0) n) k n 5 j 0 (sB 0 j true) (tr, rp, rn, rs, 0)).2.2.2.2) (uM wd ht oh co (mw 0) (mh 0) n) k)) (w1 := (wR cI cJ cZ qr nu 0)) (wn := (wG cI cJ cZ qg q ql qs qr lv mw mh mk pc mc kc ++ wP cI cJ cZ q bg en sc wd ht oh bt co n ++ wL cI cJ cZ ql re sa fm ++ wS cI cJ cZ qs ((exF bg en sc oh bt (uM wd ht oh co (mw 0) (mh 0) n) k n 5 j 0 (sB 0 j true) (tr, rp, rn, rs, 0)).1) ((exF bg en sc oh bt (uM wd ht oh co (mw 0) (mh 0) n) k n 5 j 0 (sB 0 j true) (tr, rp, rn, rs, 0)).2.1) ((exF bg en sc oh bt (uM wd ht oh co (mw 0) (mh 0) n) k n 5 j 0 (sB 0 j true) (tr, rp, rn, rs, 0)).2.2.1) ((exF bg en sc oh bt (uM wd ht oh co (mw 0) (mh 0) n) k n 5 j 0 (sB 0 j true) (tr, rp, rn, rs, 0)).2.2.2.1) ((exF bg en sc oh bt (uM wd ht oh co (mw 0) (mh 0) n) k n 5 j 0 (sB 0 j true) (tr, rp, rn, rs, 0)).2.2.2.2) (uM wd ht oh co (mw 0) (mh 0) n) k ++ wR cI cJ cZ qr nu 0)) ⟨hx, hb, hml, hown, hts⟩ (ct_R_clear l dC dI cI cJ cZ qr nu rl H.size (hrl)) (cwV 0 hts (gv kG_176 ki_R_clear ksel_R_clear kin_R kc_R_clear) rfl rfl rfl (by decide +kernel) ⟨Nat.le_trans (by decide) hR.1, Nat.le_trans (by decide) hR.2⟩) (va_recv hK hP (ci := 4) (q0 := 20) rfl rfl) hP hD hK hE hS hA [20, 21] [0, 1, 2, 3, 4, 5, 6, 7, 8, 9, 10, 11, 12, 13, 14, 15, 16, 17, 18, 19] [0, 1, 2, 3, 4, 5, 6, 7, 8, 9, 10, 11, 12, 13, 14, 15, 16, 17, 18, 19, 20, 21] rfl (by decide) rfl (by decide) (by decide) rfl (by decide) rfl hl.1 rfl (Nat.le_of_ble_eq_true rfl) dG_k_96 hcs (fun H locs hP hD hS => ?_)
            refine lv_iload_n hx hb dG_k_99 rfl (lv_at hl 3 rfl) ?_
            refine lv_aload_n hx hb dG_k_100 rfl (lv_at hl 0 rfl) ?_
            refine va_get (D := (dC, dI)) (ci := 0) (v := .ref (qs 0)) (C := nG) (T := TG) (N := 11) hx hb hg inG hown hK hP 0 rfl rfl 9 (by decide) (hg _ kG_40) (fun _ h9 => h9) rfl dG_k_101 ?_
            refine va_get (D := (dC, dI)) (ci := 3) (v := .int (nI ((exF bg en sc oh bt (uM wd ht oh co (mw 0) (mh 0) n) k n 5 j 0 (sB 0 j true) (tr, rp, rn, rs, 0)).2.2.2.2))) (C := nS) (T := TS) (N := 7) hx hb hg inS hown hK hP 15 rfl rfl 4 (by decide) (hg _ kG_222) (fun _ h9 => h9) rfl dG_k_104 ?_
            refine rn_icmp_lt (tgt := 114) hx hb dG_k_107 (by decide) (by omega) (by omega) (fun c107 => ?_) (fun c107 => ?_)
            · refine lv_aload_n hx hb dG_k_114 rfl (lv_at hl 0 rfl) ?_
              refine va_get (D := (dC, dI)) (ci := 0) (v := .ref (qs 0)) (C := nG) (T := TG) (N := 11) hx hb hg inG hown hK hP 0 rfl rfl 9 (by decide) (hg _ kG_40) (fun _ h9 => h9) rfl dG_k_115 ?_
              refine lv_iload_n hx hb dG_k_118 rfl (lv_at hl 3 rfl) ?_
              refine lv_aload_n hx hb dG_k_119 rfl (lv_at hl 0 rfl) ?_
              refine va_get (D := (dC, dI)) (ci := 0) (v := .ref (qr 0)) (C := nG) (T := TG) (N := 11) hx hb hg inG hown hK hP 0 rfl rfl 10 (by decide) (hg _ kG_47) (fun _ h9 => h9) rfl dG_k_120 ?_
              refine kwV_v (D := (dC, dI)) (b := (qs 0)) (C := nS) (As := [.int (nI k2), .ref (qr 0)]) (rest := []) (wc := (wS cI cJ cZ qs ((exF bg en sc oh bt (uM wd ht oh co (mw 0) (mh 0) n) k n 5 j 0 (sB 0 j true) (tr, rp, rn, rs, 0)).1) ((exF bg en sc oh bt (uM wd ht oh co (mw 0) (mh 0) n) k n 5 j 0 (sB 0 j true) (tr, rp, rn, rs, 0)).2.1) ((exF bg en sc oh bt (uM wd ht oh co (mw 0) (mh 0) n) k n 5 j 0 (sB 0 j true) (tr, rp, rn, rs, 0)).2.2.1) ((exF bg en sc oh bt (uM wd ht oh co (mw 0) (mh 0) n) k n 5 j 0 (sB 0 j true) (tr, rp, rn, rs, 0)).2.2.2.1) ((exF bg en sc oh bt (uM wd ht oh co (mw 0) (mh 0) n) k n 5 j 0 (sB 0 j true) (tr, rp, rn, rs, 0)).2.2.2.2) (uM wd ht oh co (mw 0) (mh 0) n) k ++ wR cI cJ cZ qr nu 0)) (wr := (wG cI cJ cZ qg q ql qs qr lv mw mh mk pc mc kc ++ wP cI cJ cZ q bg en sc wd ht oh bt co n ++ wL cI cJ cZ ql re sa fm)) (w1 := (wS cI cJ cZ qs ((exF bg en sc oh bt (uM wd ht oh co (mw 0) (mh 0) n) k n 5 j 0 (sB 0 j true) (tr, rp, rn, rs, 0)).1) ((exF bg en sc oh bt (uM wd ht oh co (mw 0) (mh 0) n) k n 5 j 0 (sB 0 j true) (tr, rp, rn, rs, 0)).2.1) ((exF bg en sc oh bt (uM wd ht oh co (mw 0) (mh 0) n) k n 5 j 0 (sB 0 j true) (tr, rp, rn, rs, 0)).2.2.1) ((exF bg en sc oh bt (uM wd ht oh co (mw 0) (mh 0) n) k n 5 j 0 (sB 0 j true) (tr, rp, rn, rs, 0)).2.2.2.1) ((exF bg en sc oh bt (uM wd ht oh co (mw 0) (mh 0) n) k n 5 j 0 (sB 0 j true) (tr, rp, rn, rs, 0)).2.2.2.2) (uM wd ht oh co (mw 0) (mh 0) n) k ++ wR cI cJ cZ qr ((wwF ((exF bg en sc oh bt (uM wd ht oh co (mw 0) (mh 0) n) k n 5 j 0 (sB 0 j true) (tr, rp, rn, rs, 0)).2.1) k2 nu 0 (((exF bg en sc oh bt (uM wd ht oh co (mw 0) (mh 0) n) k n 5 j 0 (sB 0 j true) (tr, rp, rn, rs, 0)).2.2.1) k2)).1) ((wwF ((exF bg en sc oh bt (uM wd ht oh co (mw 0) (mh 0) n) k n 5 j 0 (sB 0 j true) (tr, rp, rn, rs, 0)).2.1) k2 nu 0 (((exF bg en sc oh bt (uM wd ht oh co (mw 0) (mh 0) n) k n 5 j 0 (sB 0 j true) (tr, rp, rn, rs, 0)).2.2.1) k2)).2))) (wn := (wG cI cJ cZ qg q ql qs qr lv mw mh mk pc mc kc ++ wP cI cJ cZ q bg en sc wd ht oh bt co n ++ wL cI cJ cZ ql re sa fm ++ wS cI cJ cZ qs ((exF bg en sc oh bt (uM wd ht oh co (mw 0) (mh 0) n) k n 5 j 0 (sB 0 j true) (tr, rp, rn, rs, 0)).1) ((exF bg en sc oh bt (uM wd ht oh co (mw 0) (mh 0) n) k n 5 j 0 (sB 0 j true) (tr, rp, rn, rs, 0)).2.1) ((exF bg en sc oh bt (uM wd ht oh co (mw 0) (mh 0) n) k n 5 j 0 (sB 0 j true) (tr, rp, rn, rs, 0)).2.2.1) ((exF bg en sc oh bt (uM wd ht oh co (mw 0) (mh 0) n) k n 5 j 0 (sB 0 j true) (tr, rp, rn, rs, 0)).2.2.2.1) ((exF bg en sc oh bt (uM wd ht oh co (mw 0) (mh 0) n) k n 5 j 0 (sB 0 j true) (tr, rp, rn, rs, 0)).2.2.2.2) (uM wd ht oh co (mw 0) (mh 0) n) k ++ wR cI cJ cZ qr ((wwF ((exF bg en sc oh bt (uM wd ht oh co (mw 0) (mh 0) n) k n 5 j 0 (sB 0 j true) (tr, rp, rn, rs, 0)).2.1) k2 nu 0 (((exF bg en sc oh bt (uM wd ht oh co (mw 0) (mh 0) n) k n 5 j 0 (sB 0 j true) (tr, rp, rn, rs, 0)).2.2.1) k2)).1) ((wwF ((exF bg en sc oh bt (uM wd ht oh co (mw 0) (mh 0) n) k n 5 j 0 (sB 0 j true) (tr, rp, rn, rs, 0)).2.1) k2 nu 0 (((exF bg en sc oh bt (uM wd ht oh co (mw 0) (mh 0) n) k n 5 j 0 (sB 0 j true) (tr, rp, rn, rs, 0)).2.2.1) k2)).2))) ⟨hx, hb, hml, hown, hts⟩ (ct_S_writeWay l dC dI cI cJ cZ qs ((exF bg en sc oh bt (uM wd ht oh co (mw 0) (mh 0) n) k n 5 j 0 (sB 0 j true) (tr, rp, rn, rs, 0)).1) ((exF bg en sc oh bt (uM wd ht oh co (mw 0) (mh 0) n) k n 5 j 0 (sB 0 j true) (tr, rp, rn, rs, 0)).2.1) ((exF bg en sc oh bt (uM wd ht oh co (mw 0) (mh 0) n) k n 5 j 0 (sB 0 j true) (tr, rp, rn, rs, 0)).2.2.1) ((exF bg en sc oh bt (uM wd ht oh co (mw 0) (mh 0) n) k n 5 j 0 (sB 0 j true) (tr, rp, rn, rs, 0)).2.2.2.1) ((exF bg en sc oh bt (uM wd ht oh co (mw 0) (mh 0) n) k n 5 j 0 (sB 0 j true) (tr, rp, rn, rs, 0)).2.2.2.2) (uM wd ht oh co (mw 0) (mh 0) n) k qr nu 0 k2 H.size (Nat.zero_le _) (by omega) (hok2)) (cwV 2 hts (gv kG_225 ki_S_writeWay ksel_S_writeWay kin_S kc_S_writeWay) rfl rfl rfl (by decide +kernel) ⟨Nat.le_trans (by decide) hR.1, Nat.le_trans (by decide) hR.2⟩) (va_recv hK hP (ci := 3) (q0 := 15) rfl rfl) hP hD hK hE hS hA [15, 16, 17, 18, 19, 20, 21] [0, 1, 2, 3, 4, 5, 6, 7, 8, 9, 10, 11, 12, 13, 14] [0, 1, 2, 3, 4, 5, 6, 7, 8, 9, 10, 11, 12, 13, 14, 15, 16, 17, 18, 19, 20, 21] rfl (by decide) rfl (by decide) (by decide) rfl (by decide) rfl hl.1 rfl (Nat.le_of_ble_eq_true rfl) dG_k_123 hcs (fun H locs hP hD hS => ?_)
              refine lv_aload_n hx hb dG_k_126 rfl (lv_at hl 0 rfl) ?_
              refine va_get (D := (dC, dI)) (ci := 0) (v := .ref (qs 0)) (C := nG) (T := TG) (N := 11) hx hb hg inG hown hK hP 0 rfl rfl 9 (by decide) (hg _ kG_40) (fun _ h9 => h9) rfl dG_k_127 ?_
              refine va_get (D := (dC, dI)) (ci := 3) (v := .ref (qs 4)) (C := nS) (T := TS) (N := 7) hx hb hg inS hown hK hP 15 rfl rfl 3 (by decide) (hg _ kG_229) (fun _ h9 => h9) rfl dG_k_130 ?_
              refine lv_iload_n hx hb dG_k_133 rfl (lv_at hl 3 rfl) ?_
              refine ga_l (f := (exF bg en sc oh bt (uM wd ht oh co (mw 0) (mh 0) n) k n 5 j 0 (sB 0 j true) (tr, rp, rn, rs, 0)).2.2.2.1) hx hb hK hP 19 1 rfl rfl (by omega) (by decide) dG_k_134 ?_
              have hP9 : va_P (dC, dI) vwCl (wG cI cJ cZ qg q ql qs qr lv mw mh mk pc mc kc ++ wP cI cJ cZ q bg en sc wd ht oh bt co n ++ wL cI cJ cZ ql re sa fm ++ wS cI cJ cZ qs ((kxS bg en sc wd ht oh bt co n (mw 0) (mh 0) (cN x) (cN y) tr rp rn rs).1) ((kxS bg en sc wd ht oh bt co n (mw 0) (mh 0) (cN x) (cN y) tr rp rn rs).2.1) ((kxS bg en sc wd ht oh bt co n (mw 0) (mh 0) (cN x) (cN y) tr rp rn rs).2.2.1) ((kxS bg en sc wd ht oh bt co n (mw 0) (mh 0) (cN x) (cN y) tr rp rn rs).2.2.2.1) ((kxS bg en sc wd ht oh bt co n (mw 0) (mh 0) (cN x) (cN y) tr rp rn rs).2.2.2.2) (uM wd ht oh co (mw 0) (mh 0) n) (cN y) ++ wR cI cJ cZ qr ((kwF (kxS bg en sc wd ht oh bt co n (mw 0) (mh 0) (cN x) (cN y) tr rp rn rs) (cN z) nu).1) ((kwF (kxS bg en sc wd ht oh bt co n (mw 0) (mh 0) (cN x) (cN y) tr rp rn rs) (cN z) nu).2)) H := by rw [e1, e2, e3, show kwF (kxS bg en sc wd ht oh bt co n (mw 0) (mh 0) j k tr rp rn rs) k2 nu = _ from if_pos c107]; exact hP
              have hD9 : va_D A (wG cI cJ cZ qg q ql qs qr lv mw mh mk pc mc kc ++ wP cI cJ cZ q bg en sc wd ht oh bt co n ++ wL cI cJ cZ ql re sa fm ++ wS cI cJ cZ qs ((kxS bg en sc wd ht oh bt co n (mw 0) (mh 0) (cN x) (cN y) tr rp rn rs).1) ((kxS bg en sc wd ht oh bt co n (mw 0) (mh 0) (cN x) (cN y) tr rp rn rs).2.1) ((kxS bg en sc wd ht oh bt co n (mw 0) (mh 0) (cN x) (cN y) tr rp rn rs).2.2.1) ((kxS bg en sc wd ht oh bt co n (mw 0) (mh 0) (cN x) (cN y) tr rp rn rs).2.2.2.1) ((kxS bg en sc wd ht oh bt co n (mw 0) (mh 0) (cN x) (cN y) tr rp rn rs).2.2.2.2) (uM wd ht oh co (mw 0) (mh 0) n) (cN y) ++ wR cI cJ cZ qr ((kwF (kxS bg en sc wd ht oh bt co n (mw 0) (mh 0) (cN x) (cN y) tr rp rn rs) (cN z) nu).1) ((kwF (kxS bg en sc wd ht oh bt co n (mw 0) (mh 0) (cN x) (cN y) tr rp rn rs) (cN z) nu).2)) := by rw [e1, e2, e3, show kwF (kxS bg en sc wd ht oh bt co n (mw 0) (mh 0) j k tr rp rn rs) k2 nu = _ from if_pos c107]; exact hD
              refine W.widen (k := 1) (n := 6) (by omega) (by omega) ?_
              refine vx_ret ?_
              exact W.lret hx hb hr (fun t ht hW => ⟨⟨_, (), rfl, ⟨(by rw [cdK, if_pos ⟨c5, c13, c18, c30⟩, if_neg hm0]), (by rw [e1, e2, e3]; exact (if_pos c107).symm)⟩, by rw [ht]; exact hP9, va_K.moved hW.alike hK, hD9⟩, hS.F ht⟩) hS.2.2 dG_k_135
            · refine lv_ldc2 (v := -1) hx hb hown (hg _ kG_179) dG_k_110 ?_
              have hP9 : va_P (dC, dI) vwCl (wG cI cJ cZ qg q ql qs qr lv mw mh mk pc mc kc ++ wP cI cJ cZ q bg en sc wd ht oh bt co n ++ wL cI cJ cZ ql re sa fm ++ wS cI cJ cZ qs ((kxS bg en sc wd ht oh bt co n (mw 0) (mh 0) (cN x) (cN y) tr rp rn rs).1) ((kxS bg en sc wd ht oh bt co n (mw 0) (mh 0) (cN x) (cN y) tr rp rn rs).2.1) ((kxS bg en sc wd ht oh bt co n (mw 0) (mh 0) (cN x) (cN y) tr rp rn rs).2.2.1) ((kxS bg en sc wd ht oh bt co n (mw 0) (mh 0) (cN x) (cN y) tr rp rn rs).2.2.2.1) ((kxS bg en sc wd ht oh bt co n (mw 0) (mh 0) (cN x) (cN y) tr rp rn rs).2.2.2.2) (uM wd ht oh co (mw 0) (mh 0) n) (cN y) ++ wR cI cJ cZ qr ((kwF (kxS bg en sc wd ht oh bt co n (mw 0) (mh 0) (cN x) (cN y) tr rp rn rs) (cN z) nu).1) ((kwF (kxS bg en sc wd ht oh bt co n (mw 0) (mh 0) (cN x) (cN y) tr rp rn rs) (cN z) nu).2)) H := by rw [e1, e2, e3, show kwF (kxS bg en sc wd ht oh bt co n (mw 0) (mh 0) j k tr rp rn rs) k2 nu = (nu, 0) from if_neg c107]; exact hP
              have hD9 : va_D A (wG cI cJ cZ qg q ql qs qr lv mw mh mk pc mc kc ++ wP cI cJ cZ q bg en sc wd ht oh bt co n ++ wL cI cJ cZ ql re sa fm ++ wS cI cJ cZ qs ((kxS bg en sc wd ht oh bt co n (mw 0) (mh 0) (cN x) (cN y) tr rp rn rs).1) ((kxS bg en sc wd ht oh bt co n (mw 0) (mh 0) (cN x) (cN y) tr rp rn rs).2.1) ((kxS bg en sc wd ht oh bt co n (mw 0) (mh 0) (cN x) (cN y) tr rp rn rs).2.2.1) ((kxS bg en sc wd ht oh bt co n (mw 0) (mh 0) (cN x) (cN y) tr rp rn rs).2.2.2.1) ((kxS bg en sc wd ht oh bt co n (mw 0) (mh 0) (cN x) (cN y) tr rp rn rs).2.2.2.2) (uM wd ht oh co (mw 0) (mh 0) n) (cN y) ++ wR cI cJ cZ qr ((kwF (kxS bg en sc wd ht oh bt co n (mw 0) (mh 0) (cN x) (cN y) tr rp rn rs) (cN z) nu).1) ((kwF (kxS bg en sc wd ht oh bt co n (mw 0) (mh 0) (cN x) (cN y) tr rp rn rs) (cN z) nu).2)) := by rw [e1, e2, e3, show kwF (kxS bg en sc wd ht oh bt co n (mw 0) (mh 0) j k tr rp rn rs) k2 nu = (nu, 0) from if_neg c107]; exact hD
              refine W.widen (k := 1) (n := 6) (by omega) (by omega) ?_
              refine vx_ret ?_
              exact W.lret hx hb hr (fun t ht hW => ⟨⟨_, (), rfl, ⟨(by rw [cdK, if_pos ⟨c5, c13, c18, c30⟩, if_neg hm0]), (by rw [e1, e2, e3]; exact (if_neg c107).symm)⟩, by rw [ht]; exact hP9, va_K.moved hW.alike hK, hD9⟩, hS.F ht⟩) hS.2.2 dG_k_113
          · have hm0 := n0_of6 hmc c47
            subst hH
            exact thr hx hb hl0 hown hEX hg kG_196 kin_IllegalStateException at_IS (by decide +kernel) (is := 208) (text := "no mover") (by decide) (hl.1.trans hml.symm) dG_k_50 dG_k_53 dG_k_54 dG_k_56 dG_k_59 hno (Nat.lt_of_lt_of_le (by decide) hR.1) (Nat.le_trans (Nat.le_of_ble_eq_true rfl) hR.2) (Nat.le_refl _) (Nat.le_refl _) hlocks (by rw [show cdK pc mc x y z = 2 from by rw [cdK, if_pos ⟨c5, c13, c18, c30⟩, if_pos hm0]]; simp)
        · subst hH
          exact thr hx hb hl0 hown hEX hg kG_57 kin_IllegalArgumentException at_IA (by decide +kernel) (is := 212) (text := "not two places, or no such rank") (by decide) (hl.1.trans hml.symm) dG_k_33 dG_k_36 dG_k_37 dG_k_39 dG_k_42 hno (Nat.lt_of_lt_of_le (by decide) hR.1) (Nat.le_trans (Nat.le_of_ble_eq_true rfl) hR.2) (Nat.le_refl _) (Nat.le_refl _) hlocks (by simp [cdK, c5, c13, c18, c30])
