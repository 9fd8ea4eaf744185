theorem sw_of (x : Int32) (h : Nat) (hh : h < 1000) : (x.toInt < 0 ∨ (h : Int) < x.toInt) ∨ ∃ k : Nat, k ≤ h ∧ x = nI k := by
  by_cases q : x.toInt < 0 ∨ (h : Int) < x.toInt
  · exact Or.inl q
  · refine Or.inr ⟨x.toInt.toNat, by omega, ?_⟩
    apply Int32.toInt_inj.mp
    rw [nI_toInt (by omega)]
    omega
theorem bP_bt {bg en sc wd ht oh bt : Nat → Nat} {co n j v : Nat} (h : bP bg en sc wd ht oh bt co n) (hv : v < 1099511627776) : bP bg en sc wd ht oh (va_up bt j v) co n := by
  refine ⟨h.1, h.2.1, fun i => ?_⟩
  obtain ⟨h1, h2, h3, h4, h5, h6, h7⟩ := h.2.2 i
  refine ⟨h1, h2, h3, h4, h5, h6, ?_⟩
  unfold va_up
  split
  · exact hv
  · exact h7
theorem bP_add {bg en sc wd ht oh bt : Nat → Nat} {co n a b s : Nat} (h : bP bg en sc wd ht oh bt co n) (hn : n < 40) (ha : a < 20) (hb : b < 20) (hs : s ≤ 10000000) : bP (va_up bg n a) (va_up en n b) (va_up sc n s) (va_up wd n 2000) (va_up ht n 3000) (va_up oh n 16777215) bt co (n + 1) := by
  refine ⟨by omega, h.2.1, fun i => ?_⟩
  obtain ⟨h1, h2, h3, h4, h5, h6, h7⟩ := h.2.2 i
  unfold va_up
  by_cases e : i = n
  · simp only [e, if_true]
    have := (h.2.2 n).2.2.2.2.2.2
    refine ⟨ha, hb, hs, by decide, by decide, by decide, this⟩
  · simp only [e, if_false]
    exact ⟨h1, h2, h3, h4, h5, h6, h7⟩

def cdTu (bg en : Nat → Nat) (n : Nat) (x y : Int32) : Nat := if inB x n = true ∧ inB y n = true ∧ bg (cN y) = en (cN x) then 0 else 1

set_option maxHeartbeats 4000000 in
set_option maxRecDepth 100000 in
theorem ct_G_turn (l : Launch) (hl0 : l.stackTraces = false) (dC : Nat → ClassId) (dI : Nat → Nat → Nat) (cI cJ cZ : ClassId) (qg q ql qs qr : Nat → Nat) (lv mw mh mk : Nat → Nat) (pc mc kc : Nat) (bg en sc wd ht oh bt : Nat → Nat) (co n : Nat) (re : Nat → Nat) (sa fm : Nat) (tr rp rn rs : Nat → Nat) (rk us gl : Nat) (nu : Nat → Nat) (rl : Nat) (x y : Int32) (on : Bool) (sz : Nat) (hG : bGp lv mw mh mk pc mc kc) (hB : bP bg en sc wd ht oh bt co n) : vx_Met l yG_turn wsG_turn ({ frames := 6, cells := 1, slots := 6, locals := 120 }) (PcX (dC, dI) (wG cI cJ cZ qg q ql qs qr lv mw mh mk pc mc kc ++ wP cI cJ cZ q bg en sc wd ht oh bt co n ++ wL cI cJ cZ ql re sa fm ++ wS cI cJ cZ qs tr rp rn rs rk us gl ++ wR cI cJ cZ qr nu rl) (tyE cI cJ cZ) sz [.ref (qg 0), .int x, .int y, .int (bI on)]) (va_Qi (fun r (_ : Unit) => cdTu bg en n x y = 0 ∧ r = nI ((((va_up bt (cN x) (sB (bt (cN x)) (cN y) on)) (cN y)).testBit (cN x)).toNat + on.toNat)) (QwB (dC, dI) (wG cI cJ cZ qg q ql qs qr lv mw mh mk pc mc kc ++ wP cI cJ cZ q bg en sc wd ht oh (va_up bt (cN x) (sB (bt (cN x)) (cN y) on)) co n ++ wL cI cJ cZ ql re sa fm ++ wS cI cJ cZ qs tr rp rn rs rk us gl ++ wR cI cJ cZ qr nu rl) (tyE cI cJ cZ) (va_A (wG cI cJ cZ qg q ql qs qr lv mw mh mk pc mc kc ++ wP cI cJ cZ q bg en sc wd ht oh bt co n ++ wL cI cJ cZ ql re sa fm ++ wS cI cJ cZ qs tr rp rn rs rk us gl ++ wR cI cJ cZ qr nu rl) sz)) (va_A (wG cI cJ cZ qg q ql qs qr lv mw mh mk pc mc kc ++ wP cI cJ cZ q bg en sc wd ht oh bt co n ++ wL cI cJ cZ ql re sa fm ++ wS cI cJ cZ qs tr rp rn rs rk us gl ++ wR cI cJ cZ qr nu rl) sz)) (XCw (cdTu bg en n x y) [(1, xIA)]) 1 6 (va_A (wG cI cJ cZ qg q ql qs qr lv mw mh mk pc mc kc ++ wP cI cJ cZ q bg en sc wd ht oh bt co n ++ wL cI cJ cZ ql re sa fm ++ wS cI cJ cZ qs tr rp rn rs rk us gl ++ wR cI cJ cZ qr nu rl) sz) := by
  refine vx_ofW (cc := cG_turn) (maxL := 5) (ret := (some .int)) (by decide) rfl ?_
  intro p e s m args below meth c s₁ B hml hno hv
  obtain ⟨rfl, hsz, hP, hK, hD0, hE, hEX⟩ := hv
  have hx := B.exec
  have hb := B.bytes
  have hr := B.returns
  have hts := atoms_spec (ws := wsG_turn) B.pre
  have hg : ∀ w ∈ gw, w.before _ s = true := fun w h => hts w (List.mem_cons_of_mem _ h)
  have hown : s.vm.findClass nG = some m.cls := findClass_of_methodNamed B.named
  have hlocks := B.notSynchronized
  have hR : 6 ≤ (headSpec wsG_turn ({ frames := 6, cells := 1, slots := 6, locals := 120 })).room.frames ∧ 120 ≤ (headSpec wsG_turn ({ frames := 6, cells := 1, slots := 6, locals := 120 })).room.locals := ⟨Nat.le_refl _, Nat.le_refl _⟩
  have hcs : 0 ≤ (headSpec wsG_turn ({ frames := 6, cells := 1, slots := 6, locals := 120 })).room.cells ∧ 0 ≤ (headSpec wsG_turn ({ frames := 6, cells := 1, slots := 6, locals := 120 })).room.slots := ⟨Nat.zero_le _, Nat.zero_le _⟩
  subst hsz
  have hD := hD0.self (sz := s.heap.size)
  generalize hAe : va_A (wG cI cJ cZ qg q ql qs qr lv mw mh mk pc mc kc ++ wP cI cJ cZ q bg en sc wd ht oh bt co n ++ wL cI cJ cZ ql re sa fm ++ wS cI cJ cZ qs tr rp rn rs rk us gl ++ wR cI cJ cZ qr nu rl) s.heap.size = A at hD ⊢
  have hA : ∀ q : Nat, s.heap.size ≤ q → A q := fun q h => by rw [← hAe]; exact Or.inr h
  obtain ⟨H, hH⟩ : ∃ H, H = s.heap := ⟨_, rfl⟩
  have hS : va_S A s.heap H [] := by rw [hH]; exact va_S.rf
  rw [← hH] at hP ⊢
  have hpc := hG.1
  have hmc := hG.2.1
  have hkc := hG.2.2.1
  have hgi := hG.2.2.2
  have hbi := hB.2.2
  have hn := hB.1
  have hco := hB.2.1
  have hl := lv_entry ([.ref (qg 0), .int x, .int y, .int (bI on)]) (n := 5) (Nat.le_of_ble_eq_true rfl)
  rw [lg_entry_eq]
  generalize (lg_sl ([.ref (qg 0), .int x, .int y, .int (bI on)]) ++ List.replicate (5 - (lg_sl ([.ref (qg 0), .int x, .int y, .int (bI on)])).length) Slot.unset).toArray = ls at hl ⊢
  have hl : lv_has ls 5 [(0, .ref (qg 0)), (1, .int x), (2, .int y), (3, .int (bI on))] := hl
  refine lv_aload_n hx hb dG_turn_0 rfl (lv_at hl 0 rfl) ?_
  refine va_get (D := (dC, dI)) (ci := 0) (v := .ref (q 0)) (C := nG) (T := TG) (N := 11) hx hb hg inG hown hK hP 0 rfl rfl 2 (by decide) (hg _ kG_16) (fun _ h9 => h9) rfl dG_turn_1 ?_
  refine lv_iload_n hx hb dG_turn_4 rfl (lv_at hl 1 rfl) ?_
  refine cpV_i (b := (q 0)) (C := nP) (As := [.int x]) (rest := []) (post := fun r : Int32 => r = bI (inB x n)) ⟨hx, hb, hml, hown, hts⟩ (ct_P_has l dC dI cI cJ cZ q bg en sc wd ht oh bt co n x (hB)) (cwV 1 hts (gv kG_103 ki_P_has ksel_P_has kin_P kc_P_has) rfl rfl rfl (by decide +kernel) ⟨Nat.le_trans (by decide) hR.1, Nat.le_trans (by decide) hR.2⟩) (va_recv hK hP (ci := 1) (q0 := 5) rfl rfl) (hP.sub (ws' := (wP cI cJ cZ q bg en sc wd ht oh bt co n)) [5, 6, 7, 8, 9, 10, 11, 12] rfl) hK hE rfl hl.1 rfl (Nat.le_of_ble_eq_true rfl) dG_turn_5 hcs (fun r hr => ?_)
  subst hr
  refine rb_eq (tgt := 43) hx hb dG_turn_8 (by decide) (fun c8 => ?_) (fun c8 => ?_)
  · subst hH
    exact thr hx hb hl0 hown hEX hg kG_57 kin_IllegalArgumentException at_IA (by decide +kernel) (is := 151) (text := "no such turn") (by decide) (hl.1.trans hml.symm) dG_turn_43 dG_turn_46 dG_turn_47 dG_turn_49 dG_turn_52 hno (Nat.lt_of_lt_of_le (by decide) hR.1) (Nat.le_trans (Nat.le_of_ble_eq_true rfl) hR.2) (Nat.le_refl _) (Nat.le_refl _) hlocks (by simp [cdTu, c8])
  · refine lv_aload_n hx hb dG_turn_11 rfl (lv_at hl 0 rfl) ?_
    refine va_get (D := (dC, dI)) (ci := 0) (v := .ref (q 0)) (C := nG) (T := TG) (N := 11) hx hb hg inG hown hK hP 0 rfl rfl 2 (by decide) (hg _ kG_16) (fun _ h9 => h9) rfl dG_turn_12 ?_
    refine lv_iload_n hx hb dG_turn_15 rfl (lv_at hl 2 rfl) ?_
    refine cpV_i (b := (q 0)) (C := nP) (As := [.int y]) (rest := []) (post := fun r : Int32 => r = bI (inB y n)) ⟨hx, hb, hml, hown, hts⟩ (ct_P_has l dC dI cI cJ cZ q bg en sc wd ht oh bt co n y (hB)) (cwV 1 hts (gv kG_103 ki_P_has ksel_P_has kin_P kc_P_has) rfl rfl rfl (by decide +kernel) ⟨Nat.le_trans (by decide) hR.1, Nat.le_trans (by decide) hR.2⟩) (va_recv hK hP (ci := 1) (q0 := 5) rfl rfl) (hP.sub (ws' := (wP cI cJ cZ q bg en sc wd ht oh bt co n)) [5, 6, 7, 8, 9, 10, 11, 12] rfl) hK hE rfl hl.1 rfl (Nat.le_of_ble_eq_true rfl) dG_turn_16 hcs (fun r hr => ?_)
    subst hr
    refine rb_eq (tgt := 43) hx hb dG_turn_19 (by decide) (fun c19 => ?_) (fun c19 => ?_)
    · subst hH
      exact thr hx hb hl0 hown hEX hg kG_57 kin_IllegalArgumentException at_IA (by decide +kernel) (is := 151) (text := "no such turn") (by decide) (hl.1.trans hml.symm) dG_turn_43 dG_turn_46 dG_turn_47 dG_turn_49 dG_turn_52 hno (Nat.lt_of_lt_of_le (by decide) hR.1) (Nat.le_trans (Nat.le_of_ble_eq_true rfl) hR.2) (Nat.le_refl _) (Nat.le_refl _) hlocks (by simp [cdTu, c8, c19])
    · obtain ⟨j, hj, ej⟩ := in_of c8 (by omega)
      obtain ⟨k, hk, ek⟩ := in_of c19 (by omega)
      have e1 : cN x = j := by rw [ej]; exact cN_n (by omega)
      have e2 : cN y = k := by rw [ek]; exact cN_n (by omega)
      have bj := hbi j
      have bk := hbi k
      have hsb : sB (bt j) k on < 1099511627776 := sB_lt (w := 40) on bj.2.2.2.2.2.2 (by omega)
      have hl : lv_has ls 5 [(0, .ref (qg 0)), (1, .int (nI j)), (2, .int (nI k)), (3, .int (bI on))] := by rw [ej, ek] at hl; exact hl
      refine lv_aload_n hx hb dG_turn_22 rfl (lv_at hl 0 rfl) ?_
      refine va_get (D := (dC, dI)) (ci := 0) (v := .ref (q 0)) (C := nG) (T := TG) (N := 11) hx hb hg inG hown hK hP 0 rfl rfl 2 (by decide) (hg _ kG_16) (fun _ h9 => h9) rfl dG_turn_23 ?_
      refine va_get (D := (dC, dI)) (ci := 1) (v := .ref (q 1)) (C := nP) (T := TP) (N := 9) hx hb hg inP hown hK hP 5 rfl rfl 0 (by decide) (hg _ kG_145) (fun _ h9 => h9) rfl dG_turn_26 ?_
      refine lv_iload_n hx hb dG_turn_29 rfl (lv_at hl 2 rfl) ?_
      refine ga_i (f := bg) hx hb hK hP 6 0 rfl rfl (by omega) (by decide) dG_turn_30 ?_
      refine lv_aload_n hx hb dG_turn_31 rfl (lv_at hl 0 rfl) ?_
      refine va_get (D := (dC, dI)) (ci := 0) (v := .ref (q 0)) (C := nG) (T := TG) (N := 11) hx hb hg inG hown hK hP 0 rfl rfl 2 (by decide) (hg _ kG_16) (fun _ h9 => h9) rfl dG_turn_32 ?_
      refine va_get (D := (dC, dI)) (ci := 1) (v := .ref (q 2)) (C := nP) (T := TP) (N := 9) hx hb hg inP hown hK hP 5 rfl rfl 1 (by decide) (hg _ kG_148) (fun _ h9 => h9) rfl dG_turn_35 ?_
      refine lv_iload_n hx hb dG_turn_38 rfl (lv_at hl 1 rfl) ?_
      refine ga_i (f := en) hx hb hK hP 7 0 rfl rfl (by omega) (by decide) dG_turn_39 ?_
      refine rn_icmp_eq (tgt := 53) hx hb dG_turn_40 (by decide) (by omega) (by omega) (fun c40 => ?_) (fun c40 => ?_)
      · refine lv_aload_n hx hb dG_turn_53 rfl (lv_at hl 0 rfl) ?_
        refine va_get (D := (dC, dI)) (ci := 0) (v := .ref (q 0)) (C := nG) (T := TG) (N := 11) hx hb hg inG hown hK hP 0 rfl rfl 2 (by decide) (hg _ kG_16) (fun _ h9 => h9) rfl dG_turn_54 ?_
        refine va_get (D := (dC, dI)) (ci := 1) (v := .ref (q 7)) (C := nP) (T := TP) (N := 9) hx hb hg inP hown hK hP 5 rfl rfl 6 (by decide) (hg _ kG_153) (fun _ h9 => h9) rfl dG_turn_57 ?_
        refine lv_iload_n hx hb dG_turn_60 rfl (lv_at hl 1 rfl) ?_
        refine lv_aload_n hx hb dG_turn_61 rfl (lv_at hl 0 rfl) ?_
        refine va_get (D := (dC, dI)) (ci := 0) (v := .ref (q 0)) (C := nG) (T := TG) (N := 11) hx hb hg inG hown hK hP 0 rfl rfl 2 (by decide) (hg _ kG_16) (fun _ h9 => h9) rfl dG_turn_62 ?_
        refine va_get (D := (dC, dI)) (ci := 1) (v := .ref (q 7)) (C := nP) (T := TP) (N := 9) hx hb hg inP hown hK hP 5 rfl rfl 6 (by decide) (hg _ kG_153) (fun _ h9 => h9) rfl dG_turn_65 ?_
        refine lv_iload_n hx hb dG_turn_68 rfl (lv_at hl 1 rfl) ?_
        refine ga_l (f := bt) hx hb hK hP 12 1 rfl rfl (by omega) (by decide) dG_turn_69 ?_
        refine lv_iload_n hx hb dG_turn_70 rfl (lv_at hl 2 rfl) ?_
        refine lv_iload_n hx hb dG_turn_71 rfl (lv_at hl 3 rfl) ?_
        refine cpS_l (As := [.long (lN (bt j)), .int (nI k), .int (bI on)]) (rest := [.int (nI j), .ref (q 7)]) (post := fun r : Int64 => r = lN (sB (bt j) k on)) ⟨hx, hb, hml, hown, hts⟩ (ct_G_withBit l dC dI cI cJ cZ (bt j) k on (by omega) (by omega)) (va_cwS 3 hts (gs kG_135 ks_G_withBit kin_G kc_G_withBit) rfl rfl rfl (by decide +kernel) ⟨Nat.le_trans (by decide) hR.1, Nat.le_trans (by decide) hR.2⟩) (hP.sub (ws' := []) [] rfl) hK hE rfl hl.1 rfl (Nat.le_of_ble_eq_true rfl) dG_turn_72 hcs (fun r hr => ?_)
        subst hr
        refine sa_l (f := bt) (v := sB (bt j) k on) hx hb hK hP hD hS 12 1 rfl rfl (by omega) (by decide) dG_turn_75 (fun H locs hP hD hS => ?_)
        have hP : va_P (dC, dI) vwCl (wG cI cJ cZ qg q ql qs qr lv mw mh mk pc mc kc ++ wP cI cJ cZ q bg en sc wd ht oh (va_up bt j (sB (bt j) k on)) co n ++ wL cI cJ cZ ql re sa fm ++ wS cI cJ cZ qs tr rp rn rs rk us gl ++ wR cI cJ cZ qr nu rl) H := hP
        have hD : va_D A (wG cI cJ cZ qg q ql qs qr lv mw mh mk pc mc kc ++ wP cI cJ cZ q bg en sc wd ht oh (va_up bt j (sB (bt j) k on)) co n ++ wL cI cJ cZ ql re sa fm ++ wS cI cJ cZ qs tr rp rn rs rk us gl ++ wR cI cJ cZ qr nu rl) := hD
        refine lv_aload_n hx hb dG_turn_76 rfl (lv_at hl 0 rfl) ?_
        refine va_get (D := (dC, dI)) (ci := 0) (v := .ref (q 0)) (C := nG) (T := TG) (N := 11) hx hb hg inG hown hK hP 0 rfl rfl 2 (by decide) (hg _ kG_16) (fun _ h9 => h9) rfl dG_turn_77 ?_
        refine lv_iload_n hx hb dG_turn_80 rfl (lv_at hl 2 rfl) ?_
        refine lv_iload_n hx hb dG_turn_81 rfl (lv_at hl 1 rfl) ?_
        refine cpV_i (b := (q 0)) (C := nP) (As := [.int (nI k), .int (nI j)]) (rest := []) (post := fun r : Int32 => r = bI (((va_up bt j (sB (bt j) k on)) k).testBit j)) ⟨hx, hb, hml, hown, hts⟩ (ct_P_isBarred l dC dI cI cJ cZ q bg en sc wd ht oh (va_up bt j (sB (bt j) k on)) co n k j (bP_bt hB hsb) (by omega) (by omega)) (cwV 2 hts (gv kG_156 ki_P_isBarred ksel_P_isBarred kin_P kc_P_isBarred) rfl rfl rfl (by decide +kernel) ⟨Nat.le_trans (by decide) hR.1, Nat.le_trans (by decide) hR.2⟩) (va_recv hK hP (ci := 1) (q0 := 5) rfl rfl) (hP.sub (ws' := (wP cI cJ cZ q bg en sc wd ht oh (va_up bt j (sB (bt j) k on)) co n)) [5, 6, 7, 8, 9, 10, 11, 12] rfl) hK hE rfl hl.1 rfl (Nat.le_of_ble_eq_true rfl) dG_turn_82 hcs (fun r hr => ?_)
        subst hr
        refine rb_eq (tgt := 92) hx hb dG_turn_85 (by decide) (fun c85 => ?_) (fun c85 => ?_)
        · refine rn_iconst hx hb 0 dG_turn_92 (by decide) ?_
          refine lv_istore (lv' := [(4, .int (nI 0)), (0, .ref (qg 0)), (1, .int (nI j)), (2, .int (nI k)), (3, .int (bI on))]) hx hb dG_turn_93 hl (by decide) rfl (fun ls hl => ?_)
          refine lv_iload_n hx hb dG_turn_95 rfl (lv_at hl 4 rfl) ?_
          refine rb_eq (tgt := 106) hx hb dG_turn_96 (by decide) (fun c96 => ?_) (fun c96 => ?_)
          · refine lv_iload hx hb dG_turn_106 (lv_at hl 0 rfl) ?_
            have hP9 : va_P (dC, dI) vwCl (wG cI cJ cZ qg q ql qs qr lv mw mh mk pc mc kc ++ wP cI cJ cZ q bg en sc wd ht oh (va_up bt (cN x) (sB (bt (cN x)) (cN y) on)) co n ++ wL cI cJ cZ ql re sa fm ++ wS cI cJ cZ qs tr rp rn rs rk us gl ++ wR cI cJ cZ qr nu rl) H := by rw [e1, e2]; exact hP
            have hD9 : va_D A (wG cI cJ cZ qg q ql qs qr lv mw mh mk pc mc kc ++ wP cI cJ cZ q bg en sc wd ht oh (va_up bt (cN x) (sB (bt (cN x)) (cN y) on)) co n ++ wL cI cJ cZ ql re sa fm ++ wS cI cJ cZ qs tr rp rn rs rk us gl ++ wR cI cJ cZ qr nu rl) := by rw [e1, e2]; exact hD
            refine W.widen (k := 1) (n := 6) (by omega) (by omega) ?_
            refine vx_ret ?_
            exact W.iret hx hb hr (fun t ht hW => ⟨⟨_, (), rfl, ⟨(by simp [cdTu, c8, c19, e1, e2, c40, c85, c96]), (by rw [e1, e2, c85, c96]; rfl)⟩, by rw [ht]; exact hP9, va_K.moved hW.alike hK, hD9⟩, hS.F ht⟩) hS.2.2 dG_turn_108
          · refine lv_iload hx hb dG_turn_99 (lv_at hl 0 rfl) ?_
            refine rn_iconst hx hb 1 dG_turn_101 (by decide) ?_
            refine rn_iadd hx hb dG_turn_102 ?_
            refine lv_goto (tgt := 108) hx hb dG_turn_103 (by decide) ?_
            have hP9 : va_P (dC, dI) vwCl (wG cI cJ cZ qg q ql qs qr lv mw mh mk pc mc kc ++ wP cI cJ cZ q bg en sc wd ht oh (va_up bt (cN x) (sB (bt (cN x)) (cN y) on)) co n ++ wL cI cJ cZ ql re sa fm ++ wS cI cJ cZ qs tr rp rn rs rk us gl ++ wR cI cJ cZ qr nu rl) H := by rw [e1, e2]; exact hP
            have hD9 : va_D A (wG cI cJ cZ qg q ql qs qr lv mw mh mk pc mc kc ++ wP cI cJ cZ q bg en sc wd ht oh (va_up bt (cN x) (sB (bt (cN x)) (cN y) on)) co n ++ wL cI cJ cZ ql re sa fm ++ wS cI cJ cZ qs tr rp rn rs rk us gl ++ wR cI cJ cZ qr nu rl) := by rw [e1, e2]; exact hD
            refine W.widen (k := 1) (n := 6) (by omega) (by omega) ?_
            refine vx_ret ?_
            exact W.iret hx hb hr (fun t ht hW => ⟨⟨_, (), rfl, ⟨(by simp [cdTu, c8, c19, e1, e2, c40, c85, c96]), (by rw [e1, e2, c85, c96]; rfl)⟩, by rw [ht]; exact hP9, va_K.moved hW.alike hK, hD9⟩, hS.F ht⟩) hS.2.2 dG_turn_108
        · refine rn_iconst hx hb 1 dG_turn_88 (by decide) ?_
          refine lv_goto (tgt := 93) hx hb dG_turn_89 (by decide) ?_
          refine lv_istore (lv' := [(4, .int (nI 1)), (0, .ref (qg 0)), (1, .int (nI j)), (2, .int (nI k)), (3, .int (bI on))]) hx hb dG_turn_93 hl (by decide) rfl (fun ls hl => ?_)
          refine lv_iload_n hx hb dG_turn_95 rfl (lv_at hl 4 rfl) ?_
          refine rb_eq (tgt := 106) hx hb dG_turn_96 (by decide) (fun c96 => ?_) (fun c96 => ?_)
          · refine lv_iload hx hb dG_turn_106 (lv_at hl 0 rfl) ?_
            have hP9 : va_P (dC, dI) vwCl (wG cI cJ cZ qg q ql qs qr lv mw mh mk pc mc kc ++ wP cI cJ cZ q bg en sc wd ht oh (va_up bt (cN x) (sB (bt (cN x)) (cN y) on)) co n ++ wL cI cJ cZ ql re sa fm ++ wS cI cJ cZ qs tr rp rn rs rk us gl ++ wR cI cJ cZ qr nu rl) H := by rw [e1, e2]; exact hP
            have hD9 : va_D A (wG cI cJ cZ qg q ql qs qr lv mw mh mk pc mc kc ++ wP cI cJ cZ q bg en sc wd ht oh (va_up bt (cN x) (sB (bt (cN x)) (cN y) on)) co n ++ wL cI cJ cZ ql re sa fm ++ wS cI cJ cZ qs tr rp rn rs rk us gl ++ wR cI cJ cZ qr nu rl) := by rw [e1, e2]; exact hD
            refine W.widen (k := 1) (n := 6) (by omega) (by omega) ?_
            refine vx_ret ?_
            exact W.iret hx hb hr (fun t ht hW => ⟨⟨_, (), rfl, ⟨(by simp [cdTu, c8, c19, e1, e2, c40, c85, c96]), (by rw [e1, e2, c85, c96]; rfl)⟩, by rw [ht]; exact hP9, va_K.moved hW.alike hK, hD9⟩, hS.F ht⟩) hS.2.2 dG_turn_108
          · refine lv_iload hx hb dG_turn_99 (lv_at hl 0 rfl) ?_
            refine rn_iconst hx hb 1 dG_turn_101 (by decide) ?_
            refine rn_iadd hx hb dG_turn_102 ?_
            refine lv_goto (tgt := 108) hx hb dG_turn_103 (by decide) ?_
            have hP9 : va_P (dC, dI) vwCl (wG cI cJ cZ qg q ql qs qr lv mw mh mk pc mc kc ++ wP cI cJ cZ q bg en sc wd ht oh (va_up bt (cN x) (sB (bt (cN x)) (cN y) on)) co n ++ wL cI cJ cZ ql re sa fm ++ wS cI cJ cZ qs tr rp rn rs rk us gl ++ wR cI cJ cZ qr nu rl) H := by rw [e1, e2]; exact hP
            have hD9 : va_D A (wG cI cJ cZ qg q ql qs qr lv mw mh mk pc mc kc ++ wP cI cJ cZ q bg en sc wd ht oh (va_up bt (cN x) (sB (bt (cN x)) (cN y) on)) co n ++ wL cI cJ cZ ql re sa fm ++ wS cI cJ cZ qs tr rp rn rs rk us gl ++ wR cI cJ cZ qr nu rl) := by rw [e1, e2]; exact hD
            refine W.widen (k := 1) (n := 6) (by omega) (by omega) ?_
            refine vx_ret ?_
            exact W.iret hx hb hr (fun t ht hW => ⟨⟨_, (), rfl, ⟨(by simp [cdTu, c8, c19, e1, e2, c40, c85, c96]), (by rw [e1, e2, c85, c96]; rfl)⟩, by rw [ht]; exact hP9, va_K.moved hW.alike hK, hD9⟩, hS.F ht⟩) hS.2.2 dG_turn_108
      · subst hH
        exact thr hx hb hl0 hown hEX hg kG_57 kin_IllegalArgumentException at_IA (by decide +kernel) (is := 151) (text := "no such turn") (by decide) (hl.1.trans hml.symm) dG_turn_43 dG_turn_46 dG_turn_47 dG_turn_49 dG_turn_52 hno (Nat.lt_of_lt_of_le (by decide) hR.1) (Nat.le_trans (Nat.le_of_ble_eq_true rfl) hR.2) (Nat.le_refl _) (Nat.le_refl _) hlocks (by simp [cdTu, c8, c19, e1, e2, c40])

def cdPi (lv : Nat → Nat) (pc n : Nat) (x y : Int32) (ln sp : Int64) : Nat := if inB x pc = true ∧ inB y pc = true ∧ ¬ x = y ∧ lv (cN x) = lv (cN y) ∧ wiB ln (lN 1) (lN 10000000) = true ∧ wiB sp (lN 0) (lN 10000) = true then (if sp = lN 0 then 2 else if n < 40 then 0 else 3) else 1

set_option maxHeartbeats 4000000 in
set_option maxRecDepth 100000 in
theorem ct_G_piece (l : Launch) (hl0 : l.stackTraces = false) (dC : Nat → ClassId) (dI : Nat → Nat → Nat) (cI cJ cZ : ClassId) (qg q ql qs qr : Nat → Nat) (lv mw mh mk : Nat → Nat) (pc mc kc : Nat) (bg en sc wd ht oh bt : Nat → Nat) (co n : Nat) (re : Nat → Nat) (sa fm : Nat) (tr rp rn rs : Nat → Nat) (rk us gl : Nat) (nu : Nat → Nat) (rl : Nat) (x y : Int32) (ln sp : Int64) (sz : Nat) (hG : bGp lv mw mh mk pc mc kc) (hB : bP bg en sc wd ht oh bt co n) : vx_Met l yG_piece wsG_piece ({ frames := 6, cells := 1, slots := 6, locals := 120 }) (PcX (dC, dI) (wG cI cJ cZ qg q ql qs qr lv mw mh mk pc mc kc ++ wP cI cJ cZ q bg en sc wd ht oh bt co n ++ wL cI cJ cZ ql re sa fm ++ wS cI cJ cZ qs tr rp rn rs rk us gl ++ wR cI cJ cZ qr nu rl) (tyE cI cJ cZ) sz [.ref (qg 0), .int x, .int y, .long ln, .long sp]) (va_Qi (fun r (_ : Unit) => cdPi lv pc n x y ln sp = 0 ∧ r = nI n) (QwB (dC, dI) (wG cI cJ cZ qg q ql qs qr lv mw mh mk pc mc kc ++ wP cI cJ cZ q (va_up bg n (cN x)) (va_up en n (cN y)) (va_up sc n ((cLn ln + cLn sp - 1) / cLn sp)) (va_up wd n 2000) (va_up ht n 3000) (va_up oh n 16777215) bt co (n + 1) ++ wL cI cJ cZ ql re sa fm ++ wS cI cJ cZ qs tr rp rn rs rk us gl ++ wR cI cJ cZ qr nu rl) (tyE cI cJ cZ) (va_A (wG cI cJ cZ qg q ql qs qr lv mw mh mk pc mc kc ++ wP cI cJ cZ q bg en sc wd ht oh bt co n ++ wL cI cJ cZ ql re sa fm ++ wS cI cJ cZ qs tr rp rn rs rk us gl ++ wR cI cJ cZ qr nu rl) sz)) (va_A (wG cI cJ cZ qg q ql qs qr lv mw mh mk pc mc kc ++ wP cI cJ cZ q bg en sc wd ht oh bt co n ++ wL cI cJ cZ ql re sa fm ++ wS cI cJ cZ qs tr rp rn rs rk us gl ++ wR cI cJ cZ qr nu rl) sz)) (XCw (cdPi lv pc n x y ln sp) [(1, xIA), (2, xAE), (3, xUO)]) 1 6 (va_A (wG cI cJ cZ qg q ql qs qr lv mw mh mk pc mc kc ++ wP cI cJ cZ q bg en sc wd ht oh bt co n ++ wL cI cJ cZ ql re sa fm ++ wS cI cJ cZ qs tr rp rn rs rk us gl ++ wR cI cJ cZ qr nu rl) sz) := by
  refine vx_ofW (cc := cG_piece) (maxL := 7) (ret := (some .int)) (by decide) rfl ?_
  intro p e s m args below meth c s₁ B hml hno hv
  obtain ⟨rfl, hsz, hP, hK, hD0, hE, hEX⟩ := hv
  have hx := B.exec
  have hb := B.bytes
  have hr := B.returns
  have hts := atoms_spec (ws := wsG_piece) B.pre
  have hg : ∀ w ∈ gw, w.before _ s = true := fun w h => hts w (List.mem_cons_of_mem _ h)
  have hown : s.vm.findClass nG = some m.cls := findClass_of_methodNamed B.named
  have hlocks := B.notSynchronized
  have hR : 6 ≤ (headSpec wsG_piece ({ frames := 6, cells := 1, slots := 6, locals := 120 })).room.frames ∧ 120 ≤ (headSpec wsG_piece ({ frames := 6, cells := 1, slots := 6, locals := 120 })).room.locals := ⟨Nat.le_refl _, Nat.le_refl _⟩
  have hcs : 0 ≤ (headSpec wsG_piece ({ frames := 6, cells := 1, slots := 6, locals := 120 })).room.cells ∧ 0 ≤ (headSpec wsG_piece ({ frames := 6, cells := 1, slots := 6, locals := 120 })).room.slots := ⟨Nat.zero_le _, Nat.zero_le _⟩
  subst hsz
  have hD := hD0.self (sz := s.heap.size)
  generalize hAe : va_A (wG cI cJ cZ qg q ql qs qr lv mw mh mk pc mc kc ++ wP cI cJ cZ q bg en sc wd ht oh bt co n ++ wL cI cJ cZ ql re sa fm ++ wS cI cJ cZ qs tr rp rn rs rk us gl ++ wR cI cJ cZ qr nu rl) s.heap.size = A at hD ⊢
  have hA : ∀ q : Nat, s.heap.size ≤ q → A q := fun q h => by rw [← hAe]; exact Or.inr h
  obtain ⟨H, hH⟩ : ∃ H, H = s.heap := ⟨_, rfl⟩
  have hS : va_S A s.heap H [] := by rw [hH]; exact va_S.rf
  rw [← hH] at hP ⊢
  have hpc := hG.1
  have hmc := hG.2.1
  have hkc := hG.2.2.1
  have hgi := hG.2.2.2
  have hbi := hB.2.2
  have hn := hB.1
  have hco := hB.2.1
  have hl := lv_entry ([.ref (qg 0), .int x, .int y, .long ln, .long sp]) (n := 7) (Nat.le_of_ble_eq_true rfl)
  rw [lg_entry_eq]
  generalize (lg_sl ([.ref (qg 0), .int x, .int y, .long ln, .long sp]) ++ List.replicate (7 - (lg_sl ([.ref (qg 0), .int x, .int y, .long ln, .long sp])).length) Slot.unset).toArray = ls at hl ⊢
  have hl : lv_has ls 7 [(0, .ref (qg 0)), (1, .int x), (2, .int y), (3, .long ln), (5, .long sp)] := hl
  refine lv_aload_n hx hb dG_piece_0 rfl (lv_at hl 0 rfl) ?_
  refine lv_iload_n hx hb dG_piece_1 rfl (lv_at hl 1 rfl) ?_
  refine cpV_i (b := (qg 0)) (C := nG) (As := [.int x]) (rest := []) (post := fun r : Int32 => r = bI (inB x pc)) ⟨hx, hb, hml, hown, hts⟩ (ct_G_hasPlace l dC dI cI cJ cZ qg q ql qs qr lv mw mh mk pc mc kc x (hG)) (cwV 1 hts (gv kG_73 ki_G_hasPlace ksel_G_hasPlace kin_G kc_G_hasPlace) rfl rfl rfl (by decide +kernel) ⟨Nat.le_trans (by decide) hR.1, Nat.le_trans (by decide) hR.2⟩) (va_recv hK hP (ci := 0) (q0 := 0) rfl rfl) (hP.sub (ws' := (wG cI cJ cZ qg q ql qs qr lv mw mh mk pc mc kc)) [0, 1, 2, 3, 4] rfl) hK hE rfl hl.1 rfl (Nat.le_of_ble_eq_true rfl) dG_piece_2 hcs (fun r hr => ?_)
  subst hr
  refine rb_eq (tgt := 36) hx hb dG_piece_5 (by decide) (fun c5 => ?_) (fun c5 => ?_)
  · subst hH
    exact thr hx hb hl0 hown hEX hg kG_57 kin_IllegalArgumentException at_IA (by decide +kernel) (is := 77) (text := "not two places of one level") (by decide) (hl.1.trans hml.symm) dG_piece_36 dG_piece_39 dG_piece_40 dG_piece_42 dG_piece_45 hno (Nat.lt_of_lt_of_le (by decide) hR.1) (Nat.le_trans (Nat.le_of_ble_eq_true rfl) hR.2) (Nat.le_refl _) (Nat.le_refl _) hlocks (by simp [cdPi, c5])
  · refine lv_aload_n hx hb dG_piece_8 rfl (lv_at hl 0 rfl) ?_
    refine lv_iload_n hx hb dG_piece_9 rfl (lv_at hl 2 rfl) ?_
    refine cpV_i (b := (qg 0)) (C := nG) (As := [.int y]) (rest := []) (post := fun r : Int32 => r = bI (inB y pc)) ⟨hx, hb, hml, hown, hts⟩ (ct_G_hasPlace l dC dI cI cJ cZ qg q ql qs qr lv mw mh mk pc mc kc y (hG)) (cwV 1 hts (gv kG_73 ki_G_hasPlace ksel_G_hasPlace kin_G kc_G_hasPlace) rfl rfl rfl (by decide +kernel) ⟨Nat.le_trans (by decide) hR.1, Nat.le_trans (by decide) hR.2⟩) (va_recv hK hP (ci := 0) (q0 := 0) rfl rfl) (hP.sub (ws' := (wG cI cJ cZ qg q ql qs qr lv mw mh mk pc mc kc)) [0, 1, 2, 3, 4] rfl) hK hE rfl hl.1 rfl (Nat.le_of_ble_eq_true rfl) dG_piece_10 hcs (fun r hr => ?_)
    subst hr
    refine rb_eq (tgt := 36) hx hb dG_piece_13 (by decide) (fun c13 => ?_) (fun c13 => ?_)
    · subst hH
      exact thr hx hb hl0 hown hEX hg kG_57 kin_IllegalArgumentException at_IA (by decide +kernel) (is := 77) (text := "not two places of one level") (by decide) (hl.1.trans hml.symm) dG_piece_36 dG_piece_39 dG_piece_40 dG_piece_42 dG_piece_45 hno (Nat.lt_of_lt_of_le (by decide) hR.1) (Nat.le_trans (Nat.le_of_ble_eq_true rfl) hR.2) (Nat.le_refl _) (Nat.le_refl _) hlocks (by simp [cdPi, c5, c13])
    · refine lv_iload_n hx hb dG_piece_16 rfl (lv_at hl 1 rfl) ?_
      refine lv_iload_n hx hb dG_piece_17 rfl (lv_at hl 2 rfl) ?_
      refine lv_icmp_eq (tgt := 36) hx hb dG_piece_18 (by decide) (fun c18 => ?_) (fun c18 => ?_)
      · subst hH
        exact thr hx hb hl0 hown hEX hg kG_57 kin_IllegalArgumentException at_IA (by decide +kernel) (is := 77) (text := "not two places of one level") (by decide) (hl.1.trans hml.symm) dG_piece_36 dG_piece_39 dG_piece_40 dG_piece_42 dG_piece_45 hno (Nat.lt_of_lt_of_le (by decide) hR.1) (Nat.le_trans (Nat.le_of_ble_eq_true rfl) hR.2) (Nat.le_refl _) (Nat.le_refl _) hlocks (by simp [cdPi, c5, c13, c18])
      · obtain ⟨j, hj, ej⟩ := in_of c5 (by omega)
        obtain ⟨k, hk, ek⟩ := in_of c13 (by omega)
        have e1 : cN x = j := by rw [ej]; exact cN_n (by omega)
        have e2 : cN y = k := by rw [ek]; exact cN_n (by omega)
        have gj := hgi j
        have gk := hgi k
        have hl : lv_has ls 7 [(0, .ref (qg 0)), (1, .int (nI j)), (2, .int (nI k)), (3, .long ln), (5, .long sp)] := by rw [ej, ek] at hl; exact hl
        refine lv_aload_n hx hb dG_piece_21 rfl (lv_at hl 0 rfl) ?_
        refine va_get (D := (dC, dI)) (ci := 0) (v := .ref (qg 1)) (C := nG) (T := TG) (N := 11) hx hb hg inG hown hK hP 0 rfl rfl 0 (by decide) (hg _ kG_9) (fun _ h9 => h9) rfl dG_piece_22 ?_
        refine lv_iload_n hx hb dG_piece_25 rfl (lv_at hl 1 rfl) ?_
        refine ga_i (f := lv) hx hb hK hP 1 0 rfl rfl (by omega) (by decide) dG_piece_26 ?_
        refine lv_aload_n hx hb dG_piece_27 rfl (lv_at hl 0 rfl) ?_
        refine va_get (D := (dC, dI)) (ci := 0) (v := .ref (qg 1)) (C := nG) (T := TG) (N := 11) hx hb hg inG hown hK hP 0 rfl rfl 0 (by decide) (hg _ kG_9) (fun _ h9 => h9) rfl dG_piece_28 ?_
        refine lv_iload_n hx hb dG_piece_31 rfl (lv_at hl 2 rfl) ?_
        refine ga_i (f := lv) hx hb hK hP 1 0 rfl rfl (by omega) (by decide) dG_piece_32 ?_
        refine rn_icmp_eq (tgt := 46) hx hb dG_piece_33 (by decide) (by omega) (by omega) (fun c33 => ?_) (fun c33 => ?_)
        · refine lv_lload_n hx hb dG_piece_46 rfl (lv_at hl 3 rfl) ?_
          refine rn_lconst hx hb 1 dG_piece_47 rfl ?_
          refine lv_ldc2 (v := 10000000) hx hb hown (hg _ kG_79) dG_piece_48 ?_
          refine tp_l (y := lN 10000000) rfl ?_
          refine cpS_i (As := [.long ln, .long (lN 1), .long (lN 10000000)]) (rest := []) (post := fun r : Int32 => r = bI (wiB ln (lN 1) (lN 10000000))) ⟨hx, hb, hml, hown, hts⟩ (ct_G_within l dC dI cI cJ cZ ln (lN 1) (lN 10000000) ) (va_cwS 3 hts (gs kG_53 ks_G_within kin_G kc_G_within) rfl rfl rfl (by decide +kernel) ⟨Nat.le_trans (by decide) hR.1, Nat.le_trans (by decide) hR.2⟩) (hP.sub (ws' := []) [] rfl) hK hE rfl hl.1 rfl (Nat.le_of_ble_eq_true rfl) dG_piece_51 hcs (fun r hr => ?_)
          subst hr
          refine rb_eq (tgt := 69) hx hb dG_piece_54 (by decide) (fun c54 => ?_) (fun c54 => ?_)
          · subst hH
            exact thr hx hb hl0 hown hEX hg kG_57 kin_IllegalArgumentException at_IA (by decide +kernel) (is := 83) (text := "length or speed out of range") (by decide) (hl.1.trans hml.symm) dG_piece_69 dG_piece_72 dG_piece_73 dG_piece_75 dG_piece_78 hno (Nat.lt_of_lt_of_le (by decide) hR.1) (Nat.le_trans (Nat.le_of_ble_eq_true rfl) hR.2) (Nat.le_refl _) (Nat.le_refl _) hlocks (by simp [cdPi, c5, c13, c18, e1, e2, c33, c54])
          · refine lv_lload hx hb dG_piece_57 (lv_at hl 4 rfl) ?_
            refine rn_lconst hx hb 0 dG_piece_59 rfl ?_
            refine lv_ldc2 (v := 10000) hx hb hown (hg _ kG_81) dG_piece_60 ?_
            refine tp_l (y := lN 10000) rfl ?_
            refine cpS_i (As := [.long sp, .long (lN 0), .long (lN 10000)]) (rest := []) (post := fun r : Int32 => r = bI (wiB sp (lN 0) (lN 10000))) ⟨hx, hb, hml, hown, hts⟩ (ct_G_within l dC dI cI cJ cZ sp (lN 0) (lN 10000) ) (va_cwS 3 hts (gs kG_53 ks_G_within kin_G kc_G_within) rfl rfl rfl (by decide +kernel) ⟨Nat.le_trans (by decide) hR.1, Nat.le_trans (by decide) hR.2⟩) (hP.sub (ws' := []) [] rfl) hK hE rfl hl.1 rfl (Nat.le_of_ble_eq_true rfl) dG_piece_63 hcs (fun r hr => ?_)
            subst hr
            refine rb_ne (tgt := 79) hx hb dG_piece_66 (by decide) (fun c66 => ?_) (fun c66 => ?_)
            · refine lv_lload hx hb dG_piece_79 (lv_at hl 4 rfl) ?_
              refine rn_lconst hx hb 0 dG_piece_81 rfl ?_
              refine rl_cmp_ne (tgt := 96) hx hb dG_piece_82 dG_piece_83 (by decide) (fun c83 => ?_) (fun c83 => ?_)
              · refine lv_aload_n hx hb dG_piece_96 rfl (lv_at hl 0 rfl) ?_
                refine va_get (D := (dC, dI)) (ci := 0) (v := .ref (q 0)) (C := nG) (T := TG) (N := 11) hx hb hg inG hown hK hP 0 rfl rfl 2 (by decide) (hg _ kG_16) (fun _ h9 => h9) rfl dG_piece_97 ?_
                refine va_get (D := (dC, dI)) (ci := 1) (v := .int (nI n)) (C := nP) (T := TP) (N := 9) hx hb hg inP hown hK hP 5 rfl rfl 8 (by decide) (hg _ kG_90) (fun _ h9 => h9) rfl dG_piece_100 ?_
                refine rn_bipush hx hb 40 dG_piece_103 (by decide) ?_
                refine rn_icmp_lt (tgt := 118) hx hb dG_piece_105 (by decide) (by omega) (by omega) (fun c105 => ?_) (fun c105 => ?_)
                · obtain ⟨a, ha1, ha2, ea⟩ := wl_of c54 (by decide) (by decide)
                  obtain ⟨b, hb1, hb2, eb⟩ := wl_of c66 (by decide) (by decide)
                  have hb0 : b ≠ 0 := fun q => c83 (by rw [eb, q])
                  have e3 : cLn ln = a := by rw [ea]; exact cL_n (by omega)
                  have e4 : cLn sp = b := by rw [eb]; exact cL_n (by omega)
                  have hl : lv_has ls 7 [(0, .ref (qg 0)), (1, .int (nI j)), (2, .int (nI k)), (3, .long (lN a)), (5, .long (lN b))] := by rw [ea, eb] at hl; exact hl
                  refine lv_aload_n hx hb dG_piece_118 rfl (lv_at hl 0 rfl) ?_
                  refine va_get (D := (dC, dI)) (ci := 0) (v := .ref (q 0)) (C := nG) (T := TG) (N := 11) hx hb hg inG hown hK hP 0 rfl rfl 2 (by decide) (hg _ kG_16) (fun _ h9 => h9) rfl dG_piece_119 ?_
                  refine lv_iload_n hx hb dG_piece_122 rfl (lv_at hl 1 rfl) ?_
                  refine lv_iload_n hx hb dG_piece_123 rfl (lv_at hl 2 rfl) ?_
                  refine lv_lload_n hx hb dG_piece_124 rfl (lv_at hl 3 rfl) ?_
                  refine lv_lload hx hb dG_piece_125 (lv_at hl 4 rfl) ?_
                  refine rn_ladd hx hb dG_piece_127 ?_
                  refine rn_lconst hx hb 1 dG_piece_128 rfl ?_
                  refine rn_lsub hx hb dG_piece_129 (by omega) ?_
                  refine lv_lload hx hb dG_piece_130 (lv_at hl 4 rfl) ?_
                  refine rn_ldiv hx hb dG_piece_132 (by omega) (by omega) (by omega) ?_
                  refine kwV_i (D := (dC, dI)) (r0 := nI n) (b := (q 0)) (C := nP) (As := [.int (nI j), .int (nI k), .long (lN (((a + b) - 1) / b))]) (rest := []) (wc := (wP cI cJ cZ q bg en sc wd ht oh bt co n)) (wr := (wG cI cJ cZ qg q ql qs qr lv mw mh mk pc mc kc ++ wL cI cJ cZ ql re sa fm ++ wS cI cJ cZ qs tr rp rn rs rk us gl ++ wR cI cJ cZ qr nu rl)) (w1 := (wP cI cJ cZ q (va_up bg n j) (va_up en n k) (va_up sc n (((a + b) - 1) / b)) (va_up wd n 2000) (va_up ht n 3000) (va_up oh n 16777215) bt co (n + 1))) (wn := (wG cI cJ cZ qg q ql qs qr lv mw mh mk pc mc kc ++ wP cI cJ cZ q (va_up bg n j) (va_up en n k) (va_up sc n (((a + b) - 1) / b)) (va_up wd n 2000) (va_up ht n 3000) (va_up oh n 16777215) bt co (n + 1) ++ wL cI cJ cZ ql re sa fm ++ wS cI cJ cZ qs tr rp rn rs rk us gl ++ wR cI cJ cZ qr nu rl)) ⟨hx, hb, hml, hown, hts⟩ (ct_P_add l dC dI cI cJ cZ q bg en sc wd ht oh bt co n j k (((a + b) - 1) / b) H.size (hB) (by omega)) (cwV 3 hts (gv kG_95 ki_P_add ksel_P_add kin_P kc_P_add) rfl rfl rfl (by decide +kernel) ⟨Nat.le_trans (by decide) hR.1, Nat.le_trans (by decide) hR.2⟩) (va_recv hK hP (ci := 1) (q0 := 5) rfl rfl) hP hD hK hE hS hA [5, 6, 7, 8, 9, 10, 11, 12] [0, 1, 2, 3, 4, 13, 14, 15, 16, 17, 18, 19, 20, 21] [0, 1, 2, 3, 4, 14, 15, 16, 17, 18, 19, 20, 21, 5, 6, 7, 8, 9, 10, 11, 12, 13] rfl (by decide) rfl (by decide) (by decide) rfl (by decide) rfl hl.1 rfl (Nat.le_of_ble_eq_true rfl) dG_piece_133 hcs (fun H locs hP hD hS => ?_)
                  have hP9 : va_P (dC, dI) vwCl (wG cI cJ cZ qg q ql qs qr lv mw mh mk pc mc kc ++ wP cI cJ cZ q (va_up bg n (cN x)) (va_up en n (cN y)) (va_up sc n ((cLn ln + cLn sp - 1) / cLn sp)) (va_up wd n 2000) (va_up ht n 3000) (va_up oh n 16777215) bt co (n + 1) ++ wL cI cJ cZ ql re sa fm ++ wS cI cJ cZ qs tr rp rn rs rk us gl ++ wR cI cJ cZ qr nu rl) H := by rw [e1, e2, e3, e4]; exact hP
                  have hD9 : va_D A (wG cI cJ cZ qg q ql qs qr lv mw mh mk pc mc kc ++ wP cI cJ cZ q (va_up bg n (cN x)) (va_up en n (cN y)) (va_up sc n ((cLn ln + cLn sp - 1) / cLn sp)) (va_up wd n 2000) (va_up ht n 3000) (va_up oh n 16777215) bt co (n + 1) ++ wL cI cJ cZ ql re sa fm ++ wS cI cJ cZ qs tr rp rn rs rk us gl ++ wR cI cJ cZ qr nu rl) := by rw [e1, e2, e3, e4]; exact hD
                  refine W.widen (k := 1) (n := 6) (by omega) (by omega) ?_
                  refine vx_ret ?_
                  exact W.iret hx hb hr (fun t ht hW => ⟨⟨_, (), rfl, ⟨(by simp [cdPi, c5, c13, c18, e1, e2, c33, c54, c66, c83, c105]), (rfl)⟩, by rw [ht]; exact hP9, va_K.moved hW.alike hK, hD9⟩, hS.F ht⟩) hS.2.2 dG_piece_136
                · subst hH
                  exact thr hx hb hl0 hown hEX hg kG_68 kin_UnsupportedOperationException at_UO (by decide +kernel) (is := 93) (text := "no more pieces") (by decide) (hl.1.trans hml.symm) dG_piece_108 dG_piece_111 dG_piece_112 dG_piece_114 dG_piece_117 hno (Nat.lt_of_lt_of_le (by decide) hR.1) (Nat.le_trans (Nat.le_of_ble_eq_true rfl) hR.2) (Nat.le_refl _) (Nat.le_refl _) hlocks (by simp [cdPi, c5, c13, c18, e1, e2, c33, c54, c66, c83, c105])
              · subst hH
                exact thr hx hb hl0 hown hEX hg kG_85 kin_ArithmeticException at_AE (by decide +kernel) (is := 87) (text := "/ by zero") (by decide) (hl.1.trans hml.symm) dG_piece_86 dG_piece_89 dG_piece_90 dG_piece_92 dG_piece_95 hno (Nat.lt_of_lt_of_le (by decide) hR.1) (Nat.le_trans (Nat.le_of_ble_eq_true rfl) hR.2) (Nat.le_refl _) (Nat.le_refl _) hlocks (by rw [show cdPi lv pc n x y ln sp = 2 from by rw [cdPi, if_pos ⟨c5, c13, c18, (by rw [e1, e2]; exact c33), c54, c66⟩, if_pos c83]]; simp)
            · subst hH
              exact thr hx hb hl0 hown hEX hg kG_57 kin_IllegalArgumentException at_IA (by decide +kernel) (is := 83) (text := "length or speed out of range") (by decide) (hl.1.trans hml.symm) dG_piece_69 dG_piece_72 dG_piece_73 dG_piece_75 dG_piece_78 hno (Nat.lt_of_lt_of_le (by decide) hR.1) (Nat.le_trans (Nat.le_of_ble_eq_true rfl) hR.2) (Nat.le_refl _) (Nat.le_refl _) hlocks (by simp [cdPi, c5, c13, c18, e1, e2, c33, c54, c66])
        · subst hH
          exact thr hx hb hl0 hown hEX hg kG_57 kin_IllegalArgumentException at_IA (by decide +kernel) (is := 77) (text := "not two places of one level") (by decide) (hl.1.trans hml.symm) dG_piece_36 dG_piece_39 dG_piece_40 dG_piece_42 dG_piece_45 hno (Nat.lt_of_lt_of_le (by decide) hR.1) (Nat.le_trans (Nat.le_of_ble_eq_true rfl) hR.2) (Nat.le_refl _) (Nat.le_refl _) hlocks (by simp [cdPi, c5, c13, c18, e1, e2, c33])

def cdLf (lv : Nat → Nat) (pc n : Nat) (x y : Int32) (se : Int64) : Nat := if inB x pc = true ∧ inB y pc = true ∧ ¬ lv (cN x) = lv (cN y) ∧ wiB se (lN 1) (lN 10000) = true then (if n ≤ 38 then 0 else 2) else 1

set_option maxHeartbeats 4000000 in
set_option maxRecDepth 100000 in
theorem ct_G_lift (l : Launch) (hl0 : l.stackTraces = false) (dC : Nat → ClassId) (dI : Nat → Nat → Nat) (cI cJ cZ : ClassId) (qg q ql qs qr : Nat → Nat) (lv mw mh mk : Nat → Nat) (pc mc kc : Nat) (bg en sc wd ht oh bt : Nat → Nat) (co n : Nat) (re : Nat → Nat) (sa fm : Nat) (tr rp rn rs : Nat → Nat) (rk us gl : Nat) (nu : Nat → Nat) (rl : Nat) (x y : Int32) (se : Int64) (sz : Nat) (hG : bGp lv mw mh mk pc mc kc) (hB : bP bg en sc wd ht oh bt co n) : vx_Met l yG_lift wsG_lift ({ frames := 6, cells := 1, slots := 6, locals := 120 }) (PcX (dC, dI) (wG cI cJ cZ qg q ql qs qr lv mw mh mk pc mc kc ++ wP cI cJ cZ q bg en sc wd ht oh bt co n ++ wL cI cJ cZ ql re sa fm ++ wS cI cJ cZ qs tr rp rn rs rk us gl ++ wR cI cJ cZ qr nu rl) (tyE cI cJ cZ) sz [.ref (qg 0), .int x, .int y, .long se]) (va_Qi (fun r (_ : Unit) => cdLf lv pc n x y se = 0 ∧ r = nI n) (QwB (dC, dI) (wG cI cJ cZ qg q ql qs qr lv mw mh mk pc mc kc ++ wP cI cJ cZ q (va_up (va_up bg n (cN x)) (n + 1) (cN y)) (va_up (va_up en n (cN y)) (n + 1) (cN x)) (va_up (va_up sc n (cLn se)) (n + 1) (cLn se)) (va_up (va_up wd n 2000) (n + 1) 2000) (va_up (va_up ht n 3000) (n + 1) 3000) (va_up (va_up oh n 16777215) (n + 1) 16777215) bt co (n + 1 + 1) ++ wL cI cJ cZ ql re sa fm ++ wS cI cJ cZ qs tr rp rn rs rk us gl ++ wR cI cJ cZ qr nu rl) (tyE cI cJ cZ) (va_A (wG cI cJ cZ qg q ql qs qr lv mw mh mk pc mc kc ++ wP cI cJ cZ q bg en sc wd ht oh bt co n ++ wL cI cJ cZ ql re sa fm ++ wS cI cJ cZ qs tr rp rn rs rk us gl ++ wR cI cJ cZ qr nu rl) sz)) (va_A (wG cI cJ cZ qg q ql qs qr lv mw mh mk pc mc kc ++ wP cI cJ cZ q bg en sc wd ht oh bt co n ++ wL cI cJ cZ ql re sa fm ++ wS cI cJ cZ qs tr rp rn rs rk us gl ++ wR cI cJ cZ qr nu rl) sz)) (XCw (cdLf lv pc n x y se) [(1, xIA), (2, xUO)]) 1 6 (va_A (wG cI cJ cZ qg q ql qs qr lv mw mh mk pc mc kc ++ wP cI cJ cZ q bg en sc wd ht oh bt co n ++ wL cI cJ cZ ql re sa fm ++ wS cI cJ cZ qs tr rp rn rs rk us gl ++ wR cI cJ cZ qr nu rl) sz) := by
  refine vx_ofW (cc := cG_lift) (maxL := 6) (ret := (some .int)) (by decide) rfl ?_
  intro p e s m args below meth c s₁ B hml hno hv
  obtain ⟨rfl, hsz, hP, hK, hD0, hE, hEX⟩ := hv
  have hx := B.exec
  have hb := B.bytes
  have hr := B.returns
  have hts := atoms_spec (ws := wsG_lift) B.pre
  have hg : ∀ w ∈ gw, w.before _ s = true := fun w h => hts w (List.mem_cons_of_mem _ h)
  have hown : s.vm.findClass nG = some m.cls := findClass_of_methodNamed B.named
  have hlocks := B.notSynchronized
  have hR : 6 ≤ (headSpec wsG_lift ({ frames := 6, cells := 1, slots := 6, locals := 120 })).room.frames ∧ 120 ≤ (headSpec wsG_lift ({ frames := 6, cells := 1, slots := 6, locals := 120 })).room.locals := ⟨Nat.le_refl _, Nat.le_refl _⟩
  have hcs : 0 ≤ (headSpec wsG_lift ({ frames := 6, cells := 1, slots := 6, locals := 120 })).room.cells ∧ 0 ≤ (headSpec wsG_lift ({ frames := 6, cells := 1, slots := 6, locals := 120 })).room.slots := ⟨Nat.zero_le _, Nat.zero_le _⟩
  subst hsz
  have hD := hD0.self (sz := s.heap.size)
  generalize hAe : va_A (wG cI cJ cZ qg q ql qs qr lv mw mh mk pc mc kc ++ wP cI cJ cZ q bg en sc wd ht oh bt co n ++ wL cI cJ cZ ql re sa fm ++ wS cI cJ cZ qs tr rp rn rs rk us gl ++ wR cI cJ cZ qr nu rl) s.heap.size = A at hD ⊢
  have hA : ∀ q : Nat, s.heap.size ≤ q → A q := fun q h => by rw [← hAe]; exact Or.inr h
  obtain ⟨H, hH⟩ : ∃ H, H = s.heap := ⟨_, rfl⟩
  have hS : va_S A s.heap H [] := by rw [hH]; exact va_S.rf
  rw [← hH] at hP ⊢
  have hpc := hG.1
  have hmc := hG.2.1
  have hkc := hG.2.2.1
  have hgi := hG.2.2.2
  have hbi := hB.2.2
  have hn := hB.1
  have hco := hB.2.1
  have hl := lv_entry ([.ref (qg 0), .int x, .int y, .long se]) (n := 6) (Nat.le_of_ble_eq_true rfl)
  rw [lg_entry_eq]
  generalize (lg_sl ([.ref (qg 0), .int x, .int y, .long se]) ++ List.replicate (6 - (lg_sl ([.ref (qg 0), .int x, .int y, .long se])).length) Slot.unset).toArray = ls at hl ⊢
  have hl : lv_has ls 6 [(0, .ref (qg 0)), (1, .int x), (2, .int y), (3, .long se)] := hl
  refine lv_aload_n hx hb dG_lift_0 rfl (lv_at hl 0 rfl) ?_
  refine lv_iload_n hx hb dG_lift_1 rfl (lv_at hl 1 rfl) ?_
  refine cpV_i (b := (qg 0)) (C := nG) (As := [.int x]) (rest := []) (post := fun r : Int32 => r = bI (inB x pc)) ⟨hx, hb, hml, hown, hts⟩ (ct_G_hasPlace l dC dI cI cJ cZ qg q ql qs qr lv mw mh mk pc mc kc x (hG)) (cwV 1 hts (gv kG_73 ki_G_hasPlace ksel_G_hasPlace kin_G kc_G_hasPlace) rfl rfl rfl (by decide +kernel) ⟨Nat.le_trans (by decide) hR.1, Nat.le_trans (by decide) hR.2⟩) (va_recv hK hP (ci := 0) (q0 := 0) rfl rfl) (hP.sub (ws' := (wG cI cJ cZ qg q ql qs qr lv mw mh mk pc mc kc)) [0, 1, 2, 3, 4] rfl) hK hE rfl hl.1 rfl (Nat.le_of_ble_eq_true rfl) dG_lift_2 hcs (fun r hr => ?_)
  subst hr
  refine rb_eq (tgt := 31) hx hb dG_lift_5 (by decide) (fun c5 => ?_) (fun c5 => ?_)
  · subst hH
    exact thr hx hb hl0 hown hEX hg kG_57 kin_IllegalArgumentException at_IA (by decide +kernel) (is := 99) (text := "not two places of different levels") (by decide) (hl.1.trans hml.symm) dG_lift_31 dG_lift_34 dG_lift_35 dG_lift_37 dG_lift_40 hno (Nat.lt_of_lt_of_le (by decide) hR.1) (Nat.le_trans (Nat.le_of_ble_eq_true rfl) hR.2) (Nat.le_refl _) (Nat.le_refl _) hlocks (by simp [cdLf, c5])
  · refine lv_aload_n hx hb dG_lift_8 rfl (lv_at hl 0 rfl) ?_
    refine lv_iload_n hx hb dG_lift_9 rfl (lv_at hl 2 rfl) ?_
    refine cpV_i (b := (qg 0)) (C := nG) (As := [.int y]) (rest := []) (post := fun r : Int32 => r = bI (inB y pc)) ⟨hx, hb, hml, hown, hts⟩ (ct_G_hasPlace l dC dI cI cJ cZ qg q ql qs qr lv mw mh mk pc mc kc y (hG)) (cwV 1 hts (gv kG_73 ki_G_hasPlace ksel_G_hasPlace kin_G kc_G_hasPlace) rfl rfl rfl (by decide +kernel) ⟨Nat.le_trans (by decide) hR.1, Nat.le_trans (by decide) hR.2⟩) (va_recv hK hP (ci := 0) (q0 := 0) rfl rfl) (hP.sub (ws' := (wG cI cJ cZ qg q ql qs qr lv mw mh mk pc mc kc)) [0, 1, 2, 3, 4] rfl) hK hE rfl hl.1 rfl (Nat.le_of_ble_eq_true rfl) dG_lift_10 hcs (fun r hr => ?_)
    subst hr
    refine rb_eq (tgt := 31) hx hb dG_lift_13 (by decide) (fun c13 => ?_) (fun c13 => ?_)
    · subst hH
      exact thr hx hb hl0 hown hEX hg kG_57 kin_IllegalArgumentException at_IA (by decide +kernel) (is := 99) (text := "not two places of different levels") (by decide) (hl.1.trans hml.symm) dG_lift_31 dG_lift_34 dG_lift_35 dG_lift_37 dG_lift_40 hno (Nat.lt_of_lt_of_le (by decide) hR.1) (Nat.le_trans (Nat.le_of_ble_eq_true rfl) hR.2) (Nat.le_refl _) (Nat.le_refl _) hlocks (by simp [cdLf, c5, c13])
    · obtain ⟨j, hj, ej⟩ := in_of c5 (by omega)
      obtain ⟨k, hk, ek⟩ := in_of c13 (by omega)
      have e1 : cN x = j := by rw [ej]; exact cN_n (by omega)
      have e2 : cN y = k := by rw [ek]; exact cN_n (by omega)
      have gj := hgi j
      have gk := hgi k
      have hl : lv_has ls 6 [(0, .ref (qg 0)), (1, .int (nI j)), (2, .int (nI k)), (3, .long se)] := by rw [ej, ek] at hl; exact hl
      refine lv_aload_n hx hb dG_lift_16 rfl (lv_at hl 0 rfl) ?_
      refine va_get (D := (dC, dI)) (ci := 0) (v := .ref (qg 1)) (C := nG) (T := TG) (N := 11) hx hb hg inG hown hK hP 0 rfl rfl 0 (by decide) (hg _ kG_9) (fun _ h9 => h9) rfl dG_lift_17 ?_
      refine lv_iload_n hx hb dG_lift_20 rfl (lv_at hl 1 rfl) ?_
      refine ga_i (f := lv) hx hb hK hP 1 0 rfl rfl (by omega) (by decide) dG_lift_21 ?_
      refine lv_aload_n hx hb dG_lift_22 rfl (lv_at hl 0 rfl) ?_
      refine va_get (D := (dC, dI)) (ci := 0) (v := .ref (qg 1)) (C := nG) (T := TG) (N := 11) hx hb hg inG hown hK hP 0 rfl rfl 0 (by decide) (hg _ kG_9) (fun _ h9 => h9) rfl dG_lift_23 ?_
      refine lv_iload_n hx hb dG_lift_26 rfl (lv_at hl 2 rfl) ?_
      refine ga_i (f := lv) hx hb hK hP 1 0 rfl rfl (by omega) (by decide) dG_lift_27 ?_
      refine rn_icmp_ne (tgt := 41) hx hb dG_lift_28 (by decide) (by omega) (by omega) (fun c28 => ?_) (fun c28 => ?_)
      · refine lv_lload_n hx hb dG_lift_41 rfl (lv_at hl 3 rfl) ?_
        refine rn_lconst hx hb 1 dG_lift_42 rfl ?_
        refine lv_ldc2 (v := 10000) hx hb hown (hg _ kG_81) dG_lift_43 ?_
        refine tp_l (y := lN 10000) rfl ?_
        refine cpS_i (As := [.long se, .long (lN 1), .long (lN 10000)]) (rest := []) (post := fun r : Int32 => r = bI (wiB se (lN 1) (lN 10000))) ⟨hx, hb, hml, hown, hts⟩ (ct_G_within l dC dI cI cJ cZ se (lN 1) (lN 10000) ) (va_cwS 3 hts (gs kG_53 ks_G_within kin_G kc_G_within) rfl rfl rfl (by decide +kernel) ⟨Nat.le_trans (by decide) hR.1, Nat.le_trans (by decide) hR.2⟩) (hP.sub (ws' := []) [] rfl) hK hE rfl hl.1 rfl (Nat.le_of_ble_eq_true rfl) dG_lift_46 hcs (fun r hr => ?_)
        subst hr
        refine rb_ne (tgt := 62) hx hb dG_lift_49 (by decide) (fun c49 => ?_) (fun c49 => ?_)
        · refine lv_aload_n hx hb dG_lift_62 rfl (lv_at hl 0 rfl) ?_
          refine va_get (D := (dC, dI)) (ci := 0) (v := .ref (q 0)) (C := nG) (T := TG) (N := 11) hx hb hg inG hown hK hP 0 rfl rfl 2 (by decide) (hg _ kG_16) (fun _ h9 => h9) rfl dG_lift_63 ?_
          refine va_get (D := (dC, dI)) (ci := 1) (v := .int (nI n)) (C := nP) (T := TP) (N := 9) hx hb hg inP hown hK hP 5 rfl rfl 8 (by decide) (hg _ kG_90) (fun _ h9 => h9) rfl dG_lift_66 ?_
          refine rn_bipush hx hb 38 dG_lift_69 (by decide) ?_
          refine rn_icmp_le (tgt := 84) hx hb dG_lift_71 (by decide) (by omega) (by omega) (fun c71 => ?_) (fun c71 => ?_)
          · obtain ⟨a, ha1, ha2, ea⟩ := wl_of c49 (by decide) (by decide)
            have e3 : cLn se = a := by rw [ea]; exact cL_n (by omega)
            have hl : lv_has ls 6 [(0, .ref (qg 0)), (1, .int (nI j)), (2, .int (nI k)), (3, .long (lN a))] := by rw [ea] at hl; exact hl
            refine lv_aload_n hx hb dG_lift_84 rfl (lv_at hl 0 rfl) ?_
            refine va_get (D := (dC, dI)) (ci := 0) (v := .ref (q 0)) (C := nG) (T := TG) (N := 11) hx hb hg inG hown hK hP 0 rfl rfl 2 (by decide) (hg _ kG_16) (fun _ h9 => h9) rfl dG_lift_85 ?_
            refine lv_iload_n hx hb dG_lift_88 rfl (lv_at hl 1 rfl) ?_
            refine lv_iload_n hx hb dG_lift_89 rfl (lv_at hl 2 rfl) ?_
            refine lv_lload_n hx hb dG_lift_90 rfl (lv_at hl 3 rfl) ?_
            refine kwV_i (D := (dC, dI)) (r0 := nI n) (b := (q 0)) (C := nP) (As := [.int (nI j), .int (nI k), .long (lN a)]) (rest := []) (wc := (wP cI cJ cZ q bg en sc wd ht oh bt co n)) (wr := (wG cI cJ cZ qg q ql qs qr lv mw mh mk pc mc kc ++ wL cI cJ cZ ql re sa fm ++ wS cI cJ cZ qs tr rp rn rs rk us gl ++ wR cI cJ cZ qr nu rl)) (w1 := (wP cI cJ cZ q (va_up bg n j) (va_up en n k) (va_up sc n a) (va_up wd n 2000) (va_up ht n 3000) (va_up oh n 16777215) bt co (n + 1))) (wn := (wG cI cJ cZ qg q ql qs qr lv mw mh mk pc mc kc ++ wP cI cJ cZ q (va_up bg n j) (va_up en n k) (va_up sc n a) (va_up wd n 2000) (va_up ht n 3000) (va_up oh n 16777215) bt co (n + 1) ++ wL cI cJ cZ ql re sa fm ++ wS cI cJ cZ qs tr rp rn rs rk us gl ++ wR cI cJ cZ qr nu rl)) ⟨hx, hb, hml, hown, hts⟩ (ct_P_add l dC dI cI cJ cZ q bg en sc wd ht oh bt co n j k a H.size (hB) (by omega)) (cwV 3 hts (gv kG_95 ki_P_add ksel_P_add kin_P kc_P_add) rfl rfl rfl (by decide +kernel) ⟨Nat.le_trans (by decide) hR.1, Nat.le_trans (by decide) hR.2⟩) (va_recv hK hP (ci := 1) (q0 := 5) rfl rfl) hP hD hK hE hS hA [5, 6, 7, 8, 9, 10, 11, 12] [0, 1, 2, 3, 4, 13, 14, 15, 16, 17, 18, 19, 20, 21] [0, 1, 2, 3, 4, 14, 15, 16, 17, 18, 19, 20, 21, 5, 6, 7, 8, 9, 10, 11, 12, 13] rfl (by decide) rfl (by decide) (by decide) rfl (by decide) rfl hl.1 rfl (Nat.le_of_ble_eq_true rfl) dG_lift_91 hcs (fun H locs hP hD hS => ?_)
            refine lv_istore (lv' := [(5, .int (nI n)), (0, .ref (qg 0)), (1, .int (nI j)), (2, .int (nI k)), (3, .long (lN a))]) hx hb dG_lift_94 hl (by decide) rfl (fun ls hl => ?_)
            refine lv_aload_n hx hb dG_lift_96 rfl (lv_at hl 1 rfl) ?_
            refine va_get (D := (dC, dI)) (ci := 0) (v := .ref (q 0)) (C := nG) (T := TG) (N := 11) hx hb hg inG hown hK hP 0 rfl rfl 2 (by decide) (hg _ kG_16) (fun _ h9 => h9) rfl dG_lift_97 ?_
            refine lv_iload_n hx hb dG_lift_100 rfl (lv_at hl 3 rfl) ?_
            refine lv_iload_n hx hb dG_lift_101 rfl (lv_at hl 2 rfl) ?_
            refine lv_lload_n hx hb dG_lift_102 rfl (lv_at hl 4 rfl) ?_
            refine kwV_i (D := (dC, dI)) (r0 := nI (n + 1)) (b := (q 0)) (C := nP) (As := [.int (nI k), .int (nI j), .long (lN a)]) (rest := []) (wc := (wP cI cJ cZ q (va_up bg n j) (va_up en n k) (va_up sc n a) (va_up wd n 2000) (va_up ht n 3000) (va_up oh n 16777215) bt co (n + 1))) (wr := (wG cI cJ cZ qg q ql qs qr lv mw mh mk pc mc kc ++ wL cI cJ cZ ql re sa fm ++ wS cI cJ cZ qs tr rp rn rs rk us gl ++ wR cI cJ cZ qr nu rl)) (w1 := (wP cI cJ cZ q (va_up (va_up bg n j) (n + 1) k) (va_up (va_up en n k) (n + 1) j) (va_up (va_up sc n a) (n + 1) a) (va_up (va_up wd n 2000) (n + 1) 2000) (va_up (va_up ht n 3000) (n + 1) 3000) (va_up (va_up oh n 16777215) (n + 1) 16777215) bt co ((n + 1) + 1))) (wn := (wG cI cJ cZ qg q ql qs qr lv mw mh mk pc mc kc ++ wP cI cJ cZ q (va_up (va_up bg n j) (n + 1) k) (va_up (va_up en n k) (n + 1) j) (va_up (va_up sc n a) (n + 1) a) (va_up (va_up wd n 2000) (n + 1) 2000) (va_up (va_up ht n 3000) (n + 1) 3000) (va_up (va_up oh n 16777215) (n + 1) 16777215) bt co ((n + 1) + 1) ++ wL cI cJ cZ ql re sa fm ++ wS cI cJ cZ qs tr rp rn rs rk us gl ++ wR cI cJ cZ qr nu rl)) ⟨hx, hb, hml, hown, hts⟩ (ct_P_add l dC dI cI cJ cZ q (va_up bg n j) (va_up en n k) (va_up sc n a) (va_up wd n 2000) (va_up ht n 3000) (va_up oh n 16777215) bt co (n + 1) k j a H.size (bP_add hB (by omega) (by omega) (by omega) (by omega)) (by omega)) (cwV 3 hts (gv kG_95 ki_P_add ksel_P_add kin_P kc_P_add) rfl rfl rfl (by decide +kernel) ⟨Nat.le_trans (by decide) hR.1, Nat.le_trans (by decide) hR.2⟩) (va_recv hK hP (ci := 1) (q0 := 5) rfl rfl) hP hD hK hE hS hA [5, 6, 7, 8, 9, 10, 11, 12] [0, 1, 2, 3, 4, 13, 14, 15, 16, 17, 18, 19, 20, 21] [0, 1, 2, 3, 4, 14, 15, 16, 17, 18, 19, 20, 21, 5, 6, 7, 8, 9, 10, 11, 12, 13] rfl (by decide) rfl (by decide) (by decide) rfl (by decide) rfl hl.1 rfl (Nat.le_of_ble_eq_true rfl) dG_lift_103 hcs (fun H locs hP hD hS => ?_)
            refine lv_pop hx hb dG_lift_106 rfl ?_
            refine lv_iload hx hb dG_lift_107 (lv_at hl 0 rfl) ?_
            have hP9 : va_P (dC, dI) vwCl (wG cI cJ cZ qg q ql qs qr lv mw mh mk pc mc kc ++ wP cI cJ cZ q (va_up (va_up bg n (cN x)) (n + 1) (cN y)) (va_up (va_up en n (cN y)) (n + 1) (cN x)) (va_up (va_up sc n (cLn se)) (n + 1) (cLn se)) (va_up (va_up wd n 2000) (n + 1) 2000) (va_up (va_up ht n 3000) (n + 1) 3000) (va_up (va_up oh n 16777215) (n + 1) 16777215) bt co (n + 1 + 1) ++ wL cI cJ cZ ql re sa fm ++ wS cI cJ cZ qs tr rp rn rs rk us gl ++ wR cI cJ cZ qr nu rl) H := by rw [e1, e2, e3]; exact hP
            have hD9 : va_D A (wG cI cJ cZ qg q ql qs qr lv mw mh mk pc mc kc ++ wP cI cJ cZ q (va_up (va_up bg n (cN x)) (n + 1) (cN y)) (va_up (va_up en n (cN y)) (n + 1) (cN x)) (va_up (va_up sc n (cLn se)) (n + 1) (cLn se)) (va_up (va_up wd n 2000) (n + 1) 2000) (va_up (va_up ht n 3000) (n + 1) 3000) (va_up (va_up oh n 16777215) (n + 1) 16777215) bt co (n + 1 + 1) ++ wL cI cJ cZ ql re sa fm ++ wS cI cJ cZ qs tr rp rn rs rk us gl ++ wR cI cJ cZ qr nu rl) := by rw [e1, e2, e3]; exact hD
            refine W.widen (k := 1) (n := 6) (by omega) (by omega) ?_
            refine vx_ret ?_
            exact W.iret hx hb hr (fun t ht hW => ⟨⟨_, (), rfl, ⟨(by simp [cdLf, c5, c13, e1, e2, c28, c49, c71]), (rfl)⟩, by rw [ht]; exact hP9, va_K.moved hW.alike hK, hD9⟩, hS.F ht⟩) hS.2.2 dG_lift_109
          · subst hH
            exact thr hx hb hl0 hown hEX hg kG_68 kin_UnsupportedOperationException at_UO (by decide +kernel) (is := 93) (text := "no more pieces") (by decide) (hl.1.trans hml.symm) dG_lift_74 dG_lift_77 dG_lift_78 dG_lift_80 dG_lift_83 hno (Nat.lt_of_lt_of_le (by decide) hR.1) (Nat.le_trans (Nat.le_of_ble_eq_true rfl) hR.2) (Nat.le_refl _) (Nat.le_refl _) hlocks (by simp [cdLf, c5, c13, e1, e2, c28, c49, c71])
        · subst hH
          exact thr hx hb hl0 hown hEX hg kG_57 kin_IllegalArgumentException at_IA (by decide +kernel) (is := 101) (text := "seconds out of range") (by decide) (hl.1.trans hml.symm) dG_lift_52 dG_lift_55 dG_lift_56 dG_lift_58 dG_lift_61 hno (Nat.lt_of_lt_of_le (by decide) hR.1) (Nat.le_trans (Nat.le_of_ble_eq_true rfl) hR.2) (Nat.le_refl _) (Nat.le_refl _) hlocks (by simp [cdLf, c5, c13, e1, e2, c28, c49])
      · subst hH
        exact thr hx hb hl0 hown hEX hg kG_57 kin_IllegalArgumentException at_IA (by decide +kernel) (is := 99) (text := "not two places of different levels") (by decide) (hl.1.trans hml.symm) dG_lift_31 dG_lift_34 dG_lift_35 dG_lift_37 dG_lift_40 hno (Nat.lt_of_lt_of_le (by decide) hR.1) (Nat.le_trans (Nat.le_of_ble_eq_true rfl) hR.2) (Nat.le_refl _) (Nat.le_refl _) hlocks (by simp [cdLf, c5, c13, e1, e2, c28])

def cdTo (n : Nat) (x y : Int32) : Nat := if inB x n = true ∧ ¬ (y.toInt < 0 ∨ 6 < y.toInt) then 0 else 1
def tdN (bg en sc wd ht oh : Nat → Nat) (co j k : Nat) : Nat := if k = 0 then bg j else if k = 1 then en j else if k = 2 then sc j else if k = 3 then (co.testBit j).toNat else if k = 4 then oh j else if k = 5 then wd j else ht j
theorem ty_k {y : Int32} {k : Nat} (h : y = nI k) (hk : k ≤ 6) : ¬ (y.toInt < 0 ∨ 6 < y.toInt) ∧ cN y = k := by
  rw [h, nI_toInt (by omega)]
  exact ⟨by omega, cN_n (by omega)⟩

set_option maxHeartbeats 4000000 in
set_option maxRecDepth 100000 in
theorem ct_G_told (l : Launch) (hl0 : l.stackTraces = false) (dC : Nat → ClassId) (dI : Nat → Nat → Nat) (cI cJ cZ : ClassId) (qg q ql qs qr : Nat → Nat) (lv mw mh mk : Nat → Nat) (pc mc kc : Nat) (bg en sc wd ht oh bt : Nat → Nat) (co n : Nat) (re : Nat → Nat) (sa fm : Nat) (tr rp rn rs : Nat → Nat) (rk us gl : Nat) (nu : Nat → Nat) (rl : Nat) (x y : Int32) (sz : Nat) (hG : bGp lv mw mh mk pc mc kc) (hB : bP bg en sc wd ht oh bt co n) : vx_Met l yG_told wsG_told ({ frames := 6, cells := 1, slots := 6, locals := 120 }) (PcX (dC, dI) (wG cI cJ cZ qg q ql qs qr lv mw mh mk pc mc kc ++ wP cI cJ cZ q bg en sc wd ht oh bt co n ++ wL cI cJ cZ ql re sa fm ++ wS cI cJ cZ qs tr rp rn rs rk us gl ++ wR cI cJ cZ qr nu rl) (tyE cI cJ cZ) sz [.ref (qg 0), .int x, .int y]) (va_Ql (fun r (_ : Unit) => cdTo n x y = 0 ∧ r = lN (tdN bg en sc wd ht oh co (cN x) (cN y))) (QwB (dC, dI) (wG cI cJ cZ qg q ql qs qr lv mw mh mk pc mc kc ++ wP cI cJ cZ q bg en sc wd ht oh bt co n ++ wL cI cJ cZ ql re sa fm ++ wS cI cJ cZ qs tr rp rn rs rk us gl ++ wR cI cJ cZ qr nu rl) (tyE cI cJ cZ) (va_A (wG cI cJ cZ qg q ql qs qr lv mw mh mk pc mc kc ++ wP cI cJ cZ q bg en sc wd ht oh bt co n ++ wL cI cJ cZ ql re sa fm ++ wS cI cJ cZ qs tr rp rn rs rk us gl ++ wR cI cJ cZ qr nu rl) sz)) (va_A (wG cI cJ cZ qg q ql qs qr lv mw mh mk pc mc kc ++ wP cI cJ cZ q bg en sc wd ht oh bt co n ++ wL cI cJ cZ ql re sa fm ++ wS cI cJ cZ qs tr rp rn rs rk us gl ++ wR cI cJ cZ qr nu rl) sz)) (XCw (cdTo n x y) [(1, xIA)]) 1 6 (va_A (wG cI cJ cZ qg q ql qs qr lv mw mh mk pc mc kc ++ wP cI cJ cZ q bg en sc wd ht oh bt co n ++ wL cI cJ cZ ql re sa fm ++ wS cI cJ cZ qs tr rp rn rs rk us gl ++ wR cI cJ cZ qr nu rl) sz) := by
  refine vx_ofW (cc := cG_told) (maxL := 3) (ret := (some .long)) (by decide) rfl ?_
  intro p e s m args below meth c s₁ B hml hno hv
  obtain ⟨rfl, hsz, hP, hK, hD0, hE, hEX⟩ := hv
  have hx := B.exec
  have hb := B.bytes
  have hr := B.returns
  have hts := atoms_spec (ws := wsG_told) B.pre
  have hg : ∀ w ∈ gw, w.before _ s = true := fun w h => hts w (List.mem_cons_of_mem _ h)
  have hown : s.vm.findClass nG = some m.cls := findClass_of_methodNamed B.named
  have hlocks := B.notSynchronized
  have hR : 6 ≤ (headSpec wsG_told ({ frames := 6, cells := 1, slots := 6, locals := 120 })).room.frames ∧ 120 ≤ (headSpec wsG_told ({ frames := 6, cells := 1, slots := 6, locals := 120 })).room.locals := ⟨Nat.le_refl _, Nat.le_refl _⟩
  have hcs : 0 ≤ (headSpec wsG_told ({ frames := 6, cells := 1, slots := 6, locals := 120 })).room.cells ∧ 0 ≤ (headSpec wsG_told ({ frames := 6, cells := 1, slots := 6, locals := 120 })).room.slots := ⟨Nat.zero_le _, Nat.zero_le _⟩
  subst hsz
  have hD := hD0.self (sz := s.heap.size)
  generalize hAe : va_A (wG cI cJ cZ qg q ql qs qr lv mw mh mk pc mc kc ++ wP cI cJ cZ q bg en sc wd ht oh bt co n ++ wL cI cJ cZ ql re sa fm ++ wS cI cJ cZ qs tr rp rn rs rk us gl ++ wR cI cJ cZ qr nu rl) s.heap.size = A at hD ⊢
  have hA : ∀ q : Nat, s.heap.size ≤ q → A q := fun q h => by rw [← hAe]; exact Or.inr h
  obtain ⟨H, hH⟩ : ∃ H, H = s.heap := ⟨_, rfl⟩
  have hS : va_S A s.heap H [] := by rw [hH]; exact va_S.rf
  rw [← hH] at hP ⊢
  have hpc := hG.1
  have hmc := hG.2.1
  have hkc := hG.2.2.1
  have hgi := hG.2.2.2
  have hbi := hB.2.2
  have hn := hB.1
  have hco := hB.2.1
  have hl := lv_entry ([.ref (qg 0), .int x, .int y]) (n := 3) (Nat.le_of_ble_eq_true rfl)
  rw [lg_entry_eq]
  generalize (lg_sl ([.ref (qg 0), .int x, .int y]) ++ List.replicate (3 - (lg_sl ([.ref (qg 0), .int x, .int y])).length) Slot.unset).toArray = ls at hl ⊢
  have hl : lv_has ls 3 [(0, .ref (qg 0)), (1, .int x), (2, .int y)] := hl
  refine lv_aload_n hx hb dG_told_0 rfl (lv_at hl 0 rfl) ?_
  refine va_get (D := (dC, dI)) (ci := 0) (v := .ref (q 0)) (C := nG) (T := TG) (N := 11) hx hb hg inG hown hK hP 0 rfl rfl 2 (by decide) (hg _ kG_16) (fun _ h9 => h9) rfl dG_told_1 ?_
  refine lv_iload_n hx hb dG_told_4 rfl (lv_at hl 1 rfl) ?_
  refine cpV_i (b := (q 0)) (C := nP) (As := [.int x]) (rest := []) (post := fun r : Int32 => r = bI (inB x n)) ⟨hx, hb, hml, hown, hts⟩ (ct_P_has l dC dI cI cJ cZ q bg en sc wd ht oh bt co n x (hB)) (cwV 1 hts (gv kG_103 ki_P_has ksel_P_has kin_P kc_P_has) rfl rfl rfl (by decide +kernel) ⟨Nat.le_trans (by decide) hR.1, Nat.le_trans (by decide) hR.2⟩) (va_recv hK hP (ci := 1) (q0 := 5) rfl rfl) (hP.sub (ws' := (wP cI cJ cZ q bg en sc wd ht oh bt co n)) [5, 6, 7, 8, 9, 10, 11, 12] rfl) hK hE rfl hl.1 rfl (Nat.le_of_ble_eq_true rfl) dG_told_5 hcs (fun r hr => ?_)
  subst hr
  refine rb_ne (tgt := 21) hx hb dG_told_8 (by decide) (fun c8 => ?_) (fun c8 => ?_)
  · obtain ⟨j, hj, ej⟩ := in_of c8 (by omega)
    have e1 : cN x = j := by rw [ej]; exact cN_n (by omega)
    have bj := hbi j
    have hl : lv_has ls 3 [(0, .ref (qg 0)), (1, .int (nI j)), (2, .int y)] := by rw [ej] at hl; exact hl
    refine lv_iload_n hx hb dG_told_21 rfl (lv_at hl 2 rfl) ?_
    rcases sw_of y 6 (by decide) with hsw | ⟨k9, hk9, ek9⟩
    · refine lv_tableOut (tgt := 147) hx hb dG_told_22 hsw (by decide) ?_
      subst hH
      exact thr hx hb hl0 hown hEX hg kG_57 kin_IllegalArgumentException at_IA (by decide +kernel) (is := 239) (text := "nothing of that number is told") (by decide) (hl.1.trans hml.symm) dG_told_147 dG_told_150 dG_told_151 dG_told_153 dG_told_156 hno (Nat.lt_of_lt_of_le (by decide) hR.1) (Nat.le_trans (Nat.le_of_ble_eq_true rfl) hR.2) (Nat.le_refl _) (Nat.le_refl _) hlocks (by rw [show cdTo n x y = 1 from if_neg (fun q => q.2 hsw)]; simp)
    · rcases (show k9 = 0 ∨ k9 = 1 ∨ k9 = 2 ∨ k9 = 3 ∨ k9 = 4 ∨ k9 = 5 ∨ k9 = 6 by omega) with rfl | rfl | rfl | rfl | rfl | rfl | rfl
      · refine lv_tableIn (off := 42) (tgt := 64) hx hb dG_told_22 (by rw [ek9]; decide) (by rw [ek9]; decide) (by rw [ek9]; decide) (by decide) ?_
        refine lv_aload_n hx hb dG_told_64 rfl (lv_at hl 0 rfl) ?_
        refine va_get (D := (dC, dI)) (ci := 0) (v := .ref (q 0)) (C := nG) (T := TG) (N := 11) hx hb hg inG hown hK hP 0 rfl rfl 2 (by decide) (hg _ kG_16) (fun _ h9 => h9) rfl dG_told_65 ?_
        refine va_get (D := (dC, dI)) (ci := 1) (v := .ref (q 1)) (C := nP) (T := TP) (N := 9) hx hb hg inP hown hK hP 5 rfl rfl 0 (by decide) (hg _ kG_145) (fun _ h9 => h9) rfl dG_told_68 ?_
        refine lv_iload_n hx hb dG_told_71 rfl (lv_at hl 1 rfl) ?_
        refine ga_i (f := bg) hx hb hK hP 6 0 rfl rfl (by omega) (by decide) dG_told_72 ?_
        refine rn_i2l hx hb dG_told_73 (by omega) ?_
        have hP9 : va_P (dC, dI) vwCl (wG cI cJ cZ qg q ql qs qr lv mw mh mk pc mc kc ++ wP cI cJ cZ q bg en sc wd ht oh bt co n ++ wL cI cJ cZ ql re sa fm ++ wS cI cJ cZ qs tr rp rn rs rk us gl ++ wR cI cJ cZ qr nu rl) H := by exact hP
        have hD9 : va_D A (wG cI cJ cZ qg q ql qs qr lv mw mh mk pc mc kc ++ wP cI cJ cZ q bg en sc wd ht oh bt co n ++ wL cI cJ cZ ql re sa fm ++ wS cI cJ cZ qs tr rp rn rs rk us gl ++ wR cI cJ cZ qr nu rl) := by exact hD
        refine W.widen (k := 1) (n := 6) (by omega) (by omega) ?_
        refine vx_ret ?_
        exact W.lret hx hb hr (fun t ht hW => ⟨⟨_, (), rfl, ⟨(by rw [cdTo, if_pos ⟨c8, (ty_k ek9 (by decide)).1⟩]), (by rw [e1, (ty_k ek9 (by decide)).2]; first | rfl | (show _ = lN (Bool.toNat (co.testBit j)); rw [c107]; rfl))⟩, by rw [ht]; exact hP9, va_K.moved hW.alike hK, hD9⟩, hS.F ht⟩) hS.2.2 dG_told_74
      · refine lv_tableIn (off := 53) (tgt := 75) hx hb dG_told_22 (by rw [ek9]; decide) (by rw [ek9]; decide) (by rw [ek9]; decide) (by decide) ?_
        refine lv_aload_n hx hb dG_told_75 rfl (lv_at hl 0 rfl) ?_
        refine va_get (D := (dC, dI)) (ci := 0) (v := .ref (q 0)) (C := nG) (T := TG) (N := 11) hx hb hg inG hown hK hP 0 rfl rfl 2 (by decide) (hg _ kG_16) (fun _ h9 => h9) rfl dG_told_76 ?_
        refine va_get (D := (dC, dI)) (ci := 1) (v := .ref (q 2)) (C := nP) (T := TP) (N := 9) hx hb hg inP hown hK hP 5 rfl rfl 1 (by decide) (hg _ kG_148) (fun _ h9 => h9) rfl dG_told_79 ?_
        refine lv_iload_n hx hb dG_told_82 rfl (lv_at hl 1 rfl) ?_
        refine ga_i (f := en) hx hb hK hP 7 0 rfl rfl (by omega) (by decide) dG_told_83 ?_
        refine rn_i2l hx hb dG_told_84 (by omega) ?_
        have hP9 : va_P (dC, dI) vwCl (wG cI cJ cZ qg q ql qs qr lv mw mh mk pc mc kc ++ wP cI cJ cZ q bg en sc wd ht oh bt co n ++ wL cI cJ cZ ql re sa fm ++ wS cI cJ cZ qs tr rp rn rs rk us gl ++ wR cI cJ cZ qr nu rl) H := by exact hP
        have hD9 : va_D A (wG cI cJ cZ qg q ql qs qr lv mw mh mk pc mc kc ++ wP cI cJ cZ q bg en sc wd ht oh bt co n ++ wL cI cJ cZ ql re sa fm ++ wS cI cJ cZ qs tr rp rn rs rk us gl ++ wR cI cJ cZ qr nu rl) := by exact hD
        refine W.widen (k := 1) (n := 6) (by omega) (by omega) ?_
        refine vx_ret ?_
        exact W.lret hx hb hr (fun t ht hW => ⟨⟨_, (), rfl, ⟨(by rw [cdTo, if_pos ⟨c8, (ty_k ek9 (by decide)).1⟩]), (by rw [e1, (ty_k ek9 (by decide)).2]; first | rfl | (show _ = lN (Bool.toNat (co.testBit j)); rw [c107]; rfl))⟩, by rw [ht]; exact hP9, va_K.moved hW.alike hK, hD9⟩, hS.F ht⟩) hS.2.2 dG_told_85
      · refine lv_tableIn (off := 64) (tgt := 86) hx hb dG_told_22 (by rw [ek9]; decide) (by rw [ek9]; decide) (by rw [ek9]; decide) (by decide) ?_
        refine lv_aload_n hx hb dG_told_86 rfl (lv_at hl 0 rfl) ?_
        refine va_get (D := (dC, dI)) (ci := 0) (v := .ref (q 0)) (C := nG) (T := TG) (N := 11) hx hb hg inG hown hK hP 0 rfl rfl 2 (by decide) (hg _ kG_16) (fun _ h9 => h9) rfl dG_told_87 ?_
        refine va_get (D := (dC, dI)) (ci := 1) (v := .ref (q 3)) (C := nP) (T := TP) (N := 9) hx hb hg inP hown hK hP 5 rfl rfl 2 (by decide) (hg _ kG_232) (fun _ h9 => h9) rfl dG_told_90 ?_
        refine lv_iload_n hx hb dG_told_93 rfl (lv_at hl 1 rfl) ?_
        refine ga_l (f := sc) hx hb hK hP 8 1 rfl rfl (by omega) (by decide) dG_told_94 ?_
        have hP9 : va_P (dC, dI) vwCl (wG cI cJ cZ qg q ql qs qr lv mw mh mk pc mc kc ++ wP cI cJ cZ q bg en sc wd ht oh bt co n ++ wL cI cJ cZ ql re sa fm ++ wS cI cJ cZ qs tr rp rn rs rk us gl ++ wR cI cJ cZ qr nu rl) H := by exact hP
        have hD9 : va_D A (wG cI cJ cZ qg q ql qs qr lv mw mh mk pc mc kc ++ wP cI cJ cZ q bg en sc wd ht oh bt co n ++ wL cI cJ cZ ql re sa fm ++ wS cI cJ cZ qs tr rp rn rs rk us gl ++ wR cI cJ cZ qr nu rl) := by exact hD
        refine W.widen (k := 1) (n := 6) (by omega) (by omega) ?_
        refine vx_ret ?_
        exact W.lret hx hb hr (fun t ht hW => ⟨⟨_, (), rfl, ⟨(by rw [cdTo, if_pos ⟨c8, (ty_k ek9 (by decide)).1⟩]), (by rw [e1, (ty_k ek9 (by decide)).2]; first | rfl | (show _ = lN (Bool.toNat (co.testBit j)); rw [c107]; rfl))⟩, by rw [ht]; exact hP9, va_K.moved hW.alike hK, hD9⟩, hS.F ht⟩) hS.2.2 dG_told_95
      · refine lv_tableIn (off := 74) (tgt := 96) hx hb dG_told_22 (by rw [ek9]; decide) (by rw [ek9]; decide) (by rw [ek9]; decide) (by decide) ?_
        refine lv_aload_n hx hb dG_told_96 rfl (lv_at hl 0 rfl) ?_
        refine va_get (D := (dC, dI)) (ci := 0) (v := .ref (q 0)) (C := nG) (T := TG) (N := 11) hx hb hg inG hown hK hP 0 rfl rfl 2 (by decide) (hg _ kG_16) (fun _ h9 => h9) rfl dG_told_97 ?_
        refine va_get (D := (dC, dI)) (ci := 1) (v := .long (lN co)) (C := nP) (T := TP) (N := 9) hx hb hg inP hown hK hP 5 rfl rfl 7 (by decide) (hg _ kG_131) (fun _ h9 => h9) rfl dG_told_100 ?_
        refine lv_iload_n hx hb dG_told_103 rfl (lv_at hl 1 rfl) ?_
        refine cpS_i (As := [.long (lN co), .int (nI j)]) (rest := []) (post := fun r : Int32 => r = bI (co.testBit j)) ⟨hx, hb, hml, hown, hts⟩ (ct_G_hasBit l dC dI cI cJ cZ co j (by omega) (by omega)) (va_cwS 2 hts (gs kG_235 ks_G_hasBit kin_G kc_G_hasBit) rfl rfl rfl (by decide +kernel) ⟨Nat.le_trans (by decide) hR.1, Nat.le_trans (by decide) hR.2⟩) (hP.sub (ws' := []) [] rfl) hK hE rfl hl.1 rfl (Nat.le_of_ble_eq_true rfl) dG_told_104 hcs (fun r hr => ?_)
        subst hr
        refine rb_eq (tgt := 114) hx hb dG_told_107 (by decide) (fun c107 => ?_) (fun c107 => ?_)
        · refine rn_lconst hx hb 0 dG_told_114 rfl ?_
          have hP9 : va_P (dC, dI) vwCl (wG cI cJ cZ qg q ql qs qr lv mw mh mk pc mc kc ++ wP cI cJ cZ q bg en sc wd ht oh bt co n ++ wL cI cJ cZ ql re sa fm ++ wS cI cJ cZ qs tr rp rn rs rk us gl ++ wR cI cJ cZ qr nu rl) H := by exact hP
          have hD9 : va_D A (wG cI cJ cZ qg q ql qs qr lv mw mh mk pc mc kc ++ wP cI cJ cZ q bg en sc wd ht oh bt co n ++ wL cI cJ cZ ql re sa fm ++ wS cI cJ cZ qs tr rp rn rs rk us gl ++ wR cI cJ cZ qr nu rl) := by exact hD
          refine W.widen (k := 1) (n := 6) (by omega) (by omega) ?_
          refine vx_ret ?_
          exact W.lret hx hb hr (fun t ht hW => ⟨⟨_, (), rfl, ⟨(by rw [cdTo, if_pos ⟨c8, (ty_k ek9 (by decide)).1⟩]), (by rw [e1, (ty_k ek9 (by decide)).2]; first | rfl | (show _ = lN (Bool.toNat (co.testBit j)); rw [c107]; rfl))⟩, by rw [ht]; exact hP9, va_K.moved hW.alike hK, hD9⟩, hS.F ht⟩) hS.2.2 dG_told_115
        · refine rn_lconst hx hb 1 dG_told_110 rfl ?_
          refine lv_goto (tgt := 115) hx hb dG_told_111 (by decide) ?_
          have hP9 : va_P (dC, dI) vwCl (wG cI cJ cZ qg q ql qs qr lv mw mh mk pc mc kc ++ wP cI cJ cZ q bg en sc wd ht oh bt co n ++ wL cI cJ cZ ql re sa fm ++ wS cI cJ cZ qs tr rp rn rs rk us gl ++ wR cI cJ cZ qr nu rl) H := by exact hP
          have hD9 : va_D A (wG cI cJ cZ qg q ql qs qr lv mw mh mk pc mc kc ++ wP cI cJ cZ q bg en sc wd ht oh bt co n ++ wL cI cJ cZ ql re sa fm ++ wS cI cJ cZ qs tr rp rn rs rk us gl ++ wR cI cJ cZ qr nu rl) := by exact hD
          refine W.widen (k := 1) (n := 6) (by omega) (by omega) ?_
          refine vx_ret ?_
          exact W.lret hx hb hr (fun t ht hW => ⟨⟨_, (), rfl, ⟨(by rw [cdTo, if_pos ⟨c8, (ty_k ek9 (by decide)).1⟩]), (by rw [e1, (ty_k ek9 (by decide)).2]; first | rfl | (show _ = lN (Bool.toNat (co.testBit j)); rw [c107]; rfl))⟩, by rw [ht]; exact hP9, va_K.moved hW.alike hK, hD9⟩, hS.F ht⟩) hS.2.2 dG_told_115
      · refine lv_tableIn (off := 94) (tgt := 116) hx hb dG_told_22 (by rw [ek9]; decide) (by rw [ek9]; decide) (by rw [ek9]; decide) (by decide) ?_
        refine lv_aload_n hx hb dG_told_116 rfl (lv_at hl 0 rfl) ?_
        refine va_get (D := (dC, dI)) (ci := 0) (v := .ref (q 0)) (C := nG) (T := TG) (N := 11) hx hb hg inG hown hK hP 0 rfl rfl 2 (by decide) (hg _ kG_16) (fun _ h9 => h9) rfl dG_told_117 ?_
        refine va_get (D := (dC, dI)) (ci := 1) (v := .ref (q 6)) (C := nP) (T := TP) (N := 9) hx hb hg inP hown hK hP 5 rfl rfl 5 (by decide) (hg _ kG_164) (fun _ h9 => h9) rfl dG_told_120 ?_
        refine lv_iload_n hx hb dG_told_123 rfl (lv_at hl 1 rfl) ?_
        refine ga_l (f := oh) hx hb hK hP 11 1 rfl rfl (by omega) (by decide) dG_told_124 ?_
        have hP9 : va_P (dC, dI) vwCl (wG cI cJ cZ qg q ql qs qr lv mw mh mk pc mc kc ++ wP cI cJ cZ q bg en sc wd ht oh bt co n ++ wL cI cJ cZ ql re sa fm ++ wS cI cJ cZ qs tr rp rn rs rk us gl ++ wR cI cJ cZ qr nu rl) H := by exact hP
        have hD9 : va_D A (wG cI cJ cZ qg q ql qs qr lv mw mh mk pc mc kc ++ wP cI cJ cZ q bg en sc wd ht oh bt co n ++ wL cI cJ cZ ql re sa fm ++ wS cI cJ cZ qs tr rp rn rs rk us gl ++ wR cI cJ cZ qr nu rl) := by exact hD
        refine W.widen (k := 1) (n := 6) (by omega) (by omega) ?_
        refine vx_ret ?_
        exact W.lret hx hb hr (fun t ht hW => ⟨⟨_, (), rfl, ⟨(by rw [cdTo, if_pos ⟨c8, (ty_k ek9 (by decide)).1⟩]), (by rw [e1, (ty_k ek9 (by decide)).2]; first | rfl | (show _ = lN (Bool.toNat (co.testBit j)); rw [c107]; rfl))⟩, by rw [ht]; exact hP9, va_K.moved hW.alike hK, hD9⟩, hS.F ht⟩) hS.2.2 dG_told_125
      · refine lv_tableIn (off := 104) (tgt := 126) hx hb dG_told_22 (by rw [ek9]; decide) (by rw [ek9]; decide) (by rw [ek9]; decide) (by decide) ?_
        refine lv_aload_n hx hb dG_told_126 rfl (lv_at hl 0 rfl) ?_
        refine va_get (D := (dC, dI)) (ci := 0) (v := .ref (q 0)) (C := nG) (T := TG) (N := 11) hx hb hg inG hown hK hP 0 rfl rfl 2 (by decide) (hg _ kG_16) (fun _ h9 => h9) rfl dG_told_127 ?_
        refine va_get (D := (dC, dI)) (ci := 1) (v := .ref (q 4)) (C := nP) (T := TP) (N := 9) hx hb hg inP hown hK hP 5 rfl rfl 3 (by decide) (hg _ kG_112) (fun _ h9 => h9) rfl dG_told_130 ?_
        refine lv_iload_n hx hb dG_told_133 rfl (lv_at hl 1 rfl) ?_
        refine ga_i (f := wd) hx hb hK hP 9 0 rfl rfl (by omega) (by decide) dG_told_134 ?_
        refine rn_i2l hx hb dG_told_135 (by omega) ?_
        have hP9 : va_P (dC, dI) vwCl (wG cI cJ cZ qg q ql qs qr lv mw mh mk pc mc kc ++ wP cI cJ cZ q bg en sc wd ht oh bt co n ++ wL cI cJ cZ ql re sa fm ++ wS cI cJ cZ qs tr rp rn rs rk us gl ++ wR cI cJ cZ qr nu rl) H := by exact hP
        have hD9 : va_D A (wG cI cJ cZ qg q ql qs qr lv mw mh mk pc mc kc ++ wP cI cJ cZ q bg en sc wd ht oh bt co n ++ wL cI cJ cZ ql re sa fm ++ wS cI cJ cZ qs tr rp rn rs rk us gl ++ wR cI cJ cZ qr nu rl) := by exact hD
        refine W.widen (k := 1) (n := 6) (by omega) (by omega) ?_
        refine vx_ret ?_
        exact W.lret hx hb hr (fun t ht hW => ⟨⟨_, (), rfl, ⟨(by rw [cdTo, if_pos ⟨c8, (ty_k ek9 (by decide)).1⟩]), (by rw [e1, (ty_k ek9 (by decide)).2]; first | rfl | (show _ = lN (Bool.toNat (co.testBit j)); rw [c107]; rfl))⟩, by rw [ht]; exact hP9, va_K.moved hW.alike hK, hD9⟩, hS.F ht⟩) hS.2.2 dG_told_136
      · refine lv_tableIn (off := 115) (tgt := 137) hx hb dG_told_22 (by rw [ek9]; decide) (by rw [ek9]; decide) (by rw [ek9]; decide) (by decide) ?_
        refine lv_aload_n hx hb dG_told_137 rfl (lv_at hl 0 rfl) ?_
        refine va_get (D := (dC, dI)) (ci := 0) (v := .ref (q 0)) (C := nG) (T := TG) (N := 11) hx hb hg inG hown hK hP 0 rfl rfl 2 (by decide) (hg _ kG_16) (fun _ h9 => h9) rfl dG_told_138 ?_
        refine va_get (D := (dC, dI)) (ci := 1) (v := .ref (q 5)) (C := nP) (T := TP) (N := 9) hx hb hg inP hown hK hP 5 rfl rfl 4 (by decide) (hg _ kG_115) (fun _ h9 => h9) rfl dG_told_141 ?_
        refine lv_iload_n hx hb dG_told_144 rfl (lv_at hl 1 rfl) ?_
        refine ga_l (f := ht) hx hb hK hP 10 1 rfl rfl (by omega) (by decide) dG_told_145 ?_
        have hP9 : va_P (dC, dI) vwCl (wG cI cJ cZ qg q ql qs qr lv mw mh mk pc mc kc ++ wP cI cJ cZ q bg en sc wd ht oh bt co n ++ wL cI cJ cZ ql re sa fm ++ wS cI cJ cZ qs tr rp rn rs rk us gl ++ wR cI cJ cZ qr nu rl) H := by exact hP
        have hD9 : va_D A (wG cI cJ cZ qg q ql qs qr lv mw mh mk pc mc kc ++ wP cI cJ cZ q bg en sc wd ht oh bt co n ++ wL cI cJ cZ ql re sa fm ++ wS cI cJ cZ qs tr rp rn rs rk us gl ++ wR cI cJ cZ qr nu rl) := by exact hD
        refine W.widen (k := 1) (n := 6) (by omega) (by omega) ?_
        refine vx_ret ?_
        exact W.lret hx hb hr (fun t ht hW => ⟨⟨_, (), rfl, ⟨(by rw [cdTo, if_pos ⟨c8, (ty_k ek9 (by decide)).1⟩]), (by rw [e1, (ty_k ek9 (by decide)).2]; first | rfl | (show _ = lN (Bool.toNat (co.testBit j)); rw [c107]; rfl))⟩, by rw [ht]; exact hP9, va_K.moved hW.alike hK, hD9⟩, hS.F ht⟩) hS.2.2 dG_told_146
  · subst hH
    exact thr hx hb hl0 hown hEX hg kG_57 kin_IllegalArgumentException at_IA (by decide +kernel) (is := 129) (text := "no such piece") (by decide) (hl.1.trans hml.symm) dG_told_11 dG_told_14 dG_told_15 dG_told_17 dG_told_20 hno (Nat.lt_of_lt_of_le (by decide) hR.1) (Nat.le_trans (Nat.le_of_ble_eq_true rfl) hR.2) (Nat.le_refl _) (Nat.le_refl _) hlocks (by simp [cdTo, c8])
