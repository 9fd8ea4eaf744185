theorem ctI_k {bt : Nat → Nat} {pc n mc kc : Nat} {x : Int32} (k : Nat) (h : x = nI k) (hk : k ≤ 4) : ctI bt pc n mc kc x = nI (ctN bt pc n mc kc k) := by
  rw [ctI, if_neg (cx_k h hk).1, (cx_k h hk).2]
theorem ctI_n {bt : Nat → Nat} {pc n mc kc : Nat} {x : Int32} (h0 : ¬ x = 0) (h1 : ¬ x = nI 1) (h2 : ¬ x = nI 2) (h3 : ¬ x = nI 3) (h4 : ¬ x = nI 4) : -1 = ctI bt pc n mc kc x := by
  rcases sw_of x 4 (by decide) with h | ⟨k, hk, ek⟩
  · exact (if_pos h).symm
  · exfalso
    rcases (show k = 0 ∨ k = 1 ∨ k = 2 ∨ k = 3 ∨ k = 4 by omega) with rfl | rfl | rfl | rfl | rfl
    · exact h0 ek
    · exact h1 ek
    · exact h2 ek
    · exact h3 ek
    · exact h4 ek
theorem af_t1 {wd ht : Nat → Nat} {w h i : Nat} {b : Bool} (hb : b = afB wd ht w h i) (c : b = true) : true = afB wd ht w h (i + 1) := by simp [afB, ← hb, c]
theorem af_t2 {wd ht : Nat → Nat} {w h i : Nat} (c1 : ¬ wd i < w) (c2 : ¬ ht i < h) : true = afB wd ht w h (i + 1) := by simp [afB, Nat.not_lt.mp c1, Nat.not_lt.mp c2]
theorem af_f1 {wd ht : Nat → Nat} {w h i : Nat} {b : Bool} (hb : b = afB wd ht w h i) (c : b = false) (c1 : wd i < w) : false = afB wd ht w h (i + 1) := by simp [afB, ← hb, c, Nat.not_le.mpr c1]
theorem af_f2 {wd ht : Nat → Nat} {w h i : Nat} {b : Bool} (hb : b = afB wd ht w h i) (c : b = false) (c2 : ht i < h) : false = afB wd ht w h (i + 1) := by simp [afB, ← hb, c, Nat.not_le.mpr c2]
theorem im_t1 {mk : Nat → Nat} {x : Int32} {i : Nat} {b : Bool} (hb : b = imB mk x i) (c : b = true) : true = imB mk x (i + 1) := by simp [imB, ← hb, c]
theorem im_t2 {mk : Nat → Nat} {x : Int32} {i : Nat} (c : nI (mk i) = x) : true = imB mk x (i + 1) := by simp [imB, c]
theorem im_f {mk : Nat → Nat} {x : Int32} {i : Nat} {b : Bool} (hb : b = imB mk x i) (c : b = false) (d : ¬ nI (mk i) = x) : false = imB mk x (i + 1) := by simp [imB, ← hb, c, d]

set_option maxHeartbeats 4000000 in
set_option maxRecDepth 100000 in
theorem lp_M_mover {p : Program} {l : Launch} {e : Env} {R : Room} {s : State} {m : MethodId} {args : Array Value} {below : List Frame} {meth : Method} {c : Code} {cells slots : Nat} {Q : State → Prop} {dC : Nat → ClassId} {dI : Nat → Nat → Nat} {cI cJ cZ : ClassId} {A : Nat → Prop} (qm : Nat → Nat) (lv mw mh mk : Nat → Nat) (pc mc kc : Nat) (bg en sc wd ht oh bt : Nat → Nat) (co n : Nat) (sh ba : Nat → Bool) (rm nm bs bc bp on wh : Nat → Nat) (cd sl fo : Nat) (w : Int32) (h : Int64) (hG : bGp lv mw mh mk pc mc kc) (hB : bP bg en sc wd ht oh bt co n)  (hx : p.tables.exec = Jvm.exec) (hb : c.code = cM_mover) (hml : c.maxLocals = 6) (hown : s.vm.findClass nM = some m.cls) (hts : ∀ w ∈ wsM_mover, w.before args s = true) (hK : va_K (dC, dI) vwCl (tyE cI cJ cZ) s) (hE : EV s) (hA : ∀ q : Nat, s.heap.size ≤ q → A q) (hR : 0 ≤ R.frames ∧ 0 ≤ R.locals) (hcs : cells ≤ R.cells ∧ slots ≤ R.slots)
    (kx0 : ∀ (i : Nat) (b9 : Bool) (a : Nat) (b : Nat) (h1 : i ≤ n) (hb9 : b9 = afB wd ht a b i) (hcd : cdMo mc w h = 0) (e1 : cN w = a) (e2 : cLn h = b) (ha2 : a ≤ 10000) (hb2 : b ≤ 10000) (hm6 : mc < 6) (hx0 : n ≤ i) (hx1 : b9 = afB wd ht a b n) (H : Heap) (locs : List Loc), va_P (dC, dI) vwCl (wM cI cJ cZ qm lv bg en sc wd ht sh oh ba mw mh mk rm nm bs bc bp on wh 0 pc n mc kc sl fo) H → va_D A (wM cI cJ cZ qm lv bg en sc wd ht sh oh ba mw mh mk rm nm bs bc bp on wh 0 pc n mc kc sl fo) → va_S A s.heap H locs → ∀ ls : Array Slot, lv_has ls 6 [(0, .ref (qm 0)), (1, .int (nI a)), (2, .long (lN b)), (4, .int (bI b9)), (5, .int (nI i))] →  W p l e R s m args below meth c H locs cells slots Q (F0 m 111 ls []))
    : ∀ (fu : Nat) (i : Nat) (b9 : Bool) (a : Nat) (b : Nat) (h1 : i ≤ n) (hb9 : b9 = afB wd ht a b i) (hcd : cdMo mc w h = 0) (e1 : cN w = a) (e2 : cLn h = b) (ha2 : a ≤ 10000) (hb2 : b ≤ 10000) (hm6 : mc < 6), n - i < fu → ∀ (H : Heap) (locs : List Loc), va_P (dC, dI) vwCl (wM cI cJ cZ qm lv bg en sc wd ht sh oh ba mw mh mk rm nm bs bc bp on wh 0 pc n mc kc sl fo) H → va_D A (wM cI cJ cZ qm lv bg en sc wd ht sh oh ba mw mh mk rm nm bs bc bp on wh 0 pc n mc kc sl fo) → va_S A s.heap H locs → ∀ ls : Array Slot, lv_has ls 6 [(0, .ref (qm 0)), (1, .int (nI a)), (2, .long (lN b)), (4, .int (bI b9)), (5, .int (nI i))] →  W p l e R s m args below meth c H locs cells slots Q (F0 m 60 ls []) := by
  have hg : ∀ w ∈ gw, w.before args s = true := fun w h => hts w (List.mem_cons_of_mem _ h)
  have hpc := hG.1
  have hmc := hG.2.1
  have hkc := hG.2.2.1
  have hgi := hG.2.2.2
  have hbi := hB.2.2
  have hn := hB.1
  have hco := hB.2.1
  intro fu
  induction fu with
  | zero => intro i b9 a b h1 hb9 hcd e1 e2 ha2 hb2 hm6 h0; exact absurd h0 (Nat.not_lt_zero _)
  | succ fu ihL =>
    intro i b9 a b h1 hb9 hcd e1 e2 ha2 hb2 hm6 hfu H locs hP hD hS ls hl
    refine lv_iload hx hb dM_mover_60 (lv_at hl 4 rfl) ?_
    refine lv_aload_n hx hb dM_mover_62 rfl (lv_at hl 0 rfl) ?_
    refine va_get (D := (dC, dI)) (ci := 5) (v := .int (nI n)) (C := nM) (T := TM) (N := 26) hx hb hg inM hown hK hP 0 rfl rfl 3 (by decide) (hg _ kM_80) (fun _ h9 => h9) rfl dM_mover_63 ?_
    refine rn_icmp_ge (tgt := 111) hx hb dM_mover_66 (by decide) (by omega) (by omega) (fun c66 => ?_) (fun c66 => ?_)
    · exact kx0 i b9 a b h1 hb9 hcd e1 e2 ha2 hb2 hm6 (by omega) (by rw [show n = i from by omega]; exact hb9) H locs hP hD hS ls (lv_sub hl [0, 1, 2, 3, 4] rfl)
    · have bi := hbi i
      refine lv_iload hx hb dM_mover_69 (lv_at hl 3 rfl) ?_
      refine rb_ne (tgt := 98) hx hb dM_mover_71 (by decide) (fun c71 => ?_) (fun c71 => ?_)
      · refine rn_iconst hx hb 1 dM_mover_98 (by decide) ?_
        refine lv_goto (tgt := 103) hx hb dM_mover_99 (by decide) ?_
        refine lv_istore (lv' := [(4, .int (nI 1)), (0, .ref (qm 0)), (1, .int (nI a)), (2, .long (lN b)), (5, .int (nI i))]) hx hb dM_mover_103 hl (by decide) rfl (fun ls hl => ?_)
        refine rn_iinc (lv' := [(5, .int (nI (i + 1))), (4, .int (nI 1)), (0, .ref (qm 0)), (1, .int (nI a)), (2, .long (lN b))]) hx hb dM_mover_105 hl (k := 4) rfl (by decide) rfl (fun ls hl => ?_)
        refine lv_goto (tgt := 60) hx hb dM_mover_108 (by decide) ?_
        exact ihL (i + 1) true a b (by omega) (by first | exact af_t1 hb9 c71 | exact af_t2 c82 c95 | exact af_f1 hb9 c71 c82 | exact af_f2 hb9 c71 c95) (hcd) (e1) (e2) (ha2) (hb2) (hm6) (by omega) H locs hP hD hS ls (lv_sub hl [2, 3, 4, 1, 0] rfl)
      · refine lv_aload_n hx hb dM_mover_74 rfl (lv_at hl 0 rfl) ?_
        refine va_get (D := (dC, dI)) (ci := 5) (v := .ref (qm 5)) (C := nM) (T := TM) (N := 26) hx hb hg inM hown hK hP 0 rfl rfl 7 (by decide) (hg _ kM_23) (fun _ h9 => h9) rfl dM_mover_75 ?_
        refine lv_iload hx hb dM_mover_78 (lv_at hl 4 rfl) ?_
        refine ga_i (f := wd) hx hb hK hP 5 0 rfl rfl (by omega) (by decide) dM_mover_80 ?_
        refine lv_iload_n hx hb dM_mover_81 rfl (lv_at hl 1 rfl) ?_
        refine rn_icmp_lt (tgt := 102) hx hb dM_mover_82 (by decide) (by omega) (by omega) (fun c82 => ?_) (fun c82 => ?_)
        · refine rn_iconst hx hb 0 dM_mover_102 (by decide) ?_
          refine lv_istore (lv' := [(4, .int (nI 0)), (0, .ref (qm 0)), (1, .int (nI a)), (2, .long (lN b)), (5, .int (nI i))]) hx hb dM_mover_103 hl (by decide) rfl (fun ls hl => ?_)
          refine rn_iinc (lv' := [(5, .int (nI (i + 1))), (4, .int (nI 0)), (0, .ref (qm 0)), (1, .int (nI a)), (2, .long (lN b))]) hx hb dM_mover_105 hl (k := 4) rfl (by decide) rfl (fun ls hl => ?_)
          refine lv_goto (tgt := 60) hx hb dM_mover_108 (by decide) ?_
          exact ihL (i + 1) false a b (by omega) (by first | exact af_t1 hb9 c71 | exact af_t2 c82 c95 | exact af_f1 hb9 c71 c82 | exact af_f2 hb9 c71 c95) (hcd) (e1) (e2) (ha2) (hb2) (hm6) (by omega) H locs hP hD hS ls (lv_sub hl [2, 3, 4, 1, 0] rfl)
        · refine lv_aload_n hx hb dM_mover_85 rfl (lv_at hl 0 rfl) ?_
          refine va_get (D := (dC, dI)) (ci := 5) (v := .ref (qm 6)) (C := nM) (T := TM) (N := 26) hx hb hg inM hown hK hP 0 rfl rfl 8 (by decide) (hg _ kM_26) (fun _ h9 => h9) rfl dM_mover_86 ?_
          refine lv_iload hx hb dM_mover_89 (lv_at hl 4 rfl) ?_
          refine ga_i (f := ht) hx hb hK hP 6 0 rfl rfl (by omega) (by decide) dM_mover_91 ?_
          refine rn_i2l hx hb dM_mover_92 (by omega) ?_
          refine lv_lload_n hx hb dM_mover_93 rfl (lv_at hl 2 rfl) ?_
          refine rn_lcmp_lt (tgt := 102) hx hb dM_mover_94 dM_mover_95 (by decide) (by omega) (by omega) (fun c95 => ?_) (fun c95 => ?_)
          · refine rn_iconst hx hb 0 dM_mover_102 (by decide) ?_
            refine lv_istore (lv' := [(4, .int (nI 0)), (0, .ref (qm 0)), (1, .int (nI a)), (2, .long (lN b)), (5, .int (nI i))]) hx hb dM_mover_103 hl (by decide) rfl (fun ls hl => ?_)
            refine rn_iinc (lv' := [(5, .int (nI (i + 1))), (4, .int (nI 0)), (0, .ref (qm 0)), (1, .int (nI a)), (2, .long (lN b))]) hx hb dM_mover_105 hl (k := 4) rfl (by decide) rfl (fun ls hl => ?_)
            refine lv_goto (tgt := 60) hx hb dM_mover_108 (by decide) ?_
            exact ihL (i + 1) false a b (by omega) (by first | exact af_t1 hb9 c71 | exact af_t2 c82 c95 | exact af_f1 hb9 c71 c82 | exact af_f2 hb9 c71 c95) (hcd) (e1) (e2) (ha2) (hb2) (hm6) (by omega) H locs hP hD hS ls (lv_sub hl [2, 3, 4, 1, 0] rfl)
          · refine rn_iconst hx hb 1 dM_mover_98 (by decide) ?_
            refine lv_goto (tgt := 103) hx hb dM_mover_99 (by decide) ?_
            refine lv_istore (lv' := [(4, .int (nI 1)), (0, .ref (qm 0)), (1, .int (nI a)), (2, .long (lN b)), (5, .int (nI i))]) hx hb dM_mover_103 hl (by decide) rfl (fun ls hl => ?_)
            refine rn_iinc (lv' := [(5, .int (nI (i + 1))), (4, .int (nI 1)), (0, .ref (qm 0)), (1, .int (nI a)), (2, .long (lN b))]) hx hb dM_mover_105 hl (k := 4) rfl (by decide) rfl (fun ls hl => ?_)
            refine lv_goto (tgt := 60) hx hb dM_mover_108 (by decide) ?_
            exact ihL (i + 1) true a b (by omega) (by first | exact af_t1 hb9 c71 | exact af_t2 c82 c95 | exact af_f1 hb9 c71 c82 | exact af_f2 hb9 c71 c95) (hcd) (e1) (e2) (ha2) (hb2) (hm6) (by omega) H locs hP hD hS ls (lv_sub hl [2, 3, 4, 1, 0] rfl)

set_option maxHeartbeats 4000000 in
set_option maxRecDepth 100000 in
theorem ct_M_mover (l : Launch) (dC : Nat → ClassId) (dI : Nat → Nat → Nat) (cI cJ cZ : ClassId) (qm : Nat → Nat) (lv mw mh mk : Nat → Nat) (pc mc kc : Nat) (bg en sc wd ht oh bt : Nat → Nat) (co n : Nat) (sh ba : Nat → Bool) (rm nm bs bc bp on wh : Nat → Nat) (cd sl fo : Nat) (w : Int32) (h : Int64) (sz : Nat) (hG : bGp lv mw mh mk pc mc kc) (hB : bP bg en sc wd ht oh bt co n) : Met l yM_mover wsM_mover ({ frames := 1, cells := 0, slots := 0, locals := 25 }) (PcW (dC, dI) (wM cI cJ cZ qm lv bg en sc wd ht sh oh ba mw mh mk rm nm bs bc bp on wh cd pc n mc kc sl fo) (tyE cI cJ cZ) sz [.ref (qm 0), .int w, .long h]) (QwI (dC, dI) ((if cdMo mc w h = 0 then (if afB wd ht (cN w) (cLn h) n = true then nI mc else -1) else 0)) (wM cI cJ cZ qm lv bg en sc wd ht sh oh ba (if cdMo mc w h = 0 then (if afB wd ht (cN w) (cLn h) n = true then va_up mw mc (cN w) else mw) else mw) (if cdMo mc w h = 0 then (if afB wd ht (cN w) (cLn h) n = true then va_up mh mc (cLn h) else mh) else mh) mk rm nm bs bc bp on wh (cdMo mc w h) pc n (if cdMo mc w h = 0 then (if afB wd ht (cN w) (cLn h) n = true then mc + 1 else mc) else mc) kc sl fo) (tyE cI cJ cZ) (va_A (wM cI cJ cZ qm lv bg en sc wd ht sh oh ba mw mh mk rm nm bs bc bp on wh cd pc n mc kc sl fo) sz)) 0 0 (va_A (wM cI cJ cZ qm lv bg en sc wd ht sh oh ba mw mh mk rm nm bs bc bp on wh cd pc n mc kc sl fo) sz) := by
  refine Met.ofW (cc := cM_mover) (maxL := 6) (ret := (some .int)) (by decide) rfl ?_
  intro p e s m args below meth c s₁ B hml hv
  obtain ⟨rfl, hsz, hP, hK, hD0, hE⟩ := hv
  have hx := B.exec
  have hb := B.bytes
  have hr := B.returns
  have hts := atoms_spec (ws := wsM_mover) B.pre
  have hg : ∀ w ∈ gw, w.before _ s = true := fun w h => hts w (List.mem_cons_of_mem _ h)
  have hown : s.vm.findClass nM = some m.cls := findClass_of_methodNamed B.named
  have hlocks := B.notSynchronized
  have hR : 1 ≤ (headSpec wsM_mover ({ frames := 1, cells := 0, slots := 0, locals := 25 })).room.frames ∧ 25 ≤ (headSpec wsM_mover ({ frames := 1, cells := 0, slots := 0, locals := 25 })).room.locals := ⟨Nat.le_refl _, Nat.le_refl _⟩
  have hcs : 0 ≤ (headSpec wsM_mover ({ frames := 1, cells := 0, slots := 0, locals := 25 })).room.cells ∧ 0 ≤ (headSpec wsM_mover ({ frames := 1, cells := 0, slots := 0, locals := 25 })).room.slots := ⟨Nat.zero_le _, Nat.zero_le _⟩
  subst hsz
  have hD := hD0.self (sz := s.heap.size)
  generalize hAe : va_A (wM cI cJ cZ qm lv bg en sc wd ht sh oh ba mw mh mk rm nm bs bc bp on wh cd pc n mc kc sl fo) s.heap.size = A at hD ⊢
  have hA : ∀ q : Nat, s.heap.size ≤ q → A q := fun q h => by rw [← hAe]; exact Or.inr h
  obtain ⟨H, hH⟩ : ∃ H, H = s.heap := ⟨_, rfl⟩
  have hS : va_S A s.heap H [] := by rw [hH]; exact va_S.rf
  rw [← hH] at hP ⊢
  have hpc := hG.1
  have hmc := hG.2.1
  have hkc := hG.2.2.1
  have hgi := hG.2.2.2
  have hbi := hB.2.2
  have hn := hB.1
  have hco := hB.2.1
  have hl := lv_entry ([.ref (qm 0), .int w, .long h]) (n := 6) (Nat.le_of_ble_eq_true rfl)
  rw [lg_entry_eq]
  generalize (lg_sl ([.ref (qm 0), .int w, .long h]) ++ List.replicate (6 - (lg_sl ([.ref (qm 0), .int w, .long h])).length) Slot.unset).toArray = ls at hl ⊢
  have hl : lv_has ls 6 [(0, .ref (qm 0)), (1, .int w), (2, .long h)] := hl
  refine lv_aload_n hx hb dM_mover_0 rfl (lv_at hl 0 rfl) ?_
  refine lv_iload_n hx hb dM_mover_1 rfl (lv_at hl 1 rfl) ?_
  refine lv_i2l (v := (w).toInt64) hx hb dM_mover_2 rfl ?_
  refine rn_lconst hx hb 1 dM_mover_3 rfl ?_
  refine lv_ldc2 (v := 10000) hx hb hown (hg _ kM_92) dM_mover_4 ?_
  refine tp_l (y := lN 10000) rfl ?_
  refine cpS_i (As := [.long ((w).toInt64), .long (lN 1), .long (lN 10000)]) (rest := [.ref (qm 0)]) (post := fun r : Int32 => r = bI (wiB ((w).toInt64) (lN 1) (lN 10000))) ⟨hx, hb, hml, hown, hts⟩ (ct_M_in l dC dI cI cJ cZ ((w).toInt64) (lN 1) (lN 10000) ) (va_cwS 3 hts (gs kM_76 ks_M_in kin_M kc_M_in) rfl rfl rfl (by decide +kernel) ⟨Nat.le_trans (by decide) hR.1, Nat.le_trans (by decide) hR.2⟩) (hP.sub (ws' := []) [] rfl) hK hE rfl hl.1 rfl (Nat.le_of_ble_eq_true rfl) dM_mover_7 hcs (fun r hr => ?_)
  subst hr
  refine rb_eq (tgt := 24) hx hb dM_mover_10 (by decide) (fun c10 => ?_) (fun c10 => ?_)
  · refine rn_iconst hx hb 1 dM_mover_24 (by decide) ?_
    refine lv_goto (tgt := 42) hx hb dM_mover_25 (by decide) ?_
    refine va_put (D := (dC, dI)) (ci := 5) (v := .int (nI 1)) (ty := .int) (C := nM) (T := TM) (N := 26) hx hb hg inM tM tM_ok nmM hown hK hP hD hS 0 rfl rfl 0 (by decide) (hg _ kM_69) (fun _ h9 => h9) rfl (by decide +kernel) rfl rfl (Nat.le_of_ble_eq_true rfl) dM_mover_42 (fun H locs hP hD hS => ?_)
    have hP : va_P (dC, dI) vwCl (wM cI cJ cZ qm lv bg en sc wd ht sh oh ba mw mh mk rm nm bs bc bp on wh 1 pc n mc kc sl fo) H := hP
    have hD : va_D A (wM cI cJ cZ qm lv bg en sc wd ht sh oh ba mw mh mk rm nm bs bc bp on wh 1 pc n mc kc sl fo) := hD
    refine lv_aload_n hx hb dM_mover_45 rfl (lv_at hl 0 rfl) ?_
    refine va_get (D := (dC, dI)) (ci := 5) (v := .int (nI 1)) (C := nM) (T := TM) (N := 26) hx hb hg inM hown hK hP 0 rfl rfl 0 (by decide) (hg _ kM_69) (fun _ h9 => h9) rfl dM_mover_46 ?_
    refine lv_if_le (tgt := 54) hx hb dM_mover_49 (by decide) (fun c49 => absurd c49 (by decide)) (fun c49 => ?_)
    refine rn_iconst hx hb 0 dM_mover_52 (by decide) ?_
    have hcd : cdMo mc w h = 1 := by first | (simp [cdMo, szB, c10]; done) | (simp [cdMo, szB, c10]; omega)
    have hP9 : va_P (dC, dI) vwCl (wM cI cJ cZ qm lv bg en sc wd ht sh oh ba (if cdMo mc w h = 0 then (if afB wd ht (cN w) (cLn h) n = true then va_up mw mc (cN w) else mw) else mw) (if cdMo mc w h = 0 then (if afB wd ht (cN w) (cLn h) n = true then va_up mh mc (cLn h) else mh) else mh) mk rm nm bs bc bp on wh (cdMo mc w h) pc n (if cdMo mc w h = 0 then (if afB wd ht (cN w) (cLn h) n = true then mc + 1 else mc) else mc) kc sl fo) H := by rw [hcd]; exact hP
    have hD9 : va_D A (wM cI cJ cZ qm lv bg en sc wd ht sh oh ba (if cdMo mc w h = 0 then (if afB wd ht (cN w) (cLn h) n = true then va_up mw mc (cN w) else mw) else mw) (if cdMo mc w h = 0 then (if afB wd ht (cN w) (cLn h) n = true then va_up mh mc (cLn h) else mh) else mh) mk rm nm bs bc bp on wh (cdMo mc w h) pc n (if cdMo mc w h = 0 then (if afB wd ht (cN w) (cLn h) n = true then mc + 1 else mc) else mc) kc sl fo) := by rw [hcd]; exact hD
    exact W.iret hx hb hr (fun t ht hW => ⟨⟨_, (), rfl, (by rw [hcd]; rfl), by rw [ht]; exact hP9, va_K.moved hW.alike hK, hD9⟩, hS.F ht⟩) hS.2.2 dM_mover_53
  · refine lv_lload_n hx hb dM_mover_13 rfl (lv_at hl 2 rfl) ?_
    refine rn_lconst hx hb 1 dM_mover_14 rfl ?_
    refine lv_ldc2 (v := 10000) hx hb hown (hg _ kM_92) dM_mover_15 ?_
    refine tp_l (y := lN 10000) rfl ?_
    refine cpS_i (As := [.long h, .long (lN 1), .long (lN 10000)]) (rest := [.ref (qm 0)]) (post := fun r : Int32 => r = bI (wiB h (lN 1) (lN 10000))) ⟨hx, hb, hml, hown, hts⟩ (ct_M_in l dC dI cI cJ cZ h (lN 1) (lN 10000) ) (va_cwS 3 hts (gs kM_76 ks_M_in kin_M kc_M_in) rfl rfl rfl (by decide +kernel) ⟨Nat.le_trans (by decide) hR.1, Nat.le_trans (by decide) hR.2⟩) (hP.sub (ws' := []) [] rfl) hK hE rfl hl.1 rfl (Nat.le_of_ble_eq_true rfl) dM_mover_18 hcs (fun r hr => ?_)
    subst hr
    refine rb_ne (tgt := 28) hx hb dM_mover_21 (by decide) (fun c21 => ?_) (fun c21 => ?_)
    · refine lv_aload_n hx hb dM_mover_28 rfl (lv_at hl 0 rfl) ?_
      refine va_get (D := (dC, dI)) (ci := 5) (v := .int (nI mc)) (C := nM) (T := TM) (N := 26) hx hb hg inM hown hK hP 0 rfl rfl 12 (by decide) (hg _ kM_101) (fun _ h9 => h9) rfl dM_mover_29 ?_
      refine rn_bipush hx hb 6 dM_mover_32 (by decide) ?_
      refine rn_icmp_ne (tgt := 41) hx hb dM_mover_34 (by decide) (by omega) (by omega) (fun c34 => ?_) (fun c34 => ?_)
      · refine rn_iconst hx hb 0 dM_mover_41 (by decide) ?_
        refine va_put (D := (dC, dI)) (ci := 5) (v := .int (nI 0)) (ty := .int) (C := nM) (T := TM) (N := 26) hx hb hg inM tM tM_ok nmM hown hK hP hD hS 0 rfl rfl 0 (by decide) (hg _ kM_69) (fun _ h9 => h9) rfl (by decide +kernel) rfl rfl (Nat.le_of_ble_eq_true rfl) dM_mover_42 (fun H locs hP hD hS => ?_)
        have hP : va_P (dC, dI) vwCl (wM cI cJ cZ qm lv bg en sc wd ht sh oh ba mw mh mk rm nm bs bc bp on wh 0 pc n mc kc sl fo) H := hP
        have hD : va_D A (wM cI cJ cZ qm lv bg en sc wd ht sh oh ba mw mh mk rm nm bs bc bp on wh 0 pc n mc kc sl fo) := hD
        refine lv_aload_n hx hb dM_mover_45 rfl (lv_at hl 0 rfl) ?_
        refine va_get (D := (dC, dI)) (ci := 5) (v := .int (nI 0)) (C := nM) (T := TM) (N := 26) hx hb hg inM hown hK hP 0 rfl rfl 0 (by decide) (hg _ kM_69) (fun _ h9 => h9) rfl dM_mover_46 ?_
        refine lv_if_le (tgt := 54) hx hb dM_mover_49 (by decide) (fun c49 => ?_) (fun c49 => absurd c49 (by decide))
        obtain ⟨a, ha1, ha2, ea⟩ := wi_of c10 (by decide) (by decide)
        obtain ⟨b, hb1, hb2, eb⟩ := wl_of c21 (by decide) (by decide)
        have e1 : cN w = a := by rw [ea]; exact cN_n (by omega)
        have e2 : cLn h = b := by rw [eb]; exact cL_n (by omega)
        have hm6 : mc < 6 := by omega
        have hcd : cdMo mc w h = 0 := by simp [cdMo, szB, c10, c21, hm6]
        have hl : lv_has ls 6 [(0, .ref (qm 0)), (1, .int (nI a)), (2, .long (lN b))] := by rw [ea, eb] at hl; exact hl
        refine rn_iconst hx hb 0 dM_mover_54 (by decide) ?_
        refine lv_istore (lv' := [(4, .int (nI 0)), (0, .ref (qm 0)), (1, .int (nI a)), (2, .long (lN b))]) hx hb dM_mover_55 hl (by decide) rfl (fun ls hl => ?_)
        refine rn_iconst hx hb 0 dM_mover_57 (by decide) ?_
        refine lv_istore (lv' := [(5, .int (nI 0)), (4, .int (nI 0)), (0, .ref (qm 0)), (1, .int (nI a)), (2, .long (lN b))]) hx hb dM_mover_58 hl (by decide) rfl (fun ls hl => ?_)
        refine lp_M_mover qm lv mw mh mk pc mc kc bg en sc wd ht oh bt co n sh ba rm nm bs bc bp on wh cd sl fo w h hG hB  hx hb hml hown hts hK hE hA (by first | exact hR | exact ⟨Nat.le_trans (by decide) hR.1, Nat.le_trans (by decide) hR.2⟩) hcs (fun i b9 a b h1 hb9 hcd e1 e2 ha2 hb2 hm6 hx0 hx1 H locs hP hD hS ls hl => ?_) ((n - 0) + 1) 0 false a b (by omega) (rfl) (hcd) (e1) (e2) (ha2) (hb2) (hm6) (by omega) _ _ hP hD hS ls (lv_sub hl [2, 3, 4, 1, 0] rfl)
        refine lv_iload hx hb dM_mover_111 (lv_at hl 3 rfl) ?_
        refine rb_ne (tgt := 118) hx hb dM_mover_113 (by decide) (fun c113 => ?_) (fun c113 => ?_)
        · refine lv_aload_n hx hb dM_mover_118 rfl (lv_at hl 0 rfl) ?_
          refine va_get (D := (dC, dI)) (ci := 5) (v := .ref (qm 10)) (C := nM) (T := TM) (N := 26) hx hb hg inM hown hK hP 0 rfl rfl 13 (by decide) (hg _ kM_39) (fun _ h9 => h9) rfl dM_mover_119 ?_
          refine lv_aload_n hx hb dM_mover_122 rfl (lv_at hl 0 rfl) ?_
          refine va_get (D := (dC, dI)) (ci := 5) (v := .int (nI mc)) (C := nM) (T := TM) (N := 26) hx hb hg inM hown hK hP 0 rfl rfl 12 (by decide) (hg _ kM_101) (fun _ h9 => h9) rfl dM_mover_123 ?_
          refine lv_iload_n hx hb dM_mover_126 rfl (lv_at hl 1 rfl) ?_
          refine sa_i (f := mw) (v := a) hx hb hK hP hD hS 10 0 rfl rfl (by omega) (by decide) dM_mover_127 (fun H locs hP hD hS => ?_)
          have hP : va_P (dC, dI) vwCl (wM cI cJ cZ qm lv bg en sc wd ht sh oh ba (va_up mw mc a) mh mk rm nm bs bc bp on wh 0 pc n mc kc sl fo) H := hP
          have hD : va_D A (wM cI cJ cZ qm lv bg en sc wd ht sh oh ba (va_up mw mc a) mh mk rm nm bs bc bp on wh 0 pc n mc kc sl fo) := hD
          refine lv_aload_n hx hb dM_mover_128 rfl (lv_at hl 0 rfl) ?_
          refine va_get (D := (dC, dI)) (ci := 5) (v := .ref (qm 11)) (C := nM) (T := TM) (N := 26) hx hb hg inM hown hK hP 0 rfl rfl 14 (by decide) (hg _ kM_42) (fun _ h9 => h9) rfl dM_mover_129 ?_
          refine lv_aload_n hx hb dM_mover_132 rfl (lv_at hl 0 rfl) ?_
          refine va_get (D := (dC, dI)) (ci := 5) (v := .int (nI mc)) (C := nM) (T := TM) (N := 26) hx hb hg inM hown hK hP 0 rfl rfl 12 (by decide) (hg _ kM_101) (fun _ h9 => h9) rfl dM_mover_133 ?_
          refine lv_lload_n hx hb dM_mover_136 rfl (lv_at hl 2 rfl) ?_
          refine rn_l2i hx hb dM_mover_137 ?_
          refine sa_i (f := mh) (v := b) hx hb hK hP hD hS 11 0 rfl rfl (by omega) (by decide) dM_mover_138 (fun H locs hP hD hS => ?_)
          have hP : va_P (dC, dI) vwCl (wM cI cJ cZ qm lv bg en sc wd ht sh oh ba (va_up mw mc a) (va_up mh mc b) mk rm nm bs bc bp on wh 0 pc n mc kc sl fo) H := hP
          have hD : va_D A (wM cI cJ cZ qm lv bg en sc wd ht sh oh ba (va_up mw mc a) (va_up mh mc b) mk rm nm bs bc bp on wh 0 pc n mc kc sl fo) := hD
          refine lv_aload_n hx hb dM_mover_139 rfl (lv_at hl 0 rfl) ?_
          refine lv_dup hx hb dM_mover_140 rfl ?_
          refine va_get (D := (dC, dI)) (ci := 5) (v := .int (nI mc)) (C := nM) (T := TM) (N := 26) hx hb hg inM hown hK hP 0 rfl rfl 12 (by decide) (hg _ kM_101) (fun _ h9 => h9) rfl dM_mover_141 ?_
          refine rn_iconst hx hb 1 dM_mover_144 (by decide) ?_
          refine rn_iadd hx hb dM_mover_145 ?_
          refine va_put (D := (dC, dI)) (ci := 5) (v := .int (nI (mc + 1))) (ty := .int) (C := nM) (T := TM) (N := 26) hx hb hg inM tM tM_ok nmM hown hK hP hD hS 0 rfl rfl 12 (by decide) (hg _ kM_101) (fun _ h9 => h9) rfl (by decide +kernel) rfl rfl (Nat.le_of_ble_eq_true rfl) dM_mover_146 (fun H locs hP hD hS => ?_)
          have hP : va_P (dC, dI) vwCl (wM cI cJ cZ qm lv bg en sc wd ht sh oh ba (va_up mw mc a) (va_up mh mc b) mk rm nm bs bc bp on wh 0 pc n (mc + 1) kc sl fo) H := hP
          have hD : va_D A (wM cI cJ cZ qm lv bg en sc wd ht sh oh ba (va_up mw mc a) (va_up mh mc b) mk rm nm bs bc bp on wh 0 pc n (mc + 1) kc sl fo) := hD
          refine lv_aload_n hx hb dM_mover_149 rfl (lv_at hl 0 rfl) ?_
          refine va_get (D := (dC, dI)) (ci := 5) (v := .int (nI (mc + 1))) (C := nM) (T := TM) (N := 26) hx hb hg inM hown hK hP 0 rfl rfl 12 (by decide) (hg _ kM_101) (fun _ h9 => h9) rfl dM_mover_150 ?_
          refine rn_iconst hx hb 1 dM_mover_153 (by decide) ?_
          refine rn_isub hx hb dM_mover_154 (by omega) ?_
          have hcd : cdMo mc w h = 0 := hcd
          have hP9 : va_P (dC, dI) vwCl (wM cI cJ cZ qm lv bg en sc wd ht sh oh ba (if cdMo mc w h = 0 then (if afB wd ht (cN w) (cLn h) n = true then va_up mw mc (cN w) else mw) else mw) (if cdMo mc w h = 0 then (if afB wd ht (cN w) (cLn h) n = true then va_up mh mc (cLn h) else mh) else mh) mk rm nm bs bc bp on wh (cdMo mc w h) pc n (if cdMo mc w h = 0 then (if afB wd ht (cN w) (cLn h) n = true then mc + 1 else mc) else mc) kc sl fo) H := by rw [hcd, e1, e2, ← hx1, c113]; exact hP
          have hD9 : va_D A (wM cI cJ cZ qm lv bg en sc wd ht sh oh ba (if cdMo mc w h = 0 then (if afB wd ht (cN w) (cLn h) n = true then va_up mw mc (cN w) else mw) else mw) (if cdMo mc w h = 0 then (if afB wd ht (cN w) (cLn h) n = true then va_up mh mc (cLn h) else mh) else mh) mk rm nm bs bc bp on wh (cdMo mc w h) pc n (if cdMo mc w h = 0 then (if afB wd ht (cN w) (cLn h) n = true then mc + 1 else mc) else mc) kc sl fo) := by rw [hcd, e1, e2, ← hx1, c113]; exact hD
          exact W.iret hx hb hr (fun t ht hW => ⟨⟨_, (), rfl, (by rw [hcd, e1, e2, ← hx1, c113]; first | rfl | exact congrArg nI (show mc + 1 - 1 = mc by omega)), by rw [ht]; exact hP9, va_K.moved hW.alike hK, hD9⟩, hS.F ht⟩) hS.2.2 dM_mover_155
        · refine lv_iconst (v := -1) hx hb dM_mover_116 (by decide) ?_
          have hcd : cdMo mc w h = 0 := hcd
          have hP9 : va_P (dC, dI) vwCl (wM cI cJ cZ qm lv bg en sc wd ht sh oh ba (if cdMo mc w h = 0 then (if afB wd ht (cN w) (cLn h) n = true then va_up mw mc (cN w) else mw) else mw) (if cdMo mc w h = 0 then (if afB wd ht (cN w) (cLn h) n = true then va_up mh mc (cLn h) else mh) else mh) mk rm nm bs bc bp on wh (cdMo mc w h) pc n (if cdMo mc w h = 0 then (if afB wd ht (cN w) (cLn h) n = true then mc + 1 else mc) else mc) kc sl fo) H := by rw [hcd, e1, e2, ← hx1, c113]; exact hP
          have hD9 : va_D A (wM cI cJ cZ qm lv bg en sc wd ht sh oh ba (if cdMo mc w h = 0 then (if afB wd ht (cN w) (cLn h) n = true then va_up mw mc (cN w) else mw) else mw) (if cdMo mc w h = 0 then (if afB wd ht (cN w) (cLn h) n = true then va_up mh mc (cLn h) else mh) else mh) mk rm nm bs bc bp on wh (cdMo mc w h) pc n (if cdMo mc w h = 0 then (if afB wd ht (cN w) (cLn h) n = true then mc + 1 else mc) else mc) kc sl fo) := by rw [hcd, e1, e2, ← hx1, c113]; exact hD
          exact W.iret hx hb hr (fun t ht hW => ⟨⟨_, (), rfl, (by rw [hcd, e1, e2, ← hx1, c113]; first | rfl | exact congrArg nI (show mc + 1 - 1 = mc by omega)), by rw [ht]; exact hP9, va_K.moved hW.alike hK, hD9⟩, hS.F ht⟩) hS.2.2 dM_mover_117
      · refine rn_iconst hx hb 2 dM_mover_37 (by decide) ?_
        refine lv_goto (tgt := 42) hx hb dM_mover_38 (by decide) ?_
        refine va_put (D := (dC, dI)) (ci := 5) (v := .int (nI 2)) (ty := .int) (C := nM) (T := TM) (N := 26) hx hb hg inM tM tM_ok nmM hown hK hP hD hS 0 rfl rfl 0 (by decide) (hg _ kM_69) (fun _ h9 => h9) rfl (by decide +kernel) rfl rfl (Nat.le_of_ble_eq_true rfl) dM_mover_42 (fun H locs hP hD hS => ?_)
        have hP : va_P (dC, dI) vwCl (wM cI cJ cZ qm lv bg en sc wd ht sh oh ba mw mh mk rm nm bs bc bp on wh 2 pc n mc kc sl fo) H := hP
        have hD : va_D A (wM cI cJ cZ qm lv bg en sc wd ht sh oh ba mw mh mk rm nm bs bc bp on wh 2 pc n mc kc sl fo) := hD
        refine lv_aload_n hx hb dM_mover_45 rfl (lv_at hl 0 rfl) ?_
        refine va_get (D := (dC, dI)) (ci := 5) (v := .int (nI 2)) (C := nM) (T := TM) (N := 26) hx hb hg inM hown hK hP 0 rfl rfl 0 (by decide) (hg _ kM_69) (fun _ h9 => h9) rfl dM_mover_46 ?_
        refine lv_if_le (tgt := 54) hx hb dM_mover_49 (by decide) (fun c49 => absurd c49 (by decide)) (fun c49 => ?_)
        refine rn_iconst hx hb 0 dM_mover_52 (by decide) ?_
        have hcd : cdMo mc w h = 2 := by first | (simp [cdMo, szB, c10, c21, c34]; done) | (simp [cdMo, szB, c10, c21, c34]; omega)
        have hP9 : va_P (dC, dI) vwCl (wM cI cJ cZ qm lv bg en sc wd ht sh oh ba (if cdMo mc w h = 0 then (if afB wd ht (cN w) (cLn h) n = true then va_up mw mc (cN w) else mw) else mw) (if cdMo mc w h = 0 then (if afB wd ht (cN w) (cLn h) n = true then va_up mh mc (cLn h) else mh) else mh) mk rm nm bs bc bp on wh (cdMo mc w h) pc n (if cdMo mc w h = 0 then (if afB wd ht (cN w) (cLn h) n = true then mc + 1 else mc) else mc) kc sl fo) H := by rw [hcd]; exact hP
        have hD9 : va_D A (wM cI cJ cZ qm lv bg en sc wd ht sh oh ba (if cdMo mc w h = 0 then (if afB wd ht (cN w) (cLn h) n = true then va_up mw mc (cN w) else mw) else mw) (if cdMo mc w h = 0 then (if afB wd ht (cN w) (cLn h) n = true then va_up mh mc (cLn h) else mh) else mh) mk rm nm bs bc bp on wh (cdMo mc w h) pc n (if cdMo mc w h = 0 then (if afB wd ht (cN w) (cLn h) n = true then mc + 1 else mc) else mc) kc sl fo) := by rw [hcd]; exact hD
        exact W.iret hx hb hr (fun t ht hW => ⟨⟨_, (), rfl, (by rw [hcd]; rfl), by rw [ht]; exact hP9, va_K.moved hW.alike hK, hD9⟩, hS.F ht⟩) hS.2.2 dM_mover_53
    · refine rn_iconst hx hb 1 dM_mover_24 (by decide) ?_
      refine lv_goto (tgt := 42) hx hb dM_mover_25 (by decide) ?_
      refine va_put (D := (dC, dI)) (ci := 5) (v := .int (nI 1)) (ty := .int) (C := nM) (T := TM) (N := 26) hx hb hg inM tM tM_ok nmM hown hK hP hD hS 0 rfl rfl 0 (by decide) (hg _ kM_69) (fun _ h9 => h9) rfl (by decide +kernel) rfl rfl (Nat.le_of_ble_eq_true rfl) dM_mover_42 (fun H locs hP hD hS => ?_)
      have hP : va_P (dC, dI) vwCl (wM cI cJ cZ qm lv bg en sc wd ht sh oh ba mw mh mk rm nm bs bc bp on wh 1 pc n mc kc sl fo) H := hP
      have hD : va_D A (wM cI cJ cZ qm lv bg en sc wd ht sh oh ba mw mh mk rm nm bs bc bp on wh 1 pc n mc kc sl fo) := hD
      refine lv_aload_n hx hb dM_mover_45 rfl (lv_at hl 0 rfl) ?_
      refine va_get (D := (dC, dI)) (ci := 5) (v := .int (nI 1)) (C := nM) (T := TM) (N := 26) hx hb hg inM hown hK hP 0 rfl rfl 0 (by decide) (hg _ kM_69) (fun _ h9 => h9) rfl dM_mover_46 ?_
      refine lv_if_le (tgt := 54) hx hb dM_mover_49 (by decide) (fun c49 => absurd c49 (by decide)) (fun c49 => ?_)
      refine rn_iconst hx hb 0 dM_mover_52 (by decide) ?_
      have hcd : cdMo mc w h = 1 := by first | (simp [cdMo, szB, c10, c21]; done) | (simp [cdMo, szB, c10, c21]; omega)
      have hP9 : va_P (dC, dI) vwCl (wM cI cJ cZ qm lv bg en sc wd ht sh oh ba (if cdMo mc w h = 0 then (if afB wd ht (cN w) (cLn h) n = true then va_up mw mc (cN w) else mw) else mw) (if cdMo mc w h = 0 then (if afB wd ht (cN w) (cLn h) n = true then va_up mh mc (cLn h) else mh) else mh) mk rm nm bs bc bp on wh (cdMo mc w h) pc n (if cdMo mc w h = 0 then (if afB wd ht (cN w) (cLn h) n = true then mc + 1 else mc) else mc) kc sl fo) H := by rw [hcd]; exact hP
      have hD9 : va_D A (wM cI cJ cZ qm lv bg en sc wd ht sh oh ba (if cdMo mc w h = 0 then (if afB wd ht (cN w) (cLn h) n = true then va_up mw mc (cN w) else mw) else mw) (if cdMo mc w h = 0 then (if afB wd ht (cN w) (cLn h) n = true then va_up mh mc (cLn h) else mh) else mh) mk rm nm bs bc bp on wh (cdMo mc w h) pc n (if cdMo mc w h = 0 then (if afB wd ht (cN w) (cLn h) n = true then mc + 1 else mc) else mc) kc sl fo) := by rw [hcd]; exact hD
      exact W.iret hx hb hr (fun t ht hW => ⟨⟨_, (), rfl, (by rw [hcd]; rfl), by rw [ht]; exact hP9, va_K.moved hW.alike hK, hD9⟩, hS.F ht⟩) hS.2.2 dM_mover_53

set_option maxHeartbeats 4000000 in
set_option maxRecDepth 100000 in
theorem lp_M_mark {p : Program} {l : Launch} {e : Env} {R : Room} {s : State} {m : MethodId} {args : Array Value} {below : List Frame} {meth : Method} {c : Code} {cells slots : Nat} {Q : State → Prop} {dC : Nat → ClassId} {dI : Nat → Nat → Nat} {cI cJ cZ : ClassId} {A : Nat → Prop} (qm : Nat → Nat) (lv mw mh mk : Nat → Nat) (pc mc kc : Nat) (bg en sc wd ht oh bt : Nat → Nat) (co n : Nat) (sh ba : Nat → Bool) (rm nm bs bc bp on wh : Nat → Nat) (cd sl fo : Nat) (x : Int32) (hG : bGp lv mw mh mk pc mc kc) (hB : bP bg en sc wd ht oh bt co n)  (hx : p.tables.exec = Jvm.exec) (hb : c.code = cM_mark) (hml : c.maxLocals = 4) (hown : s.vm.findClass nM = some m.cls) (hts : ∀ w ∈ wsM_mark, w.before args s = true) (hK : va_K (dC, dI) vwCl (tyE cI cJ cZ) s) (hE : EV s) (hA : ∀ q : Nat, s.heap.size ≤ q → A q) (hR : 0 ≤ R.frames ∧ 0 ≤ R.locals) (hcs : cells ≤ R.cells ∧ slots ≤ R.slots)
    (kx0 : ∀ (i : Nat) (b9 : Bool) (h1 : i ≤ kc) (hb9 : b9 = imB mk x i) (hx0 : n ≤ n) (hx1 : b9 = imB mk x kc) (H : Heap) (locs : List Loc), va_P (dC, dI) vwCl (wM cI cJ cZ qm lv bg en sc wd ht sh oh ba mw mh mk rm nm bs bc bp on wh cd pc n mc kc sl fo) H → va_D A (wM cI cJ cZ qm lv bg en sc wd ht sh oh ba mw mh mk rm nm bs bc bp on wh cd pc n mc kc sl fo) → va_S A s.heap H locs → ∀ ls : Array Slot, lv_has ls 4 [(0, .ref (qm 0)), (1, .int x), (2, .int (bI b9)), (3, .int (nI i))] →  W p l e R s m args below meth c H locs cells slots Q (F0 m 38 ls []))
    : ∀ (fu : Nat) (i : Nat) (b9 : Bool) (h1 : i ≤ kc) (hb9 : b9 = imB mk x i), kc - i < fu → ∀ (H : Heap) (locs : List Loc), va_P (dC, dI) vwCl (wM cI cJ cZ qm lv bg en sc wd ht sh oh ba mw mh mk rm nm bs bc bp on wh cd pc n mc kc sl fo) H → va_D A (wM cI cJ cZ qm lv bg en sc wd ht sh oh ba mw mh mk rm nm bs bc bp on wh cd pc n mc kc sl fo) → va_S A s.heap H locs → ∀ ls : Array Slot, lv_has ls 4 [(0, .ref (qm 0)), (1, .int x), (2, .int (bI b9)), (3, .int (nI i))] →  W p l e R s m args below meth c H locs cells slots Q (F0 m 4 ls []) := by
  have hg : ∀ w ∈ gw, w.before args s = true := fun w h => hts w (List.mem_cons_of_mem _ h)
  have hpc := hG.1
  have hmc := hG.2.1
  have hkc := hG.2.2.1
  have hgi := hG.2.2.2
  have hbi := hB.2.2
  have hn := hB.1
  have hco := hB.2.1
  intro fu
  induction fu with
  | zero => intro i b9 h1 hb9 h0; exact absurd h0 (Nat.not_lt_zero _)
  | succ fu ihL =>
    intro i b9 h1 hb9 hfu H locs hP hD hS ls hl
    refine lv_iload_n hx hb dM_mark_4 rfl (lv_at hl 3 rfl) ?_
    refine lv_aload_n hx hb dM_mark_5 rfl (lv_at hl 0 rfl) ?_
    refine va_get (D := (dC, dI)) (ci := 5) (v := .int (nI kc)) (C := nM) (T := TM) (N := 26) hx hb hg inM hown hK hP 0 rfl rfl 15 (by decide) (hg _ kM_149) (fun _ h9 => h9) rfl dM_mark_6 ?_
    refine rn_icmp_ge (tgt := 38) hx hb dM_mark_9 (by decide) (by omega) (by omega) (fun c9 => ?_) (fun c9 => ?_)
    · exact kx0 i b9 h1 hb9 (Nat.le_refl _) (by rw [show kc = i from by omega]; exact hb9) H locs hP hD hS ls (lv_sub hl [0, 1, 2, 3] rfl)
    · refine lv_iload_n hx hb dM_mark_12 rfl (lv_at hl 2 rfl) ?_
      refine rb_ne (tgt := 26) hx hb dM_mark_13 (by decide) (fun c13 => ?_) (fun c13 => ?_)
      · refine rn_iconst hx hb 1 dM_mark_26 (by decide) ?_
        refine lv_goto (tgt := 31) hx hb dM_mark_27 (by decide) ?_
        refine lv_istore_n (lv' := [(2, .int (nI 1)), (0, .ref (qm 0)), (1, .int x), (3, .int (nI i))]) hx hb dM_mark_31 rfl hl (by decide) rfl (fun ls hl => ?_)
        refine rn_iinc (lv' := [(3, .int (nI (i + 1))), (2, .int (nI 1)), (0, .ref (qm 0)), (1, .int x)]) hx hb dM_mark_32 hl (k := 3) rfl (by decide) rfl (fun ls hl => ?_)
        refine lv_goto (tgt := 4) hx hb dM_mark_35 (by decide) ?_
        exact ihL (i + 1) true (by omega) (by first | exact im_t1 hb9 c13 | exact im_t2 c23 | exact im_f hb9 c13 c23) (by omega) H locs hP hD hS ls (lv_sub hl [2, 3, 1, 0] rfl)
      · refine lv_aload_n hx hb dM_mark_16 rfl (lv_at hl 0 rfl) ?_
        refine va_get (D := (dC, dI)) (ci := 5) (v := .ref (qm 12)) (C := nM) (T := TM) (N := 26) hx hb hg inM hown hK hP 0 rfl rfl 16 (by decide) (hg _ kM_45) (fun _ h9 => h9) rfl dM_mark_17 ?_
        refine lv_iload_n hx hb dM_mark_20 rfl (lv_at hl 3 rfl) ?_
        refine ga_i (f := mk) hx hb hK hP 12 0 rfl rfl (by omega) (by decide) dM_mark_21 ?_
        refine lv_iload_n hx hb dM_mark_22 rfl (lv_at hl 1 rfl) ?_
        refine lv_icmp_ne (tgt := 30) hx hb dM_mark_23 (by decide) (fun c23 => ?_) (fun c23 => ?_)
        · refine rn_iconst hx hb 0 dM_mark_30 (by decide) ?_
          refine lv_istore_n (lv' := [(2, .int (nI 0)), (0, .ref (qm 0)), (1, .int x), (3, .int (nI i))]) hx hb dM_mark_31 rfl hl (by decide) rfl (fun ls hl => ?_)
          refine rn_iinc (lv' := [(3, .int (nI (i + 1))), (2, .int (nI 0)), (0, .ref (qm 0)), (1, .int x)]) hx hb dM_mark_32 hl (k := 3) rfl (by decide) rfl (fun ls hl => ?_)
          refine lv_goto (tgt := 4) hx hb dM_mark_35 (by decide) ?_
          exact ihL (i + 1) false (by omega) (by first | exact im_t1 hb9 c13 | exact im_t2 c23 | exact im_f hb9 c13 c23) (by omega) H locs hP hD hS ls (lv_sub hl [2, 3, 1, 0] rfl)
        · refine rn_iconst hx hb 1 dM_mark_26 (by decide) ?_
          refine lv_goto (tgt := 31) hx hb dM_mark_27 (by decide) ?_
          refine lv_istore_n (lv' := [(2, .int (nI 1)), (0, .ref (qm 0)), (1, .int x), (3, .int (nI i))]) hx hb dM_mark_31 rfl hl (by decide) rfl (fun ls hl => ?_)
          refine rn_iinc (lv' := [(3, .int (nI (i + 1))), (2, .int (nI 1)), (0, .ref (qm 0)), (1, .int x)]) hx hb dM_mark_32 hl (k := 3) rfl (by decide) rfl (fun ls hl => ?_)
          refine lv_goto (tgt := 4) hx hb dM_mark_35 (by decide) ?_
          exact ihL (i + 1) true (by omega) (by first | exact im_t1 hb9 c13 | exact im_t2 c23 | exact im_f hb9 c13 c23) (by omega) H locs hP hD hS ls (lv_sub hl [2, 3, 1, 0] rfl)

set_option maxHeartbeats 4000000 in
set_option maxRecDepth 100000 in
theorem ct_M_mark (l : Launch) (dC : Nat → ClassId) (dI : Nat → Nat → Nat) (cI cJ cZ : ClassId) (qm : Nat → Nat) (lv mw mh mk : Nat → Nat) (pc mc kc : Nat) (bg en sc wd ht oh bt : Nat → Nat) (co n : Nat) (sh ba : Nat → Bool) (rm nm bs bc bp on wh : Nat → Nat) (cd sl fo : Nat) (x : Int32) (sz : Nat) (hG : bGp lv mw mh mk pc mc kc) (hB : bP bg en sc wd ht oh bt co n) : Met l yM_mark wsM_mark ({ frames := 2, cells := 0, slots := 0, locals := 46 }) (PcW (dC, dI) (wM cI cJ cZ qm lv bg en sc wd ht sh oh ba mw mh mk rm nm bs bc bp on wh cd pc n mc kc sl fo) (tyE cI cJ cZ) sz [.ref (qm 0), .int x]) (QwI (dC, dI) (nI (if cdMa pc kc mk x = 0 then kc + 1 else 0)) (wM cI cJ cZ qm lv bg en sc wd ht sh oh ba mw mh (if cdMa pc kc mk x = 0 then va_up mk kc (cN x) else mk) rm nm bs bc bp on wh (cdMa pc kc mk x) pc n mc (if cdMa pc kc mk x = 0 then kc + 1 else kc) sl fo) (tyE cI cJ cZ) (va_A (wM cI cJ cZ qm lv bg en sc wd ht sh oh ba mw mh mk rm nm bs bc bp on wh cd pc n mc kc sl fo) sz)) 0 0 (va_A (wM cI cJ cZ qm lv bg en sc wd ht sh oh ba mw mh mk rm nm bs bc bp on wh cd pc n mc kc sl fo) sz) := by
  refine Met.ofW (cc := cM_mark) (maxL := 4) (ret := (some .int)) (by decide) rfl ?_
  intro p e s m args below meth c s₁ B hml hv
  obtain ⟨rfl, hsz, hP, hK, hD0, hE⟩ := hv
  have hx := B.exec
  have hb := B.bytes
  have hr := B.returns
  have hts := atoms_spec (ws := wsM_mark) B.pre
  have hg : ∀ w ∈ gw, w.before _ s = true := fun w h => hts w (List.mem_cons_of_mem _ h)
  have hown : s.vm.findClass nM = some m.cls := findClass_of_methodNamed B.named
  have hlocks := B.notSynchronized
  have hR : 2 ≤ (headSpec wsM_mark ({ frames := 2, cells := 0, slots := 0, locals := 46 })).room.frames ∧ 46 ≤ (headSpec wsM_mark ({ frames := 2, cells := 0, slots := 0, locals := 46 })).room.locals := ⟨Nat.le_refl _, Nat.le_refl _⟩
  have hcs : 0 ≤ (headSpec wsM_mark ({ frames := 2, cells := 0, slots := 0, locals := 46 })).room.cells ∧ 0 ≤ (headSpec wsM_mark ({ frames := 2, cells := 0, slots := 0, locals := 46 })).room.slots := ⟨Nat.zero_le _, Nat.zero_le _⟩
  subst hsz
  have hD := hD0.self (sz := s.heap.size)
  generalize hAe : va_A (wM cI cJ cZ qm lv bg en sc wd ht sh oh ba mw mh mk rm nm bs bc bp on wh cd pc n mc kc sl fo) s.heap.size = A at hD ⊢
  have hA : ∀ q : Nat, s.heap.size ≤ q → A q := fun q h => by rw [← hAe]; exact Or.inr h
  obtain ⟨H, hH⟩ : ∃ H, H = s.heap := ⟨_, rfl⟩
  have hS : va_S A s.heap H [] := by rw [hH]; exact va_S.rf
  rw [← hH] at hP ⊢
  have hpc := hG.1
  have hmc := hG.2.1
  have hkc := hG.2.2.1
  have hgi := hG.2.2.2
  have hbi := hB.2.2
  have hn := hB.1
  have hco := hB.2.1
  have hl := lv_entry ([.ref (qm 0), .int x]) (n := 4) (Nat.le_of_ble_eq_true rfl)
  rw [lg_entry_eq]
  generalize (lg_sl ([.ref (qm 0), .int x]) ++ List.replicate (4 - (lg_sl ([.ref (qm 0), .int x])).length) Slot.unset).toArray = ls at hl ⊢
  have hl : lv_has ls 4 [(0, .ref (qm 0)), (1, .int x)] := hl
  refine rn_iconst hx hb 0 dM_mark_0 (by decide) ?_
  refine lv_istore_n (lv' := [(2, .int (nI 0)), (0, .ref (qm 0)), (1, .int x)]) hx hb dM_mark_1 rfl hl (by decide) rfl (fun ls hl => ?_)
  refine rn_iconst hx hb 0 dM_mark_2 (by decide) ?_
  refine lv_istore_n (lv' := [(3, .int (nI 0)), (2, .int (nI 0)), (0, .ref (qm 0)), (1, .int x)]) hx hb dM_mark_3 rfl hl (by decide) rfl (fun ls hl => ?_)
  refine lp_M_mark qm lv mw mh mk pc mc kc bg en sc wd ht oh bt co n sh ba rm nm bs bc bp on wh cd sl fo x hG hB  hx hb hml hown hts hK hE hA (by first | exact hR | exact ⟨Nat.le_trans (by decide) hR.1, Nat.le_trans (by decide) hR.2⟩) hcs (fun i b9 h1 hb9 hx0 hx1 H locs hP hD hS ls hl => ?_) ((kc - 0) + 1) 0 false (by omega) (rfl) (by omega) _ _ hP hD hS ls (lv_sub hl [2, 3, 1, 0] rfl)
  refine lv_aload_n hx hb dM_mark_38 rfl (lv_at hl 0 rfl) ?_
  refine lv_aload_n hx hb dM_mark_39 rfl (lv_at hl 0 rfl) ?_
  refine lv_iload_n hx hb dM_mark_40 rfl (lv_at hl 1 rfl) ?_
  refine cpV_i (b := (qm 0)) (C := nM) (As := [.int x]) (rest := [.ref (qm 0)]) (post := fun r : Int32 => r = bI (inB x pc)) ⟨hx, hb, hml, hown, hts⟩ (ct_M_isPlace l dC dI cI cJ cZ qm lv mw mh mk pc mc kc bg en sc wd ht oh bt co n sh ba rm nm bs bc bp on wh cd sl fo x (hG) (hB)) (cwV 1 hts (gv kM_86 ki_M_isPlace ksel_M_isPlace kin_M kc_M_isPlace) rfl rfl rfl (by decide +kernel) ⟨Nat.le_trans (by decide) hR.1, Nat.le_trans (by decide) hR.2⟩) (va_recv hK hP (ci := 5) (q0 := 0) rfl rfl) hP hK hE rfl hl.1 rfl (Nat.le_of_ble_eq_true rfl) dM_mark_41 hcs (fun r hr => ?_)
  subst hr
  refine rb_ne (tgt := 51) hx hb dM_mark_44 (by decide) (fun c44 => ?_) (fun c44 => ?_)
  · refine lv_iload_n hx hb dM_mark_51 rfl (lv_at hl 2 rfl) ?_
    refine rb_eq (tgt := 59) hx hb dM_mark_52 (by decide) (fun c52 => ?_) (fun c52 => ?_)
    · refine lv_aload_n hx hb dM_mark_59 rfl (lv_at hl 0 rfl) ?_
      refine va_get (D := (dC, dI)) (ci := 5) (v := .int (nI kc)) (C := nM) (T := TM) (N := 26) hx hb hg inM hown hK hP 0 rfl rfl 15 (by decide) (hg _ kM_149) (fun _ h9 => h9) rfl dM_mark_60 ?_
      refine rn_bipush hx hb 8 dM_mark_63 (by decide) ?_
      refine rn_icmp_ne (tgt := 72) hx hb dM_mark_65 (by decide) (by omega) (by omega) (fun c65 => ?_) (fun c65 => ?_)
      · refine rn_iconst hx hb 0 dM_mark_72 (by decide) ?_
        refine va_put (D := (dC, dI)) (ci := 5) (v := .int (nI 0)) (ty := .int) (C := nM) (T := TM) (N := 26) hx hb hg inM tM tM_ok nmM hown hK hP hD hS 0 rfl rfl 0 (by decide) (hg _ kM_69) (fun _ h9 => h9) rfl (by decide +kernel) rfl rfl (Nat.le_of_ble_eq_true rfl) dM_mark_73 (fun H locs hP hD hS => ?_)
        have hP : va_P (dC, dI) vwCl (wM cI cJ cZ qm lv bg en sc wd ht sh oh ba mw mh mk rm nm bs bc bp on wh 0 pc n mc kc sl fo) H := hP
        have hD : va_D A (wM cI cJ cZ qm lv bg en sc wd ht sh oh ba mw mh mk rm nm bs bc bp on wh 0 pc n mc kc sl fo) := hD
        refine lv_aload_n hx hb dM_mark_76 rfl (lv_at hl 0 rfl) ?_
        refine va_get (D := (dC, dI)) (ci := 5) (v := .int (nI 0)) (C := nM) (T := TM) (N := 26) hx hb hg inM hown hK hP 0 rfl rfl 0 (by decide) (hg _ kM_69) (fun _ h9 => h9) rfl dM_mark_77 ?_
        refine lv_if_le (tgt := 85) hx hb dM_mark_80 (by decide) (fun c80 => ?_) (fun c80 => absurd c80 (by decide))
        obtain ⟨j, hj, ej⟩ := in_of c44 (by omega)
        have e1 : cN x = j := by rw [ej]; exact cN_n (by omega)
        have hl : lv_has ls 4 [(0, .ref (qm 0)), (1, .int (nI j)), (2, .int (bI b9)), (3, .int (nI i))] := by rw [ej] at hl; exact hl
        refine lv_aload_n hx hb dM_mark_85 rfl (lv_at hl 0 rfl) ?_
        refine va_get (D := (dC, dI)) (ci := 5) (v := .ref (qm 12)) (C := nM) (T := TM) (N := 26) hx hb hg inM hown hK hP 0 rfl rfl 16 (by decide) (hg _ kM_45) (fun _ h9 => h9) rfl dM_mark_86 ?_
        refine lv_aload_n hx hb dM_mark_89 rfl (lv_at hl 0 rfl) ?_
        refine va_get (D := (dC, dI)) (ci := 5) (v := .int (nI kc)) (C := nM) (T := TM) (N := 26) hx hb hg inM hown hK hP 0 rfl rfl 15 (by decide) (hg _ kM_149) (fun _ h9 => h9) rfl dM_mark_90 ?_
        refine lv_iload_n hx hb dM_mark_93 rfl (lv_at hl 1 rfl) ?_
        refine sa_i (f := mk) (v := j) hx hb hK hP hD hS 12 0 rfl rfl (by omega) (by decide) dM_mark_94 (fun H locs hP hD hS => ?_)
        have hP : va_P (dC, dI) vwCl (wM cI cJ cZ qm lv bg en sc wd ht sh oh ba mw mh (va_up mk kc j) rm nm bs bc bp on wh 0 pc n mc kc sl fo) H := hP
        have hD : va_D A (wM cI cJ cZ qm lv bg en sc wd ht sh oh ba mw mh (va_up mk kc j) rm nm bs bc bp on wh 0 pc n mc kc sl fo) := hD
        refine lv_aload_n hx hb dM_mark_95 rfl (lv_at hl 0 rfl) ?_
        refine lv_dup hx hb dM_mark_96 rfl ?_
        refine va_get (D := (dC, dI)) (ci := 5) (v := .int (nI kc)) (C := nM) (T := TM) (N := 26) hx hb hg inM hown hK hP 0 rfl rfl 15 (by decide) (hg _ kM_149) (fun _ h9 => h9) rfl dM_mark_97 ?_
        refine rn_iconst hx hb 1 dM_mark_100 (by decide) ?_
        refine rn_iadd hx hb dM_mark_101 ?_
        refine va_put (D := (dC, dI)) (ci := 5) (v := .int (nI (kc + 1))) (ty := .int) (C := nM) (T := TM) (N := 26) hx hb hg inM tM tM_ok nmM hown hK hP hD hS 0 rfl rfl 15 (by decide) (hg _ kM_149) (fun _ h9 => h9) rfl (by decide +kernel) rfl rfl (Nat.le_of_ble_eq_true rfl) dM_mark_102 (fun H locs hP hD hS => ?_)
        have hP : va_P (dC, dI) vwCl (wM cI cJ cZ qm lv bg en sc wd ht sh oh ba mw mh (va_up mk kc j) rm nm bs bc bp on wh 0 pc n mc (kc + 1) sl fo) H := hP
        have hD : va_D A (wM cI cJ cZ qm lv bg en sc wd ht sh oh ba mw mh (va_up mk kc j) rm nm bs bc bp on wh 0 pc n mc (kc + 1) sl fo) := hD
        refine lv_aload_n hx hb dM_mark_105 rfl (lv_at hl 0 rfl) ?_
        refine va_get (D := (dC, dI)) (ci := 5) (v := .int (nI (kc + 1))) (C := nM) (T := TM) (N := 26) hx hb hg inM hown hK hP 0 rfl rfl 15 (by decide) (hg _ kM_149) (fun _ h9 => h9) rfl dM_mark_106 ?_
        have hcd : cdMa pc kc mk x = 0 := by rw [cdMa, if_pos c44, if_neg (by rw [← hx1, c52]; decide), if_pos (by omega)]
        have hP9 : va_P (dC, dI) vwCl (wM cI cJ cZ qm lv bg en sc wd ht sh oh ba mw mh (if cdMa pc kc mk x = 0 then va_up mk kc (cN x) else mk) rm nm bs bc bp on wh (cdMa pc kc mk x) pc n mc (if cdMa pc kc mk x = 0 then kc + 1 else kc) sl fo) H := by rw [hcd, e1]; exact hP
        have hD9 : va_D A (wM cI cJ cZ qm lv bg en sc wd ht sh oh ba mw mh (if cdMa pc kc mk x = 0 then va_up mk kc (cN x) else mk) rm nm bs bc bp on wh (cdMa pc kc mk x) pc n mc (if cdMa pc kc mk x = 0 then kc + 1 else kc) sl fo) := by rw [hcd, e1]; exact hD
        exact W.iret hx hb hr (fun t ht hW => ⟨⟨_, (), rfl, (by rw [hcd]; rfl), by rw [ht]; exact hP9, va_K.moved hW.alike hK, hD9⟩, hS.F ht⟩) hS.2.2 dM_mark_109
      · refine rn_iconst hx hb 3 dM_mark_68 (by decide) ?_
        refine lv_goto (tgt := 73) hx hb dM_mark_69 (by decide) ?_
        refine va_put (D := (dC, dI)) (ci := 5) (v := .int (nI 3)) (ty := .int) (C := nM) (T := TM) (N := 26) hx hb hg inM tM tM_ok nmM hown hK hP hD hS 0 rfl rfl 0 (by decide) (hg _ kM_69) (fun _ h9 => h9) rfl (by decide +kernel) rfl rfl (Nat.le_of_ble_eq_true rfl) dM_mark_73 (fun H locs hP hD hS => ?_)
        have hP : va_P (dC, dI) vwCl (wM cI cJ cZ qm lv bg en sc wd ht sh oh ba mw mh mk rm nm bs bc bp on wh 3 pc n mc kc sl fo) H := hP
        have hD : va_D A (wM cI cJ cZ qm lv bg en sc wd ht sh oh ba mw mh mk rm nm bs bc bp on wh 3 pc n mc kc sl fo) := hD
        refine lv_aload_n hx hb dM_mark_76 rfl (lv_at hl 0 rfl) ?_
        refine va_get (D := (dC, dI)) (ci := 5) (v := .int (nI 3)) (C := nM) (T := TM) (N := 26) hx hb hg inM hown hK hP 0 rfl rfl 0 (by decide) (hg _ kM_69) (fun _ h9 => h9) rfl dM_mark_77 ?_
        refine lv_if_le (tgt := 85) hx hb dM_mark_80 (by decide) (fun c80 => absurd c80 (by decide)) (fun c80 => ?_)
        refine rn_iconst hx hb 0 dM_mark_83 (by decide) ?_
        have hcd : cdMa pc kc mk x = 3 := by rw [cdMa, if_pos c44, if_neg (by rw [← hx1, c52]; decide), if_neg (by omega)]
        have hP9 : va_P (dC, dI) vwCl (wM cI cJ cZ qm lv bg en sc wd ht sh oh ba mw mh (if cdMa pc kc mk x = 0 then va_up mk kc (cN x) else mk) rm nm bs bc bp on wh (cdMa pc kc mk x) pc n mc (if cdMa pc kc mk x = 0 then kc + 1 else kc) sl fo) H := by rw [hcd]; exact hP
        have hD9 : va_D A (wM cI cJ cZ qm lv bg en sc wd ht sh oh ba mw mh (if cdMa pc kc mk x = 0 then va_up mk kc (cN x) else mk) rm nm bs bc bp on wh (cdMa pc kc mk x) pc n mc (if cdMa pc kc mk x = 0 then kc + 1 else kc) sl fo) := by rw [hcd]; exact hD
        exact W.iret hx hb hr (fun t ht hW => ⟨⟨_, (), rfl, (by rw [hcd]; rfl), by rw [ht]; exact hP9, va_K.moved hW.alike hK, hD9⟩, hS.F ht⟩) hS.2.2 dM_mark_84
    · refine rn_iconst hx hb 2 dM_mark_55 (by decide) ?_
      refine lv_goto (tgt := 73) hx hb dM_mark_56 (by decide) ?_
      refine va_put (D := (dC, dI)) (ci := 5) (v := .int (nI 2)) (ty := .int) (C := nM) (T := TM) (N := 26) hx hb hg inM tM tM_ok nmM hown hK hP hD hS 0 rfl rfl 0 (by decide) (hg _ kM_69) (fun _ h9 => h9) rfl (by decide +kernel) rfl rfl (Nat.le_of_ble_eq_true rfl) dM_mark_73 (fun H locs hP hD hS => ?_)
      have hP : va_P (dC, dI) vwCl (wM cI cJ cZ qm lv bg en sc wd ht sh oh ba mw mh mk rm nm bs bc bp on wh 2 pc n mc kc sl fo) H := hP
      have hD : va_D A (wM cI cJ cZ qm lv bg en sc wd ht sh oh ba mw mh mk rm nm bs bc bp on wh 2 pc n mc kc sl fo) := hD
      refine lv_aload_n hx hb dM_mark_76 rfl (lv_at hl 0 rfl) ?_
      refine va_get (D := (dC, dI)) (ci := 5) (v := .int (nI 2)) (C := nM) (T := TM) (N := 26) hx hb hg inM hown hK hP 0 rfl rfl 0 (by decide) (hg _ kM_69) (fun _ h9 => h9) rfl dM_mark_77 ?_
      refine lv_if_le (tgt := 85) hx hb dM_mark_80 (by decide) (fun c80 => absurd c80 (by decide)) (fun c80 => ?_)
      refine rn_iconst hx hb 0 dM_mark_83 (by decide) ?_
      have hcd : cdMa pc kc mk x = 2 := by rw [cdMa, if_pos c44, if_pos (hx1.symm.trans c52)]
      have hP9 : va_P (dC, dI) vwCl (wM cI cJ cZ qm lv bg en sc wd ht sh oh ba mw mh (if cdMa pc kc mk x = 0 then va_up mk kc (cN x) else mk) rm nm bs bc bp on wh (cdMa pc kc mk x) pc n mc (if cdMa pc kc mk x = 0 then kc + 1 else kc) sl fo) H := by rw [hcd]; exact hP
      have hD9 : va_D A (wM cI cJ cZ qm lv bg en sc wd ht sh oh ba mw mh (if cdMa pc kc mk x = 0 then va_up mk kc (cN x) else mk) rm nm bs bc bp on wh (cdMa pc kc mk x) pc n mc (if cdMa pc kc mk x = 0 then kc + 1 else kc) sl fo) := by rw [hcd]; exact hD
      exact W.iret hx hb hr (fun t ht hW => ⟨⟨_, (), rfl, (by rw [hcd]; rfl), by rw [ht]; exact hP9, va_K.moved hW.alike hK, hD9⟩, hS.F ht⟩) hS.2.2 dM_mark_84
  · refine rn_iconst hx hb 1 dM_mark_47 (by decide) ?_
    refine lv_goto (tgt := 73) hx hb dM_mark_48 (by decide) ?_
    refine va_put (D := (dC, dI)) (ci := 5) (v := .int (nI 1)) (ty := .int) (C := nM) (T := TM) (N := 26) hx hb hg inM tM tM_ok nmM hown hK hP hD hS 0 rfl rfl 0 (by decide) (hg _ kM_69) (fun _ h9 => h9) rfl (by decide +kernel) rfl rfl (Nat.le_of_ble_eq_true rfl) dM_mark_73 (fun H locs hP hD hS => ?_)
    have hP : va_P (dC, dI) vwCl (wM cI cJ cZ qm lv bg en sc wd ht sh oh ba mw mh mk rm nm bs bc bp on wh 1 pc n mc kc sl fo) H := hP
    have hD : va_D A (wM cI cJ cZ qm lv bg en sc wd ht sh oh ba mw mh mk rm nm bs bc bp on wh 1 pc n mc kc sl fo) := hD
    refine lv_aload_n hx hb dM_mark_76 rfl (lv_at hl 0 rfl) ?_
    refine va_get (D := (dC, dI)) (ci := 5) (v := .int (nI 1)) (C := nM) (T := TM) (N := 26) hx hb hg inM hown hK hP 0 rfl rfl 0 (by decide) (hg _ kM_69) (fun _ h9 => h9) rfl dM_mark_77 ?_
    refine lv_if_le (tgt := 85) hx hb dM_mark_80 (by decide) (fun c80 => absurd c80 (by decide)) (fun c80 => ?_)
    refine rn_iconst hx hb 0 dM_mark_83 (by decide) ?_
    have hcd : cdMa pc kc mk x = 1 := by simp [cdMa, c44]
    have hP9 : va_P (dC, dI) vwCl (wM cI cJ cZ qm lv bg en sc wd ht sh oh ba mw mh (if cdMa pc kc mk x = 0 then va_up mk kc (cN x) else mk) rm nm bs bc bp on wh (cdMa pc kc mk x) pc n mc (if cdMa pc kc mk x = 0 then kc + 1 else kc) sl fo) H := by rw [hcd]; exact hP
    have hD9 : va_D A (wM cI cJ cZ qm lv bg en sc wd ht sh oh ba mw mh (if cdMa pc kc mk x = 0 then va_up mk kc (cN x) else mk) rm nm bs bc bp on wh (cdMa pc kc mk x) pc n mc (if cdMa pc kc mk x = 0 then kc + 1 else kc) sl fo) := by rw [hcd]; exact hD
    exact W.iret hx hb hr (fun t ht hW => ⟨⟨_, (), rfl, (by rw [hcd]; rfl), by rw [ht]; exact hP9, va_K.moved hW.alike hK, hD9⟩, hS.F ht⟩) hS.2.2 dM_mark_84

theorem to_wi {y : Int32} (h : wiB y.toInt64 (lN 0) (lN 6) = false) : y.toInt < 0 ∨ 6 < y.toInt := by
  have h1 := of_decide_eq_false h
  rw [Int64.le_iff_toInt_le, Int64.le_iff_toInt_le, pk_lT (by omega), pk_lT (by omega), Int32.toInt_toInt64] at h1
  omega

set_option maxHeartbeats 4000000 in
set_option maxRecDepth 100000 in
theorem ct_M_told (l : Launch) (dC : Nat → ClassId) (dI : Nat → Nat → Nat) (cI cJ cZ : ClassId) (qm : Nat → Nat) (lv mw mh mk : Nat → Nat) (pc mc kc : Nat) (bg en sc wd ht oh bt : Nat → Nat) (co n : Nat) (sh ba : Nat → Bool) (rm nm bs bc bp on wh : Nat → Nat) (cd sl fo : Nat) (x y : Int32) (sz : Nat) (hG : bGp lv mw mh mk pc mc kc) (hB : bP bg en sc wd ht oh bt co n) (hsh : ∀ j, j < 40 → sh j = co.testBit j) : Met l yM_told wsM_told ({ frames := 2, cells := 0, slots := 0, locals := 46 }) (PcW (dC, dI) (wM cI cJ cZ qm lv bg en sc wd ht sh oh ba mw mh mk rm nm bs bc bp on wh cd pc n mc kc sl fo) (tyE cI cJ cZ) sz [.ref (qm 0), .int x, .int y]) (QwL (dC, dI) (lN (if cdTo n x y = 0 then tdN bg en sc wd ht oh co (cN x) (cN y) else 0)) (wM cI cJ cZ qm lv bg en sc wd ht sh oh ba mw mh mk rm nm bs bc bp on wh (cdTo n x y) pc n mc kc sl fo) (tyE cI cJ cZ) (va_A (wM cI cJ cZ qm lv bg en sc wd ht sh oh ba mw mh mk rm nm bs bc bp on wh cd pc n mc kc sl fo) sz)) 0 0 (va_A (wM cI cJ cZ qm lv bg en sc wd ht sh oh ba mw mh mk rm nm bs bc bp on wh cd pc n mc kc sl fo) sz) := by
  refine Met.ofW (cc := cM_told) (maxL := 3) (ret := (some .long)) (by decide) rfl ?_
  intro p e s m args below meth c s₁ B hml hv
  obtain ⟨rfl, hsz, hP, hK, hD0, hE⟩ := hv
  have hx := B.exec
  have hb := B.bytes
  have hr := B.returns
  have hts := atoms_spec (ws := wsM_told) B.pre
  have hg : ∀ w ∈ gw, w.before _ s = true := fun w h => hts w (List.mem_cons_of_mem _ h)
  have hown : s.vm.findClass nM = some m.cls := findClass_of_methodNamed B.named
  have hlocks := B.notSynchronized
  have hR : 2 ≤ (headSpec wsM_told ({ frames := 2, cells := 0, slots := 0, locals := 46 })).room.frames ∧ 46 ≤ (headSpec wsM_told ({ frames := 2, cells := 0, slots := 0, locals := 46 })).room.locals := ⟨Nat.le_refl _, Nat.le_refl _⟩
  have hcs : 0 ≤ (headSpec wsM_told ({ frames := 2, cells := 0, slots := 0, locals := 46 })).room.cells ∧ 0 ≤ (headSpec wsM_told ({ frames := 2, cells := 0, slots := 0, locals := 46 })).room.slots := ⟨Nat.zero_le _, Nat.zero_le _⟩
  subst hsz
  have hD := hD0.self (sz := s.heap.size)
  generalize hAe : va_A (wM cI cJ cZ qm lv bg en sc wd ht sh oh ba mw mh mk rm nm bs bc bp on wh cd pc n mc kc sl fo) s.heap.size = A at hD ⊢
  have hA : ∀ q : Nat, s.heap.size ≤ q → A q := fun q h => by rw [← hAe]; exact Or.inr h
  obtain ⟨H, hH⟩ : ∃ H, H = s.heap := ⟨_, rfl⟩
  have hS : va_S A s.heap H [] := by rw [hH]; exact va_S.rf
  rw [← hH] at hP ⊢
  have hpc := hG.1
  have hmc := hG.2.1
  have hkc := hG.2.2.1
  have hgi := hG.2.2.2
  have hbi := hB.2.2
  have hn := hB.1
  have hco := hB.2.1
  have hl := lv_entry ([.ref (qm 0), .int x, .int y]) (n := 3) (Nat.le_of_ble_eq_true rfl)
  rw [lg_entry_eq]
  generalize (lg_sl ([.ref (qm 0), .int x, .int y]) ++ List.replicate (3 - (lg_sl ([.ref (qm 0), .int x, .int y])).length) Slot.unset).toArray = ls at hl ⊢
  have hl : lv_has ls 3 [(0, .ref (qm 0)), (1, .int x), (2, .int y)] := hl
  refine lv_aload_n hx hb dM_told_0 rfl (lv_at hl 0 rfl) ?_
  refine lv_aload_n hx hb dM_told_1 rfl (lv_at hl 0 rfl) ?_
  refine lv_iload_n hx hb dM_told_2 rfl (lv_at hl 1 rfl) ?_
  refine cpV_i (b := (qm 0)) (C := nM) (As := [.int x]) (rest := [.ref (qm 0)]) (post := fun r : Int32 => r = bI (inB x n)) ⟨hx, hb, hml, hown, hts⟩ (ct_M_isPiece l dC dI cI cJ cZ qm lv mw mh mk pc mc kc bg en sc wd ht oh bt co n sh ba rm nm bs bc bp on wh cd sl fo x (hG) (hB)) (cwV 1 hts (gv kM_98 ki_M_isPiece ksel_M_isPiece kin_M kc_M_isPiece) rfl rfl rfl (by decide +kernel) ⟨Nat.le_trans (by decide) hR.1, Nat.le_trans (by decide) hR.2⟩) (va_recv hK hP (ci := 5) (q0 := 0) rfl rfl) hP hK hE rfl hl.1 rfl (Nat.le_of_ble_eq_true rfl) dM_told_3 hcs (fun r hr => ?_)
  subst hr
  refine rb_eq (tgt := 21) hx hb dM_told_6 (by decide) (fun c6 => ?_) (fun c6 => ?_)
  · refine rn_iconst hx hb 1 dM_told_21 (by decide) ?_
    refine lv_goto (tgt := 26) hx hb dM_told_22 (by decide) ?_
    refine va_put (D := (dC, dI)) (ci := 5) (v := .int (nI 1)) (ty := .int) (C := nM) (T := TM) (N := 26) hx hb hg inM tM tM_ok nmM hown hK hP hD hS 0 rfl rfl 0 (by decide) (hg _ kM_69) (fun _ h9 => h9) rfl (by decide +kernel) rfl rfl (Nat.le_of_ble_eq_true rfl) dM_told_26 (fun H locs hP hD hS => ?_)
    have hP : va_P (dC, dI) vwCl (wM cI cJ cZ qm lv bg en sc wd ht sh oh ba mw mh mk rm nm bs bc bp on wh 1 pc n mc kc sl fo) H := hP
    have hD : va_D A (wM cI cJ cZ qm lv bg en sc wd ht sh oh ba mw mh mk rm nm bs bc bp on wh 1 pc n mc kc sl fo) := hD
    refine lv_aload_n hx hb dM_told_29 rfl (lv_at hl 0 rfl) ?_
    refine va_get (D := (dC, dI)) (ci := 5) (v := .int (nI 1)) (C := nM) (T := TM) (N := 26) hx hb hg inM hown hK hP 0 rfl rfl 0 (by decide) (hg _ kM_69) (fun _ h9 => h9) rfl dM_told_30 ?_
    refine lv_if_le (tgt := 38) hx hb dM_told_33 (by decide) (fun c33 => absurd c33 (by decide)) (fun c33 => ?_)
    refine rn_lconst hx hb 0 dM_told_36 rfl ?_
    have hcd : cdTo n x y = 1 := by first | (simp [cdTo, c6]; done) | exact if_neg (fun q => q.2 (to_wi c18))
    have hP9 : va_P (dC, dI) vwCl (wM cI cJ cZ qm lv bg en sc wd ht sh oh ba mw mh mk rm nm bs bc bp on wh (cdTo n x y) pc n mc kc sl fo) H := by rw [hcd]; exact hP
    have hD9 : va_D A (wM cI cJ cZ qm lv bg en sc wd ht sh oh ba mw mh mk rm nm bs bc bp on wh (cdTo n x y) pc n mc kc sl fo) := by rw [hcd]; exact hD
    exact W.lret hx hb hr (fun t ht hW => ⟨⟨_, (), rfl, (by rw [hcd]; rfl), by rw [ht]; exact hP9, va_K.moved hW.alike hK, hD9⟩, hS.F ht⟩) hS.2.2 dM_told_37
  · refine lv_iload_n hx hb dM_told_9 rfl (lv_at hl 2 rfl) ?_
    refine lv_i2l (v := (y).toInt64) hx hb dM_told_10 rfl ?_
    refine rn_lconst hx hb 0 dM_told_11 rfl ?_
    refine lv_ldc2 (v := 6) hx hb hown (hg _ kM_174) dM_told_12 ?_
    refine tp_l (y := lN 6) rfl ?_
    refine cpS_i (As := [.long ((y).toInt64), .long (lN 0), .long (lN 6)]) (rest := [.ref (qm 0)]) (post := fun r : Int32 => r = bI (wiB ((y).toInt64) (lN 0) (lN 6))) ⟨hx, hb, hml, hown, hts⟩ (ct_M_in l dC dI cI cJ cZ ((y).toInt64) (lN 0) (lN 6) ) (va_cwS 3 hts (gs kM_76 ks_M_in kin_M kc_M_in) rfl rfl rfl (by decide +kernel) ⟨Nat.le_trans (by decide) hR.1, Nat.le_trans (by decide) hR.2⟩) (hP.sub (ws' := []) [] rfl) hK hE rfl hl.1 rfl (Nat.le_of_ble_eq_true rfl) dM_told_15 hcs (fun r hr => ?_)
    subst hr
    refine rb_ne (tgt := 25) hx hb dM_told_18 (by decide) (fun c18 => ?_) (fun c18 => ?_)
    · refine rn_iconst hx hb 0 dM_told_25 (by decide) ?_
      refine va_put (D := (dC, dI)) (ci := 5) (v := .int (nI 0)) (ty := .int) (C := nM) (T := TM) (N := 26) hx hb hg inM tM tM_ok nmM hown hK hP hD hS 0 rfl rfl 0 (by decide) (hg _ kM_69) (fun _ h9 => h9) rfl (by decide +kernel) rfl rfl (Nat.le_of_ble_eq_true rfl) dM_told_26 (fun H locs hP hD hS => ?_)
      have hP : va_P (dC, dI) vwCl (wM cI cJ cZ qm lv bg en sc wd ht sh oh ba mw mh mk rm nm bs bc bp on wh 0 pc n mc kc sl fo) H := hP
      have hD : va_D A (wM cI cJ cZ qm lv bg en sc wd ht sh oh ba mw mh mk rm nm bs bc bp on wh 0 pc n mc kc sl fo) := hD
      refine lv_aload_n hx hb dM_told_29 rfl (lv_at hl 0 rfl) ?_
      refine va_get (D := (dC, dI)) (ci := 5) (v := .int (nI 0)) (C := nM) (T := TM) (N := 26) hx hb hg inM hown hK hP 0 rfl rfl 0 (by decide) (hg _ kM_69) (fun _ h9 => h9) rfl dM_told_30 ?_
      refine lv_if_le (tgt := 38) hx hb dM_told_33 (by decide) (fun c33 => ?_) (fun c33 => absurd c33 (by decide))
      obtain ⟨j, hj, ej⟩ := in_of c6 (by omega)
      obtain ⟨k, hk1, hk2, ek⟩ := wi_of c18 (by decide) (by decide)
      have e1 : cN x = j := by rw [ej]; exact cN_n (by omega)
      have e2 := ty_k ek hk2
      have hcd : cdTo n x y = 0 := if_pos ⟨c6, e2.1⟩
      have bj := hbi j
      have hsj := hsh j (by omega)
      have hl : lv_has ls 3 [(0, .ref (qm 0)), (1, .int (nI j)), (2, .int (nI k))] := by rw [ej, ek] at hl; exact hl
      rcases (show k = 0 ∨ k = 1 ∨ k = 2 ∨ k = 3 ∨ k = 4 ∨ k = 5 ∨ k = 6 by omega) with rfl | rfl | rfl | rfl | rfl | rfl | rfl
      · refine lv_iload_n hx hb dM_told_38 rfl (lv_at hl 2 rfl) ?_
        refine lv_if_ne (tgt := 50) hx hb dM_told_39 (by decide) (fun c39 => absurd c39 (by decide)) (fun c39 => ?_)
        refine lv_aload_n hx hb dM_told_42 rfl (lv_at hl 0 rfl) ?_
        refine va_get (D := (dC, dI)) (ci := 5) (v := .ref (qm 2)) (C := nM) (T := TM) (N := 26) hx hb hg inM hown hK hP 0 rfl rfl 4 (by decide) (hg _ kM_13) (fun _ h9 => h9) rfl dM_told_43 ?_
        refine lv_iload_n hx hb dM_told_46 rfl (lv_at hl 1 rfl) ?_
        refine ga_i (f := bg) hx hb hK hP 2 0 rfl rfl (by omega) (by decide) dM_told_47 ?_
        refine rn_i2l hx hb dM_told_48 (by omega) ?_
        have hcd : cdTo n x y = 0 := hcd
        have hP9 : va_P (dC, dI) vwCl (wM cI cJ cZ qm lv bg en sc wd ht sh oh ba mw mh mk rm nm bs bc bp on wh (cdTo n x y) pc n mc kc sl fo) H := by rw [hcd]; exact hP
        have hD9 : va_D A (wM cI cJ cZ qm lv bg en sc wd ht sh oh ba mw mh mk rm nm bs bc bp on wh (cdTo n x y) pc n mc kc sl fo) := by rw [hcd]; exact hD
        exact W.lret hx hb hr (fun t ht hW => ⟨⟨_, (), rfl, (by rw [hcd, e1, e2.2]; first | rfl | (show _ = lN (Bool.toNat (co.testBit j)); rw [← hsj, c86]; rfl)), by rw [ht]; exact hP9, va_K.moved hW.alike hK, hD9⟩, hS.F ht⟩) hS.2.2 dM_told_49
      · refine lv_iload_n hx hb dM_told_38 rfl (lv_at hl 2 rfl) ?_
        refine lv_if_ne (tgt := 50) hx hb dM_told_39 (by decide) (fun c39 => ?_) (fun c39 => absurd c39 (by decide))
        refine lv_iload_n hx hb dM_told_50 rfl (lv_at hl 2 rfl) ?_
        refine rn_iconst hx hb 1 dM_told_51 (by decide) ?_
        refine rn_icmp_ne (tgt := 63) hx hb dM_told_52 (by decide) (by decide) (by decide) (fun c52 => absurd c52 (by decide)) (fun c52 => ?_)
        refine lv_aload_n hx hb dM_told_55 rfl (lv_at hl 0 rfl) ?_
        refine va_get (D := (dC, dI)) (ci := 5) (v := .ref (qm 3)) (C := nM) (T := TM) (N := 26) hx hb hg inM hown hK hP 0 rfl rfl 5 (by decide) (hg _ kM_16) (fun _ h9 => h9) rfl dM_told_56 ?_
        refine lv_iload_n hx hb dM_told_59 rfl (lv_at hl 1 rfl) ?_
        refine ga_i (f := en) hx hb hK hP 3 0 rfl rfl (by omega) (by decide) dM_told_60 ?_
        refine rn_i2l hx hb dM_told_61 (by omega) ?_
        have hcd : cdTo n x y = 0 := hcd
        have hP9 : va_P (dC, dI) vwCl (wM cI cJ cZ qm lv bg en sc wd ht sh oh ba mw mh mk rm nm bs bc bp on wh (cdTo n x y) pc n mc kc sl fo) H := by rw [hcd]; exact hP
        have hD9 : va_D A (wM cI cJ cZ qm lv bg en sc wd ht sh oh ba mw mh mk rm nm bs bc bp on wh (cdTo n x y) pc n mc kc sl fo) := by rw [hcd]; exact hD
        exact W.lret hx hb hr (fun t ht hW => ⟨⟨_, (), rfl, (by rw [hcd, e1, e2.2]; first | rfl | (show _ = lN (Bool.toNat (co.testBit j)); rw [← hsj, c86]; rfl)), by rw [ht]; exact hP9, va_K.moved hW.alike hK, hD9⟩, hS.F ht⟩) hS.2.2 dM_told_62
      · refine lv_iload_n hx hb dM_told_38 rfl (lv_at hl 2 rfl) ?_
        refine lv_if_ne (tgt := 50) hx hb dM_told_39 (by decide) (fun c39 => ?_) (fun c39 => absurd c39 (by decide))
        refine lv_iload_n hx hb dM_told_50 rfl (lv_at hl 2 rfl) ?_
        refine rn_iconst hx hb 1 dM_told_51 (by decide) ?_
        refine rn_icmp_ne (tgt := 63) hx hb dM_told_52 (by decide) (by decide) (by decide) (fun c52 => ?_) (fun c52 => absurd c52 (by decide))
        refine lv_iload_n hx hb dM_told_63 rfl (lv_at hl 2 rfl) ?_
        refine rn_iconst hx hb 2 dM_told_64 (by decide) ?_
        refine rn_icmp_ne (tgt := 75) hx hb dM_told_65 (by decide) (by decide) (by decide) (fun c65 => absurd c65 (by decide)) (fun c65 => ?_)
        refine lv_aload_n hx hb dM_told_68 rfl (lv_at hl 0 rfl) ?_
        refine va_get (D := (dC, dI)) (ci := 5) (v := .ref (qm 4)) (C := nM) (T := TM) (N := 26) hx hb hg inM hown hK hP 0 rfl rfl 6 (by decide) (hg _ kM_19) (fun _ h9 => h9) rfl dM_told_69 ?_
        refine lv_iload_n hx hb dM_told_72 rfl (lv_at hl 1 rfl) ?_
        refine ga_l (f := sc) hx hb hK hP 4 1 rfl rfl (by omega) (by decide) dM_told_73 ?_
        have hcd : cdTo n x y = 0 := hcd
        have hP9 : va_P (dC, dI) vwCl (wM cI cJ cZ qm lv bg en sc wd ht sh oh ba mw mh mk rm nm bs bc bp on wh (cdTo n x y) pc n mc kc sl fo) H := by rw [hcd]; exact hP
        have hD9 : va_D A (wM cI cJ cZ qm lv bg en sc wd ht sh oh ba mw mh mk rm nm bs bc bp on wh (cdTo n x y) pc n mc kc sl fo) := by rw [hcd]; exact hD
        exact W.lret hx hb hr (fun t ht hW => ⟨⟨_, (), rfl, (by rw [hcd, e1, e2.2]; first | rfl | (show _ = lN (Bool.toNat (co.testBit j)); rw [← hsj, c86]; rfl)), by rw [ht]; exact hP9, va_K.moved hW.alike hK, hD9⟩, hS.F ht⟩) hS.2.2 dM_told_74
      · refine lv_iload_n hx hb dM_told_38 rfl (lv_at hl 2 rfl) ?_
        refine lv_if_ne (tgt := 50) hx hb dM_told_39 (by decide) (fun c39 => ?_) (fun c39 => absurd c39 (by decide))
        refine lv_iload_n hx hb dM_told_50 rfl (lv_at hl 2 rfl) ?_
        refine rn_iconst hx hb 1 dM_told_51 (by decide) ?_
        refine rn_icmp_ne (tgt := 63) hx hb dM_told_52 (by decide) (by decide) (by decide) (fun c52 => ?_) (fun c52 => absurd c52 (by decide))
        refine lv_iload_n hx hb dM_told_63 rfl (lv_at hl 2 rfl) ?_
        refine rn_iconst hx hb 2 dM_told_64 (by decide) ?_
        refine rn_icmp_ne (tgt := 75) hx hb dM_told_65 (by decide) (by decide) (by decide) (fun c65 => ?_) (fun c65 => absurd c65 (by decide))
        refine lv_iload_n hx hb dM_told_75 rfl (lv_at hl 2 rfl) ?_
        refine rn_iconst hx hb 3 dM_told_76 (by decide) ?_
        refine rn_icmp_ne (tgt := 95) hx hb dM_told_77 (by decide) (by decide) (by decide) (fun c77 => absurd c77 (by decide)) (fun c77 => ?_)
        refine lv_aload_n hx hb dM_told_80 rfl (lv_at hl 0 rfl) ?_
        refine va_get (D := (dC, dI)) (ci := 5) (v := .ref (qm 7)) (C := nM) (T := TM) (N := 26) hx hb hg inM hown hK hP 0 rfl rfl 9 (by decide) (hg _ kM_29) (fun _ h9 => h9) rfl dM_told_81 ?_
        refine lv_iload_n hx hb dM_told_84 rfl (lv_at hl 1 rfl) ?_
        refine ga_b (f := sh) hx hb hK hP 7 2 rfl rfl (by omega) (by decide) dM_told_85 ?_
        refine rb_eq (tgt := 93) hx hb dM_told_86 (by decide) (fun c86 => ?_) (fun c86 => ?_)
        · refine rn_lconst hx hb 0 dM_told_93 rfl ?_
          have hcd : cdTo n x y = 0 := hcd
          have hP9 : va_P (dC, dI) vwCl (wM cI cJ cZ qm lv bg en sc wd ht sh oh ba mw mh mk rm nm bs bc bp on wh (cdTo n x y) pc n mc kc sl fo) H := by rw [hcd]; exact hP
          have hD9 : va_D A (wM cI cJ cZ qm lv bg en sc wd ht sh oh ba mw mh mk rm nm bs bc bp on wh (cdTo n x y) pc n mc kc sl fo) := by rw [hcd]; exact hD
          exact W.lret hx hb hr (fun t ht hW => ⟨⟨_, (), rfl, (by rw [hcd, e1, e2.2]; first | rfl | (show _ = lN (Bool.toNat (co.testBit j)); rw [← hsj, c86]; rfl)), by rw [ht]; exact hP9, va_K.moved hW.alike hK, hD9⟩, hS.F ht⟩) hS.2.2 dM_told_94
        · refine rn_lconst hx hb 1 dM_told_89 rfl ?_
          refine lv_goto (tgt := 94) hx hb dM_told_90 (by decide) ?_
          have hcd : cdTo n x y = 0 := hcd
          have hP9 : va_P (dC, dI) vwCl (wM cI cJ cZ qm lv bg en sc wd ht sh oh ba mw mh mk rm nm bs bc bp on wh (cdTo n x y) pc n mc kc sl fo) H := by rw [hcd]; exact hP
          have hD9 : va_D A (wM cI cJ cZ qm lv bg en sc wd ht sh oh ba mw mh mk rm nm bs bc bp on wh (cdTo n x y) pc n mc kc sl fo) := by rw [hcd]; exact hD
          exact W.lret hx hb hr (fun t ht hW => ⟨⟨_, (), rfl, (by rw [hcd, e1, e2.2]; first | rfl | (show _ = lN (Bool.toNat (co.testBit j)); rw [← hsj, c86]; rfl)), by rw [ht]; exact hP9, va_K.moved hW.alike hK, hD9⟩, hS.F ht⟩) hS.2.2 dM_told_94
      · refine lv_iload_n hx hb dM_told_38 rfl (lv_at hl 2 rfl) ?_
        refine lv_if_ne (tgt := 50) hx hb dM_told_39 (by decide) (fun c39 => ?_) (fun c39 => absurd c39 (by decide))
        refine lv_iload_n hx hb dM_told_50 rfl (lv_at hl 2 rfl) ?_
        refine rn_iconst hx hb 1 dM_told_51 (by decide) ?_
        refine rn_icmp_ne (tgt := 63) hx hb dM_told_52 (by decide) (by decide) (by decide) (fun c52 => ?_) (fun c52 => absurd c52 (by decide))
        refine lv_iload_n hx hb dM_told_63 rfl (lv_at hl 2 rfl) ?_
        refine rn_iconst hx hb 2 dM_told_64 (by decide) ?_
        refine rn_icmp_ne (tgt := 75) hx hb dM_told_65 (by decide) (by decide) (by decide) (fun c65 => ?_) (fun c65 => absurd c65 (by decide))
        refine lv_iload_n hx hb dM_told_75 rfl (lv_at hl 2 rfl) ?_
        refine rn_iconst hx hb 3 dM_told_76 (by decide) ?_
        refine rn_icmp_ne (tgt := 95) hx hb dM_told_77 (by decide) (by decide) (by decide) (fun c77 => ?_) (fun c77 => absurd c77 (by decide))
        refine lv_iload_n hx hb dM_told_95 rfl (lv_at hl 2 rfl) ?_
        refine rn_iconst hx hb 4 dM_told_96 (by decide) ?_
        refine rn_icmp_ne (tgt := 110) hx hb dM_told_97 (by decide) (by decide) (by decide) (fun c97 => absurd c97 (by decide)) (fun c97 => ?_)
        refine lv_aload_n hx hb dM_told_100 rfl (lv_at hl 0 rfl) ?_
        refine va_get (D := (dC, dI)) (ci := 5) (v := .ref (qm 8)) (C := nM) (T := TM) (N := 26) hx hb hg inM hown hK hP 0 rfl rfl 10 (by decide) (hg _ kM_33) (fun _ h9 => h9) rfl dM_told_101 ?_
        refine lv_iload_n hx hb dM_told_104 rfl (lv_at hl 1 rfl) ?_
        refine ga_i (f := oh) hx hb hK hP 8 0 rfl rfl (by omega) (by decide) dM_told_105 ?_
        refine rn_i2l hx hb dM_told_106 (by omega) ?_
        refine lv_goto (tgt := 132) hx hb dM_told_107 (by decide) ?_
        have hcd : cdTo n x y = 0 := hcd
        have hP9 : va_P (dC, dI) vwCl (wM cI cJ cZ qm lv bg en sc wd ht sh oh ba mw mh mk rm nm bs bc bp on wh (cdTo n x y) pc n mc kc sl fo) H := by rw [hcd]; exact hP
        have hD9 : va_D A (wM cI cJ cZ qm lv bg en sc wd ht sh oh ba mw mh mk rm nm bs bc bp on wh (cdTo n x y) pc n mc kc sl fo) := by rw [hcd]; exact hD
        exact W.lret hx hb hr (fun t ht hW => ⟨⟨_, (), rfl, (by rw [hcd, e1, e2.2]; first | rfl | (show _ = lN (Bool.toNat (co.testBit j)); rw [← hsj, c86]; rfl)), by rw [ht]; exact hP9, va_K.moved hW.alike hK, hD9⟩, hS.F ht⟩) hS.2.2 dM_told_132
      · refine lv_iload_n hx hb dM_told_38 rfl (lv_at hl 2 rfl) ?_
        refine lv_if_ne (tgt := 50) hx hb dM_told_39 (by decide) (fun c39 => ?_) (fun c39 => absurd c39 (by decide))
        refine lv_iload_n hx hb dM_told_50 rfl (lv_at hl 2 rfl) ?_
        refine rn_iconst hx hb 1 dM_told_51 (by decide) ?_
        refine rn_icmp_ne (tgt := 63) hx hb dM_told_52 (by decide) (by decide) (by decide) (fun c52 => ?_) (fun c52 => absurd c52 (by decide))
        refine lv_iload_n hx hb dM_told_63 rfl (lv_at hl 2 rfl) ?_
        refine rn_iconst hx hb 2 dM_told_64 (by decide) ?_
        refine rn_icmp_ne (tgt := 75) hx hb dM_told_65 (by decide) (by decide) (by decide) (fun c65 => ?_) (fun c65 => absurd c65 (by decide))
        refine lv_iload_n hx hb dM_told_75 rfl (lv_at hl 2 rfl) ?_
        refine rn_iconst hx hb 3 dM_told_76 (by decide) ?_
        refine rn_icmp_ne (tgt := 95) hx hb dM_told_77 (by decide) (by decide) (by decide) (fun c77 => ?_) (fun c77 => absurd c77 (by decide))
        refine lv_iload_n hx hb dM_told_95 rfl (lv_at hl 2 rfl) ?_
        refine rn_iconst hx hb 4 dM_told_96 (by decide) ?_
        refine rn_icmp_ne (tgt := 110) hx hb dM_told_97 (by decide) (by decide) (by decide) (fun c97 => ?_) (fun c97 => absurd c97 (by decide))
        refine lv_iload_n hx hb dM_told_110 rfl (lv_at hl 2 rfl) ?_
        refine rn_iconst hx hb 5 dM_told_111 (by decide) ?_
        refine rn_icmp_ne (tgt := 125) hx hb dM_told_112 (by decide) (by decide) (by decide) (fun c112 => absurd c112 (by decide)) (fun c112 => ?_)
        refine lv_aload_n hx hb dM_told_115 rfl (lv_at hl 0 rfl) ?_
        refine va_get (D := (dC, dI)) (ci := 5) (v := .ref (qm 5)) (C := nM) (T := TM) (N := 26) hx hb hg inM hown hK hP 0 rfl rfl 7 (by decide) (hg _ kM_23) (fun _ h9 => h9) rfl dM_told_116 ?_
        refine lv_iload_n hx hb dM_told_119 rfl (lv_at hl 1 rfl) ?_
        refine ga_i (f := wd) hx hb hK hP 5 0 rfl rfl (by omega) (by decide) dM_told_120 ?_
        refine rn_i2l hx hb dM_told_121 (by omega) ?_
        refine lv_goto (tgt := 132) hx hb dM_told_122 (by decide) ?_
        have hcd : cdTo n x y = 0 := hcd
        have hP9 : va_P (dC, dI) vwCl (wM cI cJ cZ qm lv bg en sc wd ht sh oh ba mw mh mk rm nm bs bc bp on wh (cdTo n x y) pc n mc kc sl fo) H := by rw [hcd]; exact hP
        have hD9 : va_D A (wM cI cJ cZ qm lv bg en sc wd ht sh oh ba mw mh mk rm nm bs bc bp on wh (cdTo n x y) pc n mc kc sl fo) := by rw [hcd]; exact hD
        exact W.lret hx hb hr (fun t ht hW => ⟨⟨_, (), rfl, (by rw [hcd, e1, e2.2]; first | rfl | (show _ = lN (Bool.toNat (co.testBit j)); rw [← hsj, c86]; rfl)), by rw [ht]; exact hP9, va_K.moved hW.alike hK, hD9⟩, hS.F ht⟩) hS.2.2 dM_told_132
      · refine lv_iload_n hx hb dM_told_38 rfl (lv_at hl 2 rfl) ?_
        refine lv_if_ne (tgt := 50) hx hb dM_told_39 (by decide) (fun c39 => ?_) (fun c39 => absurd c39 (by decide))
        refine lv_iload_n hx hb dM_told_50 rfl (lv_at hl 2 rfl) ?_
        refine rn_iconst hx hb 1 dM_told_51 (by decide) ?_
        refine rn_icmp_ne (tgt := 63) hx hb dM_told_52 (by decide) (by decide) (by decide) (fun c52 => ?_) (fun c52 => absurd c52 (by decide))
        refine lv_iload_n hx hb dM_told_63 rfl (lv_at hl 2 rfl) ?_
        refine rn_iconst hx hb 2 dM_told_64 (by decide) ?_
        refine rn_icmp_ne (tgt := 75) hx hb dM_told_65 (by decide) (by decide) (by decide) (fun c65 => ?_) (fun c65 => absurd c65 (by decide))
        refine lv_iload_n hx hb dM_told_75 rfl (lv_at hl 2 rfl) ?_
        refine rn_iconst hx hb 3 dM_told_76 (by decide) ?_
        refine rn_icmp_ne (tgt := 95) hx hb dM_told_77 (by decide) (by decide) (by decide) (fun c77 => ?_) (fun c77 => absurd c77 (by decide))
        refine lv_iload_n hx hb dM_told_95 rfl (lv_at hl 2 rfl) ?_
        refine rn_iconst hx hb 4 dM_told_96 (by decide) ?_
        refine rn_icmp_ne (tgt := 110) hx hb dM_told_97 (by decide) (by decide) (by decide) (fun c97 => ?_) (fun c97 => absurd c97 (by decide))
        refine lv_iload_n hx hb dM_told_110 rfl (lv_at hl 2 rfl) ?_
        refine rn_iconst hx hb 5 dM_told_111 (by decide) ?_
        refine rn_icmp_ne (tgt := 125) hx hb dM_told_112 (by decide) (by decide) (by decide) (fun c112 => ?_) (fun c112 => absurd c112 (by decide))
        refine lv_aload_n hx hb dM_told_125 rfl (lv_at hl 0 rfl) ?_
        refine va_get (D := (dC, dI)) (ci := 5) (v := .ref (qm 6)) (C := nM) (T := TM) (N := 26) hx hb hg inM hown hK hP 0 rfl rfl 8 (by decide) (hg _ kM_26) (fun _ h9 => h9) rfl dM_told_126 ?_
        refine lv_iload_n hx hb dM_told_129 rfl (lv_at hl 1 rfl) ?_
        refine ga_i (f := ht) hx hb hK hP 6 0 rfl rfl (by omega) (by decide) dM_told_130 ?_
        refine rn_i2l hx hb dM_told_131 (by omega) ?_
        have hcd : cdTo n x y = 0 := hcd
        have hP9 : va_P (dC, dI) vwCl (wM cI cJ cZ qm lv bg en sc wd ht sh oh ba mw mh mk rm nm bs bc bp on wh (cdTo n x y) pc n mc kc sl fo) H := by rw [hcd]; exact hP
        have hD9 : va_D A (wM cI cJ cZ qm lv bg en sc wd ht sh oh ba mw mh mk rm nm bs bc bp on wh (cdTo n x y) pc n mc kc sl fo) := by rw [hcd]; exact hD
        exact W.lret hx hb hr (fun t ht hW => ⟨⟨_, (), rfl, (by rw [hcd, e1, e2.2]; first | rfl | (show _ = lN (Bool.toNat (co.testBit j)); rw [← hsj, c86]; rfl)), by rw [ht]; exact hP9, va_K.moved hW.alike hK, hD9⟩, hS.F ht⟩) hS.2.2 dM_told_132
    · refine rn_iconst hx hb 1 dM_told_21 (by decide) ?_
      refine lv_goto (tgt := 26) hx hb dM_told_22 (by decide) ?_
      refine va_put (D := (dC, dI)) (ci := 5) (v := .int (nI 1)) (ty := .int) (C := nM) (T := TM) (N := 26) hx hb hg inM tM tM_ok nmM hown hK hP hD hS 0 rfl rfl 0 (by decide) (hg _ kM_69) (fun _ h9 => h9) rfl (by decide +kernel) rfl rfl (Nat.le_of_ble_eq_true rfl) dM_told_26 (fun H locs hP hD hS => ?_)
      have hP : va_P (dC, dI) vwCl (wM cI cJ cZ qm lv bg en sc wd ht sh oh ba mw mh mk rm nm bs bc bp on wh 1 pc n mc kc sl fo) H := hP
      have hD : va_D A (wM cI cJ cZ qm lv bg en sc wd ht sh oh ba mw mh mk rm nm bs bc bp on wh 1 pc n mc kc sl fo) := hD
      refine lv_aload_n hx hb dM_told_29 rfl (lv_at hl 0 rfl) ?_
      refine va_get (D := (dC, dI)) (ci := 5) (v := .int (nI 1)) (C := nM) (T := TM) (N := 26) hx hb hg inM hown hK hP 0 rfl rfl 0 (by decide) (hg _ kM_69) (fun _ h9 => h9) rfl dM_told_30 ?_
      refine lv_if_le (tgt := 38) hx hb dM_told_33 (by decide) (fun c33 => absurd c33 (by decide)) (fun c33 => ?_)
      refine rn_lconst hx hb 0 dM_told_36 rfl ?_
      have hcd : cdTo n x y = 1 := by first | (simp [cdTo, c6]; done) | exact if_neg (fun q => q.2 (to_wi c18))
      have hP9 : va_P (dC, dI) vwCl (wM cI cJ cZ qm lv bg en sc wd ht sh oh ba mw mh mk rm nm bs bc bp on wh (cdTo n x y) pc n mc kc sl fo) H := by rw [hcd]; exact hP
      have hD9 : va_D A (wM cI cJ cZ qm lv bg en sc wd ht sh oh ba mw mh mk rm nm bs bc bp on wh (cdTo n x y) pc n mc kc sl fo) := by rw [hcd]; exact hD
      exact W.lret hx hb hr (fun t ht hW => ⟨⟨_, (), rfl, (by rw [hcd]; rfl), by rw [ht]; exact hP9, va_K.moved hW.alike hK, hD9⟩, hS.F ht⟩) hS.2.2 dM_told_37

theorem at_in {nm : Nat → Nat} {sl : Nat} {x : Int32} (h : inB x sl = false) : -1 = atI nm sl x := (if_neg (of_decide_eq_false h)).symm

set_option maxHeartbeats 4000000 in
set_option maxRecDepth 100000 in
theorem ct_M_step (l : Launch) (dC : Nat → ClassId) (dI : Nat → Nat → Nat) (cI cJ cZ : ClassId) (qm : Nat → Nat) (lv mw mh mk : Nat → Nat) (pc mc kc : Nat) (bg en sc wd ht oh bt : Nat → Nat) (co n : Nat) (sh ba : Nat → Bool) (rm nm bs bc bp on wh : Nat → Nat) (cd sl fo : Nat) (x : Int32) (sz : Nat) (hG : bGp lv mw mh mk pc mc kc) (hB : bP bg en sc wd ht oh bt co n) (hsl : sl ≤ 40) : Met l yM_step wsM_step ({ frames := 1, cells := 0, slots := 0, locals := 25 }) (PcW (dC, dI) (wM cI cJ cZ qm lv bg en sc wd ht sh oh ba mw mh mk rm nm bs bc bp on wh cd pc n mc kc sl fo) (tyE cI cJ cZ) sz [.ref (qm 0), .int x]) (QwI (dC, dI) ((atI nm sl x)) (wM cI cJ cZ qm lv bg en sc wd ht sh oh ba mw mh mk rm nm bs bc bp on wh 0 pc n mc kc sl fo) (tyE cI cJ cZ) (va_A (wM cI cJ cZ qm lv bg en sc wd ht sh oh ba mw mh mk rm nm bs bc bp on wh cd pc n mc kc sl fo) sz)) 0 0 (va_A (wM cI cJ cZ qm lv bg en sc wd ht sh oh ba mw mh mk rm nm bs bc bp on wh cd pc n mc kc sl fo) sz) := by
  refine Met.ofW (cc := cM_step) (maxL := 2) (ret := (some .int)) (by decide) rfl ?_
  intro p e s m args below meth c s₁ B hml hv
  obtain ⟨rfl, hsz, hP, hK, hD0, hE⟩ := hv
  have hx := B.exec
  have hb := B.bytes
  have hr := B.returns
  have hts := atoms_spec (ws := wsM_step) B.pre
  have hg : ∀ w ∈ gw, w.before _ s = true := fun w h => hts w (List.mem_cons_of_mem _ h)
  have hown : s.vm.findClass nM = some m.cls := findClass_of_methodNamed B.named
  have hlocks := B.notSynchronized
  have hR : 1 ≤ (headSpec wsM_step ({ frames := 1, cells := 0, slots := 0, locals := 25 })).room.frames ∧ 25 ≤ (headSpec wsM_step ({ frames := 1, cells := 0, slots := 0, locals := 25 })).room.locals := ⟨Nat.le_refl _, Nat.le_refl _⟩
  have hcs : 0 ≤ (headSpec wsM_step ({ frames := 1, cells := 0, slots := 0, locals := 25 })).room.cells ∧ 0 ≤ (headSpec wsM_step ({ frames := 1, cells := 0, slots := 0, locals := 25 })).room.slots := ⟨Nat.zero_le _, Nat.zero_le _⟩
  subst hsz
  have hD := hD0.self (sz := s.heap.size)
  generalize hAe : va_A (wM cI cJ cZ qm lv bg en sc wd ht sh oh ba mw mh mk rm nm bs bc bp on wh cd pc n mc kc sl fo) s.heap.size = A at hD ⊢
  have hA : ∀ q : Nat, s.heap.size ≤ q → A q := fun q h => by rw [← hAe]; exact Or.inr h
  obtain ⟨H, hH⟩ : ∃ H, H = s.heap := ⟨_, rfl⟩
  have hS : va_S A s.heap H [] := by rw [hH]; exact va_S.rf
  rw [← hH] at hP ⊢
  have hpc := hG.1
  have hmc := hG.2.1
  have hkc := hG.2.2.1
  have hgi := hG.2.2.2
  have hbi := hB.2.2
  have hn := hB.1
  have hco := hB.2.1
  have hl := lv_entry ([.ref (qm 0), .int x]) (n := 2) (Nat.le_of_ble_eq_true rfl)
  rw [lg_entry_eq]
  generalize (lg_sl ([.ref (qm 0), .int x]) ++ List.replicate (2 - (lg_sl ([.ref (qm 0), .int x])).length) Slot.unset).toArray = ls at hl ⊢
  have hl : lv_has ls 2 [(0, .ref (qm 0)), (1, .int x)] := hl
  refine lv_aload_n hx hb dM_step_0 rfl (lv_at hl 0 rfl) ?_
  refine rn_iconst hx hb 0 dM_step_1 (by decide) ?_
  refine va_put (D := (dC, dI)) (ci := 5) (v := .int (nI 0)) (ty := .int) (C := nM) (T := TM) (N := 26) hx hb hg inM tM tM_ok nmM hown hK hP hD hS 0 rfl rfl 0 (by decide) (hg _ kM_69) (fun _ h9 => h9) rfl (by decide +kernel) rfl rfl (Nat.le_of_ble_eq_true rfl) dM_step_2 (fun H locs hP hD hS => ?_)
  have hP : va_P (dC, dI) vwCl (wM cI cJ cZ qm lv bg en sc wd ht sh oh ba mw mh mk rm nm bs bc bp on wh 0 pc n mc kc sl fo) H := hP
  have hD : va_D A (wM cI cJ cZ qm lv bg en sc wd ht sh oh ba mw mh mk rm nm bs bc bp on wh 0 pc n mc kc sl fo) := hD
  refine lv_iload_n hx hb dM_step_5 rfl (lv_at hl 1 rfl) ?_
  refine lv_i2l (v := (x).toInt64) hx hb dM_step_6 rfl ?_
  refine rn_lconst hx hb 0 dM_step_7 rfl ?_
  refine lv_aload_n hx hb dM_step_8 rfl (lv_at hl 0 rfl) ?_
  refine va_get (D := (dC, dI)) (ci := 5) (v := .int (nI sl)) (C := nM) (T := TM) (N := 26) hx hb hg inM hown hK hP 0 rfl rfl 19 (by decide) (hg _ kM_138) (fun _ h9 => h9) rfl dM_step_9 ?_
  refine rn_iconst hx hb 1 dM_step_12 (by decide) ?_
  refine lv_isub hx hb dM_step_13 ?_
  refine lv_i2l (v := (((nI sl) - (nI 1))).toInt64) hx hb dM_step_14 rfl ?_
  refine cpS_i (As := [.long ((x).toInt64), .long (lN 0), .long ((((nI sl) - (nI 1))).toInt64)]) (rest := []) (post := fun r : Int32 => r = bI (wiB ((x).toInt64) (lN 0) ((((nI sl) - (nI 1))).toInt64))) ⟨hx, hb, hml, hown, hts⟩ (ct_M_in l dC dI cI cJ cZ ((x).toInt64) (lN 0) ((((nI sl) - (nI 1))).toInt64) ) (va_cwS 3 hts (gs kM_76 ks_M_in kin_M kc_M_in) rfl rfl rfl (by decide +kernel) ⟨Nat.le_trans (by decide) hR.1, Nat.le_trans (by decide) hR.2⟩) (hP.sub (ws' := []) [] rfl) hK hE rfl hl.1 rfl (Nat.le_of_ble_eq_true rfl) dM_step_15 hcs (fun r hr => ?_)
  subst hr
  refine tp_i (y := bI (inB x sl)) (congrArg bI (tb_eqM (by omega))) ?_
  refine rb_eq (tgt := 30) hx hb dM_step_18 (by decide) (fun c18 => ?_) (fun c18 => ?_)
  · refine lv_iconst (v := -1) hx hb dM_step_30 (by decide) ?_
    have hP9 : va_P (dC, dI) vwCl (wM cI cJ cZ qm lv bg en sc wd ht sh oh ba mw mh mk rm nm bs bc bp on wh 0 pc n mc kc sl fo) H := by exact hP
    have hD9 : va_D A (wM cI cJ cZ qm lv bg en sc wd ht sh oh ba mw mh mk rm nm bs bc bp on wh 0 pc n mc kc sl fo) := by exact hD
    exact W.iret hx hb hr (fun t ht hW => ⟨⟨_, (), rfl, (by first | exact at_in c18 | (rw [ej]; exact atI_3 hsl hj)), by rw [ht]; exact hP9, va_K.moved hW.alike hK, hD9⟩, hS.F ht⟩) hS.2.2 dM_step_31
  · obtain ⟨j, hj, ej⟩ := in_of c18 (by omega)
    have hl : lv_has ls 2 [(0, .ref (qm 0)), (1, .int (nI j))] := by rw [ej] at hl; exact hl
    refine lv_aload_n hx hb dM_step_21 rfl (lv_at hl 0 rfl) ?_
    refine va_get (D := (dC, dI)) (ci := 5) (v := .ref (qm 14)) (C := nM) (T := TM) (N := 26) hx hb hg inM hown hK hP 0 rfl rfl 18 (by decide) (hg _ kM_51) (fun _ h9 => h9) rfl dM_step_22 ?_
    refine lv_iload_n hx hb dM_step_25 rfl (lv_at hl 1 rfl) ?_
    refine ga_i (f := nm) hx hb hK hP 14 0 rfl rfl (by omega) (by decide) dM_step_26 ?_
    refine lv_goto (tgt := 31) hx hb dM_step_27 (by decide) ?_
    have hP9 : va_P (dC, dI) vwCl (wM cI cJ cZ qm lv bg en sc wd ht sh oh ba mw mh mk rm nm bs bc bp on wh 0 pc n mc kc sl fo) H := by exact hP
    have hD9 : va_D A (wM cI cJ cZ qm lv bg en sc wd ht sh oh ba mw mh mk rm nm bs bc bp on wh 0 pc n mc kc sl fo) := by exact hD
    exact W.iret hx hb hr (fun t ht hW => ⟨⟨_, (), rfl, (by first | exact at_in c18 | (rw [ej]; exact atI_3 hsl hj)), by rw [ht]; exact hP9, va_K.moved hW.alike hK, hD9⟩, hS.F ht⟩) hS.2.2 dM_step_31

set_option maxHeartbeats 4000000 in
set_option maxRecDepth 100000 in
theorem lp_M_count {p : Program} {l : Launch} {e : Env} {R : Room} {s : State} {m : MethodId} {args : Array Value} {below : List Frame} {meth : Method} {c : Code} {cells slots : Nat} {Q : State → Prop} {dC : Nat → ClassId} {dI : Nat → Nat → Nat} {cI cJ cZ : ClassId} {A : Nat → Prop} (qm : Nat → Nat) (lv mw mh mk : Nat → Nat) (pc mc kc : Nat) (bg en sc wd ht oh bt : Nat → Nat) (co n : Nat) (sh ba : Nat → Bool) (rm nm bs bc bp on wh : Nat → Nat) (cd sl fo : Nat) (x : Int32) (hG : bGp lv mw mh mk pc mc kc) (hB : bP bg en sc wd ht oh bt co n) (hcb : cntB ba 1600 = cbN bt n)  (hx : p.tables.exec = Jvm.exec) (hb : c.code = cM_count) (hml : c.maxLocals = 4) (hown : s.vm.findClass nM = some m.cls) (hts : ∀ w ∈ wsM_count, w.before args s = true) (hK : va_K (dC, dI) vwCl (tyE cI cJ cZ) s) (hE : EV s) (hA : ∀ q : Nat, s.heap.size ≤ q → A q) (hR : 0 ≤ R.frames ∧ 0 ≤ R.locals) (hcs : cells ≤ R.cells ∧ slots ≤ R.slots)
    (kx0 : ∀ (i : Nat) (s9 : Nat) (h1 : i ≤ 1600) (hs9 : s9 = cntB ba i) (hsb : s9 ≤ i) (c6 : ¬ x = 0) (c16 : ¬ x = nI 1) (c26 : ¬ x = nI 2) (c36 : ¬ x = nI 3) (hx0 : 1600 ≤ i) (H : Heap) (locs : List Loc), va_P (dC, dI) vwCl (wM cI cJ cZ qm lv bg en sc wd ht sh oh ba mw mh mk rm nm bs bc bp on wh 0 pc n mc kc sl fo) H → va_D A (wM cI cJ cZ qm lv bg en sc wd ht sh oh ba mw mh mk rm nm bs bc bp on wh 0 pc n mc kc sl fo) → va_S A s.heap H locs → ∀ ls : Array Slot, lv_has ls 4 [(0, .ref (qm 0)), (1, .int x), (2, .int (nI s9)), (3, .int (nI i))] →  W p l e R s m args below meth c H locs cells slots Q (F0 m 78 ls []))
    : ∀ (fu : Nat) (i : Nat) (s9 : Nat) (h1 : i ≤ 1600) (hs9 : s9 = cntB ba i) (hsb : s9 ≤ i) (c6 : ¬ x = 0) (c16 : ¬ x = nI 1) (c26 : ¬ x = nI 2) (c36 : ¬ x = nI 3), 1600 - i < fu → ∀ (H : Heap) (locs : List Loc), va_P (dC, dI) vwCl (wM cI cJ cZ qm lv bg en sc wd ht sh oh ba mw mh mk rm nm bs bc bp on wh 0 pc n mc kc sl fo) H → va_D A (wM cI cJ cZ qm lv bg en sc wd ht sh oh ba mw mh mk rm nm bs bc bp on wh 0 pc n mc kc sl fo) → va_S A s.heap H locs → ∀ ls : Array Slot, lv_has ls 4 [(0, .ref (qm 0)), (1, .int x), (2, .int (nI s9)), (3, .int (nI i))] →  W p l e R s m args below meth c H locs cells slots Q (F0 m 48 ls []) := by
  have hg : ∀ w ∈ gw, w.before args s = true := fun w h => hts w (List.mem_cons_of_mem _ h)
  have hpc := hG.1
  have hmc := hG.2.1
  have hkc := hG.2.2.1
  have hgi := hG.2.2.2
  have hbi := hB.2.2
  have hn := hB.1
  have hco := hB.2.1
  intro fu
  induction fu with
  | zero => intro i s9 h1 hs9 hsb c6 c16 c26 c36 h0; exact absurd h0 (Nat.not_lt_zero _)
  | succ fu ihL =>
    intro i s9 h1 hs9 hsb c6 c16 c26 c36 hfu H locs hP hD hS ls hl
    refine lv_iload_n hx hb dM_count_48 rfl (lv_at hl 3 rfl) ?_
    refine rn_sipush hx hb 1600 dM_count_49 (by decide) ?_
    refine rn_icmp_ge (tgt := 78) hx hb dM_count_52 (by decide) (by omega) (by omega) (fun c52 => ?_) (fun c52 => ?_)
    · exact kx0 i s9 h1 hs9 hsb c6 c16 c26 c36 (by omega) H locs hP hD hS ls (lv_sub hl [0, 1, 2, 3] rfl)
    · refine lv_iload_n hx hb dM_count_55 rfl (lv_at hl 2 rfl) ?_
      refine lv_aload_n hx hb dM_count_56 rfl (lv_at hl 0 rfl) ?_
      refine va_get (D := (dC, dI)) (ci := 5) (v := .ref (qm 9)) (C := nM) (T := TM) (N := 26) hx hb hg inM hown hK hP 0 rfl rfl 11 (by decide) (hg _ kM_36) (fun _ h9 => h9) rfl dM_count_57 ?_
      refine lv_iload_n hx hb dM_count_60 rfl (lv_at hl 3 rfl) ?_
      refine ga_b (f := ba) hx hb hK hP 9 2 rfl rfl (by omega) (by decide) dM_count_61 ?_
      refine rb_eq (tgt := 69) hx hb dM_count_62 (by decide) (fun c62 => ?_) (fun c62 => ?_)
      · refine rn_iconst hx hb 0 dM_count_69 (by decide) ?_
        refine rn_iadd hx hb dM_count_70 ?_
        refine lv_istore_n (lv' := [(2, .int (nI (s9 + 0))), (0, .ref (qm 0)), (1, .int x), (3, .int (nI i))]) hx hb dM_count_71 rfl hl (by decide) rfl (fun ls hl => ?_)
        refine rn_iinc (lv' := [(3, .int (nI (i + 1))), (2, .int (nI (s9 + 0))), (0, .ref (qm 0)), (1, .int x)]) hx hb dM_count_72 hl (k := 3) rfl (by decide) rfl (fun ls hl => ?_)
        refine lv_goto (tgt := 48) hx hb dM_count_75 (by decide) ?_
        exact ihL (i + 1) (s9 + 0) (by omega) (by first | exact cnt_t hs9 c62 | exact cnt_f hs9 c62) (by omega) (c6) (c16) (c26) (c36) (by omega) H locs hP hD hS ls (lv_sub hl [2, 3, 1, 0] rfl)
      · refine rn_iconst hx hb 1 dM_count_65 (by decide) ?_
        refine lv_goto (tgt := 70) hx hb dM_count_66 (by decide) ?_
        refine rn_iadd hx hb dM_count_70 ?_
        refine lv_istore_n (lv' := [(2, .int (nI (s9 + 1))), (0, .ref (qm 0)), (1, .int x), (3, .int (nI i))]) hx hb dM_count_71 rfl hl (by decide) rfl (fun ls hl => ?_)
        refine rn_iinc (lv' := [(3, .int (nI (i + 1))), (2, .int (nI (s9 + 1))), (0, .ref (qm 0)), (1, .int x)]) hx hb dM_count_72 hl (k := 3) rfl (by decide) rfl (fun ls hl => ?_)
        refine lv_goto (tgt := 48) hx hb dM_count_75 (by decide) ?_
        exact ihL (i + 1) (s9 + 1) (by omega) (by first | exact cnt_t hs9 c62 | exact cnt_f hs9 c62) (by omega) (c6) (c16) (c26) (c36) (by omega) H locs hP hD hS ls (lv_sub hl [2, 3, 1, 0] rfl)

set_option maxHeartbeats 4000000 in
set_option maxRecDepth 100000 in
theorem ct_M_count (l : Launch) (dC : Nat → ClassId) (dI : Nat → Nat → Nat) (cI cJ cZ : ClassId) (qm : Nat → Nat) (lv mw mh mk : Nat → Nat) (pc mc kc : Nat) (bg en sc wd ht oh bt : Nat → Nat) (co n : Nat) (sh ba : Nat → Bool) (rm nm bs bc bp on wh : Nat → Nat) (cd sl fo : Nat) (x : Int32) (sz : Nat) (hG : bGp lv mw mh mk pc mc kc) (hB : bP bg en sc wd ht oh bt co n) (hcb : cntB ba 1600 = cbN bt n) : Met l yM_count wsM_count ({ frames := 0, cells := 0, slots := 0, locals := 0 }) (PcW (dC, dI) (wM cI cJ cZ qm lv bg en sc wd ht sh oh ba mw mh mk rm nm bs bc bp on wh cd pc n mc kc sl fo) (tyE cI cJ cZ) sz [.ref (qm 0), .int x]) (QwI (dC, dI) ((ctI bt pc n mc kc x)) (wM cI cJ cZ qm lv bg en sc wd ht sh oh ba mw mh mk rm nm bs bc bp on wh 0 pc n mc kc sl fo) (tyE cI cJ cZ) (va_A (wM cI cJ cZ qm lv bg en sc wd ht sh oh ba mw mh mk rm nm bs bc bp on wh cd pc n mc kc sl fo) sz)) 0 0 (va_A (wM cI cJ cZ qm lv bg en sc wd ht sh oh ba mw mh mk rm nm bs bc bp on wh cd pc n mc kc sl fo) sz) := by
  refine Met.ofW (cc := cM_count) (maxL := 4) (ret := (some .int)) (by decide) rfl ?_
  intro p e s m args below meth c s₁ B hml hv
  obtain ⟨rfl, hsz, hP, hK, hD0, hE⟩ := hv
  have hx := B.exec
  have hb := B.bytes
  have hr := B.returns
  have hts := atoms_spec (ws := wsM_count) B.pre
  have hg : ∀ w ∈ gw, w.before _ s = true := fun w h => hts w (List.mem_cons_of_mem _ h)
  have hown : s.vm.findClass nM = some m.cls := findClass_of_methodNamed B.named
  have hlocks := B.notSynchronized
  have hR : 0 ≤ (headSpec wsM_count ({ frames := 0, cells := 0, slots := 0, locals := 0 })).room.frames ∧ 0 ≤ (headSpec wsM_count ({ frames := 0, cells := 0, slots := 0, locals := 0 })).room.locals := ⟨Nat.le_refl _, Nat.le_refl _⟩
  have hcs : 0 ≤ (headSpec wsM_count ({ frames := 0, cells := 0, slots := 0, locals := 0 })).room.cells ∧ 0 ≤ (headSpec wsM_count ({ frames := 0, cells := 0, slots := 0, locals := 0 })).room.slots := ⟨Nat.zero_le _, Nat.zero_le _⟩
  subst hsz
  have hD := hD0.self (sz := s.heap.size)
  generalize hAe : va_A (wM cI cJ cZ qm lv bg en sc wd ht sh oh ba mw mh mk rm nm bs bc bp on wh cd pc n mc kc sl fo) s.heap.size = A at hD ⊢
  have hA : ∀ q : Nat, s.heap.size ≤ q → A q := fun q h => by rw [← hAe]; exact Or.inr h
  obtain ⟨H, hH⟩ : ∃ H, H = s.heap := ⟨_, rfl⟩
  have hS : va_S A s.heap H [] := by rw [hH]; exact va_S.rf
  rw [← hH] at hP ⊢
  have hpc := hG.1
  have hmc := hG.2.1
  have hkc := hG.2.2.1
  have hgi := hG.2.2.2
  have hbi := hB.2.2
  have hn := hB.1
  have hco := hB.2.1
  have hl := lv_entry ([.ref (qm 0), .int x]) (n := 4) (Nat.le_of_ble_eq_true rfl)
  rw [lg_entry_eq]
  generalize (lg_sl ([.ref (qm 0), .int x]) ++ List.replicate (4 - (lg_sl ([.ref (qm 0), .int x])).length) Slot.unset).toArray = ls at hl ⊢
  have hl : lv_has ls 4 [(0, .ref (qm 0)), (1, .int x)] := hl
  refine lv_aload_n hx hb dM_count_0 rfl (lv_at hl 0 rfl) ?_
  refine rn_iconst hx hb 0 dM_count_1 (by decide) ?_
  refine va_put (D := (dC, dI)) (ci := 5) (v := .int (nI 0)) (ty := .int) (C := nM) (T := TM) (N := 26) hx hb hg inM tM tM_ok nmM hown hK hP hD hS 0 rfl rfl 0 (by decide) (hg _ kM_69) (fun _ h9 => h9) rfl (by decide +kernel) rfl rfl (Nat.le_of_ble_eq_true rfl) dM_count_2 (fun H locs hP hD hS => ?_)
  have hP : va_P (dC, dI) vwCl (wM cI cJ cZ qm lv bg en sc wd ht sh oh ba mw mh mk rm nm bs bc bp on wh 0 pc n mc kc sl fo) H := hP
  have hD : va_D A (wM cI cJ cZ qm lv bg en sc wd ht sh oh ba mw mh mk rm nm bs bc bp on wh 0 pc n mc kc sl fo) := hD
  refine lv_iload_n hx hb dM_count_5 rfl (lv_at hl 1 rfl) ?_
  refine lv_if_ne (tgt := 14) hx hb dM_count_6 (by decide) (fun c6 => ?_) (fun c6 => ?_)
  · refine lv_iload_n hx hb dM_count_14 rfl (lv_at hl 1 rfl) ?_
    refine rn_iconst hx hb 1 dM_count_15 (by decide) ?_
    refine lv_icmp_ne (tgt := 24) hx hb dM_count_16 (by decide) (fun c16 => ?_) (fun c16 => ?_)
    · refine lv_iload_n hx hb dM_count_24 rfl (lv_at hl 1 rfl) ?_
      refine rn_iconst hx hb 2 dM_count_25 (by decide) ?_
      refine lv_icmp_ne (tgt := 34) hx hb dM_count_26 (by decide) (fun c26 => ?_) (fun c26 => ?_)
      · refine lv_iload_n hx hb dM_count_34 rfl (lv_at hl 1 rfl) ?_
        refine rn_iconst hx hb 3 dM_count_35 (by decide) ?_
        refine lv_icmp_ne (tgt := 44) hx hb dM_count_36 (by decide) (fun c36 => ?_) (fun c36 => ?_)
        · refine rn_iconst hx hb 0 dM_count_44 (by decide) ?_
          refine lv_istore_n (lv' := [(2, .int (nI 0)), (0, .ref (qm 0)), (1, .int x)]) hx hb dM_count_45 rfl hl (by decide) rfl (fun ls hl => ?_)
          refine rn_iconst hx hb 0 dM_count_46 (by decide) ?_
          refine lv_istore_n (lv' := [(3, .int (nI 0)), (2, .int (nI 0)), (0, .ref (qm 0)), (1, .int x)]) hx hb dM_count_47 rfl hl (by decide) rfl (fun ls hl => ?_)
          refine lp_M_count qm lv mw mh mk pc mc kc bg en sc wd ht oh bt co n sh ba rm nm bs bc bp on wh cd sl fo x hG hB hcb  hx hb hml hown hts hK hE hA (by first | exact hR | exact ⟨Nat.le_trans (by decide) hR.1, Nat.le_trans (by decide) hR.2⟩) hcs (fun i s9 h1 hs9 hsb c6 c16 c26 c36 hx0 H locs hP hD hS ls hl => ?_) ((1600 - 0) + 1) 0 0 (by omega) (rfl) (Nat.le_refl _) (c6) (c16) (c26) (c36) (by omega) _ _ hP hD hS ls (lv_sub hl [2, 3, 1, 0] rfl)
          refine lv_iload_n hx hb dM_count_78 rfl (lv_at hl 1 rfl) ?_
          refine rn_iconst hx hb 4 dM_count_79 (by decide) ?_
          refine lv_icmp_ne (tgt := 87) hx hb dM_count_80 (by decide) (fun c80 => ?_) (fun c80 => ?_)
          · refine lv_iconst (v := -1) hx hb dM_count_87 (by decide) ?_
            have hP9 : va_P (dC, dI) vwCl (wM cI cJ cZ qm lv bg en sc wd ht sh oh ba mw mh mk rm nm bs bc bp on wh 0 pc n mc kc sl fo) H := by exact hP
            have hD9 : va_D A (wM cI cJ cZ qm lv bg en sc wd ht sh oh ba mw mh mk rm nm bs bc bp on wh 0 pc n mc kc sl fo) := by exact hD
            exact W.iret hx hb hr (fun t ht hW => ⟨⟨_, (), rfl, (by first | exact ctI_n c6 c16 c26 c36 c80 | (rw [ctI_k 4 c80 (by decide), hs9, show i = 1600 from by omega, hcb]; rfl)), by rw [ht]; exact hP9, va_K.moved hW.alike hK, hD9⟩, hS.F ht⟩) hS.2.2 dM_count_88
          · refine lv_iload_n hx hb dM_count_83 rfl (lv_at hl 2 rfl) ?_
            refine lv_goto (tgt := 88) hx hb dM_count_84 (by decide) ?_
            have hP9 : va_P (dC, dI) vwCl (wM cI cJ cZ qm lv bg en sc wd ht sh oh ba mw mh mk rm nm bs bc bp on wh 0 pc n mc kc sl fo) H := by exact hP
            have hD9 : va_D A (wM cI cJ cZ qm lv bg en sc wd ht sh oh ba mw mh mk rm nm bs bc bp on wh 0 pc n mc kc sl fo) := by exact hD
            exact W.iret hx hb hr (fun t ht hW => ⟨⟨_, (), rfl, (by first | exact ctI_n c6 c16 c26 c36 c80 | (rw [ctI_k 4 c80 (by decide), hs9, show i = 1600 from by omega, hcb]; rfl)), by rw [ht]; exact hP9, va_K.moved hW.alike hK, hD9⟩, hS.F ht⟩) hS.2.2 dM_count_88
        · refine lv_aload_n hx hb dM_count_39 rfl (lv_at hl 0 rfl) ?_
          refine va_get (D := (dC, dI)) (ci := 5) (v := .int (nI kc)) (C := nM) (T := TM) (N := 26) hx hb hg inM hown hK hP 0 rfl rfl 15 (by decide) (hg _ kM_149) (fun _ h9 => h9) rfl dM_count_40 ?_
          have hP9 : va_P (dC, dI) vwCl (wM cI cJ cZ qm lv bg en sc wd ht sh oh ba mw mh mk rm nm bs bc bp on wh 0 pc n mc kc sl fo) H := by exact hP
          have hD9 : va_D A (wM cI cJ cZ qm lv bg en sc wd ht sh oh ba mw mh mk rm nm bs bc bp on wh 0 pc n mc kc sl fo) := by exact hD
          exact W.iret hx hb hr (fun t ht hW => ⟨⟨_, (), rfl, ((ctI_k 3 c36 (by decide)).symm), by rw [ht]; exact hP9, va_K.moved hW.alike hK, hD9⟩, hS.F ht⟩) hS.2.2 dM_count_43
      · refine lv_aload_n hx hb dM_count_29 rfl (lv_at hl 0 rfl) ?_
        refine va_get (D := (dC, dI)) (ci := 5) (v := .int (nI mc)) (C := nM) (T := TM) (N := 26) hx hb hg inM hown hK hP 0 rfl rfl 12 (by decide) (hg _ kM_101) (fun _ h9 => h9) rfl dM_count_30 ?_
        have hP9 : va_P (dC, dI) vwCl (wM cI cJ cZ qm lv bg en sc wd ht sh oh ba mw mh mk rm nm bs bc bp on wh 0 pc n mc kc sl fo) H := by exact hP
        have hD9 : va_D A (wM cI cJ cZ qm lv bg en sc wd ht sh oh ba mw mh mk rm nm bs bc bp on wh 0 pc n mc kc sl fo) := by exact hD
        exact W.iret hx hb hr (fun t ht hW => ⟨⟨_, (), rfl, ((ctI_k 2 c26 (by decide)).symm), by rw [ht]; exact hP9, va_K.moved hW.alike hK, hD9⟩, hS.F ht⟩) hS.2.2 dM_count_33
    · refine lv_aload_n hx hb dM_count_19 rfl (lv_at hl 0 rfl) ?_
      refine va_get (D := (dC, dI)) (ci := 5) (v := .int (nI n)) (C := nM) (T := TM) (N := 26) hx hb hg inM hown hK hP 0 rfl rfl 3 (by decide) (hg _ kM_80) (fun _ h9 => h9) rfl dM_count_20 ?_
      have hP9 : va_P (dC, dI) vwCl (wM cI cJ cZ qm lv bg en sc wd ht sh oh ba mw mh mk rm nm bs bc bp on wh 0 pc n mc kc sl fo) H := by exact hP
      have hD9 : va_D A (wM cI cJ cZ qm lv bg en sc wd ht sh oh ba mw mh mk rm nm bs bc bp on wh 0 pc n mc kc sl fo) := by exact hD
      exact W.iret hx hb hr (fun t ht hW => ⟨⟨_, (), rfl, ((ctI_k 1 c16 (by decide)).symm), by rw [ht]; exact hP9, va_K.moved hW.alike hK, hD9⟩, hS.F ht⟩) hS.2.2 dM_count_23
  · refine lv_aload_n hx hb dM_count_9 rfl (lv_at hl 0 rfl) ?_
    refine va_get (D := (dC, dI)) (ci := 5) (v := .int (nI pc)) (C := nM) (T := TM) (N := 26) hx hb hg inM hown hK hP 0 rfl rfl 1 (by decide) (hg _ kM_73) (fun _ h9 => h9) rfl dM_count_10 ?_
    have hP9 : va_P (dC, dI) vwCl (wM cI cJ cZ qm lv bg en sc wd ht sh oh ba mw mh mk rm nm bs bc bp on wh 0 pc n mc kc sl fo) H := by exact hP
    have hD9 : va_D A (wM cI cJ cZ qm lv bg en sc wd ht sh oh ba mw mh mk rm nm bs bc bp on wh 0 pc n mc kc sl fo) := by exact hD
    exact W.iret hx hb hr (fun t ht hW => ⟨⟨_, (), rfl, ((ctI_k 0 c6 (by decide)).symm), by rw [ht]; exact hP9, va_K.moved hW.alike hK, hD9⟩, hS.F ht⟩) hS.2.2 dM_count_13

theorem mu_1 {wd ht oh : Nat → Nat} {co w h k : Nat} (c : co.testBit k = true) : nI 0 = bI (usB wd ht oh co w h k) := by rw [us_1 c]; rfl
theorem mu_0 {wd ht oh : Nat → Nat} {co w h k : Nat} (c : oh k = 0) : nI 0 = bI (usB wd ht oh co w h k) := by rw [us_0 c]; rfl
theorem mu_2 {wd ht oh : Nat → Nat} {co w h k : Nat} (c : wd k < w) : nI 0 = bI (usB wd ht oh co w h k) := by rw [us_2 (decide_eq_false (by omega))]; rfl
theorem mu_3 {wd ht oh : Nat → Nat} {co w h k : Nat} (c : ht k < h) : nI 0 = bI (usB wd ht oh co w h k) := by rw [us_2 (decide_eq_false (by omega))]; rfl
theorem mu_4 {wd ht oh : Nat → Nat} {co w h k : Nat} (c1 : co.testBit k = false) (c2 : ¬ oh k = 0) (c3 : ¬ wd k < w) (c4 : ¬ ht k < h) : nI 1 = bI (usB wd ht oh co w h k) := by rw [us_3 c2 c1 (decide_eq_true (by omega))]; rfl
theorem n24_of {x : Nat} (hl : x < 16777216) (h : nI x = 0) : x = 0 := by
  have h2 : nI x = nI 0 := h
  rwa [nI_eq (by omega) (by omega)] at h2

set_option maxHeartbeats 4000000 in
set_option maxRecDepth 100000 in
theorem ct_M_mayUse (l : Launch) (dC : Nat → ClassId) (dI : Nat → Nat → Nat) (cI cJ cZ : ClassId) (qm : Nat → Nat) (lv mw mh mk : Nat → Nat) (pc mc kc : Nat) (bg en sc wd ht oh bt : Nat → Nat) (co n : Nat) (sh ba : Nat → Bool) (rm nm bs bc bp on wh : Nat → Nat) (cd sl fo : Nat) (mo i : Nat) (hG : bGp lv mw mh mk pc mc kc) (hB : bP bg en sc wd ht oh bt co n) (hsh : ∀ j, j < 40 → sh j = co.testBit j) (hmo : mo < 6) (hi40 : i < 40) : Met l yM_mayUse wsM_mayUse ({ frames := 0, cells := 0, slots := 0, locals := 0 }) (PcR (dC, dI) (wM cI cJ cZ qm lv bg en sc wd ht sh oh ba mw mh mk rm nm bs bc bp on wh cd pc n mc kc sl fo) (tyE cI cJ cZ) [.ref (qm 0), .int (nI mo), .int (nI i)]) (vp_Si (fun r => r = bI (usB wd ht oh co (mw mo) (mh mo) i))) 0 0 (fun _ => False) := by
  refine Met.ofW (cc := cM_mayUse) (maxL := 3) (ret := (some .boolean)) (by decide) rfl ?_
  intro p e s m args below meth c s₁ B hml hv
  obtain ⟨rfl, hP, hK, hE⟩ := hv
  have hx := B.exec
  have hb := B.bytes
  have hr := B.returns
  have hts := atoms_spec (ws := wsM_mayUse) B.pre
  have hg : ∀ w ∈ gw, w.before _ s = true := fun w h => hts w (List.mem_cons_of_mem _ h)
  have hown : s.vm.findClass nM = some m.cls := findClass_of_methodNamed B.named
  have hlocks := B.notSynchronized
  have hR : 0 ≤ (headSpec wsM_mayUse ({ frames := 0, cells := 0, slots := 0, locals := 0 })).room.frames ∧ 0 ≤ (headSpec wsM_mayUse ({ frames := 0, cells := 0, slots := 0, locals := 0 })).room.locals := ⟨Nat.le_refl _, Nat.le_refl _⟩
  have hcs : 0 ≤ (headSpec wsM_mayUse ({ frames := 0, cells := 0, slots := 0, locals := 0 })).room.cells ∧ 0 ≤ (headSpec wsM_mayUse ({ frames := 0, cells := 0, slots := 0, locals := 0 })).room.slots := ⟨Nat.zero_le _, Nat.zero_le _⟩
  have hpc := hG.1
  have hmc := hG.2.1
  have hkc := hG.2.2.1
  have hgi := hG.2.2.2
  have hbi := hB.2.2
  have hn := hB.1
  have hco := hB.2.1
  have bi := hbi i
  have gm := hgi mo
  have hsi := hsh i hi40
  have hl := lv_entry ([.ref (qm 0), .int (nI mo), .int (nI i)]) (n := 3) (Nat.le_of_ble_eq_true rfl)
  rw [lg_entry_eq]
  generalize (lg_sl ([.ref (qm 0), .int (nI mo), .int (nI i)]) ++ List.replicate (3 - (lg_sl ([.ref (qm 0), .int (nI mo), .int (nI i)])).length) Slot.unset).toArray = ls at hl ⊢
  have hl : lv_has ls 3 [(0, .ref (qm 0)), (1, .int (nI mo)), (2, .int (nI i))] := hl
  refine lv_aload_n hx hb dM_mayUse_0 rfl (lv_at hl 0 rfl) ?_
  refine va_get (D := (dC, dI)) (ci := 5) (v := .ref (qm 7)) (C := nM) (T := TM) (N := 26) hx hb hg inM hown hK hP 0 rfl rfl 9 (by decide) (hg _ kM_29) (fun _ h9 => h9) rfl dM_mayUse_1 ?_
  refine lv_iload_n hx hb dM_mayUse_4 rfl (lv_at hl 2 rfl) ?_
  refine ga_b (f := sh) hx hb hK hP 7 2 rfl rfl (by omega) (by decide) dM_mayUse_5 ?_
  refine rb_ne (tgt := 52) hx hb dM_mayUse_6 (by decide) (fun c6 => ?_) (fun c6 => ?_)
  · refine rn_iconst hx hb 0 dM_mayUse_52 (by decide) ?_
    exact W.zret hx hb hr rfl (fun t ht hW => ⟨_, rfl, (by first | exact mu_1 (hsi.symm.trans c6) | exact mu_0 (n24_of bi.2.2.2.2.2.1 c15) | exact mu_2 c30 | exact mu_3 c45 | exact mu_4 (hsi.symm.trans c6) (n0_ne c15) c30 c45), ht⟩) (fun _ h9 => nomatch h9) dM_mayUse_53
  · refine lv_aload_n hx hb dM_mayUse_9 rfl (lv_at hl 0 rfl) ?_
    refine va_get (D := (dC, dI)) (ci := 5) (v := .ref (qm 8)) (C := nM) (T := TM) (N := 26) hx hb hg inM hown hK hP 0 rfl rfl 10 (by decide) (hg _ kM_33) (fun _ h9 => h9) rfl dM_mayUse_10 ?_
    refine lv_iload_n hx hb dM_mayUse_13 rfl (lv_at hl 2 rfl) ?_
    refine ga_i (f := oh) hx hb hK hP 8 0 rfl rfl (by omega) (by decide) dM_mayUse_14 ?_
    refine lv_if_eq (tgt := 52) hx hb dM_mayUse_15 (by decide) (fun c15 => ?_) (fun c15 => ?_)
    · refine rn_iconst hx hb 0 dM_mayUse_52 (by decide) ?_
      exact W.zret hx hb hr rfl (fun t ht hW => ⟨_, rfl, (by first | exact mu_1 (hsi.symm.trans c6) | exact mu_0 (n24_of bi.2.2.2.2.2.1 c15) | exact mu_2 c30 | exact mu_3 c45 | exact mu_4 (hsi.symm.trans c6) (n0_ne c15) c30 c45), ht⟩) (fun _ h9 => nomatch h9) dM_mayUse_53
    · refine lv_aload_n hx hb dM_mayUse_18 rfl (lv_at hl 0 rfl) ?_
      refine va_get (D := (dC, dI)) (ci := 5) (v := .ref (qm 5)) (C := nM) (T := TM) (N := 26) hx hb hg inM hown hK hP 0 rfl rfl 7 (by decide) (hg _ kM_23) (fun _ h9 => h9) rfl dM_mayUse_19 ?_
      refine lv_iload_n hx hb dM_mayUse_22 rfl (lv_at hl 2 rfl) ?_
      refine ga_i (f := wd) hx hb hK hP 5 0 rfl rfl (by omega) (by decide) dM_mayUse_23 ?_
      refine lv_aload_n hx hb dM_mayUse_24 rfl (lv_at hl 0 rfl) ?_
      refine va_get (D := (dC, dI)) (ci := 5) (v := .ref (qm 10)) (C := nM) (T := TM) (N := 26) hx hb hg inM hown hK hP 0 rfl rfl 13 (by decide) (hg _ kM_39) (fun _ h9 => h9) rfl dM_mayUse_25 ?_
      refine lv_iload_n hx hb dM_mayUse_28 rfl (lv_at hl 1 rfl) ?_
      refine ga_i (f := mw) hx hb hK hP 10 0 rfl rfl (by omega) (by decide) dM_mayUse_29 ?_
      refine rn_icmp_lt (tgt := 52) hx hb dM_mayUse_30 (by decide) (by omega) (by omega) (fun c30 => ?_) (fun c30 => ?_)
      · refine rn_iconst hx hb 0 dM_mayUse_52 (by decide) ?_
        exact W.zret hx hb hr rfl (fun t ht hW => ⟨_, rfl, (by first | exact mu_1 (hsi.symm.trans c6) | exact mu_0 (n24_of bi.2.2.2.2.2.1 c15) | exact mu_2 c30 | exact mu_3 c45 | exact mu_4 (hsi.symm.trans c6) (n0_ne c15) c30 c45), ht⟩) (fun _ h9 => nomatch h9) dM_mayUse_53
      · refine lv_aload_n hx hb dM_mayUse_33 rfl (lv_at hl 0 rfl) ?_
        refine va_get (D := (dC, dI)) (ci := 5) (v := .ref (qm 6)) (C := nM) (T := TM) (N := 26) hx hb hg inM hown hK hP 0 rfl rfl 8 (by decide) (hg _ kM_26) (fun _ h9 => h9) rfl dM_mayUse_34 ?_
        refine lv_iload_n hx hb dM_mayUse_37 rfl (lv_at hl 2 rfl) ?_
        refine ga_i (f := ht) hx hb hK hP 6 0 rfl rfl (by omega) (by decide) dM_mayUse_38 ?_
        refine lv_aload_n hx hb dM_mayUse_39 rfl (lv_at hl 0 rfl) ?_
        refine va_get (D := (dC, dI)) (ci := 5) (v := .ref (qm 11)) (C := nM) (T := TM) (N := 26) hx hb hg inM hown hK hP 0 rfl rfl 14 (by decide) (hg _ kM_42) (fun _ h9 => h9) rfl dM_mayUse_40 ?_
        refine lv_iload_n hx hb dM_mayUse_43 rfl (lv_at hl 1 rfl) ?_
        refine ga_i (f := mh) hx hb hK hP 11 0 rfl rfl (by omega) (by decide) dM_mayUse_44 ?_
        refine rn_icmp_lt (tgt := 52) hx hb dM_mayUse_45 (by decide) (by omega) (by omega) (fun c45 => ?_) (fun c45 => ?_)
        · refine rn_iconst hx hb 0 dM_mayUse_52 (by decide) ?_
          exact W.zret hx hb hr rfl (fun t ht hW => ⟨_, rfl, (by first | exact mu_1 (hsi.symm.trans c6) | exact mu_0 (n24_of bi.2.2.2.2.2.1 c15) | exact mu_2 c30 | exact mu_3 c45 | exact mu_4 (hsi.symm.trans c6) (n0_ne c15) c30 c45), ht⟩) (fun _ h9 => nomatch h9) dM_mayUse_53
        · refine rn_iconst hx hb 1 dM_mayUse_48 (by decide) ?_
          refine lv_goto (tgt := 53) hx hb dM_mayUse_49 (by decide) ?_
          exact W.zret hx hb hr rfl (fun t ht hW => ⟨_, rfl, (by first | exact mu_1 (hsi.symm.trans c6) | exact mu_0 (n24_of bi.2.2.2.2.2.1 c15) | exact mu_2 c30 | exact mu_3 c45 | exact mu_4 (hsi.symm.trans c6) (n0_ne c15) c30 c45), ht⟩) (fun _ h9 => nomatch h9) dM_mayUse_53

theorem fo_1 {bg en bt : Nat → Nat} {f t : Nat} (c : ¬ en f = bg t) : nI 0 = bI (foB bg en bt f t) := by rw [foB, decide_eq_false (fun q => c q.symm)]; rfl
theorem fo_2 {bg en bt : Nat → Nat} {f t : Nat} (c : (bt f).testBit t = true) : nI 0 = bI (foB bg en bt f t) := by rw [foB, c]; simp [bI]; rfl
theorem fo_3 {bg en bt : Nat → Nat} {f t : Nat} (c : en f = bg t) (d : (bt f).testBit t = false) : nI 1 = bI (foB bg en bt f t) := by rw [foB, d, decide_eq_true c.symm]; rfl

set_option maxHeartbeats 4000000 in
set_option maxRecDepth 100000 in
theorem ct_M_follows (l : Launch) (dC : Nat → ClassId) (dI : Nat → Nat → Nat) (cI cJ cZ : ClassId) (qm : Nat → Nat) (lv mw mh mk : Nat → Nat) (pc mc kc : Nat) (bg en sc wd ht oh bt : Nat → Nat) (co n : Nat) (sh ba : Nat → Bool) (rm nm bs bc bp on wh : Nat → Nat) (cd sl fo : Nat) (f t : Nat) (hG : bGp lv mw mh mk pc mc kc) (hB : bP bg en sc wd ht oh bt co n) (hba : ∀ f t, f < 40 → t < 40 → ba (40 * f + t) = (bt f).testBit t) (hf : f < 40) (ht9 : t < 40) : Met l yM_follows wsM_follows ({ frames := 0, cells := 0, slots := 0, locals := 0 }) (PcR (dC, dI) (wM cI cJ cZ qm lv bg en sc wd ht sh oh ba mw mh mk rm nm bs bc bp on wh cd pc n mc kc sl fo) (tyE cI cJ cZ) [.ref (qm 0), .int (nI f), .int (nI t)]) (vp_Si (fun r => r = bI (foB bg en bt f t))) 0 0 (fun _ => False) := by
  refine Met.ofW (cc := cM_follows) (maxL := 3) (ret := (some .boolean)) (by decide) rfl ?_
  intro p e s m args below meth c s₁ B hml hv
  obtain ⟨rfl, hP, hK, hE⟩ := hv
  have hx := B.exec
  have hb := B.bytes
  have hr := B.returns
  have hts := atoms_spec (ws := wsM_follows) B.pre
  have hg : ∀ w ∈ gw, w.before _ s = true := fun w h => hts w (List.mem_cons_of_mem _ h)
  have hown : s.vm.findClass nM = some m.cls := findClass_of_methodNamed B.named
  have hlocks := B.notSynchronized
  have hR : 0 ≤ (headSpec wsM_follows ({ frames := 0, cells := 0, slots := 0, locals := 0 })).room.frames ∧ 0 ≤ (headSpec wsM_follows ({ frames := 0, cells := 0, slots := 0, locals := 0 })).room.locals := ⟨Nat.le_refl _, Nat.le_refl _⟩
  have hcs : 0 ≤ (headSpec wsM_follows ({ frames := 0, cells := 0, slots := 0, locals := 0 })).room.cells ∧ 0 ≤ (headSpec wsM_follows ({ frames := 0, cells := 0, slots := 0, locals := 0 })).room.slots := ⟨Nat.zero_le _, Nat.zero_le _⟩
  have hpc := hG.1
  have hmc := hG.2.1
  have hkc := hG.2.2.1
  have hgi := hG.2.2.2
  have hbi := hB.2.2
  have hn := hB.1
  have hco := hB.2.1
  have bf := hbi f
  have bt9 := hbi t
  have hbb := hba f t hf ht9
  have hl := lv_entry ([.ref (qm 0), .int (nI f), .int (nI t)]) (n := 3) (Nat.le_of_ble_eq_true rfl)
  rw [lg_entry_eq]
  generalize (lg_sl ([.ref (qm 0), .int (nI f), .int (nI t)]) ++ List.replicate (3 - (lg_sl ([.ref (qm 0), .int (nI f), .int (nI t)])).length) Slot.unset).toArray = ls at hl ⊢
  have hl : lv_has ls 3 [(0, .ref (qm 0)), (1, .int (nI f)), (2, .int (nI t))] := hl
  refine lv_aload_n hx hb dM_follows_0 rfl (lv_at hl 0 rfl) ?_
  refine va_get (D := (dC, dI)) (ci := 5) (v := .ref (qm 3)) (C := nM) (T := TM) (N := 26) hx hb hg inM hown hK hP 0 rfl rfl 5 (by decide) (hg _ kM_16) (fun _ h9 => h9) rfl dM_follows_1 ?_
  refine lv_iload_n hx hb dM_follows_4 rfl (lv_at hl 1 rfl) ?_
  refine ga_i (f := en) hx hb hK hP 3 0 rfl rfl (by omega) (by decide) dM_follows_5 ?_
  refine lv_aload_n hx hb dM_follows_6 rfl (lv_at hl 0 rfl) ?_
  refine va_get (D := (dC, dI)) (ci := 5) (v := .ref (qm 2)) (C := nM) (T := TM) (N := 26) hx hb hg inM hown hK hP 0 rfl rfl 4 (by decide) (hg _ kM_13) (fun _ h9 => h9) rfl dM_follows_7 ?_
  refine lv_iload_n hx hb dM_follows_10 rfl (lv_at hl 2 rfl) ?_
  refine ga_i (f := bg) hx hb hK hP 2 0 rfl rfl (by omega) (by decide) dM_follows_11 ?_
  refine rn_icmp_ne (tgt := 33) hx hb dM_follows_12 (by decide) (by omega) (by omega) (fun c12 => ?_) (fun c12 => ?_)
  · refine rn_iconst hx hb 0 dM_follows_33 (by decide) ?_
    exact W.zret hx hb hr rfl (fun t ht hW => ⟨_, rfl, (by first | exact fo_1 c12 | exact fo_2 (hbb.symm.trans c26) | exact fo_3 c12 (hbb.symm.trans c26)), ht⟩) (fun _ h9 => nomatch h9) dM_follows_34
  · refine lv_aload_n hx hb dM_follows_15 rfl (lv_at hl 0 rfl) ?_
    refine va_get (D := (dC, dI)) (ci := 5) (v := .ref (qm 9)) (C := nM) (T := TM) (N := 26) hx hb hg inM hown hK hP 0 rfl rfl 11 (by decide) (hg _ kM_36) (fun _ h9 => h9) rfl dM_follows_16 ?_
    refine rn_bipush hx hb 40 dM_follows_19 (by decide) ?_
    refine lv_iload_n hx hb dM_follows_21 rfl (lv_at hl 1 rfl) ?_
    refine rn_imul hx hb dM_follows_22 ?_
    refine lv_iload_n hx hb dM_follows_23 rfl (lv_at hl 2 rfl) ?_
    refine rn_iadd hx hb dM_follows_24 ?_
    refine ga_b (f := ba) hx hb hK hP 9 2 rfl rfl (by omega) (by decide) dM_follows_25 ?_
    refine rb_ne (tgt := 33) hx hb dM_follows_26 (by decide) (fun c26 => ?_) (fun c26 => ?_)
    · refine rn_iconst hx hb 0 dM_follows_33 (by decide) ?_
      exact W.zret hx hb hr rfl (fun t ht hW => ⟨_, rfl, (by first | exact fo_1 c12 | exact fo_2 (hbb.symm.trans c26) | exact fo_3 c12 (hbb.symm.trans c26)), ht⟩) (fun _ h9 => nomatch h9) dM_follows_34
    · refine rn_iconst hx hb 1 dM_follows_29 (by decide) ?_
      refine lv_goto (tgt := 34) hx hb dM_follows_30 (by decide) ?_
      exact W.zret hx hb hr rfl (fun t ht hW => ⟨_, rfl, (by first | exact fo_1 c12 | exact fo_2 (hbb.symm.trans c26) | exact fo_3 c12 (hbb.symm.trans c26)), ht⟩) (fun _ h9 => nomatch h9) dM_follows_34

theorem us_step {o t x X : Nat} (h1 : t ≤ x) (h2 : ∀ y, t ≤ y → y < x → o.testBit (y / 3600 % 24) = false) (c : o.testBit (x / 3600 % 24) = false) : ∀ y, t ≤ y → y < (x / 3600 + 1) * 3600 → o.testBit (y / 3600 % 24) = false := by
  intro y hy1 hy2
  by_cases q : y < x
  · exact h2 y hy1 q
  · rw [show y / 3600 = x / 3600 from by omega]; exact c
theorem us_le {o t x X : Nat} (h2 : ∀ y, t ≤ y → y < x → o.testBit (y / 3600 % 24) = false) (h3 : t ≤ X) (h4 : o.testBit (X / 3600 % 24) = true) : x ≤ X := by
  by_cases q : x ≤ X
  · exact q
  · have := h2 X h3 (by omega)
    rw [this] at h4
    exact absurd h4 (by decide)
theorem us_end {o t x X : Nat} (h0 : t ≤ x) (h1 : x ≤ X) (h5 : ∀ y, t ≤ y → y < X → o.testBit (y / 3600 % 24) = false) (c : o.testBit (x / 3600 % 24) = true) : x = X := by
  by_cases q : x = X
  · exact q
  · have := h5 x h0 (by omega)
    rw [this] at c
    exact absurd c (by decide)

set_option maxHeartbeats 4000000 in
set_option maxRecDepth 100000 in
theorem lp_M_use {p : Program} {l : Launch} {e : Env} {R : Room} {s : State} {m : MethodId} {args : Array Value} {below : List Frame} {meth : Method} {c : Code} {H : Heap} {locs : List Loc} {cells slots : Nat} {Q : State → Prop} {dC : Nat → ClassId} {dI : Nat → Nat → Nat} {cI cJ cZ : ClassId} (qm : Nat → Nat) (lv mw mh mk : Nat → Nat) (pc mc kc : Nat) (bg en sc wd ht oh bt : Nat → Nat) (co n : Nat) (sh ba : Nat → Bool) (rm nm bs bc bp on wh : Nat → Nat) (cd sl fo : Nat) (i t : Nat) (hG : bGp lv mw mh mk pc mc kc) (hB : bP bg en sc wd ht oh bt co n) (hi40 : i < 40) (hop : oh i ≠ 0) (ht0 : t ≤ 1152921504606846976) (hx : p.tables.exec = Jvm.exec) (hb : c.code = cM_use) (hml : c.maxLocals = 6) (hown : s.vm.findClass nM = some m.cls) (hts : ∀ w ∈ wsM_use, w.before args s = true) (hK : va_K (dC, dI) vwCl (tyE cI cJ cZ) s) (hP : va_P (dC, dI) vwCl (wM cI cJ cZ qm lv bg en sc wd ht sh oh ba mw mh mk rm nm bs bc bp on wh cd pc n mc kc sl fo) H) (hE : EV s) (hR : 0 ≤ R.frames ∧ 0 ≤ R.locals) (hcs : cells ≤ R.cells ∧ slots ≤ R.slots)
    (kx0 : ∀ (x : Nat) (h1 : t ≤ x) (h2 : ∀ y, t ≤ y → y < x → (oh i).testBit (y / 3600 % 24) = false) (h3 : x ≤ t + 86400) (hx0 : (oh i).testBit (x / 3600 % 24) = true) (ls : Array Slot), lv_has ls 6 [(0, .ref (qm 0)), (1, .int (nI i)), (2, .long (lN t)), (4, .long (lN x))] → W p l e R s m args below meth c H locs cells slots Q (F0 m 43 ls []))
    : ∀ (fu : Nat) (x : Nat) (h1 : t ≤ x) (h2 : ∀ y, t ≤ y → y < x → (oh i).testBit (y / 3600 % 24) = false) (h3 : x ≤ t + 86400), t + 86400 - x < fu → ∀ ls : Array Slot, lv_has ls 6 [(0, .ref (qm 0)), (1, .int (nI i)), (2, .long (lN t)), (4, .long (lN x))] → W p l e R s m args below meth c H locs cells slots Q (F0 m 3 ls []) := by
  have hg : ∀ w ∈ gw, w.before args s = true := fun w h => hts w (List.mem_cons_of_mem _ h)
  have hpc := hG.1
  have hmc := hG.2.1
  have hkc := hG.2.2.1
  have hgi := hG.2.2.2
  have hbi := hB.2.2
  have hn := hB.1
  have hco := hB.2.1
  have bi := hbi i
  obtain ⟨X, x1, x2, x3, x4, x5⟩ := ew_spec (sc i) t (op_of hop bi.2.2.2.2.2.1)
  intro fu
  induction fu with
  | zero => intro x h1 h2 h3 h0; exact absurd h0 (Nat.not_lt_zero _)
  | succ fu ihL =>
    intro x h1 h2 h3 hfu ls hl
    refine lv_aload_n hx hb dM_use_3 rfl (lv_at hl 0 rfl) ?_
    refine va_get (D := (dC, dI)) (ci := 5) (v := .ref (qm 8)) (C := nM) (T := TM) (N := 26) hx hb hg inM hown hK hP 0 rfl rfl 10 (by decide) (hg _ kM_33) (fun _ h9 => h9) rfl dM_use_4 ?_
    refine lv_iload_n hx hb dM_use_7 rfl (lv_at hl 1 rfl) ?_
    refine ga_i (f := oh) hx hb hK hP 8 0 rfl rfl (by omega) (by decide) dM_use_8 ?_
    refine lv_lload hx hb dM_use_9 (lv_at hl 3 rfl) ?_
    refine lv_ldc2 (v := 3600) hx hb hown (hg _ kM_106) dM_use_11 ?_
    refine tp_l (y := lN 3600) rfl ?_
    refine rn_ldiv hx hb dM_use_14 (by omega) (by omega) (by omega) ?_
    refine lv_ldc2 (v := 24) hx hb hown (hg _ kM_108) dM_use_15 ?_
    refine tp_l (y := lN 24) rfl ?_
    refine rn_lrem hx hb dM_use_18 (by omega) (by omega) (by omega) ?_
    refine rn_l2i hx hb dM_use_19 ?_
    refine rn_ishr hx hb dM_use_20 (by omega) (by omega) ?_
    refine rn_iconst hx hb 1 dM_use_21 (by decide) ?_
    refine rn_iand1 hx hb dM_use_22 ?_
    refine tp_i (y := nI ((oh i).testBit (x / 3600 % 24)).toNat) (congrArg nI tb_bit) ?_
    refine tp_i (y := bI ((oh i).testBit (x / 3600 % 24))) (by cases (oh i).testBit (x / 3600 % 24) <;> rfl) ?_
    refine rb_ne (tgt := 43) hx hb dM_use_23 (by decide) (fun c23 => ?_) (fun c23 => ?_)
    · exact kx0 x h1 h2 h3 (c23) ls (lv_sub hl [0, 1, 2, 3] rfl)
    · have h9 := us_le (us_step (X := 0) h1 h2 c23) x2 x4
      refine lv_lload hx hb dM_use_26 (lv_at hl 3 rfl) ?_
      refine lv_ldc2 (v := 3600) hx hb hown (hg _ kM_106) dM_use_28 ?_
      refine tp_l (y := lN 3600) rfl ?_
      refine rn_ldiv hx hb dM_use_31 (by omega) (by omega) (by omega) ?_
      refine rn_lconst hx hb 1 dM_use_32 rfl ?_
      refine rn_ladd hx hb dM_use_33 ?_
      refine lv_ldc2 (v := 3600) hx hb hown (hg _ kM_106) dM_use_34 ?_
      refine tp_l (y := lN 3600) rfl ?_
      refine rn_lmul hx hb dM_use_37 ?_
      refine lv_lstore (lv' := [(4, .long (lN (((x / 3600) + 1) * 3600))), (0, .ref (qm 0)), (1, .int (nI i)), (2, .long (lN t))]) hx hb dM_use_38 hl (by decide) rfl (fun ls hl => ?_)
      refine lv_goto (tgt := 3) hx hb dM_use_40 (by decide) ?_
      exact ihL (((x / 3600) + 1) * 3600) (by omega) (us_step (X := 0) h1 h2 c23) (by omega) (by omega) ls (lv_sub hl [1, 2, 3, 0] rfl)

set_option maxHeartbeats 4000000 in
set_option maxRecDepth 100000 in
theorem ct_M_use (l : Launch) (dC : Nat → ClassId) (dI : Nat → Nat → Nat) (cI cJ cZ : ClassId) (qm : Nat → Nat) (lv mw mh mk : Nat → Nat) (pc mc kc : Nat) (bg en sc wd ht oh bt : Nat → Nat) (co n : Nat) (sh ba : Nat → Bool) (rm nm bs bc bp on wh : Nat → Nat) (cd sl fo : Nat) (i t : Nat) (hG : bGp lv mw mh mk pc mc kc) (hB : bP bg en sc wd ht oh bt co n) (hi40 : i < 40) (hop : oh i ≠ 0) (ht0 : t ≤ 1152921504606846976) : Met l yM_use wsM_use ({ frames := 0, cells := 0, slots := 0, locals := 0 }) (PcR (dC, dI) (wM cI cJ cZ qm lv bg en sc wd ht sh oh ba mw mh mk rm nm bs bc bp on wh cd pc n mc kc sl fo) (tyE cI cJ cZ) [.ref (qm 0), .int (nI i), .long (lN t)]) (vp_Sl (fun r => r = lN (ew (oh i) (sc i) t))) 0 0 (fun _ => False) := by
  refine Met.ofW (cc := cM_use) (maxL := 6) (ret := (some .long)) (by decide) rfl ?_
  intro p e s m args below meth c s₁ B hml hv
  obtain ⟨rfl, hP, hK, hE⟩ := hv
  have hx := B.exec
  have hb := B.bytes
  have hr := B.returns
  have hts := atoms_spec (ws := wsM_use) B.pre
  have hg : ∀ w ∈ gw, w.before _ s = true := fun w h => hts w (List.mem_cons_of_mem _ h)
  have hown : s.vm.findClass nM = some m.cls := findClass_of_methodNamed B.named
  have hlocks := B.notSynchronized
  have hR : 0 ≤ (headSpec wsM_use ({ frames := 0, cells := 0, slots := 0, locals := 0 })).room.frames ∧ 0 ≤ (headSpec wsM_use ({ frames := 0, cells := 0, slots := 0, locals := 0 })).room.locals := ⟨Nat.le_refl _, Nat.le_refl _⟩
  have hcs : 0 ≤ (headSpec wsM_use ({ frames := 0, cells := 0, slots := 0, locals := 0 })).room.cells ∧ 0 ≤ (headSpec wsM_use ({ frames := 0, cells := 0, slots := 0, locals := 0 })).room.slots := ⟨Nat.zero_le _, Nat.zero_le _⟩
  have hpc := hG.1
  have hmc := hG.2.1
  have hkc := hG.2.2.1
  have hgi := hG.2.2.2
  have hbi := hB.2.2
  have hn := hB.1
  have hco := hB.2.1
  have bi := hbi i
  obtain ⟨X, x1, x2, x3, x4, x5⟩ := ew_spec (sc i) t (op_of hop bi.2.2.2.2.2.1)
  have hl := lv_entry ([.ref (qm 0), .int (nI i), .long (lN t)]) (n := 6) (Nat.le_of_ble_eq_true rfl)
  rw [lg_entry_eq]
  generalize (lg_sl ([.ref (qm 0), .int (nI i), .long (lN t)]) ++ List.replicate (6 - (lg_sl ([.ref (qm 0), .int (nI i), .long (lN t)])).length) Slot.unset).toArray = ls at hl ⊢
  have hl : lv_has ls 6 [(0, .ref (qm 0)), (1, .int (nI i)), (2, .long (lN t))] := hl
  refine lv_lload_n hx hb dM_use_0 rfl (lv_at hl 2 rfl) ?_
  refine lv_lstore (lv' := [(4, .long (lN t)), (0, .ref (qm 0)), (1, .int (nI i)), (2, .long (lN t))]) hx hb dM_use_1 hl (by decide) rfl (fun ls hl => ?_)
  refine lp_M_use qm lv mw mh mk pc mc kc bg en sc wd ht oh bt co n sh ba rm nm bs bc bp on wh cd sl fo i t hG hB hi40 hop ht0 hx hb hml hown hts hK hP hE (by first | exact hR | exact ⟨Nat.le_trans (by decide) hR.1, Nat.le_trans (by decide) hR.2⟩) hcs (fun x h1 h2 h3 hx0 ls hl => ?_) ((t + 86400 - t) + 1) t (Nat.le_refl _) (fun y hy1 hy2 => by omega) (by omega) (by omega) ls (lv_sub hl [1, 2, 3, 0] rfl)
  refine lv_lload hx hb dM_use_43 (lv_at hl 3 rfl) ?_
  refine lv_aload_n hx hb dM_use_45 rfl (lv_at hl 0 rfl) ?_
  refine va_get (D := (dC, dI)) (ci := 5) (v := .ref (qm 4)) (C := nM) (T := TM) (N := 26) hx hb hg inM hown hK hP 0 rfl rfl 6 (by decide) (hg _ kM_19) (fun _ h9 => h9) rfl dM_use_46 ?_
  refine lv_iload_n hx hb dM_use_49 rfl (lv_at hl 1 rfl) ?_
  refine ga_l (f := sc) hx hb hK hP 4 1 rfl rfl (by omega) (by decide) dM_use_50 ?_
  refine rn_ladd hx hb dM_use_51 ?_
  exact W.lret hx hb hr (fun t ht hW => ⟨_, rfl, (congrArg lN (by have := us_end h1 (us_le h2 x2 x4) x5 hx0; omega)), ht⟩) (fun _ h9 => nomatch h9) dM_use_52
