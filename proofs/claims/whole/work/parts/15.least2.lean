def stB (bg : Nat → Nat) (a i : Nat) : Bool := decide (bg i = a)
theorem iL_1 {us : Nat} {bg : Nat → Nat} {a : Nat} {use : Nat → Nat → Nat} {t : Nat} {R0 : Nat → Nat} {i : Nat} (c : us.testBit i = false) : iL us (stB bg a) use t R0 (i + 1) = va_up (iL us (stB bg a) use t R0 i) i NVc := by simp [iL, c]
theorem iL_2 {us : Nat} {bg : Nat → Nat} {a : Nat} {use : Nat → Nat → Nat} {t : Nat} {R0 : Nat → Nat} {i : Nat} (c : ¬ bg i = a) : iL us (stB bg a) use t R0 (i + 1) = va_up (iL us (stB bg a) use t R0 i) i NVc := by simp [iL, stB, c]
theorem iL_3 {us : Nat} {bg : Nat → Nat} {a : Nat} {use : Nat → Nat → Nat} {t : Nat} {R0 : Nat → Nat} {i : Nat} (c : us.testBit i = true) (d : bg i = a) : iL us (stB bg a) use t R0 (i + 1) = va_up (iL us (stB bg a) use t R0 i) i (use i t) := by simp [iL, stB, c, d]
theorem iL_le {us : Nat} {st : Nat → Bool} {use : Nat → Nat → Nat} {t : Nat} {R0 : Nat → Nat} (h0 : ∀ j, R0 j ≤ NVc) (h1 : ∀ i, use i t ≤ NVc) : ∀ k j, iL us st use t R0 k j ≤ NVc := by
  intro k j
  rw [iL_ok]
  split
  · split
    · exact h1 j
    · exact Nat.le_refl _
  · exact h0 j
theorem sL_none {n : Nat} {fo : Nat → Nat → Bool} {use : Nat → Nat → Nat} {op : Nat} {R : Nat → Nat} {c : Nat} (h0 : 0 < c) (h : (erL op R n).1 = none) : sL n fo use c op R = R := by
  obtain ⟨c, rfl⟩ : ∃ k, c = k + 1 := ⟨c - 1, by omega⟩
  simp [sL, h]
theorem sL_some {n : Nat} {fo : Nat → Nat → Bool} {use : Nat → Nat → Nat} {op x : Nat} {R : Nat → Nat} {c : Nat} (h0 : 0 < c) (h : (erL op R n).1 = some x) : sL n fo use c op R = sL n fo use (c - 1) (sB op x false) (gL fo use x (sB op x false) R n) := by
  obtain ⟨c, rfl⟩ : ∃ k, c = k + 1 := ⟨c - 1, by omega⟩
  simp [sL, h]

set_option maxHeartbeats 4000000 in
set_option maxRecDepth 100000 in
theorem lp_L_search2 {p : Program} {l : Launch} {e : Env} {R : Room} {s : State} {m : MethodId} {args : Array Value} {below : List Frame} {meth : Method} {c : Code} {cells slots : Nat} {Q : State → Prop} {dC : Nat → ClassId} {dI : Nat → Nat → Nat} {cI cJ cZ : ClassId} {A : Nat → Prop} (ql : Nat → Nat) (re : Nat → Nat) (sa fm : Nat) (q : Nat → Nat) (bg en sc wd ht oh bt : Nat → Nat) (co n : Nat) (us a t : Nat) (hre : ∀ j, re j ≤ 1152921504606846976) (hB : bP bg en sc wd ht oh bt co n) (hus : us < 1099511627776) (ha : a < 20) (ht0 : t ≤ 10000000)  (hx : p.tables.exec = Jvm.exec) (hb : c.code = cL_search) (hml : c.maxLocals = 11) (hown : s.vm.findClass nL = some m.cls) (hts : ∀ w ∈ wsL_search, w.before args s = true) (hK : va_K (dC, dI) vwCl (tyE cI cJ cZ) s) (hE : EV s) (hA : ∀ q : Nat, s.heap.size ≤ q → A q) (hR : 4 ≤ R.frames ∧ 93 ≤ R.locals) (hcs : cells ≤ R.cells ∧ slots ≤ R.slots)
    (kx0 : ∀ (rd : Nat) (op : Nat) (v : Nat → Nat) (h1 : rd ≤ n) (h2 : op < 1099511627776) (h4 : ∀ j, v j ≤ 1152921504606846976) (h3 : srch n us (stB bg a) (foB bg en bt) (uE oh sc) t re = sL n (foB bg en bt) (uE oh sc) (n - rd) op v) (hx0 : n ≤ rd) (H : Heap) (locs : List Loc), va_P (dC, dI) vwCl (wL cI cJ cZ ql v a t ++ wP cI cJ cZ q bg en sc wd ht oh bt co n) H → va_D A (wL cI cJ cZ ql v a t ++ wP cI cJ cZ q bg en sc wd ht oh bt co n) → va_S A s.heap H locs → ∀ ls : Array Slot, lv_has ls 11 [(0, .ref (ql 0)), (1, .ref (q 0)), (2, .long (lN us)), (4, .int (nI a)), (5, .long (lN t)), (7, .long (lN op)), (9, .int (nI rd))] →  W p l e R s m args below meth c H locs cells slots Q (F0 m 140 ls []))
    (kx1 : ∀ (rd : Nat) (op : Nat) (v : Nat → Nat) (h1 : rd ≤ n) (h2 : op < 1099511627776) (h4 : ∀ j, v j ≤ 1152921504606846976) (h3 : srch n us (stB bg a) (foB bg en bt) (uE oh sc) t re = sL n (foB bg en bt) (uE oh sc) (n - rd) op v) (hx1 : (erL op v n).1 = none) (hx2 : rd < n) (H : Heap) (locs : List Loc), va_P (dC, dI) vwCl (wL cI cJ cZ ql v a t ++ wP cI cJ cZ q bg en sc wd ht oh bt co n) H → va_D A (wL cI cJ cZ ql v a t ++ wP cI cJ cZ q bg en sc wd ht oh bt co n) → va_S A s.heap H locs → ∀ ls : Array Slot, lv_has ls 11 [(0, .ref (ql 0)), (1, .ref (q 0)), (2, .long (lN us)), (4, .int (nI a)), (5, .long (lN t)), (7, .long (lN op)), (9, .int (nI rd))] →  W p l e R s m args below meth c H locs cells slots Q (F0 m 114 ls []))
    : ∀ (fu : Nat) (rd : Nat) (op : Nat) (v : Nat → Nat) (h1 : rd ≤ n) (h2 : op < 1099511627776) (h4 : ∀ j, v j ≤ 1152921504606846976) (h3 : srch n us (stB bg a) (foB bg en bt) (uE oh sc) t re = sL n (foB bg en bt) (uE oh sc) (n - rd) op v), n - rd < fu → ∀ (H : Heap) (locs : List Loc), va_P (dC, dI) vwCl (wL cI cJ cZ ql v a t ++ wP cI cJ cZ q bg en sc wd ht oh bt co n) H → va_D A (wL cI cJ cZ ql v a t ++ wP cI cJ cZ q bg en sc wd ht oh bt co n) → va_S A s.heap H locs → ∀ ls : Array Slot, lv_has ls 11 [(0, .ref (ql 0)), (1, .ref (q 0)), (2, .long (lN us)), (4, .int (nI a)), (5, .long (lN t)), (7, .long (lN op)), (9, .int (nI rd))] →  W p l e R s m args below meth c H locs cells slots Q (F0 m 90 ls []) := by
  have hg : ∀ w ∈ gw, w.before args s = true := fun w h => hts w (List.mem_cons_of_mem _ h)
  have hn := hB.1
  have hco := hB.2.1
  have hbi := hB.2.2
  have hNV : NVc = 1152921504606846976 := rfl
  intro fu
  induction fu with
  | zero => intro rd op v h1 h2 h4 h3 h0; exact absurd h0 (Nat.not_lt_zero _)
  | succ fu ihL =>
    intro rd op v h1 h2 h4 h3 hfu H locs hP hD hS ls hl
    refine lv_iload hx hb dL_search_90 (lv_at hl 6 rfl) ?_
    refine lv_aload_n hx hb dL_search_92 rfl (lv_at hl 1 rfl) ?_
    refine va_get (D := (dC, dI)) (ci := 1) (v := .int (nI n)) (C := nP) (T := TP) (N := 9) hx hb hg inP hown hK hP 2 rfl rfl 8 (by decide) (hg _ kL_23) (fun _ h9 => h9) rfl dL_search_93 ?_
    refine rn_icmp_ge (tgt := 140) hx hb dL_search_96 (by decide) (by omega) (by omega) (fun c96 => ?_) (fun c96 => ?_)
    · exact kx0 rd op v h1 h2 h4 h3 (by omega) H locs hP hD hS ls (lv_sub hl [0, 1, 2, 3, 4, 5, 6] rfl)
    · refine lv_aload_n hx hb dL_search_99 rfl (lv_at hl 0 rfl) ?_
      refine lv_aload_n hx hb dL_search_100 rfl (lv_at hl 1 rfl) ?_
      refine lv_lload hx hb dL_search_101 (lv_at hl 5 rfl) ?_
      refine cpV_i (b := (ql 0)) (C := nL) (As := [.ref (q 0), .long (lN op)]) (rest := []) (post := fun r : Int32 => r = oI (erL op v n).1) ⟨hx, hb, hml, hown, hts⟩ (ct_L_earliestOf l dC dI cI cJ cZ ql v a t q bg en sc wd ht oh bt co n op (h4) (hB) (by omega)) (cwV 2 hts (gv kL_42 ki_L_earliestOf ksel_L_earliestOf kin_L kc_L_earliestOf) rfl rfl rfl (by decide +kernel) ⟨Nat.le_trans (by decide) hR.1, Nat.le_trans (by decide) hR.2⟩) (va_recv hK hP (ci := 2) (q0 := 0) rfl rfl) hP hK hE rfl hl.1 rfl (Nat.le_of_ble_eq_true rfl) dL_search_103 hcs (fun r hr => ?_)
      subst hr
      refine lv_istore (lv' := [(10, .int (oI ((erL op v n).1))), (0, .ref (ql 0)), (1, .ref (q 0)), (2, .long (lN us)), (4, .int (nI a)), (5, .long (lN t)), (7, .long (lN op)), (9, .int (nI rd))]) hx hb dL_search_106 hl (by decide) rfl (fun ls hl => ?_)
      refine lv_iload hx hb dL_search_108 (lv_at hl 0 rfl) ?_
      refine lv_iconst (v := -1) hx hb dL_search_110 (by decide) ?_
      refine ro_ne (tgt := 115) hx hb dL_search_111 (by decide) (fun i hi => by have := ((erL_ok op v n).2.2.2 i hi).1; omega) (fun x111 o111 => ?_) (fun o111 => ?_)
      · have hl : lv_has ls 11 [(10, .int (nI x111)), (0, .ref (ql 0)), (1, .ref (q 0)), (2, .long (lN us)), (4, .int (nI a)), (5, .long (lN t)), (7, .long (lN op)), (9, .int (nI rd))] := by rw [o111] at hl; exact hl
        have hxe := ((erL_ok op v n).2.2.2 _ o111).1
        have hsb : sB op x111 false < 1099511627776 := sB_lt (w := 40) false h2 (by omega)
        refine lv_lload hx hb dL_search_115 (lv_at hl 6 rfl) ?_
        refine lv_iload hx hb dL_search_117 (lv_at hl 0 rfl) ?_
        refine rn_iconst hx hb 0 dL_search_119 (by decide) ?_
        refine cpN_l (As := [.long (lN op), .int (nI x111), .int (bI false)]) (rest := []) (post := fun r : Int64 => r = lN (sB op x111 false)) ⟨hx, hb, hml, hown, hts⟩ (ct_G_withBit l dC dI cI cJ cZ op x111 false (by omega) (by omega)) ⟨va_cnB 3 hts (gi kc_G_withBit) rfl rfl rfl (hE _ kNL_46) (hg _ kin_G) (by decide +kernel) ⟨Nat.le_trans (by decide) hR.1, Nat.le_trans (by decide) hR.2⟩, hg _ ks_G_withBit, trivial⟩ (hP.sub (ws' := []) [] rfl) hK hE rfl hl.1 rfl (Nat.le_of_ble_eq_true rfl) dL_search_120 hcs (fun r hr => ?_)
        subst hr
        refine lv_lstore (lv' := [(7, .long (lN (sB op x111 false))), (10, .int (nI x111)), (0, .ref (ql 0)), (1, .ref (q 0)), (2, .long (lN us)), (4, .int (nI a)), (5, .long (lN t)), (9, .int (nI rd))]) hx hb dL_search_123 hl (by decide) rfl (fun ls hl => ?_)
        refine lv_aload_n hx hb dL_search_125 rfl (lv_at hl 2 rfl) ?_
        refine lv_aload_n hx hb dL_search_126 rfl (lv_at hl 3 rfl) ?_
        refine lv_iload hx hb dL_search_127 (lv_at hl 1 rfl) ?_
        refine lv_lload hx hb dL_search_129 (lv_at hl 0 rfl) ?_
        refine kwV_v (D := (dC, dI)) (b := (ql 0)) (C := nL) (As := [.ref (q 0), .int (nI x111), .long (lN (sB op x111 false))]) (rest := []) (wc := (wL cI cJ cZ ql v a t ++ wP cI cJ cZ q bg en sc wd ht oh bt co n)) (wr := []) (w1 := (wL cI cJ cZ ql (gL (foB bg en bt) (uE oh sc) x111 (sB op x111 false) v n) a t ++ wP cI cJ cZ q bg en sc wd ht oh bt co n)) (wn := (wL cI cJ cZ ql (gL (foB bg en bt) (uE oh sc) x111 (sB op x111 false) v n) a t ++ wP cI cJ cZ q bg en sc wd ht oh bt co n)) ⟨hx, hb, hml, hown, hts⟩ (ct_L_goOnFrom l dC dI cI cJ cZ ql v a t q bg en sc wd ht oh bt co n x111 (sB op x111 false) H.size (h4) (hB) (by omega) (by omega)) (cwV 3 hts (gv kL_50 ki_L_goOnFrom ksel_L_goOnFrom kin_L kc_L_goOnFrom) rfl rfl rfl (by decide +kernel) ⟨Nat.le_trans (by decide) hR.1, Nat.le_trans (by decide) hR.2⟩) (va_recv hK hP (ci := 2) (q0 := 0) rfl rfl) hP hD hK hE hS hA [0, 1, 2, 3, 4, 5, 6, 7, 8, 9] [] [0, 1, 2, 3, 4, 5, 6, 7, 8, 9] rfl (by decide) rfl (by decide) (by decide) rfl (by decide) rfl hl.1 rfl (Nat.le_of_ble_eq_true rfl) dL_search_131 hcs (fun H locs hP hD hS => ?_)
        refine rn_iinc (lv' := [(9, .int (nI (rd + 1))), (7, .long (lN (sB op x111 false))), (10, .int (nI x111)), (0, .ref (ql 0)), (1, .ref (q 0)), (2, .long (lN us)), (4, .int (nI a)), (5, .long (lN t))]) hx hb dL_search_134 hl (k := 7) rfl (by decide) rfl (fun ls hl => ?_)
        refine lv_goto (tgt := 90) hx hb dL_search_137 (by decide) ?_
        exact ihL (rd + 1) (sB op x111 false) (gL (foB bg en bt) (uE oh sc) x111 (sB op x111 false) v n) (by omega) (hsb) (fun j => Nat.le_trans (gL_le n j) (h4 j)) (by rw [h3, sL_some (by omega) o111, Nat.sub_sub]) (by omega) H locs hP hD hS ls (lv_sub hl [3, 4, 5, 6, 7, 1, 0] rfl)
      · exact kx1 rd op v h1 h2 h4 h3 (o111) (by omega) H locs hP hD hS ls (lv_sub hl [1, 2, 3, 4, 5, 6, 7] rfl)

set_option maxHeartbeats 4000000 in
set_option maxRecDepth 100000 in
theorem lp_L_search1 {p : Program} {l : Launch} {e : Env} {R : Room} {s : State} {m : MethodId} {args : Array Value} {below : List Frame} {meth : Method} {c : Code} {cells slots : Nat} {Q : State → Prop} {dC : Nat → ClassId} {dI : Nat → Nat → Nat} {cI cJ cZ : ClassId} {A : Nat → Prop} (ql : Nat → Nat) (re : Nat → Nat) (sa fm : Nat) (q : Nat → Nat) (bg en sc wd ht oh bt : Nat → Nat) (co n : Nat) (us a t : Nat) (hre : ∀ j, re j ≤ 1152921504606846976) (hB : bP bg en sc wd ht oh bt co n) (hus : us < 1099511627776) (ha : a < 20) (ht0 : t ≤ 10000000)  (hx : p.tables.exec = Jvm.exec) (hb : c.code = cL_search) (hml : c.maxLocals = 11) (hown : s.vm.findClass nL = some m.cls) (hts : ∀ w ∈ wsL_search, w.before args s = true) (hK : va_K (dC, dI) vwCl (tyE cI cJ cZ) s) (hE : EV s) (hA : ∀ q : Nat, s.heap.size ≤ q → A q) (hR : 4 ≤ R.frames ∧ 93 ≤ R.locals) (hcs : cells ≤ R.cells ∧ slots ≤ R.slots)
    (kx0 : ∀ (i : Nat) (v : Nat → Nat) (hi : i ≤ n) (hv : v = iL us (stB bg a) (uE oh sc) t re i) (hx0 : n ≤ i) (H : Heap) (locs : List Loc), va_P (dC, dI) vwCl (wL cI cJ cZ ql v a t ++ wP cI cJ cZ q bg en sc wd ht oh bt co n) H → va_D A (wL cI cJ cZ ql v a t ++ wP cI cJ cZ q bg en sc wd ht oh bt co n) → va_S A s.heap H locs → ∀ ls : Array Slot, lv_has ls 11 [(0, .ref (ql 0)), (1, .ref (q 0)), (2, .long (lN us)), (4, .int (nI a)), (5, .long (lN t)), (7, .int (nI i))] →  W p l e R s m args below meth c H locs cells slots Q (F0 m 84 ls []))
    : ∀ (fu : Nat) (i : Nat) (v : Nat → Nat) (hi : i ≤ n) (hv : v = iL us (stB bg a) (uE oh sc) t re i), n - i < fu → ∀ (H : Heap) (locs : List Loc), va_P (dC, dI) vwCl (wL cI cJ cZ ql v a t ++ wP cI cJ cZ q bg en sc wd ht oh bt co n) H → va_D A (wL cI cJ cZ ql v a t ++ wP cI cJ cZ q bg en sc wd ht oh bt co n) → va_S A s.heap H locs → ∀ ls : Array Slot, lv_has ls 11 [(0, .ref (ql 0)), (1, .ref (q 0)), (2, .long (lN us)), (4, .int (nI a)), (5, .long (lN t)), (7, .int (nI i))] →  W p l e R s m args below meth c H locs cells slots Q (F0 m 15 ls []) := by
  have hg : ∀ w ∈ gw, w.before args s = true := fun w h => hts w (List.mem_cons_of_mem _ h)
  have hn := hB.1
  have hco := hB.2.1
  have hbi := hB.2.2
  have hNV : NVc = 1152921504606846976 := rfl
  intro fu
  induction fu with
  | zero => intro i v hi hv h0; exact absurd h0 (Nat.not_lt_zero _)
  | succ fu ihL =>
    intro i v hi hv hfu H locs hP hD hS ls hl
    refine lv_iload hx hb dL_search_15 (lv_at hl 5 rfl) ?_
    refine lv_aload_n hx hb dL_search_17 rfl (lv_at hl 1 rfl) ?_
    refine va_get (D := (dC, dI)) (ci := 1) (v := .int (nI n)) (C := nP) (T := TP) (N := 9) hx hb hg inP hown hK hP 2 rfl rfl 8 (by decide) (hg _ kL_23) (fun _ h9 => h9) rfl dL_search_18 ?_
    refine rn_icmp_ge (tgt := 84) hx hb dL_search_21 (by decide) (by omega) (by omega) (fun c21 => ?_) (fun c21 => ?_)
    · exact kx0 i v hi hv (by omega) H locs hP hD hS ls (lv_sub hl [0, 1, 2, 3, 4, 5] rfl)
    · have bi := hbi i
      refine lv_lload_n hx hb dL_search_24 rfl (lv_at hl 2 rfl) ?_
      refine lv_iload hx hb dL_search_25 (lv_at hl 5 rfl) ?_
      refine cpN_i (As := [.long (lN us), .int (nI i)]) (rest := []) (post := fun r : Int32 => r = bI (us.testBit i)) ⟨hx, hb, hml, hown, hts⟩ (ct_G_hasBit l dC dI cI cJ cZ us i (by omega) (by omega)) ⟨va_cnB 2 hts (gi kc_G_hasBit) rfl rfl rfl (hE _ kNL_28) (hg _ kin_G) (by decide +kernel) ⟨Nat.le_trans (by decide) hR.1, Nat.le_trans (by decide) hR.2⟩, hg _ ks_G_hasBit, trivial⟩ (hP.sub (ws' := []) [] rfl) hK hE rfl hl.1 rfl (Nat.le_of_ble_eq_true rfl) dL_search_27 hcs (fun r hr => ?_)
      subst hr
      refine rb_eq (tgt := 49) hx hb dL_search_30 (by decide) (fun c30 => ?_) (fun c30 => ?_)
      · refine rn_iconst hx hb 0 dL_search_49 (by decide) ?_
        refine lv_istore (lv' := [(8, .int (nI 0)), (0, .ref (ql 0)), (1, .ref (q 0)), (2, .long (lN us)), (4, .int (nI a)), (5, .long (lN t)), (7, .int (nI i))]) hx hb dL_search_50 hl (by decide) rfl (fun ls hl => ?_)
        refine lv_aload_n hx hb dL_search_52 rfl (lv_at hl 1 rfl) ?_
        refine va_get (D := (dC, dI)) (ci := 2) (v := .ref (ql 1)) (C := nL) (T := TL) (N := 3) hx hb hg inL hown hK hP 0 rfl rfl 0 (by decide) (hg _ kL_9) (fun _ h9 => h9) rfl dL_search_53 ?_
        refine lv_iload hx hb dL_search_56 (lv_at hl 6 rfl) ?_
        refine lv_iload hx hb dL_search_58 (lv_at hl 0 rfl) ?_
        refine lv_if_eq (tgt := 74) hx hb dL_search_60 (by decide) (fun c60 => ?_) (fun c60 => absurd c60 (by decide))
        refine lv_ldc2 (v := 1152921504606846976) hx hb hown (hg _ kL_40) dL_search_74 ?_
        refine tp_l (y := lN 1152921504606846976) rfl ?_
        refine sa_l (f := v) (v := 1152921504606846976) hx hb hK hP hD hS 1 1 rfl rfl (by omega) (by decide) dL_search_77 (fun H locs hP hD hS => ?_)
        have hP : va_P (dC, dI) vwCl (wL cI cJ cZ ql (va_up v i 1152921504606846976) a t ++ wP cI cJ cZ q bg en sc wd ht oh bt co n) H := hP
        have hD : va_D A (wL cI cJ cZ ql (va_up v i 1152921504606846976) a t ++ wP cI cJ cZ q bg en sc wd ht oh bt co n) := hD
        refine rn_iinc (lv' := [(7, .int (nI (i + 1))), (8, .int (nI 0)), (0, .ref (ql 0)), (1, .ref (q 0)), (2, .long (lN us)), (4, .int (nI a)), (5, .long (lN t))]) hx hb dL_search_78 hl (k := 6) rfl (by decide) rfl (fun ls hl => ?_)
        refine lv_goto (tgt := 15) hx hb dL_search_81 (by decide) ?_
        exact ihL (i + 1) (va_up v i 1152921504606846976) (by omega) (by first | (rw [hv]; exact (iL_1 c30).symm) | (rw [hv]; exact (iL_2 c42).symm) | (rw [hv]; exact (iL_3 c30 c42).symm)) (by omega) H locs hP hD hS ls (lv_sub hl [2, 3, 4, 5, 6, 0] rfl)
      · refine lv_aload_n hx hb dL_search_33 rfl (lv_at hl 1 rfl) ?_
        refine va_get (D := (dC, dI)) (ci := 1) (v := .ref (q 1)) (C := nP) (T := TP) (N := 9) hx hb hg inP hown hK hP 2 rfl rfl 0 (by decide) (hg _ kL_32) (fun _ h9 => h9) rfl dL_search_34 ?_
        refine lv_iload hx hb dL_search_37 (lv_at hl 5 rfl) ?_
        refine ga_i (f := bg) hx hb hK hP 3 0 rfl rfl (by omega) (by decide) dL_search_39 ?_
        refine lv_iload hx hb dL_search_40 (lv_at hl 3 rfl) ?_
        refine rn_icmp_ne (tgt := 49) hx hb dL_search_42 (by decide) (by omega) (by omega) (fun c42 => ?_) (fun c42 => ?_)
        · refine rn_iconst hx hb 0 dL_search_49 (by decide) ?_
          refine lv_istore (lv' := [(8, .int (nI 0)), (0, .ref (ql 0)), (1, .ref (q 0)), (2, .long (lN us)), (4, .int (nI a)), (5, .long (lN t)), (7, .int (nI i))]) hx hb dL_search_50 hl (by decide) rfl (fun ls hl => ?_)
          refine lv_aload_n hx hb dL_search_52 rfl (lv_at hl 1 rfl) ?_
          refine va_get (D := (dC, dI)) (ci := 2) (v := .ref (ql 1)) (C := nL) (T := TL) (N := 3) hx hb hg inL hown hK hP 0 rfl rfl 0 (by decide) (hg _ kL_9) (fun _ h9 => h9) rfl dL_search_53 ?_
          refine lv_iload hx hb dL_search_56 (lv_at hl 6 rfl) ?_
          refine lv_iload hx hb dL_search_58 (lv_at hl 0 rfl) ?_
          refine lv_if_eq (tgt := 74) hx hb dL_search_60 (by decide) (fun c60 => ?_) (fun c60 => absurd c60 (by decide))
          refine lv_ldc2 (v := 1152921504606846976) hx hb hown (hg _ kL_40) dL_search_74 ?_
          refine tp_l (y := lN 1152921504606846976) rfl ?_
          refine sa_l (f := v) (v := 1152921504606846976) hx hb hK hP hD hS 1 1 rfl rfl (by omega) (by decide) dL_search_77 (fun H locs hP hD hS => ?_)
          have hP : va_P (dC, dI) vwCl (wL cI cJ cZ ql (va_up v i 1152921504606846976) a t ++ wP cI cJ cZ q bg en sc wd ht oh bt co n) H := hP
          have hD : va_D A (wL cI cJ cZ ql (va_up v i 1152921504606846976) a t ++ wP cI cJ cZ q bg en sc wd ht oh bt co n) := hD
          refine rn_iinc (lv' := [(7, .int (nI (i + 1))), (8, .int (nI 0)), (0, .ref (ql 0)), (1, .ref (q 0)), (2, .long (lN us)), (4, .int (nI a)), (5, .long (lN t))]) hx hb dL_search_78 hl (k := 6) rfl (by decide) rfl (fun ls hl => ?_)
          refine lv_goto (tgt := 15) hx hb dL_search_81 (by decide) ?_
          exact ihL (i + 1) (va_up v i 1152921504606846976) (by omega) (by first | (rw [hv]; exact (iL_1 c30).symm) | (rw [hv]; exact (iL_2 c42).symm) | (rw [hv]; exact (iL_3 c30 c42).symm)) (by omega) H locs hP hD hS ls (lv_sub hl [2, 3, 4, 5, 6, 0] rfl)
        · refine rn_iconst hx hb 1 dL_search_45 (by decide) ?_
          refine lv_goto (tgt := 50) hx hb dL_search_46 (by decide) ?_
          refine lv_istore (lv' := [(8, .int (nI 1)), (0, .ref (ql 0)), (1, .ref (q 0)), (2, .long (lN us)), (4, .int (nI a)), (5, .long (lN t)), (7, .int (nI i))]) hx hb dL_search_50 hl (by decide) rfl (fun ls hl => ?_)
          refine lv_aload_n hx hb dL_search_52 rfl (lv_at hl 1 rfl) ?_
          refine va_get (D := (dC, dI)) (ci := 2) (v := .ref (ql 1)) (C := nL) (T := TL) (N := 3) hx hb hg inL hown hK hP 0 rfl rfl 0 (by decide) (hg _ kL_9) (fun _ h9 => h9) rfl dL_search_53 ?_
          refine lv_iload hx hb dL_search_56 (lv_at hl 6 rfl) ?_
          refine lv_iload hx hb dL_search_58 (lv_at hl 0 rfl) ?_
          refine lv_if_eq (tgt := 74) hx hb dL_search_60 (by decide) (fun c60 => absurd c60 (by decide)) (fun c60 => ?_)
          refine lv_aload_n hx hb dL_search_63 rfl (lv_at hl 2 rfl) ?_
          refine lv_iload hx hb dL_search_64 (lv_at hl 6 rfl) ?_
          refine lv_lload hx hb dL_search_66 (lv_at hl 5 rfl) ?_
          refine cpV_l (b := (q 0)) (C := nP) (As := [.int (nI i), .long (lN t)]) (rest := [.int (nI i), .ref (ql 1)]) (post := fun r : Int64 => r = lN (ew (oh i) (sc i) t)) ⟨hx, hb, hml, hown, hts⟩ (ct_P_endWhenUsedFrom l dC dI cI cJ cZ q bg en sc wd ht oh bt co n i t (hB) (by omega) (by omega)) (cwV 2 hts (gv kL_36 ki_P_endWhenUsedFrom ksel_P_endWhenUsedFrom kin_P kc_P_endWhenUsedFrom) rfl rfl rfl (by decide +kernel) ⟨Nat.le_trans (by decide) hR.1, Nat.le_trans (by decide) hR.2⟩) (va_recv hK hP (ci := 1) (q0 := 2) rfl rfl) (hP.sub (ws' := (wP cI cJ cZ q bg en sc wd ht oh bt co n)) [2, 3, 4, 5, 6, 7, 8, 9] rfl) hK hE rfl hl.1 rfl (Nat.le_of_ble_eq_true rfl) dL_search_68 hcs (fun r hr => ?_)
          subst hr
          refine lv_goto (tgt := 77) hx hb dL_search_71 (by decide) ?_
          refine sa_l (f := v) (v := ew (oh i) (sc i) t) hx hb hK hP hD hS 1 1 rfl rfl (by omega) (by decide) dL_search_77 (fun H locs hP hD hS => ?_)
          have hP : va_P (dC, dI) vwCl (wL cI cJ cZ ql (va_up v i (ew (oh i) (sc i) t)) a t ++ wP cI cJ cZ q bg en sc wd ht oh bt co n) H := hP
          have hD : va_D A (wL cI cJ cZ ql (va_up v i (ew (oh i) (sc i) t)) a t ++ wP cI cJ cZ q bg en sc wd ht oh bt co n) := hD
          refine rn_iinc (lv' := [(7, .int (nI (i + 1))), (8, .int (nI 1)), (0, .ref (ql 0)), (1, .ref (q 0)), (2, .long (lN us)), (4, .int (nI a)), (5, .long (lN t))]) hx hb dL_search_78 hl (k := 6) rfl (by decide) rfl (fun ls hl => ?_)
          refine lv_goto (tgt := 15) hx hb dL_search_81 (by decide) ?_
          exact ihL (i + 1) (va_up v i (ew (oh i) (sc i) t)) (by omega) (by first | (rw [hv]; exact (iL_1 c30).symm) | (rw [hv]; exact (iL_2 c42).symm) | (rw [hv]; exact (iL_3 c30 c42).symm)) (by omega) H locs hP hD hS ls (lv_sub hl [2, 3, 4, 5, 6, 0] rfl)

set_option maxHeartbeats 4000000 in
set_option maxRecDepth 100000 in
theorem ct_L_search (l : Launch) (dC : Nat → ClassId) (dI : Nat → Nat → Nat) (cI cJ cZ : ClassId) (ql : Nat → Nat) (re : Nat → Nat) (sa fm : Nat) (q : Nat → Nat) (bg en sc wd ht oh bt : Nat → Nat) (co n : Nat) (us a t : Nat) (sz : Nat) (hre : ∀ j, re j ≤ 1152921504606846976) (hB : bP bg en sc wd ht oh bt co n) (hus : us < 1099511627776) (ha : a < 20) (ht0 : t ≤ 10000000) : Met l yL_search wsL_search ({ frames := 4, cells := 0, slots := 0, locals := 93 }) (PcW (dC, dI) (wL cI cJ cZ ql re sa fm ++ wP cI cJ cZ q bg en sc wd ht oh bt co n) (tyE cI cJ cZ) sz [.ref (ql 0), .ref (q 0), .long (lN us), .int (nI a), .long (lN t)]) (QwV (dC, dI) (wL cI cJ cZ ql (srch n us (stB bg a) (foB bg en bt) (uE oh sc) t re) a t ++ wP cI cJ cZ q bg en sc wd ht oh bt co n) (tyE cI cJ cZ) (va_A (wL cI cJ cZ ql re sa fm ++ wP cI cJ cZ q bg en sc wd ht oh bt co n) sz)) 0 0 (va_A (wL cI cJ cZ ql re sa fm ++ wP cI cJ cZ q bg en sc wd ht oh bt co n) sz) := by
  refine Met.ofW (cc := cL_search) (maxL := 11) (ret := none) (by decide) rfl ?_
  intro p e s m args below meth c s₁ B hml hv
  obtain ⟨rfl, hsz, hP, hK, hD0, hE⟩ := hv
  have hx := B.exec
  have hb := B.bytes
  have hr := B.returns
  have hts := atoms_spec (ws := wsL_search) B.pre
  have hg : ∀ w ∈ gw, w.before _ s = true := fun w h => hts w (List.mem_cons_of_mem _ h)
  have hown : s.vm.findClass nL = some m.cls := findClass_of_methodNamed B.named
  have hlocks := B.notSynchronized
  have hR : 4 ≤ (headSpec wsL_search ({ frames := 4, cells := 0, slots := 0, locals := 93 })).room.frames ∧ 93 ≤ (headSpec wsL_search ({ frames := 4, cells := 0, slots := 0, locals := 93 })).room.locals := ⟨Nat.le_refl _, Nat.le_refl _⟩
  have hcs : 0 ≤ (headSpec wsL_search ({ frames := 4, cells := 0, slots := 0, locals := 93 })).room.cells ∧ 0 ≤ (headSpec wsL_search ({ frames := 4, cells := 0, slots := 0, locals := 93 })).room.slots := ⟨Nat.zero_le _, Nat.zero_le _⟩
  subst hsz
  have hD := hD0.self (sz := s.heap.size)
  generalize hAe : va_A (wL cI cJ cZ ql re sa fm ++ wP cI cJ cZ q bg en sc wd ht oh bt co n) s.heap.size = A at hD ⊢
  have hA : ∀ q : Nat, s.heap.size ≤ q → A q := fun q h => by rw [← hAe]; exact Or.inr h
  obtain ⟨H, hH⟩ : ∃ H, H = s.heap := ⟨_, rfl⟩
  have hS : va_S A s.heap H [] := by rw [hH]; exact va_S.rf
  rw [← hH] at hP ⊢
  have hn := hB.1
  have hco := hB.2.1
  have hbi := hB.2.2
  have hNV : NVc = 1152921504606846976 := rfl
  have hl := lv_entry ([.ref (ql 0), .ref (q 0), .long (lN us), .int (nI a), .long (lN t)]) (n := 11) (Nat.le_of_ble_eq_true rfl)
  rw [lg_entry_eq]
  generalize (lg_sl ([.ref (ql 0), .ref (q 0), .long (lN us), .int (nI a), .long (lN t)]) ++ List.replicate (11 - (lg_sl ([.ref (ql 0), .ref (q 0), .long (lN us), .int (nI a), .long (lN t)])).length) Slot.unset).toArray = ls at hl ⊢
  have hl : lv_has ls 11 [(0, .ref (ql 0)), (1, .ref (q 0)), (2, .long (lN us)), (4, .int (nI a)), (5, .long (lN t))] := hl
  refine lv_aload_n hx hb dL_search_0 rfl (lv_at hl 0 rfl) ?_
  refine lv_iload hx hb dL_search_1 (lv_at hl 3 rfl) ?_
  refine va_put (D := (dC, dI)) (ci := 2) (v := .int (nI a)) (ty := .int) (C := nL) (T := TL) (N := 3) hx hb hg inL tL tL_ok nmL hown hK hP hD hS 0 rfl rfl 1 (by decide) (hg _ kL_15) (fun _ h9 => h9) rfl (by decide +kernel) rfl rfl (Nat.le_of_ble_eq_true rfl) dL_search_3 (fun H locs hP hD hS => ?_)
  have hP : va_P (dC, dI) vwCl (wL cI cJ cZ ql re a fm ++ wP cI cJ cZ q bg en sc wd ht oh bt co n) H := hP
  have hD : va_D A (wL cI cJ cZ ql re a fm ++ wP cI cJ cZ q bg en sc wd ht oh bt co n) := hD
  refine lv_aload_n hx hb dL_search_6 rfl (lv_at hl 0 rfl) ?_
  refine lv_lload hx hb dL_search_7 (lv_at hl 4 rfl) ?_
  refine va_put (D := (dC, dI)) (ci := 2) (v := .long (lN t)) (ty := .long) (C := nL) (T := TL) (N := 3) hx hb hg inL tL tL_ok nmL hown hK hP hD hS 0 rfl rfl 2 (by decide) (hg _ kL_19) (fun _ h9 => h9) rfl (by decide +kernel) rfl rfl (Nat.le_of_ble_eq_true rfl) dL_search_9 (fun H locs hP hD hS => ?_)
  have hP : va_P (dC, dI) vwCl (wL cI cJ cZ ql re a t ++ wP cI cJ cZ q bg en sc wd ht oh bt co n) H := hP
  have hD : va_D A (wL cI cJ cZ ql re a t ++ wP cI cJ cZ q bg en sc wd ht oh bt co n) := hD
  refine rn_iconst hx hb 0 dL_search_12 (by decide) ?_
  refine lv_istore (lv' := [(7, .int (nI 0)), (0, .ref (ql 0)), (1, .ref (q 0)), (2, .long (lN us)), (4, .int (nI a)), (5, .long (lN t))]) hx hb dL_search_13 hl (by decide) rfl (fun ls hl => ?_)
  refine lp_L_search1 ql re sa fm q bg en sc wd ht oh bt co n us a t hre hB hus ha ht0  hx hb hml hown hts hK hE hA (by first | exact hR | exact ⟨Nat.le_trans (by decide) hR.1, Nat.le_trans (by decide) hR.2⟩) hcs (fun i v hi hv hx0 H locs hP hD hS ls hl => ?_) ((n - 0) + 1) 0 re (by omega) (rfl) (by omega) _ _ hP hD hS ls (lv_sub hl [1, 2, 3, 4, 5, 0] rfl)
  refine lv_lload_n hx hb dL_search_84 rfl (lv_at hl 2 rfl) ?_
  refine lv_lstore (lv' := [(7, .long (lN us)), (0, .ref (ql 0)), (1, .ref (q 0)), (2, .long (lN us)), (4, .int (nI a)), (5, .long (lN t))]) hx hb dL_search_85 hl (by decide) rfl (fun ls hl => ?_)
  refine rn_iconst hx hb 0 dL_search_87 (by decide) ?_
  refine lv_istore (lv' := [(9, .int (nI 0)), (7, .long (lN us)), (0, .ref (ql 0)), (1, .ref (q 0)), (2, .long (lN us)), (4, .int (nI a)), (5, .long (lN t))]) hx hb dL_search_88 hl (by decide) rfl (fun ls hl => ?_)
  refine lp_L_search2 ql re sa fm q bg en sc wd ht oh bt co n us a t hre hB hus ha ht0  hx hb hml hown hts hK hE hA (by first | exact hR | exact ⟨Nat.le_trans (by decide) hR.1, Nat.le_trans (by decide) hR.2⟩) hcs (fun rd op v h1 h2 h4 h3 hx0 H locs hP hD hS ls hl => ?_) (fun rd op v h1 h2 h4 h3 hx1 hx2 H locs hP hD hS ls hl => ?_) ((n - 0) + 1) 0 us v (by omega) (hus) (by rw [hv]; exact iL_le hre (fun k => by have := ew_b (oh k) (sc k) t; have := hbi k; show ew _ _ _ ≤ _; omega) i) (by rw [hv, show i = n from by omega]; rfl) (by omega) _ _ hP hD hS ls (lv_sub hl [2, 3, 4, 5, 6, 1, 0] rfl)
  · have hP9 : va_P (dC, dI) vwCl (wL cI cJ cZ ql (srch n us (stB bg a) (foB bg en bt) (uE oh sc) t re) a t ++ wP cI cJ cZ q bg en sc wd ht oh bt co n) H := by rw [h3, show n - rd = 0 from by omega]; exact hP
    have hD9 : va_D A (wL cI cJ cZ ql (srch n us (stB bg a) (foB bg en bt) (uE oh sc) t re) a t ++ wP cI cJ cZ q bg en sc wd ht oh bt co n) := by rw [h3, show n - rd = 0 from by omega]; exact hD
    exact W.vret hx hb hr (fun t ht hW => ⟨⟨(), rfl, trivial, by rw [ht]; exact hP9, va_K.moved hW.alike hK, hD9⟩, hS.F ht⟩) hS.2.2 dL_search_140
  · have hP9 : va_P (dC, dI) vwCl (wL cI cJ cZ ql (srch n us (stB bg a) (foB bg en bt) (uE oh sc) t re) a t ++ wP cI cJ cZ q bg en sc wd ht oh bt co n) H := by rw [h3, sL_none (by omega) hx1]; exact hP
    have hD9 : va_D A (wL cI cJ cZ ql (srch n us (stB bg a) (foB bg en bt) (uE oh sc) t re) a t ++ wP cI cJ cZ q bg en sc wd ht oh bt co n) := by rw [h3, sL_none (by omega) hx1]; exact hD
    exact W.vret hx hb hr (fun t ht hW => ⟨⟨(), rfl, trivial, by rw [ht]; exact hP9, va_K.moved hW.alike hK, hD9⟩, hS.F ht⟩) hS.2.2 dL_search_114

def tnF (nu : Nat → Nat) (rl : Nat) : Nat → Nat := fun k => if k < rl then nu (rl - 1 - k) else nu k
def tnG (nu : Nat → Nat) (rl i : Nat) : Nat → Nat := fun k => if k < rl ∧ (k < i ∨ rl - 1 - i < k) then nu (rl - 1 - k) else nu k
theorem tn_0 (nu : Nat → Nat) (rl : Nat) : nu = tnG nu rl 0 := by
  funext k
  simp only [tnG]
  rw [if_neg (by omega)]
theorem tn_step {nu v : Nat → Nat} {rl i j : Nat} (hv : v = tnG nu rl i) (h : i + j + 1 = rl) (hij : i < j) : va_up (va_up v i (v j)) j (v i) = tnG nu rl (i + 1) := by
  subst hv
  funext k
  simp only [va_up, tnG]
  by_cases e1 : k = j
  · subst e1
    rw [if_pos rfl, if_neg (by omega), if_pos (by omega)]
    congr 1; omega
  · rw [if_neg e1]
    by_cases e2 : k = i
    · subst e2
      rw [if_pos rfl, if_neg (by omega), if_pos (by omega)]
      congr 1; omega
    · rw [if_neg e2]
      by_cases e3 : k < rl ∧ (k < i ∨ rl - 1 - i < k)
      · rw [if_pos e3, if_pos (by omega)]
      · rw [if_neg e3, if_neg (by omega)]
theorem tn_end {nu : Nat → Nat} {rl i j : Nat} (h : i + j + 1 = rl) (hij : j ≤ i) (h2 : i ≤ j + 1) : tnF nu rl = tnG nu rl i := by
  funext k
  simp only [tnF, tnG]
  by_cases e : k < rl
  · rw [if_pos e]
    by_cases e3 : k < rl ∧ (k < i ∨ rl - 1 - i < k)
    · rw [if_pos e3]
    · rw [if_neg e3]; congr 1; omega
  · rw [if_neg e, if_neg (by omega)]

set_option maxHeartbeats 4000000 in
set_option maxRecDepth 100000 in
theorem lp_R_turn {p : Program} {l : Launch} {e : Env} {R : Room} {s : State} {m : MethodId} {args : Array Value} {below : List Frame} {meth : Method} {c : Code} {cells slots : Nat} {Q : State → Prop} {dC : Nat → ClassId} {dI : Nat → Nat → Nat} {cI cJ cZ : ClassId} {A : Nat → Prop} (qr : Nat → Nat) (nu : Nat → Nat) (rl : Nat) (hrl : rl ≤ 40) (h1 : 1 ≤ rl)  (hx : p.tables.exec = Jvm.exec) (hb : c.code = cR_turnRound) (hml : c.maxLocals = 4) (hown : s.vm.findClass nR = some m.cls) (hts : ∀ w ∈ wsR_turnRound, w.before args s = true) (hK : va_K (dC, dI) vwCl (tyE cI cJ cZ) s) (hE : EV s) (hA : ∀ q : Nat, s.heap.size ≤ q → A q) (hR : 0 ≤ R.frames ∧ 0 ≤ R.locals) (hcs : cells ≤ R.cells ∧ slots ≤ R.slots)
    (kx0 : ∀ (i : Nat) (j : Nat) (v : Nat → Nat) (h2 : i + j + 1 = rl) (h3 : i ≤ j + 1) (hv : v = tnG nu rl i) (hx0 : j ≤ i) (H : Heap) (locs : List Loc), va_P (dC, dI) vwCl (wR cI cJ cZ qr v rl) H → va_D A (wR cI cJ cZ qr v rl) → va_S A s.heap H locs → ∀ ls : Array Slot, lv_has ls 4 [(0, .ref (qr 0)), (1, .int (nI i)), (2, .int (nI j))] →  W p l e R s m args below meth c H locs cells slots Q (F0 m 49 ls []))
    : ∀ (fu : Nat) (i : Nat) (j : Nat) (v : Nat → Nat) (h2 : i + j + 1 = rl) (h3 : i ≤ j + 1) (hv : v = tnG nu rl i), j - i < fu → ∀ (H : Heap) (locs : List Loc), va_P (dC, dI) vwCl (wR cI cJ cZ qr v rl) H → va_D A (wR cI cJ cZ qr v rl) → va_S A s.heap H locs → ∀ ls : Array Slot, lv_has ls 4 [(0, .ref (qr 0)), (1, .int (nI i)), (2, .int (nI j))] →  W p l e R s m args below meth c H locs cells slots Q (F0 m 9 ls []) := by
  have hg : ∀ w ∈ gw, w.before args s = true := fun w h => hts w (List.mem_cons_of_mem _ h)
  intro fu
  induction fu with
  | zero => intro i j v h2 h3 hv h0; exact absurd h0 (Nat.not_lt_zero _)
  | succ fu ihL =>
    intro i j v h2 h3 hv hfu H locs hP hD hS ls hl
    refine lv_iload_n hx hb dR_turnRound_9 rfl (lv_at hl 1 rfl) ?_
    refine lv_iload_n hx hb dR_turnRound_10 rfl (lv_at hl 2 rfl) ?_
    refine rn_icmp_ge (tgt := 49) hx hb dR_turnRound_11 (by decide) (by omega) (by omega) (fun c11 => ?_) (fun c11 => ?_)
    · exact kx0 i j v h2 h3 hv (by omega) H locs hP hD hS ls (lv_sub hl [0, 1, 2] rfl)
    · obtain ⟨j, rfl⟩ : ∃ k, j = k + 1 := ⟨j - 1, by omega⟩
      refine lv_aload_n hx hb dR_turnRound_14 rfl (lv_at hl 0 rfl) ?_
      refine va_get (D := (dC, dI)) (ci := 4) (v := .ref (qr 1)) (C := nR) (T := TR) (N := 2) hx hb hg inR hown hK hP 0 rfl rfl 0 (by decide) (hg _ kR_9) (fun _ h9 => h9) rfl dR_turnRound_15 ?_
      refine lv_iload_n hx hb dR_turnRound_18 rfl (lv_at hl 1 rfl) ?_
      refine ga_i (f := v) hx hb hK hP 1 0 rfl rfl (by omega) (by decide) dR_turnRound_19 ?_
      refine lv_istore_n (lv' := [(3, .int (nI (v i))), (0, .ref (qr 0)), (1, .int (nI i)), (2, .int (nI (j + 1)))]) hx hb dR_turnRound_20 rfl hl (by decide) rfl (fun ls hl => ?_)
      refine lv_aload_n hx hb dR_turnRound_21 rfl (lv_at hl 1 rfl) ?_
      refine va_get (D := (dC, dI)) (ci := 4) (v := .ref (qr 1)) (C := nR) (T := TR) (N := 2) hx hb hg inR hown hK hP 0 rfl rfl 0 (by decide) (hg _ kR_9) (fun _ h9 => h9) rfl dR_turnRound_22 ?_
      refine lv_iload_n hx hb dR_turnRound_25 rfl (lv_at hl 2 rfl) ?_
      refine lv_aload_n hx hb dR_turnRound_26 rfl (lv_at hl 1 rfl) ?_
      refine va_get (D := (dC, dI)) (ci := 4) (v := .ref (qr 1)) (C := nR) (T := TR) (N := 2) hx hb hg inR hown hK hP 0 rfl rfl 0 (by decide) (hg _ kR_9) (fun _ h9 => h9) rfl dR_turnRound_27 ?_
      refine lv_iload_n hx hb dR_turnRound_30 rfl (lv_at hl 3 rfl) ?_
      refine ga_i (f := v) hx hb hK hP 1 0 rfl rfl (by omega) (by decide) dR_turnRound_31 ?_
      refine sa_i (f := v) (v := v (j + 1)) hx hb hK hP hD hS 1 0 rfl rfl (by omega) (by decide) dR_turnRound_32 (fun H locs hP hD hS => ?_)
      have hP : va_P (dC, dI) vwCl (wR cI cJ cZ qr (va_up v i (v (j + 1))) rl) H := hP
      have hD : va_D A (wR cI cJ cZ qr (va_up v i (v (j + 1))) rl) := hD
      refine lv_aload_n hx hb dR_turnRound_33 rfl (lv_at hl 1 rfl) ?_
      refine va_get (D := (dC, dI)) (ci := 4) (v := .ref (qr 1)) (C := nR) (T := TR) (N := 2) hx hb hg inR hown hK hP 0 rfl rfl 0 (by decide) (hg _ kR_9) (fun _ h9 => h9) rfl dR_turnRound_34 ?_
      refine lv_iload_n hx hb dR_turnRound_37 rfl (lv_at hl 3 rfl) ?_
      refine lv_iload_n hx hb dR_turnRound_38 rfl (lv_at hl 0 rfl) ?_
      refine sa_i (f := va_up v i (v (j + 1))) (v := v i) hx hb hK hP hD hS 1 0 rfl rfl (by omega) (by decide) dR_turnRound_39 (fun H locs hP hD hS => ?_)
      have hP : va_P (dC, dI) vwCl (wR cI cJ cZ qr (va_up (va_up v i (v (j + 1))) (j + 1) (v i)) rl) H := hP
      have hD : va_D A (wR cI cJ cZ qr (va_up (va_up v i (v (j + 1))) (j + 1) (v i)) rl) := hD
      refine rn_iinc (lv' := [(1, .int (nI (i + 1))), (3, .int (nI (v i))), (0, .ref (qr 0)), (2, .int (nI (j + 1)))]) hx hb dR_turnRound_40 hl (k := 2) rfl (by decide) rfl (fun ls hl => ?_)
      refine rn_iincm (lv' := [(2, .int (nI j)), (1, .int (nI (i + 1))), (3, .int (nI (v i))), (0, .ref (qr 0))]) hx hb dR_turnRound_43 hl (k := 3) rfl (by decide) rfl (fun ls hl => ?_)
      refine lv_goto (tgt := 9) hx hb dR_turnRound_46 (by decide) ?_
      exact ihL (i + 1) j (va_up (va_up v i (v (j + 1))) (j + 1) (v i)) (by omega) (by omega) (by exact tn_step hv h2 (by omega)) (by omega) H locs hP hD hS ls (lv_sub hl [3, 1, 0] rfl)

set_option maxHeartbeats 4000000 in
set_option maxRecDepth 100000 in
theorem ct_R_turnRound (l : Launch) (dC : Nat → ClassId) (dI : Nat → Nat → Nat) (cI cJ cZ : ClassId) (qr : Nat → Nat) (nu : Nat → Nat) (rl : Nat) (sz : Nat) (hrl : rl ≤ 40) (h1 : 1 ≤ rl) : Met l yR_turnRound wsR_turnRound ({ frames := 0, cells := 0, slots := 0, locals := 0 }) (PcW (dC, dI) (wR cI cJ cZ qr nu rl) (tyE cI cJ cZ) sz [.ref (qr 0)]) (QwV (dC, dI) (wR cI cJ cZ qr (tnF nu rl) rl) (tyE cI cJ cZ) (va_A (wR cI cJ cZ qr nu rl) sz)) 0 0 (va_A (wR cI cJ cZ qr nu rl) sz) := by
  refine Met.ofW (cc := cR_turnRound) (maxL := 4) (ret := none) (by decide) rfl ?_
  intro p e s m args below meth c s₁ B hml hv
  obtain ⟨rfl, hsz, hP, hK, hD0, hE⟩ := hv
  have hx := B.exec
  have hb := B.bytes
  have hr := B.returns
  have hts := atoms_spec (ws := wsR_turnRound) B.pre
  have hg : ∀ w ∈ gw, w.before _ s = true := fun w h => hts w (List.mem_cons_of_mem _ h)
  have hown : s.vm.findClass nR = some m.cls := findClass_of_methodNamed B.named
  have hlocks := B.notSynchronized
  have hR : 0 ≤ (headSpec wsR_turnRound ({ frames := 0, cells := 0, slots := 0, locals := 0 })).room.frames ∧ 0 ≤ (headSpec wsR_turnRound ({ frames := 0, cells := 0, slots := 0, locals := 0 })).room.locals := ⟨Nat.le_refl _, Nat.le_refl _⟩
  have hcs : 0 ≤ (headSpec wsR_turnRound ({ frames := 0, cells := 0, slots := 0, locals := 0 })).room.cells ∧ 0 ≤ (headSpec wsR_turnRound ({ frames := 0, cells := 0, slots := 0, locals := 0 })).room.slots := ⟨Nat.zero_le _, Nat.zero_le _⟩
  subst hsz
  have hD := hD0.self (sz := s.heap.size)
  generalize hAe : va_A (wR cI cJ cZ qr nu rl) s.heap.size = A at hD ⊢
  have hA : ∀ q : Nat, s.heap.size ≤ q → A q := fun q h => by rw [← hAe]; exact Or.inr h
  obtain ⟨H, hH⟩ : ∃ H, H = s.heap := ⟨_, rfl⟩
  have hS : va_S A s.heap H [] := by rw [hH]; exact va_S.rf
  rw [← hH] at hP ⊢
  have hl := lv_entry ([.ref (qr 0)]) (n := 4) (Nat.le_of_ble_eq_true rfl)
  rw [lg_entry_eq]
  generalize (lg_sl ([.ref (qr 0)]) ++ List.replicate (4 - (lg_sl ([.ref (qr 0)])).length) Slot.unset).toArray = ls at hl ⊢
  have hl : lv_has ls 4 [(0, .ref (qr 0))] := hl
  refine rn_iconst hx hb 0 dR_turnRound_0 (by decide) ?_
  refine lv_istore_n (lv' := [(1, .int (nI 0)), (0, .ref (qr 0))]) hx hb dR_turnRound_1 rfl hl (by decide) rfl (fun ls hl => ?_)
  refine lv_aload_n hx hb dR_turnRound_2 rfl (lv_at hl 1 rfl) ?_
  refine va_get (D := (dC, dI)) (ci := 4) (v := .int (nI rl)) (C := nR) (T := TR) (N := 2) hx hb hg inR hown hK hP 0 rfl rfl 1 (by decide) (hg _ kR_15) (fun _ h9 => h9) rfl dR_turnRound_3 ?_
  refine rn_iconst hx hb 1 dR_turnRound_6 (by decide) ?_
  refine rn_isub hx hb dR_turnRound_7 (by omega) ?_
  refine lv_istore_n (lv' := [(2, .int (nI (rl - 1))), (1, .int (nI 0)), (0, .ref (qr 0))]) hx hb dR_turnRound_8 rfl hl (by decide) rfl (fun ls hl => ?_)
  refine lp_R_turn qr nu rl hrl h1  hx hb hml hown hts hK hE hA (by first | exact hR | exact ⟨Nat.le_trans (by decide) hR.1, Nat.le_trans (by decide) hR.2⟩) hcs (fun i j v h2 h3 hv hx0 H locs hP hD hS ls hl => ?_) (((rl - 1) - 0) + 1) 0 (rl - 1) nu (by omega) (by omega) (tn_0 nu rl) (by omega) _ _ hP hD hS ls (lv_sub hl [2, 1, 0] rfl)
  have hP9 : va_P (dC, dI) vwCl (wR cI cJ cZ qr (tnF nu rl) rl) H := by rw [tn_end h2 hx0 h3, ← hv]; exact hP
  have hD9 : va_D A (wR cI cJ cZ qr (tnF nu rl) rl) := by rw [tn_end h2 hx0 h3, ← hv]; exact hD
  exact W.vret hx hb hr (fun t ht hW => ⟨⟨(), rfl, trivial, by rw [ht]; exact hP9, va_K.moved hW.alike hK, hD9⟩, hS.F ht⟩) hS.2.2 dR_turnRound_49

def wcF (pb : Nat → Option Nat) : Nat → Option Nat → (Nat → Nat) → Nat → (Nat → Nat) × Nat
  | 0, _, nu, rl => (nu, rl)
  | _ + 1, none, nu, rl => (nu, rl)
  | k + 1, some x, nu, rl => wcF pb k (pb x) (apF nu rl x) (apN rl)
theorem wc_none {pb : Nat → Option Nat} {k : Nat} {nu : Nat → Nat} {rl : Nat} {o : Option Nat} (h : o = none) : wcF pb k o nu rl = (nu, rl) := by
  subst h
  cases k <;> rfl
theorem wc_0 {pb : Nat → Option Nat} {k : Nat} {nu : Nat → Nat} {rl : Nat} {o : Option Nat} (h : 40 ≤ k) : wcF pb (40 - k) o nu rl = (nu, rl) := by rw [show 40 - k = 0 by omega]; rfl
theorem wc_some {pb : Nat → Option Nat} {k x : Nat} {nu : Nat → Nat} {rl : Nat} {o : Option Nat} (hk : k < 40) (h : o = some x) : wcF pb (40 - k) o nu rl = wcF pb (40 - (k + 1)) (pb x) (apF nu rl x) (apN rl) := by
  subst h
  rw [show 40 - k = (40 - (k + 1)) + 1 by omega]; rfl
theorem pbO_lt {bg en sc oh bt re : Nat → Nat} {sa fm n x i : Nat} (h : pbO bg en sc oh bt re sa fm n x = some i) : i < n := by
  unfold pbO at h
  split at h
  · cases h
  · exact ((ffi_ok n).1 i h).1
theorem apN_le {rl : Nat} (h : rl ≤ 40) : apN rl ≤ 40 ∧ 1 ≤ apN rl := by unfold apN; split <;> omega

set_option maxHeartbeats 4000000 in
set_option maxRecDepth 100000 in
theorem lp_L_write {p : Program} {l : Launch} {e : Env} {R : Room} {s : State} {m : MethodId} {args : Array Value} {below : List Frame} {meth : Method} {c : Code} {cells slots : Nat} {Q : State → Prop} {dC : Nat → ClassId} {dI : Nat → Nat → Nat} {cI cJ cZ : ClassId} {A : Nat → Prop} (ql : Nat → Nat) (re : Nat → Nat) (sa fm : Nat) (q : Nat → Nat) (bg en sc wd ht oh bt : Nat → Nat) (co n : Nat) (qr : Nat → Nat) (nu : Nat → Nat) (rl : Nat) (pl : Nat) (hre : ∀ j, re j ≤ 1152921504606846976) (hB : bP bg en sc wd ht oh bt co n) (hrl : rl ≤ 40) (hpl : pl < 20) (hfm : fm < 2305843009213693952) (hsa : sa < 20) (hla : (lpL en re pl n).1 ≠ none)  (hx : p.tables.exec = Jvm.exec) (hb : c.code = cL_writeWayTo) (hml : c.maxLocals = 6) (hown : s.vm.findClass nL = some m.cls) (hts : ∀ w ∈ wsL_writeWayTo, w.before args s = true) (hK : va_K (dC, dI) vwCl (tyE cI cJ cZ) s) (hE : EV s) (hA : ∀ q : Nat, s.heap.size ≤ q → A q) (hR : 4 ≤ R.frames ∧ 89 ≤ R.locals) (hcs : cells ≤ R.cells ∧ slots ≤ R.slots)
    (kx0 : ∀ (i : Nat) (o : Option Nat) (v : Nat → Nat) (rv : Nat) (h1 : i ≤ 40) (hw : wcF (pbO bg en sc oh bt re sa fm n) 40 (lpL en re pl n).1 nu rl = wcF (pbO bg en sc oh bt re sa fm n) (40 - i) o v rv) (ho : ∀ x, o = some x → x < 40) (hrv : rv ≤ 40) (h6 : (i = 0 ∧ o ≠ none) ∨ 1 ≤ rv) (hx0 : wcF (pbO bg en sc oh bt re sa fm n) (40 - i) o v rv = (v, rv)) (hx1 : 1 ≤ rv) (H : Heap) (locs : List Loc), va_P (dC, dI) vwCl (wL cI cJ cZ ql re sa fm ++ wP cI cJ cZ q bg en sc wd ht oh bt co n ++ wR cI cJ cZ qr v rv) H → va_D A (wL cI cJ cZ ql re sa fm ++ wP cI cJ cZ q bg en sc wd ht oh bt co n ++ wR cI cJ cZ qr v rv) → va_S A s.heap H locs → ∀ ls : Array Slot, lv_has ls 6 [(0, .ref (ql 0)), (1, .ref (q 0)), (2, .int (nI pl)), (3, .ref (qr 0)), (4, .int (oI o)), (5, .int (nI i))] →  W p l e R s m args below meth c H locs cells slots Q (F0 m 45 ls []))
    : ∀ (fu : Nat) (i : Nat) (o : Option Nat) (v : Nat → Nat) (rv : Nat) (h1 : i ≤ 40) (hw : wcF (pbO bg en sc oh bt re sa fm n) 40 (lpL en re pl n).1 nu rl = wcF (pbO bg en sc oh bt re sa fm n) (40 - i) o v rv) (ho : ∀ x, o = some x → x < 40) (hrv : rv ≤ 40) (h6 : (i = 0 ∧ o ≠ none) ∨ 1 ≤ rv), 40 - i < fu → ∀ (H : Heap) (locs : List Loc), va_P (dC, dI) vwCl (wL cI cJ cZ ql re sa fm ++ wP cI cJ cZ q bg en sc wd ht oh bt co n ++ wR cI cJ cZ qr v rv) H → va_D A (wL cI cJ cZ ql re sa fm ++ wP cI cJ cZ q bg en sc wd ht oh bt co n ++ wR cI cJ cZ qr v rv) → va_S A s.heap H locs → ∀ ls : Array Slot, lv_has ls 6 [(0, .ref (ql 0)), (1, .ref (q 0)), (2, .int (nI pl)), (3, .ref (qr 0)), (4, .int (oI o)), (5, .int (nI i))] →  W p l e R s m args below meth c H locs cells slots Q (F0 m 11 ls []) := by
  have hg : ∀ w ∈ gw, w.before args s = true := fun w h => hts w (List.mem_cons_of_mem _ h)
  have hn := hB.1
  have hco := hB.2.1
  have hbi := hB.2.2
  intro fu
  induction fu with
  | zero => intro i o v rv h1 hw ho hrv h6 h0; exact absurd h0 (Nat.not_lt_zero _)
  | succ fu ihL =>
    intro i o v rv h1 hw ho hrv h6 hfu H locs hP hD hS ls hl
    refine lv_iload hx hb dL_writeWayTo_11 (lv_at hl 5 rfl) ?_
    refine rn_bipush hx hb 40 dL_writeWayTo_13 (by decide) ?_
    refine rn_icmp_ge (tgt := 45) hx hb dL_writeWayTo_15 (by decide) (by omega) (by omega) (fun c15 => ?_) (fun c15 => ?_)
    · exact kx0 i o v rv h1 hw ho hrv h6 (by first | exact wc_0 c15 | exact wc_none o21) (by first | exact h6.elim (fun q => absurd o21 q.2) id | (rcases h6 with q | q <;> omega)) H locs hP hD hS ls (lv_sub hl [0, 1, 2, 3, 4, 5] rfl)
    · refine lv_iload hx hb dL_writeWayTo_18 (lv_at hl 4 rfl) ?_
      refine lv_iconst (v := -1) hx hb dL_writeWayTo_20 (by decide) ?_
      refine ro_eq (tgt := 45) hx hb dL_writeWayTo_21 (by decide) (fun i hi => by have := ho i hi; omega) (fun o21 => ?_) (fun x21 o21 => ?_)
      · exact kx0 i o v rv h1 hw ho hrv h6 (by first | exact wc_0 c15 | exact wc_none o21) (by first | exact h6.elim (fun q => absurd o21 q.2) id | (rcases h6 with q | q <;> omega)) H locs hP hD hS ls (lv_sub hl [0, 1, 2, 3, 4, 5] rfl)
      · have hl : lv_has ls 6 [(0, .ref (ql 0)), (1, .ref (q 0)), (2, .int (nI pl)), (3, .ref (qr 0)), (4, .int (nI x21)), (5, .int (nI i))] := by rw [o21] at hl; exact hl
        have hx21 := ho _ o21
        refine lv_aload_n hx hb dL_writeWayTo_24 rfl (lv_at hl 3 rfl) ?_
        refine lv_iload hx hb dL_writeWayTo_25 (lv_at hl 4 rfl) ?_
        refine kwV_v (D := (dC, dI)) (b := (qr 0)) (C := nR) (As := [.int (nI x21)]) (rest := []) (wc := (wR cI cJ cZ qr v rv)) (wr := (wL cI cJ cZ ql re sa fm ++ wP cI cJ cZ q bg en sc wd ht oh bt co n)) (w1 := (wR cI cJ cZ qr (apF v rv x21) (apN rv))) (wn := (wL cI cJ cZ ql re sa fm ++ wP cI cJ cZ q bg en sc wd ht oh bt co n ++ wR cI cJ cZ qr (apF v rv x21) (apN rv))) ⟨hx, hb, hml, hown, hts⟩ (ct_R_append l dC dI cI cJ cZ qr v rv x21 H.size (by omega)) (cwV 1 hts (gv kL_71 ki_R_append ksel_R_append kin_R kc_R_append) rfl rfl rfl (by decide +kernel) ⟨Nat.le_trans (by decide) hR.1, Nat.le_trans (by decide) hR.2⟩) (va_recv hK hP (ci := 4) (q0 := 10) rfl rfl) hP hD hK hE hS hA [10, 11] [0, 1, 2, 3, 4, 5, 6, 7, 8, 9] [0, 1, 2, 3, 4, 5, 6, 7, 8, 9, 10, 11] rfl (by decide) rfl (by decide) (by decide) rfl (by decide) rfl hl.1 rfl (Nat.le_of_ble_eq_true rfl) dL_writeWayTo_27 hcs (fun H locs hP hD hS => ?_)
        refine lv_aload_n hx hb dL_writeWayTo_30 rfl (lv_at hl 0 rfl) ?_
        refine lv_aload_n hx hb dL_writeWayTo_31 rfl (lv_at hl 1 rfl) ?_
        refine lv_iload hx hb dL_writeWayTo_32 (lv_at hl 4 rfl) ?_
        refine cpV_i (b := (ql 0)) (C := nL) (As := [.ref (q 0), .int (nI x21)]) (rest := []) (post := fun r : Int32 => r = oI (pbO bg en sc oh bt re sa fm n x21)) ⟨hx, hb, hml, hown, hts⟩ (ct_L_pieceBefore l dC dI cI cJ cZ ql re sa fm q bg en sc wd ht oh bt co n x21 (hre) (hB) (by omega) (hfm) (hsa)) (cwV 2 hts (gv kL_77 ki_L_pieceBefore ksel_L_pieceBefore kin_L kc_L_pieceBefore) rfl rfl rfl (by decide +kernel) ⟨Nat.le_trans (by decide) hR.1, Nat.le_trans (by decide) hR.2⟩) (va_recv hK hP (ci := 2) (q0 := 0) rfl rfl) (hP.sub (ws' := (wL cI cJ cZ ql re sa fm ++ wP cI cJ cZ q bg en sc wd ht oh bt co n)) [0, 1, 2, 3, 4, 5, 6, 7, 8, 9] rfl) hK hE rfl hl.1 rfl (Nat.le_of_ble_eq_true rfl) dL_writeWayTo_34 hcs (fun r hr => ?_)
        subst hr
        refine lv_istore (lv' := [(4, .int (oI (pbO bg en sc oh bt re sa fm n x21))), (0, .ref (ql 0)), (1, .ref (q 0)), (2, .int (nI pl)), (3, .ref (qr 0)), (5, .int (nI i))]) hx hb dL_writeWayTo_37 hl (by decide) rfl (fun ls hl => ?_)
        refine rn_iinc (lv' := [(5, .int (nI (i + 1))), (4, .int (oI (pbO bg en sc oh bt re sa fm n x21))), (0, .ref (ql 0)), (1, .ref (q 0)), (2, .int (nI pl)), (3, .ref (qr 0))]) hx hb dL_writeWayTo_39 hl (k := 5) rfl (by decide) rfl (fun ls hl => ?_)
        refine lv_goto (tgt := 11) hx hb dL_writeWayTo_42 (by decide) ?_
        exact ihL (i + 1) (pbO bg en sc oh bt re sa fm n x21) (apF v rv x21) (apN rv) (by omega) (by rw [hw, wc_some (by omega) o21]) (fun x hx => by have := pbO_lt hx; omega) ((apN_le hrv).1) (Or.inr (apN_le hrv).2) (by omega) H locs hP hD hS ls (lv_sub hl [2, 3, 4, 5, 1, 0] rfl)

set_option maxHeartbeats 4000000 in
set_option maxRecDepth 100000 in
theorem ct_L_writeWayTo (l : Launch) (dC : Nat → ClassId) (dI : Nat → Nat → Nat) (cI cJ cZ : ClassId) (ql : Nat → Nat) (re : Nat → Nat) (sa fm : Nat) (q : Nat → Nat) (bg en sc wd ht oh bt : Nat → Nat) (co n : Nat) (qr : Nat → Nat) (nu : Nat → Nat) (rl : Nat) (pl : Nat) (sz : Nat) (hre : ∀ j, re j ≤ 1152921504606846976) (hB : bP bg en sc wd ht oh bt co n) (hrl : rl ≤ 40) (hpl : pl < 20) (hfm : fm < 2305843009213693952) (hsa : sa < 20) (hla : (lpL en re pl n).1 ≠ none) : Met l yL_writeWayTo wsL_writeWayTo ({ frames := 4, cells := 0, slots := 0, locals := 89 }) (PcW (dC, dI) (wL cI cJ cZ ql re sa fm ++ wP cI cJ cZ q bg en sc wd ht oh bt co n ++ wR cI cJ cZ qr nu rl) (tyE cI cJ cZ) sz [.ref (ql 0), .ref (q 0), .int (nI pl), .ref (qr 0)]) (QwV (dC, dI) (wL cI cJ cZ ql re sa fm ++ wP cI cJ cZ q bg en sc wd ht oh bt co n ++ wR cI cJ cZ qr (tnF (wcF (pbO bg en sc oh bt re sa fm n) 40 (lpL en re pl n).1 nu rl).1 (wcF (pbO bg en sc oh bt re sa fm n) 40 (lpL en re pl n).1 nu rl).2) ((wcF (pbO bg en sc oh bt re sa fm n) 40 (lpL en re pl n).1 nu rl).2)) (tyE cI cJ cZ) (va_A (wL cI cJ cZ ql re sa fm ++ wP cI cJ cZ q bg en sc wd ht oh bt co n ++ wR cI cJ cZ qr nu rl) sz)) 0 0 (va_A (wL cI cJ cZ ql re sa fm ++ wP cI cJ cZ q bg en sc wd ht oh bt co n ++ wR cI cJ cZ qr nu rl) sz) := by
  refine Met.ofW (cc := cL_writeWayTo) (maxL := 6) (ret := none) (by decide) rfl ?_
  intro p e s m args below meth c s₁ B hml hv
  obtain ⟨rfl, hsz, hP, hK, hD0, hE⟩ := hv
  have hx := B.exec
  have hb := B.bytes
  have hr := B.returns
  have hts := atoms_spec (ws := wsL_writeWayTo) B.pre
  have hg : ∀ w ∈ gw, w.before _ s = true := fun w h => hts w (List.mem_cons_of_mem _ h)
  have hown : s.vm.findClass nL = some m.cls := findClass_of_methodNamed B.named
  have hlocks := B.notSynchronized
  have hR : 4 ≤ (headSpec wsL_writeWayTo ({ frames := 4, cells := 0, slots := 0, locals := 89 })).room.frames ∧ 89 ≤ (headSpec wsL_writeWayTo ({ frames := 4, cells := 0, slots := 0, locals := 89 })).room.locals := ⟨Nat.le_refl _, Nat.le_refl _⟩
  have hcs : 0 ≤ (headSpec wsL_writeWayTo ({ frames := 4, cells := 0, slots := 0, locals := 89 })).room.cells ∧ 0 ≤ (headSpec wsL_writeWayTo ({ frames := 4, cells := 0, slots := 0, locals := 89 })).room.slots := ⟨Nat.zero_le _, Nat.zero_le _⟩
  subst hsz
  have hD := hD0.self (sz := s.heap.size)
  generalize hAe : va_A (wL cI cJ cZ ql re sa fm ++ wP cI cJ cZ q bg en sc wd ht oh bt co n ++ wR cI cJ cZ qr nu rl) s.heap.size = A at hD ⊢
  have hA : ∀ q : Nat, s.heap.size ≤ q → A q := fun q h => by rw [← hAe]; exact Or.inr h
  obtain ⟨H, hH⟩ : ∃ H, H = s.heap := ⟨_, rfl⟩
  have hS : va_S A s.heap H [] := by rw [hH]; exact va_S.rf
  rw [← hH] at hP ⊢
  have hn := hB.1
  have hco := hB.2.1
  have hbi := hB.2.2
  have hl := lv_entry ([.ref (ql 0), .ref (q 0), .int (nI pl), .ref (qr 0)]) (n := 6) (Nat.le_of_ble_eq_true rfl)
  rw [lg_entry_eq]
  generalize (lg_sl ([.ref (ql 0), .ref (q 0), .int (nI pl), .ref (qr 0)]) ++ List.replicate (6 - (lg_sl ([.ref (ql 0), .ref (q 0), .int (nI pl), .ref (qr 0)])).length) Slot.unset).toArray = ls at hl ⊢
  have hl : lv_has ls 6 [(0, .ref (ql 0)), (1, .ref (q 0)), (2, .int (nI pl)), (3, .ref (qr 0))] := hl
  refine lv_aload_n hx hb dL_writeWayTo_0 rfl (lv_at hl 0 rfl) ?_
  refine lv_aload_n hx hb dL_writeWayTo_1 rfl (lv_at hl 1 rfl) ?_
  refine lv_iload_n hx hb dL_writeWayTo_2 rfl (lv_at hl 2 rfl) ?_
  refine cpV_i (b := (ql 0)) (C := nL) (As := [.ref (q 0), .int (nI pl)]) (rest := []) (post := fun r : Int32 => r = oI (lpL en re pl n).1) ⟨hx, hb, hml, hown, hts⟩ (ct_L_lastPieceTo l dC dI cI cJ cZ ql re sa fm q bg en sc wd ht oh bt co n pl (hre) (hB) (hpl)) (cwV 2 hts (gv kL_67 ki_L_lastPieceTo ksel_L_lastPieceTo kin_L kc_L_lastPieceTo) rfl rfl rfl (by decide +kernel) ⟨Nat.le_trans (by decide) hR.1, Nat.le_trans (by decide) hR.2⟩) (va_recv hK hP (ci := 2) (q0 := 0) rfl rfl) (hP.sub (ws' := (wL cI cJ cZ ql re sa fm ++ wP cI cJ cZ q bg en sc wd ht oh bt co n)) [0, 1, 2, 3, 4, 5, 6, 7, 8, 9] rfl) hK hE rfl hl.1 rfl (Nat.le_of_ble_eq_true rfl) dL_writeWayTo_3 hcs (fun r hr => ?_)
  subst hr
  refine lv_istore (lv' := [(4, .int (oI ((lpL en re pl n).1))), (0, .ref (ql 0)), (1, .ref (q 0)), (2, .int (nI pl)), (3, .ref (qr 0))]) hx hb dL_writeWayTo_6 hl (by decide) rfl (fun ls hl => ?_)
  refine rn_iconst hx hb 0 dL_writeWayTo_8 (by decide) ?_
  refine lv_istore (lv' := [(5, .int (nI 0)), (4, .int (oI ((lpL en re pl n).1))), (0, .ref (ql 0)), (1, .ref (q 0)), (2, .int (nI pl)), (3, .ref (qr 0))]) hx hb dL_writeWayTo_9 hl (by decide) rfl (fun ls hl => ?_)
  refine lp_L_write ql re sa fm q bg en sc wd ht oh bt co n qr nu rl pl hre hB hrl hpl hfm hsa hla  hx hb hml hown hts hK hE hA (by first | exact hR | exact ⟨Nat.le_trans (by decide) hR.1, Nat.le_trans (by decide) hR.2⟩) hcs (fun i o v rv h1 hw ho hrv h6 hx0 hx1 H locs hP hD hS ls hl => ?_) ((40 - 0) + 1) 0 ((lpL en re pl n).1) nu rl (by omega) (rfl) (fun x hx => by have := (lpL_le en re pl n).2 x hx; omega) (hrl) (Or.inl ⟨rfl, hla⟩) (by omega) _ _ hP hD hS ls (lv_sub hl [2, 3, 4, 5, 1, 0] rfl)
  refine lv_aload_n hx hb dL_writeWayTo_45 rfl (lv_at hl 3 rfl) ?_
  refine kwV_v (D := (dC, dI)) (b := (qr 0)) (C := nR) (As := []) (rest := []) (wc := (wR cI cJ cZ qr v rv)) (wr := (wL cI cJ cZ ql re sa fm ++ wP cI cJ cZ q bg en sc wd ht oh bt co n)) (w1 := (wR cI cJ cZ qr (tnF v rv) rv)) (wn := (wL cI cJ cZ ql re sa fm ++ wP cI cJ cZ q bg en sc wd ht oh bt co n ++ wR cI cJ cZ qr (tnF v rv) rv)) ⟨hx, hb, hml, hown, hts⟩ (ct_R_turnRound l dC dI cI cJ cZ qr v rv H.size (hrv) (hx1)) (cwV 0 hts (gv kL_80 ki_R_turnRound ksel_R_turnRound kin_R kc_R_turnRound) rfl rfl rfl (by decide +kernel) ⟨Nat.le_trans (by decide) hR.1, Nat.le_trans (by decide) hR.2⟩) (va_recv hK hP (ci := 4) (q0 := 10) rfl rfl) hP hD hK hE hS hA [10, 11] [0, 1, 2, 3, 4, 5, 6, 7, 8, 9] [0, 1, 2, 3, 4, 5, 6, 7, 8, 9, 10, 11] rfl (by decide) rfl (by decide) (by decide) rfl (by decide) rfl hl.1 rfl (Nat.le_of_ble_eq_true rfl) dL_writeWayTo_46 hcs (fun H locs hP hD hS => ?_)
  have hP9 : va_P (dC, dI) vwCl (wL cI cJ cZ ql re sa fm ++ wP cI cJ cZ q bg en sc wd ht oh bt co n ++ wR cI cJ cZ qr (tnF (wcF (pbO bg en sc oh bt re sa fm n) 40 (lpL en re pl n).1 nu rl).1 (wcF (pbO bg en sc oh bt re sa fm n) 40 (lpL en re pl n).1 nu rl).2) ((wcF (pbO bg en sc oh bt re sa fm n) 40 (lpL en re pl n).1 nu rl).2)) H := by rw [hw, hx0]; exact hP
  have hD9 : va_D A (wL cI cJ cZ ql re sa fm ++ wP cI cJ cZ q bg en sc wd ht oh bt co n ++ wR cI cJ cZ qr (tnF (wcF (pbO bg en sc oh bt re sa fm n) 40 (lpL en re pl n).1 nu rl).1 (wcF (pbO bg en sc oh bt re sa fm n) 40 (lpL en re pl n).1 nu rl).2) ((wcF (pbO bg en sc oh bt re sa fm n) 40 (lpL en re pl n).1 nu rl).2)) := by rw [hw, hx0]; exact hD
  exact W.vret hx hb hr (fun t ht hW => ⟨⟨(), rfl, trivial, by rw [ht]; exact hP9, va_K.moved hW.alike hK, hD9⟩, hS.F ht⟩) hS.2.2 dL_writeWayTo_49
