theorem up_lt {v : Nat → Nat} {d p : Nat} (h : ∀ j, j < d → v j < 40) (hp : p < 40) : ∀ j, j < d + 1 → va_up v d p j < 40 := by
  intro j hj
  by_cases q : j = d
  · rw [q, va_up_self]; exact hp
  · rw [va_up_ne _ _ q]; exact h j (by omega)
theorem go_s {P : Nat → Bool} {i p : Nat} (h : ∀ j, i ≤ j → j < p → P j = false) (c : P p = false) : ∀ j, i ≤ j → j < p + 1 → P j = false := by
  intro j h1 h2
  by_cases e : j = p
  · subst e; exact c
  · exact h j h1 (by omega)

set_option maxHeartbeats 4000000 in
set_option maxRecDepth 100000 in
theorem lp_M_go2 {p : Program} {l : Launch} {e : Env} {R : Room} {s : State} {m : MethodId} {args : Array Value} {below : List Frame} {meth : Method} {c : Code} {cells slots : Nat} {Q : State → Prop} {dC : Nat → ClassId} {dI : Nat → Nat → Nat} {cI cJ cZ : ClassId} {A : Nat → Prop} (qm : Nat → Nat) (lv mw mh mk : Nat → Nat) (pc mc kc : Nat) (bg en sc wd ht oh bt : Nat → Nat) (co n : Nat) (sh ba : Nat → Bool) (rm nm bs bc bp on wh : Nat → Nat) (cd sl fo : Nat) (a b : Nat) (hG : bGp lv mw mh mk pc mc kc) (hB : bP bg en sc wd ht oh bt co n) (hsh : ∀ j, j < 40 → sh j = co.testBit j) (hba : ∀ f t, f < 40 → t < 40 → ba (40 * f + t) = (bt f).testBit t) (hsc : ∀ i, i < n → 1 ≤ sc i) (hbp : ∀ j, bp j < 40) (hbc : ∀ j, bc j ≤ 5) (hbs : ∀ j, bs j ≤ 60000000) (hm6 : 0 < mc) (ha : a < 20) (hb9 : b < 20) (d : Nat) (v : Nat → Nat) (wv : Nat → Nat) (pv : Nat → Nat) (cv : Nat → Nat) (sv : Nat → Nat) (fv : Nat) (hx : p.tables.exec = Jvm.exec) (hb : c.code = cM_goThrough) (hml : c.maxLocals = 5) (hown : s.vm.findClass nM = some m.cls) (hts : ∀ w ∈ wsM_goThrough, w.before args s = true) (hK : va_K (dC, dI) vwCl (tyE cI cJ cZ) s) (hE : EV s) (hA : ∀ q : Nat, s.heap.size ≤ q → A q) (hR : 2 ≤ R.frames ∧ 49 ≤ R.locals) (hcs : cells ≤ R.cells ∧ slots ≤ R.slots)
    (kx0 : ∀ (p9 : Nat) (h1 : oN (v d) ≤ p9) (h2 : p9 ≤ n) (h3 : ∀ j, oN (v d) ≤ j → j < p9 → okW (usB wd ht oh co (mw 0) (mh 0)) bg en bt a (pre v d)  j = false) (hd4 : d ≤ 4) (hvj : ∀ j, j < d → v j < n) (hx0 : p9 = n ∨ okW (usB wd ht oh co (mw 0) (mh 0)) bg en bt a (pre v d)  p9 = true) (H : Heap) (locs : List Loc), va_P (dC, dI) vwCl (wM cI cJ cZ qm lv bg en sc wd ht sh oh ba mw mh mk rm nm sv cv pv v wv cd pc n mc kc sl fv) H → va_D A (wM cI cJ cZ qm lv bg en sc wd ht sh oh ba mw mh mk rm nm sv cv pv v wv cd pc n mc kc sl fv) → va_S A s.heap H locs → ∀ ls : Array Slot, lv_has ls 5 [(0, .ref (qm 0)), (1, .int (nI a)), (2, .int (nI b)), (3, .int (nI d)), (4, .int (nI p9))] →  W p l e R s m args below meth c H locs cells slots Q (F0 m 61 ls []))
    : ∀ (fu : Nat) (p9 : Nat) (h1 : oN (v d) ≤ p9) (h2 : p9 ≤ n) (h3 : ∀ j, oN (v d) ≤ j → j < p9 → okW (usB wd ht oh co (mw 0) (mh 0)) bg en bt a (pre v d)  j = false) (hd4 : d ≤ 4) (hvj : ∀ j, j < d → v j < n), n - p9 < fu → ∀ (H : Heap) (locs : List Loc), va_P (dC, dI) vwCl (wM cI cJ cZ qm lv bg en sc wd ht sh oh ba mw mh mk rm nm sv cv pv v wv cd pc n mc kc sl fv) H → va_D A (wM cI cJ cZ qm lv bg en sc wd ht sh oh ba mw mh mk rm nm sv cv pv v wv cd pc n mc kc sl fv) → va_S A s.heap H locs → ∀ ls : Array Slot, lv_has ls 5 [(0, .ref (qm 0)), (1, .int (nI a)), (2, .int (nI b)), (3, .int (nI d)), (4, .int (nI p9))] →  W p l e R s m args below meth c H locs cells slots Q (F0 m 35 ls []) := by
  have hg : ∀ w ∈ gw, w.before args s = true := fun w h => hts w (List.mem_cons_of_mem _ h)
  have hpc := hG.1
  have hmc := hG.2.1
  have hkc := hG.2.2.1
  have hgi := hG.2.2.2
  have hbi := hB.2.2
  have hn := hB.1
  have hco := hB.2.1
  have hg2 : ∀ i m, i < n → (usB wd ht oh co (mw 0) (mh 0)) i = true → m < ew (oh i) (sc i) m ∧ ew (oh i) (sc i) m ≤ m + 10086400 := uE_gt hB hsc
  intro fu
  induction fu with
  | zero => intro p9 h1 h2 h3 hd4 hvj h0; exact absurd h0 (Nat.not_lt_zero _)
  | succ fu ihL =>
    intro p9 h1 h2 h3 hd4 hvj hfu H locs hP hD hS ls hl
    refine lv_iload hx hb dM_goThrough_35 (lv_at hl 4 rfl) ?_
    refine lv_aload_n hx hb dM_goThrough_37 rfl (lv_at hl 0 rfl) ?_
    refine va_get (D := (dC, dI)) (ci := 5) (v := .int (nI n)) (C := nM) (T := TM) (N := 26) hx hb hg inM hown hK hP 0 rfl rfl 3 (by decide) (hg _ kM_80) (fun _ h9 => h9) rfl dM_goThrough_38 ?_
    refine rn_icmp_ge (tgt := 61) hx hb dM_goThrough_41 (by decide) (by omega) (by omega) (fun c41 => ?_) (fun c41 => ?_)
    · exact kx0 p9 h1 h2 h3 hd4 hvj (by first | exact Or.inr c52 | exact Or.inl (by omega)) H locs hP hD hS ls (lv_sub hl [0, 1, 2, 3, 4] rfl)
    · have hon9 : ∀ k, k < d → v k < 40 := fun k hk => by have := hvj k hk; omega
      refine lv_aload_n hx hb dM_goThrough_44 rfl (lv_at hl 0 rfl) ?_
      refine lv_iload_n hx hb dM_goThrough_45 rfl (lv_at hl 1 rfl) ?_
      refine lv_iload_n hx hb dM_goThrough_46 rfl (lv_at hl 3 rfl) ?_
      refine lv_iload hx hb dM_goThrough_47 (lv_at hl 4 rfl) ?_
      refine cpV_i (b := (qm 0)) (C := nM) (As := [.int (nI a), .int (nI d), .int (nI p9)]) (rest := []) (post := fun r : Int32 => r = bI (okW (usB wd ht oh co (mw 0) (mh 0)) bg en bt a (pre v d) p9)) ⟨hx, hb, hml, hown, hts⟩ (ct_M_mayGo l dC dI cI cJ cZ qm lv mw mh mk pc mc kc bg en sc wd ht oh bt co n sh ba rm nm sv cv pv v wv cd sl fv a d p9 (hG) (hB) (hsh) (hba) (hon9) (ha) (by omega) (by omega) (hm6)) (cwV 3 hts (gv kM_161 ki_M_mayGo ksel_M_mayGo kin_M kc_M_mayGo) rfl rfl rfl (by decide +kernel) ⟨Nat.le_trans (by decide) hR.1, Nat.le_trans (by decide) hR.2⟩) (va_recv hK hP (ci := 5) (q0 := 0) rfl rfl) hP hK hE rfl hl.1 rfl (Nat.le_of_ble_eq_true rfl) dM_goThrough_49 hcs (fun r hr => ?_)
      subst hr
      refine rb_ne (tgt := 61) hx hb dM_goThrough_52 (by decide) (fun c52 => ?_) (fun c52 => ?_)
      · exact kx0 p9 h1 h2 h3 hd4 hvj (by first | exact Or.inr c52 | exact Or.inl (by omega)) H locs hP hD hS ls (lv_sub hl [0, 1, 2, 3, 4] rfl)
      · refine rn_iinc (lv' := [(4, .int (nI (p9 + 1))), (0, .ref (qm 0)), (1, .int (nI a)), (2, .int (nI b)), (3, .int (nI d))]) hx hb dM_goThrough_55 hl (k := 4) rfl (by decide) rfl (fun ls hl => ?_)
        refine lv_goto (tgt := 35) hx hb dM_goThrough_58 (by decide) ?_
        exact ihL (p9 + 1) (by omega) (by omega) (go_s h3 c52) (hd4) (hvj) (by omega) H locs hP hD hS ls (lv_sub hl [1, 2, 3, 4, 0] rfl)

set_option maxHeartbeats 4000000 in
set_option maxRecDepth 100000 in
theorem lp_M_go1 {p : Program} {l : Launch} {e : Env} {R : Room} {s : State} {m : MethodId} {args : Array Value} {below : List Frame} {meth : Method} {c : Code} {cells slots : Nat} {Q : State → Prop} {dC : Nat → ClassId} {dI : Nat → Nat → Nat} {cI cJ cZ : ClassId} {A : Nat → Prop} (qm : Nat → Nat) (lv mw mh mk : Nat → Nat) (pc mc kc : Nat) (bg en sc wd ht oh bt : Nat → Nat) (co n : Nat) (sh ba : Nat → Bool) (rm nm bs bc bp on wh : Nat → Nat) (cd sl fo : Nat) (a b : Nat) (hG : bGp lv mw mh mk pc mc kc) (hB : bP bg en sc wd ht oh bt co n) (hsh : ∀ j, j < 40 → sh j = co.testBit j) (hba : ∀ f t, f < 40 → t < 40 → ba (40 * f + t) = (bt f).testBit t) (hsc : ∀ i, i < n → 1 ≤ sc i) (hbp : ∀ j, bp j < 40) (hbc : ∀ j, bc j ≤ 5) (hbs : ∀ j, bs j ≤ 60000000) (hm6 : 0 < mc) (ha : a < 20) (hb9 : b < 20)  (hx : p.tables.exec = Jvm.exec) (hb : c.code = cM_goThrough) (hml : c.maxLocals = 5) (hown : s.vm.findClass nM = some m.cls) (hts : ∀ w ∈ wsM_goThrough, w.before args s = true) (hK : va_K (dC, dI) vwCl (tyE cI cJ cZ) s) (hE : EV s) (hA : ∀ q : Nat, s.heap.size ≤ q → A q) (hR : 2 ≤ R.frames ∧ 49 ≤ R.locals) (hcs : cells ≤ R.cells ∧ slots ≤ R.slots)
    (kx0 : ∀ (e9 : Nat) (v : Nat → Nat) (wv : Nat → Nat) (pv : Nat → Nat) (cv : Nat → Nat) (sv : Nat → Nat) (fv : Nat) (hJ : gJ (usB wd ht oh co (mw 0) (mh 0)) bg en sc oh bt a b n (goK (usB wd ht oh co (mw 0) (mh 0)) bg en sc oh bt a b n) (ms n (va_up on 0 4294967295) 1 + 1) (1, va_up on 0 4294967295, va_up wh 0 0, bp, bc, bs, 0) (e9, v, wv, pv, cv, sv, fv)) (hx0 : e9 = 0) (H : Heap) (locs : List Loc), va_P (dC, dI) vwCl (wM cI cJ cZ qm lv bg en sc wd ht sh oh ba mw mh mk rm nm sv cv pv v wv cd pc n mc kc sl fv) H → va_D A (wM cI cJ cZ qm lv bg en sc wd ht sh oh ba mw mh mk rm nm sv cv pv v wv cd pc n mc kc sl fv) → va_S A s.heap H locs → ∀ ls : Array Slot, lv_has ls 5 [(0, .ref (qm 0)), (1, .int (nI a)), (2, .int (nI b))] →  W p l e R s m args below meth c H locs cells slots Q (F0 m 145 ls []))
    : ∀ (fu : Nat) (e9 : Nat) (v : Nat → Nat) (wv : Nat → Nat) (pv : Nat → Nat) (cv : Nat → Nat) (sv : Nat → Nat) (fv : Nat) (hJ : gJ (usB wd ht oh co (mw 0) (mh 0)) bg en sc oh bt a b n (goK (usB wd ht oh co (mw 0) (mh 0)) bg en sc oh bt a b n) (ms n (va_up on 0 4294967295) 1 + 1) (1, va_up on 0 4294967295, va_up wh 0 0, bp, bc, bs, 0) (e9, v, wv, pv, cv, sv, fv)), ms n v e9 < fu → ∀ (H : Heap) (locs : List Loc), va_P (dC, dI) vwCl (wM cI cJ cZ qm lv bg en sc wd ht sh oh ba mw mh mk rm nm sv cv pv v wv cd pc n mc kc sl fv) H → va_D A (wM cI cJ cZ qm lv bg en sc wd ht sh oh ba mw mh mk rm nm sv cv pv v wv cd pc n mc kc sl fv) → va_S A s.heap H locs → ∀ ls : Array Slot, lv_has ls 5 [(0, .ref (qm 0)), (1, .int (nI a)), (2, .int (nI b)), (3, .int (nI e9 - nI 1))] →  W p l e R s m args below meth c H locs cells slots Q (F0 m 21 ls []) := by
  have hg : ∀ w ∈ gw, w.before args s = true := fun w h => hts w (List.mem_cons_of_mem _ h)
  have hpc := hG.1
  have hmc := hG.2.1
  have hkc := hG.2.2.1
  have hgi := hG.2.2.2
  have hbi := hB.2.2
  have hn := hB.1
  have hco := hB.2.1
  have hg2 : ∀ i m, i < n → (usB wd ht oh co (mw 0) (mh 0)) i = true → m < ew (oh i) (sc i) m ∧ ew (oh i) (sc i) m ≤ m + 10086400 := uE_gt hB hsc
  intro fu
  induction fu with
  | zero => intro e9 v wv pv cv sv fv hJ h0; exact absurd h0 (Nat.not_lt_zero _)
  | succ fu ihL =>
    intro e9 v wv pv cv sv fv hJ hfu H locs hP hD hS ls hl
    have he5 : e9 ≤ 5 := hJ.1.1
    refine lv_iload_n hx hb dM_goThrough_21 rfl (lv_at hl 3 rfl) ?_
    refine lv_if_lt (tgt := 145) hx hb dM_goThrough_22 (by decide) (fun c22 => ?_) (fun c22 => ?_)
    · exact kx0 e9 v wv pv cv sv fv hJ (d0_of he5 c22) H locs hP hD hS ls (lv_sub hl [0, 1, 2] rfl)
    · obtain ⟨d, rfl⟩ := de_of c22
      have hl : lv_has ls 5 [(0, .ref (qm 0)), (1, .int (nI a)), (2, .int (nI b)), (3, .int (nI d))] := by rw [D_s] at hl; exact hl
      have hd4 : d ≤ 4 := by omega
      have hvd : v d = 4294967295 ∨ v d < n := hJ.1.2.2.1 d rfl
      have hvj : ∀ j, j < d → v j < n := fun j hj => hJ.1.2.1 j (Nat.succ_lt_succ hj)
      have hwd : wv d ≤ d * 10086400 := hJ.1.2.2.2.1 d (Nat.lt_succ_self d)
      have hon0 : oN (v d) ≤ n := by unfold oN; split; exact Nat.zero_le _; rcases hvd with q | q; omega; omega
      refine lv_aload_n hx hb dM_goThrough_25 rfl (lv_at hl 0 rfl) ?_
      refine va_get (D := (dC, dI)) (ci := 5) (v := .ref (qm 18)) (C := nM) (T := TM) (N := 26) hx hb hg inM hown hK hP 0 rfl rfl 24 (by decide) (hg _ kM_63) (fun _ h9 => h9) rfl dM_goThrough_26 ?_
      refine lv_iload_n hx hb dM_goThrough_29 rfl (lv_at hl 3 rfl) ?_
      refine ga_i (f := v) hx hb hK hP 18 0 rfl rfl (by omega) (by decide) dM_goThrough_30 ?_
      refine rn_iconst hx hb 1 dM_goThrough_31 (by decide) ?_
      refine rn_iadd hx hb dM_goThrough_32 ?_
      refine tp_i (y := nI (oN (v d))) (on_s _) ?_
      refine lv_istore (lv' := [(4, .int (nI (oN (v d)))), (0, .ref (qm 0)), (1, .int (nI a)), (2, .int (nI b)), (3, .int (nI d))]) hx hb dM_goThrough_33 hl (by decide) rfl (fun ls hl => ?_)
      refine lp_M_go2 qm lv mw mh mk pc mc kc bg en sc wd ht oh bt co n sh ba rm nm bs bc bp on wh cd sl fo a b hG hB hsh hba hsc hbp hbc hbs hm6 ha hb9 d v wv pv cv sv fv hx hb hml hown hts hK hE hA (by first | exact hR | exact ⟨Nat.le_trans (by decide) hR.1, Nat.le_trans (by decide) hR.2⟩) hcs (fun p9 h1 h2 h3 hd4 hvj hx0 H locs hP hD hS ls hl => ?_) ((n - (oN (v d))) + 1) (oN (v d)) (by omega) (by omega) (fun j h1 h2 => absurd h2 (by omega)) (hd4) (hvj) (by omega) _ _ hP hD hS ls (lv_sub hl [1, 2, 3, 4, 0] rfl)
      have hnx : gN (usB wd ht oh co (mw 0) (mh 0)) bg en bt a n v d = p9 := nx_eq h1 (by omega) h3 (by rcases hx0 with q | q; exact Or.inl (by omega); exact Or.inr q)
      refine lv_aload_n hx hb dM_goThrough_61 rfl (lv_at hl 0 rfl) ?_
      refine va_get (D := (dC, dI)) (ci := 5) (v := .ref (qm 18)) (C := nM) (T := TM) (N := 26) hx hb hg inM hown hK hP 0 rfl rfl 24 (by decide) (hg _ kM_63) (fun _ h9 => h9) rfl dM_goThrough_62 ?_
      refine lv_iload_n hx hb dM_goThrough_65 rfl (lv_at hl 3 rfl) ?_
      refine lv_iload hx hb dM_goThrough_66 (lv_at hl 4 rfl) ?_
      refine sa_i (f := v) (v := p9) hx hb hK hP hD hS 18 0 rfl rfl (by omega) (by decide) dM_goThrough_68 (fun H locs hP hD hS => ?_)
      have hP : va_P (dC, dI) vwCl (wM cI cJ cZ qm lv bg en sc wd ht sh oh ba mw mh mk rm nm sv cv pv (va_up v d p9) wv cd pc n mc kc sl fv) H := hP
      have hD : va_D A (wM cI cJ cZ qm lv bg en sc wd ht sh oh ba mw mh mk rm nm sv cv pv (va_up v d p9) wv cd pc n mc kc sl fv) := hD
      refine lv_iload hx hb dM_goThrough_69 (lv_at hl 4 rfl) ?_
      refine lv_aload_n hx hb dM_goThrough_71 rfl (lv_at hl 0 rfl) ?_
      refine va_get (D := (dC, dI)) (ci := 5) (v := .int (nI n)) (C := nM) (T := TM) (N := 26) hx hb hg inM hown hK hP 0 rfl rfl 3 (by decide) (hg _ kM_80) (fun _ h9 => h9) rfl dM_goThrough_72 ?_
      refine rn_icmp_ne (tgt := 84) hx hb dM_goThrough_75 (by decide) (by omega) (by omega) (fun c75 => ?_) (fun c75 => ?_)
      · have hok := hx0.resolve_left c75
        have hpn : p9 < n := by omega
        have hop := us_open (ok_of hok).1
        have hew := hg2 p9 (wv d) hpn (ok_of hok).1
        have bp9 := hbi p9
        have hkp := gI_keep hJ.1 h1
        refine lv_aload_n hx hb dM_goThrough_84 rfl (lv_at hl 0 rfl) ?_
        refine va_get (D := (dC, dI)) (ci := 5) (v := .ref (qm 19)) (C := nM) (T := TM) (N := 26) hx hb hg inM hown hK hP 0 rfl rfl 25 (by decide) (hg _ kM_66) (fun _ h9 => h9) rfl dM_goThrough_85 ?_
        refine lv_iload_n hx hb dM_goThrough_88 rfl (lv_at hl 3 rfl) ?_
        refine rn_iconst hx hb 1 dM_goThrough_89 (by decide) ?_
        refine rn_iadd hx hb dM_goThrough_90 ?_
        refine lv_aload_n hx hb dM_goThrough_91 rfl (lv_at hl 0 rfl) ?_
        refine lv_iload hx hb dM_goThrough_92 (lv_at hl 4 rfl) ?_
        refine lv_aload_n hx hb dM_goThrough_94 rfl (lv_at hl 0 rfl) ?_
        refine va_get (D := (dC, dI)) (ci := 5) (v := .ref (qm 19)) (C := nM) (T := TM) (N := 26) hx hb hg inM hown hK hP 0 rfl rfl 25 (by decide) (hg _ kM_66) (fun _ h9 => h9) rfl dM_goThrough_95 ?_
        refine lv_iload_n hx hb dM_goThrough_98 rfl (lv_at hl 3 rfl) ?_
        refine ga_l (f := wv) hx hb hK hP 19 1 rfl rfl (by omega) (by decide) dM_goThrough_99 ?_
        refine cpV_l (b := (qm 0)) (C := nM) (As := [.int (nI p9), .long (lN (wv d))]) (rest := [.int (nI (d + 1)), .ref (qm 19)]) (post := fun r : Int64 => r = lN (ew (oh p9) (sc p9) (wv d))) ⟨hx, hb, hml, hown, hts⟩ (ct_M_use l dC dI cI cJ cZ qm lv mw mh mk pc mc kc bg en sc wd ht oh bt co n sh ba rm nm sv cv pv (va_up v d p9) wv cd sl fv p9 (wv d) (hG) (hB) (by omega) (by omega) (by omega)) (cwV 2 hts (gv kM_114 ki_M_use ksel_M_use kin_M kc_M_use) rfl rfl rfl (by decide +kernel) ⟨Nat.le_trans (by decide) hR.1, Nat.le_trans (by decide) hR.2⟩) (va_recv hK hP (ci := 5) (q0 := 0) rfl rfl) hP hK hE rfl hl.1 rfl (Nat.le_of_ble_eq_true rfl) dM_goThrough_100 hcs (fun r hr => ?_)
        subst hr
        refine sa_l (f := wv) (v := ew (oh p9) (sc p9) (wv d)) hx hb hK hP hD hS 19 1 rfl rfl (by omega) (by decide) dM_goThrough_103 (fun H locs hP hD hS => ?_)
        have hP : va_P (dC, dI) vwCl (wM cI cJ cZ qm lv bg en sc wd ht sh oh ba mw mh mk rm nm sv cv pv (va_up v d p9) (va_up wv (d + 1) (ew (oh p9) (sc p9) (wv d))) cd pc n mc kc sl fv) H := hP
        have hD : va_D A (wM cI cJ cZ qm lv bg en sc wd ht sh oh ba mw mh mk rm nm sv cv pv (va_up v d p9) (va_up wv (d + 1) (ew (oh p9) (sc p9) (wv d))) cd pc n mc kc sl fv) := hD
        refine lv_aload_n hx hb dM_goThrough_104 rfl (lv_at hl 0 rfl) ?_
        refine va_get (D := (dC, dI)) (ci := 5) (v := .ref (qm 3)) (C := nM) (T := TM) (N := 26) hx hb hg inM hown hK hP 0 rfl rfl 5 (by decide) (hg _ kM_16) (fun _ h9 => h9) rfl dM_goThrough_105 ?_
        refine lv_iload hx hb dM_goThrough_108 (lv_at hl 4 rfl) ?_
        refine ga_i (f := en) hx hb hK hP 3 0 rfl rfl (by omega) (by decide) dM_goThrough_110 ?_
        refine lv_iload_n hx hb dM_goThrough_111 rfl (lv_at hl 2 rfl) ?_
        refine rn_icmp_ne (tgt := 125) hx hb dM_goThrough_112 (by decide) (by omega) (by omega) (fun c112 => ?_) (fun c112 => ?_)
        · refine lv_iload_n hx hb dM_goThrough_125 rfl (lv_at hl 3 rfl) ?_
          refine rn_iconst hx hb 1 dM_goThrough_126 (by decide) ?_
          refine rn_iadd hx hb dM_goThrough_127 ?_
          refine rn_iconst hx hb 5 dM_goThrough_128 (by decide) ?_
          refine rn_icmp_ge (tgt := 142) hx hb dM_goThrough_129 (by decide) (by omega) (by omega) (fun c129 => ?_) (fun c129 => ?_)
          · have hms := gJ_m hn hJ hnx; rw [gT_4 c75 c112 c129] at hms; dsimp only at hms
            have hl : lv_has ls 5 [(0, .ref (qm 0)), (1, .int (nI a)), (2, .int (nI b)), (3, .int (nI (d + 1) - nI 1)), (4, .int (nI p9))] := by rw [D_s]; exact hl
            refine lv_goto (tgt := 21) hx hb dM_goThrough_142 (by decide) ?_
            exact ihL (d + 1) (va_up v d p9) (va_up wv (d + 1) (ew (oh p9) (sc p9) (wv d))) pv cv sv fv (by first | (have h9 := gJ_s hn hg2 hJ hnx; rw [gT_1 c75] at h9; exact h9) | (have h9 := gJ_s hn hg2 hJ hnx; rw [gT_2 c75 c112] at h9; exact h9) | (have h9 := gJ_s hn hg2 hJ hnx; rw [gT_3 c75 c112 c129] at h9; exact h9) | (have h9 := gJ_s hn hg2 hJ hnx; rw [gT_4 c75 c112 c129] at h9; exact h9)) (by omega) H locs hP hD hS ls (lv_sub hl [0, 1, 2, 3] rfl)
          · refine rn_iinc (lv' := [(3, .int (nI (d + 1))), (0, .ref (qm 0)), (1, .int (nI a)), (2, .int (nI b)), (4, .int (nI p9))]) hx hb dM_goThrough_132 hl (k := 3) rfl (by decide) rfl (fun ls hl => ?_)
            refine lv_aload_n hx hb dM_goThrough_135 rfl (lv_at hl 1 rfl) ?_
            refine va_get (D := (dC, dI)) (ci := 5) (v := .ref (qm 18)) (C := nM) (T := TM) (N := 26) hx hb hg inM hown hK hP 0 rfl rfl 24 (by decide) (hg _ kM_63) (fun _ h9 => h9) rfl dM_goThrough_136 ?_
            refine lv_iload_n hx hb dM_goThrough_139 rfl (lv_at hl 0 rfl) ?_
            refine lv_iconst (v := -1) hx hb dM_goThrough_140 (by decide) ?_
            refine tp_i (y := nI 4294967295) (by decide) ?_
            refine sa_i (f := va_up v d p9) (v := 4294967295) hx hb hK hP hD hS 18 0 rfl rfl (by omega) (by decide) dM_goThrough_141 (fun H locs hP hD hS => ?_)
            have hP : va_P (dC, dI) vwCl (wM cI cJ cZ qm lv bg en sc wd ht sh oh ba mw mh mk rm nm sv cv pv (va_up (va_up v d p9) (d + 1) 4294967295) (va_up wv (d + 1) (ew (oh p9) (sc p9) (wv d))) cd pc n mc kc sl fv) H := hP
            have hD : va_D A (wM cI cJ cZ qm lv bg en sc wd ht sh oh ba mw mh mk rm nm sv cv pv (va_up (va_up v d p9) (d + 1) 4294967295) (va_up wv (d + 1) (ew (oh p9) (sc p9) (wv d))) cd pc n mc kc sl fv) := hD
            have hms := gJ_m hn hJ hnx; rw [gT_3 c75 c112 c129] at hms; dsimp only at hms
            have hl : lv_has ls 5 [(3, .int (nI ((d + 1) + 1) - nI 1)), (0, .ref (qm 0)), (1, .int (nI a)), (2, .int (nI b)), (4, .int (nI p9))] := by rw [D_s]; exact hl
            refine lv_goto (tgt := 21) hx hb dM_goThrough_142 (by decide) ?_
            exact ihL ((d + 1) + 1) (va_up (va_up v d p9) (d + 1) 4294967295) (va_up wv (d + 1) (ew (oh p9) (sc p9) (wv d))) pv cv sv fv (by first | (have h9 := gJ_s hn hg2 hJ hnx; rw [gT_1 c75] at h9; exact h9) | (have h9 := gJ_s hn hg2 hJ hnx; rw [gT_2 c75 c112] at h9; exact h9) | (have h9 := gJ_s hn hg2 hJ hnx; rw [gT_3 c75 c112 c129] at h9; exact h9) | (have h9 := gJ_s hn hg2 hJ hnx; rw [gT_4 c75 c112 c129] at h9; exact h9)) (by omega) H locs hP hD hS ls (lv_sub hl [1, 2, 3, 0] rfl)
        · have hol : ∀ j, j < d + 1 → va_up v d p9 j < 40 := up_lt (fun j hj => by have := hvj j hj; omega) (by omega)
          have hwl : va_up wv (d + 1) (ew (oh p9) (sc p9) (wv d)) (d + 1) ≤ 60000000 := by rw [va_up_self]; omega
          refine lv_aload_n hx hb dM_goThrough_115 rfl (lv_at hl 0 rfl) ?_
          refine lv_iload_n hx hb dM_goThrough_116 rfl (lv_at hl 3 rfl) ?_
          refine rn_iconst hx hb 1 dM_goThrough_117 (by decide) ?_
          refine rn_iadd hx hb dM_goThrough_118 ?_
          refine kwV_v (D := (dC, dI)) (b := (qm 0)) (C := nM) (As := [.int (nI (d + 1))]) (rest := []) (wc := (wM cI cJ cZ qm lv bg en sc wd ht sh oh ba mw mh mk rm nm sv cv pv (va_up v d p9) (va_up wv (d + 1) (ew (oh p9) (sc p9) (wv d))) cd pc n mc kc sl fv)) (wr := []) (w1 := (wM cI cJ cZ qm lv bg en sc wd ht sh oh ba mw mh mk rm nm (kmS sv ((va_up wv (d + 1) (ew (oh p9) (sc p9) (wv d))) (d + 1)) fv) (kmN cv sv ((va_up wv (d + 1) (ew (oh p9) (sc p9) (wv d))) (d + 1)) fv (d + 1)) (kmP pv (va_up v d p9) sv ((va_up wv (d + 1) (ew (oh p9) (sc p9) (wv d))) (d + 1)) fv (d + 1)) (va_up v d p9) (va_up wv (d + 1) (ew (oh p9) (sc p9) (wv d))) cd pc n mc kc sl (kpK sv ((va_up wv (d + 1) (ew (oh p9) (sc p9) (wv d))) (d + 1)) fv))) (wn := (wM cI cJ cZ qm lv bg en sc wd ht sh oh ba mw mh mk rm nm (kmS sv ((va_up wv (d + 1) (ew (oh p9) (sc p9) (wv d))) (d + 1)) fv) (kmN cv sv ((va_up wv (d + 1) (ew (oh p9) (sc p9) (wv d))) (d + 1)) fv (d + 1)) (kmP pv (va_up v d p9) sv ((va_up wv (d + 1) (ew (oh p9) (sc p9) (wv d))) (d + 1)) fv (d + 1)) (va_up v d p9) (va_up wv (d + 1) (ew (oh p9) (sc p9) (wv d))) cd pc n mc kc sl (kpK sv ((va_up wv (d + 1) (ew (oh p9) (sc p9) (wv d))) (d + 1)) fv))) ⟨hx, hb, hml, hown, hts⟩ (ct_M_keep l dC dI cI cJ cZ qm lv mw mh mk pc mc kc bg en sc wd ht oh bt co n sh ba rm nm sv cv pv (va_up v d p9) (va_up wv (d + 1) (ew (oh p9) (sc p9) (wv d))) cd sl fv (d + 1) H.size (hG) (hB) (hJ.1.2.2.2.2.1) (hJ.1.2.2.2.2.2.1) (hJ.1.2.2.2.2.2.2.1) (hol) (by omega) (by omega) (hwl) (hkp.1) (hkp.2.1) (hkp.2.2)) (cwV 1 hts (gv kM_164 ki_M_keep ksel_M_keep kin_M kc_M_keep) rfl rfl rfl (by decide +kernel) ⟨Nat.le_trans (by decide) hR.1, Nat.le_trans (by decide) hR.2⟩) (va_recv hK hP (ci := 5) (q0 := 0) rfl rfl) hP hD hK hE hS hA [0, 1, 2, 3, 4, 5, 6, 7, 8, 9, 10, 11, 12, 13, 14, 15, 16, 17, 18, 19] [] [0, 1, 2, 3, 4, 5, 6, 7, 8, 9, 10, 11, 12, 13, 14, 15, 16, 17, 18, 19] rfl (by decide) rfl (by decide) (by decide) rfl (by decide) rfl hl.1 rfl (Nat.le_of_ble_eq_true rfl) dM_goThrough_119 hcs (fun H locs hP hD hS => ?_)
          refine lv_goto (tgt := 142) hx hb dM_goThrough_122 (by decide) ?_
          have hms := gJ_m hn hJ hnx; rw [gT_2 c75 c112] at hms; dsimp only at hms
          have hl : lv_has ls 5 [(0, .ref (qm 0)), (1, .int (nI a)), (2, .int (nI b)), (3, .int (nI (d + 1) - nI 1)), (4, .int (nI p9))] := by rw [D_s]; exact hl
          refine lv_goto (tgt := 21) hx hb dM_goThrough_142 (by decide) ?_
          exact ihL (d + 1) (va_up v d p9) (va_up wv (d + 1) (ew (oh p9) (sc p9) (wv d))) (kmP pv (va_up v d p9) sv ((va_up wv (d + 1) (ew (oh p9) (sc p9) (wv d))) (d + 1)) fv (d + 1)) (kmN cv sv ((va_up wv (d + 1) (ew (oh p9) (sc p9) (wv d))) (d + 1)) fv (d + 1)) (kmS sv ((va_up wv (d + 1) (ew (oh p9) (sc p9) (wv d))) (d + 1)) fv) (kpK sv ((va_up wv (d + 1) (ew (oh p9) (sc p9) (wv d))) (d + 1)) fv) (by first | (have h9 := gJ_s hn hg2 hJ hnx; rw [gT_1 c75] at h9; exact h9) | (have h9 := gJ_s hn hg2 hJ hnx; rw [gT_2 c75 c112] at h9; exact h9) | (have h9 := gJ_s hn hg2 hJ hnx; rw [gT_3 c75 c112 c129] at h9; exact h9) | (have h9 := gJ_s hn hg2 hJ hnx; rw [gT_4 c75 c112 c129] at h9; exact h9)) (by omega) H locs hP hD hS ls (lv_sub hl [0, 1, 2, 3] rfl)
      · have hms := gJ_m hn hJ hnx; rw [gT_1 c75] at hms; dsimp only at hms
        refine rn_iincD (lv' := [(3, .int (nI d - nI 1)), (0, .ref (qm 0)), (1, .int (nI a)), (2, .int (nI b)), (4, .int (nI p9))]) hx hb dM_goThrough_78 hl (k := 3) rfl (by decide) rfl (fun ls hl => ?_)
        refine lv_goto (tgt := 21) hx hb dM_goThrough_81 (by decide) ?_
        exact ihL d (va_up v d p9) wv pv cv sv fv (by first | (have h9 := gJ_s hn hg2 hJ hnx; rw [gT_1 c75] at h9; exact h9) | (have h9 := gJ_s hn hg2 hJ hnx; rw [gT_2 c75 c112] at h9; exact h9) | (have h9 := gJ_s hn hg2 hJ hnx; rw [gT_3 c75 c112 c129] at h9; exact h9) | (have h9 := gJ_s hn hg2 hJ hnx; rw [gT_4 c75 c112 c129] at h9; exact h9)) (by omega) H locs hP hD hS ls (lv_sub hl [1, 2, 3, 0] rfl)

set_option maxHeartbeats 4000000 in
set_option maxRecDepth 100000 in
theorem ct_M_goThrough (l : Launch) (dC : Nat → ClassId) (dI : Nat → Nat → Nat) (cI cJ cZ : ClassId) (qm : Nat → Nat) (lv mw mh mk : Nat → Nat) (pc mc kc : Nat) (bg en sc wd ht oh bt : Nat → Nat) (co n : Nat) (sh ba : Nat → Bool) (rm nm bs bc bp on wh : Nat → Nat) (cd sl fo : Nat) (a b : Nat) (sz : Nat) (hG : bGp lv mw mh mk pc mc kc) (hB : bP bg en sc wd ht oh bt co n) (hsh : ∀ j, j < 40 → sh j = co.testBit j) (hba : ∀ f t, f < 40 → t < 40 → ba (40 * f + t) = (bt f).testBit t) (hsc : ∀ i, i < n → 1 ≤ sc i) (hbp : ∀ j, bp j < 40) (hbc : ∀ j, bc j ≤ 5) (hbs : ∀ j, bs j ≤ 60000000) (hm6 : 0 < mc) (ha : a < 20) (hb9 : b < 20) : Met l yM_goThrough wsM_goThrough ({ frames := 2, cells := 0, slots := 0, locals := 49 }) (PcW (dC, dI) (wM cI cJ cZ qm lv bg en sc wd ht sh oh ba mw mh mk rm nm bs bc bp on wh cd pc n mc kc sl fo) (tyE cI cJ cZ) sz [.ref (qm 0), .int (nI a), .int (nI b)]) (QwV (dC, dI) (wM cI cJ cZ qm lv bg en sc wd ht sh oh ba mw mh mk rm nm ((goW (usB wd ht oh co (mw 0) (mh 0)) bg en sc oh bt a b n on wh bp bc bs).2.2.2.2.2.1) ((goW (usB wd ht oh co (mw 0) (mh 0)) bg en sc oh bt a b n on wh bp bc bs).2.2.2.2.1) ((goW (usB wd ht oh co (mw 0) (mh 0)) bg en sc oh bt a b n on wh bp bc bs).2.2.2.1) ((goW (usB wd ht oh co (mw 0) (mh 0)) bg en sc oh bt a b n on wh bp bc bs).2.1) ((goW (usB wd ht oh co (mw 0) (mh 0)) bg en sc oh bt a b n on wh bp bc bs).2.2.1) cd pc n mc kc sl ((goW (usB wd ht oh co (mw 0) (mh 0)) bg en sc oh bt a b n on wh bp bc bs).2.2.2.2.2.2)) (tyE cI cJ cZ) (va_A (wM cI cJ cZ qm lv bg en sc wd ht sh oh ba mw mh mk rm nm bs bc bp on wh cd pc n mc kc sl fo) sz)) 0 0 (va_A (wM cI cJ cZ qm lv bg en sc wd ht sh oh ba mw mh mk rm nm bs bc bp on wh cd pc n mc kc sl fo) sz) := by
  refine Met.ofW (cc := cM_goThrough) (maxL := 5) (ret := none) (by decide) rfl ?_
  intro p e s m args below meth c s₁ B hml hv
  obtain ⟨rfl, hsz, hP, hK, hD0, hE⟩ := hv
  have hx := B.exec
  have hb := B.bytes
  have hr := B.returns
  have hts := atoms_spec (ws := wsM_goThrough) B.pre
  have hg : ∀ w ∈ gw, w.before _ s = true := fun w h => hts w (List.mem_cons_of_mem _ h)
  have hown : s.vm.findClass nM = some m.cls := findClass_of_methodNamed B.named
  have hlocks := B.notSynchronized
  have hR : 2 ≤ (headSpec wsM_goThrough ({ frames := 2, cells := 0, slots := 0, locals := 49 })).room.frames ∧ 49 ≤ (headSpec wsM_goThrough ({ frames := 2, cells := 0, slots := 0, locals := 49 })).room.locals := ⟨Nat.le_refl _, Nat.le_refl _⟩
  have hcs : 0 ≤ (headSpec wsM_goThrough ({ frames := 2, cells := 0, slots := 0, locals := 49 })).room.cells ∧ 0 ≤ (headSpec wsM_goThrough ({ frames := 2, cells := 0, slots := 0, locals := 49 })).room.slots := ⟨Nat.zero_le _, Nat.zero_le _⟩
  subst hsz
  have hD := hD0.self (sz := s.heap.size)
  generalize hAe : va_A (wM cI cJ cZ qm lv bg en sc wd ht sh oh ba mw mh mk rm nm bs bc bp on wh cd pc n mc kc sl fo) s.heap.size = A at hD ⊢
  have hA : ∀ q : Nat, s.heap.size ≤ q → A q := fun q h => by rw [← hAe]; exact Or.inr h
  obtain ⟨H, hH⟩ : ∃ H, H = s.heap := ⟨_, rfl⟩
  have hS : va_S A s.heap H [] := by rw [hH]; exact va_S.rf
  rw [← hH] at hP ⊢
  have hpc := hG.1
  have hmc := hG.2.1
  have hkc := hG.2.2.1
  have hgi := hG.2.2.2
  have hbi := hB.2.2
  have hn := hB.1
  have hco := hB.2.1
  have hg2 : ∀ i m, i < n → (usB wd ht oh co (mw 0) (mh 0)) i = true → m < ew (oh i) (sc i) m ∧ ew (oh i) (sc i) m ≤ m + 10086400 := uE_gt hB hsc
  have hl := lv_entry ([.ref (qm 0), .int (nI a), .int (nI b)]) (n := 5) (Nat.le_of_ble_eq_true rfl)
  rw [lg_entry_eq]
  generalize (lg_sl ([.ref (qm 0), .int (nI a), .int (nI b)]) ++ List.replicate (5 - (lg_sl ([.ref (qm 0), .int (nI a), .int (nI b)])).length) Slot.unset).toArray = ls at hl ⊢
  have hl : lv_has ls 5 [(0, .ref (qm 0)), (1, .int (nI a)), (2, .int (nI b))] := hl
  refine lv_aload_n hx hb dM_goThrough_0 rfl (lv_at hl 0 rfl) ?_
  refine rn_iconst hx hb 0 dM_goThrough_1 (by decide) ?_
  refine va_put (D := (dC, dI)) (ci := 5) (v := .int (nI 0)) (ty := .int) (C := nM) (T := TM) (N := 26) hx hb hg inM tM tM_ok nmM hown hK hP hD hS 0 rfl rfl 23 (by decide) (hg _ kM_155) (fun _ h9 => h9) rfl (by decide +kernel) rfl rfl (Nat.le_of_ble_eq_true rfl) dM_goThrough_2 (fun H locs hP hD hS => ?_)
  have hP : va_P (dC, dI) vwCl (wM cI cJ cZ qm lv bg en sc wd ht sh oh ba mw mh mk rm nm bs bc bp on wh cd pc n mc kc sl 0) H := hP
  have hD : va_D A (wM cI cJ cZ qm lv bg en sc wd ht sh oh ba mw mh mk rm nm bs bc bp on wh cd pc n mc kc sl 0) := hD
  refine rn_iconst hx hb 0 dM_goThrough_5 (by decide) ?_
  refine lv_istore_n (lv' := [(3, .int (nI 0)), (0, .ref (qm 0)), (1, .int (nI a)), (2, .int (nI b))]) hx hb dM_goThrough_6 rfl hl (by decide) rfl (fun ls hl => ?_)
  refine lv_aload_n hx hb dM_goThrough_7 rfl (lv_at hl 1 rfl) ?_
  refine va_get (D := (dC, dI)) (ci := 5) (v := .ref (qm 19)) (C := nM) (T := TM) (N := 26) hx hb hg inM hown hK hP 0 rfl rfl 25 (by decide) (hg _ kM_66) (fun _ h9 => h9) rfl dM_goThrough_8 ?_
  refine rn_iconst hx hb 0 dM_goThrough_11 (by decide) ?_
  refine rn_lconst hx hb 0 dM_goThrough_12 rfl ?_
  refine sa_l (f := wh) (v := 0) hx hb hK hP hD hS 19 1 rfl rfl (by omega) (by decide) dM_goThrough_13 (fun H locs hP hD hS => ?_)
  have hP : va_P (dC, dI) vwCl (wM cI cJ cZ qm lv bg en sc wd ht sh oh ba mw mh mk rm nm bs bc bp on (va_up wh 0 0) cd pc n mc kc sl 0) H := hP
  have hD : va_D A (wM cI cJ cZ qm lv bg en sc wd ht sh oh ba mw mh mk rm nm bs bc bp on (va_up wh 0 0) cd pc n mc kc sl 0) := hD
  refine lv_aload_n hx hb dM_goThrough_14 rfl (lv_at hl 1 rfl) ?_
  refine va_get (D := (dC, dI)) (ci := 5) (v := .ref (qm 18)) (C := nM) (T := TM) (N := 26) hx hb hg inM hown hK hP 0 rfl rfl 24 (by decide) (hg _ kM_63) (fun _ h9 => h9) rfl dM_goThrough_15 ?_
  refine rn_iconst hx hb 0 dM_goThrough_18 (by decide) ?_
  refine lv_iconst (v := -1) hx hb dM_goThrough_19 (by decide) ?_
  refine tp_i (y := nI 4294967295) (by decide) ?_
  refine sa_i (f := on) (v := 4294967295) hx hb hK hP hD hS 18 0 rfl rfl (by omega) (by decide) dM_goThrough_20 (fun H locs hP hD hS => ?_)
  have hP : va_P (dC, dI) vwCl (wM cI cJ cZ qm lv bg en sc wd ht sh oh ba mw mh mk rm nm bs bc bp (va_up on 0 4294967295) (va_up wh 0 0) cd pc n mc kc sl 0) H := hP
  have hD : va_D A (wM cI cJ cZ qm lv bg en sc wd ht sh oh ba mw mh mk rm nm bs bc bp (va_up on 0 4294967295) (va_up wh 0 0) cd pc n mc kc sl 0) := hD
  have hl : lv_has ls 5 [(3, .int (nI (0 + 1) - nI 1)), (0, .ref (qm 0)), (1, .int (nI a)), (2, .int (nI b))] := by rw [D_s]; exact hl
  refine lp_M_go1 qm lv mw mh mk pc mc kc bg en sc wd ht oh bt co n sh ba rm nm bs bc bp on wh cd sl fo a b hG hB hsh hba hsc hbp hbc hbs hm6 ha hb9  hx hb hml hown hts hK hE hA (by first | exact hR | exact ⟨Nat.le_trans (by decide) hR.1, Nat.le_trans (by decide) hR.2⟩) hcs (fun e9 v wv pv cv sv fv hJ hx0 H locs hP hD hS ls hl => ?_) ((ms n (va_up on 0 4294967295) (0 + 1)) + 1) (0 + 1) (va_up on 0 4294967295) (va_up wh 0 0) bp bc bs 0 (gJ_init hbp hbc hbs) (by omega) _ _ hP hD hS ls (lv_sub hl [1, 2, 3, 0] rfl)
  have hP9 : va_P (dC, dI) vwCl (wM cI cJ cZ qm lv bg en sc wd ht sh oh ba mw mh mk rm nm ((goW (usB wd ht oh co (mw 0) (mh 0)) bg en sc oh bt a b n on wh bp bc bs).2.2.2.2.2.1) ((goW (usB wd ht oh co (mw 0) (mh 0)) bg en sc oh bt a b n on wh bp bc bs).2.2.2.2.1) ((goW (usB wd ht oh co (mw 0) (mh 0)) bg en sc oh bt a b n on wh bp bc bs).2.2.2.1) ((goW (usB wd ht oh co (mw 0) (mh 0)) bg en sc oh bt a b n on wh bp bc bs).2.1) ((goW (usB wd ht oh co (mw 0) (mh 0)) bg en sc oh bt a b n on wh bp bc bs).2.2.1) cd pc n mc kc sl ((goW (usB wd ht oh co (mw 0) (mh 0)) bg en sc oh bt a b n on wh bp bc bs).2.2.2.2.2.2)) H := by rw [show goW (usB wd ht oh co (mw 0) (mh 0)) bg en sc oh bt a b n on wh bp bc bs = (e9, v, wv, pv, cv, sv, fv) from gJ_end hJ hx0]; exact hP
  have hD9 : va_D A (wM cI cJ cZ qm lv bg en sc wd ht sh oh ba mw mh mk rm nm ((goW (usB wd ht oh co (mw 0) (mh 0)) bg en sc oh bt a b n on wh bp bc bs).2.2.2.2.2.1) ((goW (usB wd ht oh co (mw 0) (mh 0)) bg en sc oh bt a b n on wh bp bc bs).2.2.2.2.1) ((goW (usB wd ht oh co (mw 0) (mh 0)) bg en sc oh bt a b n on wh bp bc bs).2.2.2.1) ((goW (usB wd ht oh co (mw 0) (mh 0)) bg en sc oh bt a b n on wh bp bc bs).2.1) ((goW (usB wd ht oh co (mw 0) (mh 0)) bg en sc oh bt a b n on wh bp bc bs).2.2.1) cd pc n mc kc sl ((goW (usB wd ht oh co (mw 0) (mh 0)) bg en sc oh bt a b n on wh bp bc bs).2.2.2.2.2.2)) := by rw [show goW (usB wd ht oh co (mw 0) (mh 0)) bg en sc oh bt a b n on wh bp bc bs = (e9, v, wv, pv, cv, sv, fv) from gJ_end hJ hx0]; exact hD
  exact W.vret hx hb hr (fun t ht hW => ⟨⟨(), rfl, trivial, by rw [ht]; exact hP9, va_K.moved hW.alike hK, hD9⟩, hS.F ht⟩) hS.2.2 dM_goThrough_145
