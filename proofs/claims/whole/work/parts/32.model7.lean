def kmW (G : GS) (z : Nat) (nm : Nat → Nat) : (Nat → Nat) × Nat := if z < G.2.2.2.2.2.2 then (fun j => if j < G.2.2.2.2.1 z then G.2.2.2.1 (5 * z + j) else nm j, G.2.2.2.2.1 z) else (nm, 0)
def kmV (G : GS) (z : Nat) : Int64 := if z < G.2.2.2.2.2.2 then lN (G.2.2.2.2.2.1 z) else -1
def cpN (g nm : Nat → Nat) (z i : Nat) : Nat → Nat := fun j => if j < i then g (5 * z + j) else nm j
theorem cpN_0 {g nm : Nat → Nat} {z : Nat} : nm = cpN g nm z 0 := by
  funext j
  unfold cpN
  rw [if_neg (by omega)]
theorem cpN_s {g nm v : Nat → Nat} {z i : Nat} (hv : v = cpN g nm z i) : va_up v i (g (5 * z + i)) = cpN g nm z (i + 1) := by
  subst hv
  funext j
  by_cases e : j = i
  · subst e
    rw [va_up_self]
    unfold cpN
    rw [if_pos (by omega)]
  · rw [va_up_ne _ _ e]
    unfold cpN
    by_cases q : j < i
    · rw [if_pos q, if_pos (by omega)]
    · rw [if_neg q, if_neg (by omega)]

set_option maxHeartbeats 4000000 in
set_option maxRecDepth 100000 in
theorem lp_M_k {p : Program} {l : Launch} {e : Env} {R : Room} {s : State} {m : MethodId} {args : Array Value} {below : List Frame} {meth : Method} {c : Code} {cells slots : Nat} {Q : State → Prop} {dC : Nat → ClassId} {dI : Nat → Nat → Nat} {cI cJ cZ : ClassId} {A : Nat → Prop} (qm : Nat → Nat) (lv mw mh mk : Nat → Nat) (pc mc kc : Nat) (bg en sc wd ht oh bt : Nat → Nat) (co n : Nat) (sh ba : Nat → Bool) (rm nm bs bc bp on wh : Nat → Nat) (cd sl fo : Nat) (x y z : Int32) (G : GS) (hG : bGp lv mw mh mk pc mc kc) (hB : bP bg en sc wd ht oh bt co n) (hsh : ∀ j, j < 40 → sh j = co.testBit j) (hba : ∀ f t, f < 40 → t < 40 → ba (40 * f + t) = (bt f).testBit t) (hsc : ∀ i, i < n → 1 ≤ sc i) (hbp : ∀ j, bp j < 40) (hbc : ∀ j, bc j ≤ 5) (hbs : ∀ j, bs j ≤ 60000000) (hGe : goW (usB wd ht oh co (mw 0) (mh 0)) bg en sc oh bt (cN x) (cN y) n on wh bp bc bs = G)  (hx : p.tables.exec = Jvm.exec) (hb : c.code = cM_k) (hml : c.maxLocals = 5) (hown : s.vm.findClass nM = some m.cls) (hts : ∀ w ∈ wsM_k, w.before args s = true) (hK : va_K (dC, dI) vwCl (tyE cI cJ cZ) s) (hE : EV s) (hA : ∀ q : Nat, s.heap.size ≤ q → A q) (hR : 0 ≤ R.frames ∧ 0 ≤ R.locals) (hcs : cells ≤ R.cells ∧ slots ≤ R.slots)
    (kx0 : ∀ (i : Nat) (v : Nat → Nat) (h1 : i ≤ G.2.2.2.2.1 (cN z)) (hv : v = cpN (G.2.2.2.1) nm (cN z) i) (hz5 : cN z < 5) (hcd : cdK pc mc x y z = 0) (hzf : cN z < G.2.2.2.2.2.2) (hx0 : i = G.2.2.2.2.1 (cN z)) (H : Heap) (locs : List Loc), va_P (dC, dI) vwCl (wM cI cJ cZ qm lv bg en sc wd ht sh oh ba mw mh mk rm v G.2.2.2.2.2.1 G.2.2.2.2.1 G.2.2.2.1 G.2.1 G.2.2.1 0 pc n mc kc (G.2.2.2.2.1 (cN z)) G.2.2.2.2.2.2) H → va_D A (wM cI cJ cZ qm lv bg en sc wd ht sh oh ba mw mh mk rm v G.2.2.2.2.2.1 G.2.2.2.2.1 G.2.2.2.1 G.2.1 G.2.2.1 0 pc n mc kc (G.2.2.2.2.1 (cN z)) G.2.2.2.2.2.2) → va_S A s.heap H locs → ∀ ls : Array Slot, lv_has ls 5 [(0, .ref (qm 0)), (1, .int (nI (cN x))), (2, .int (nI (cN y))), (3, .int (nI (cN z))), (4, .int (nI i))] →  W p l e R s m args below meth c H locs cells slots Q (F0 m 131 ls []))
    : ∀ (fu : Nat) (i : Nat) (v : Nat → Nat) (h1 : i ≤ G.2.2.2.2.1 (cN z)) (hv : v = cpN (G.2.2.2.1) nm (cN z) i) (hz5 : cN z < 5) (hcd : cdK pc mc x y z = 0) (hzf : cN z < G.2.2.2.2.2.2), G.2.2.2.2.1 (cN z) - i < fu → ∀ (H : Heap) (locs : List Loc), va_P (dC, dI) vwCl (wM cI cJ cZ qm lv bg en sc wd ht sh oh ba mw mh mk rm v G.2.2.2.2.2.1 G.2.2.2.2.1 G.2.2.2.1 G.2.1 G.2.2.1 0 pc n mc kc (G.2.2.2.2.1 (cN z)) G.2.2.2.2.2.2) H → va_D A (wM cI cJ cZ qm lv bg en sc wd ht sh oh ba mw mh mk rm v G.2.2.2.2.2.1 G.2.2.2.2.1 G.2.2.2.1 G.2.1 G.2.2.1 0 pc n mc kc (G.2.2.2.2.1 (cN z)) G.2.2.2.2.2.2) → va_S A s.heap H locs → ∀ ls : Array Slot, lv_has ls 5 [(0, .ref (qm 0)), (1, .int (nI (cN x))), (2, .int (nI (cN y))), (3, .int (nI (cN z))), (4, .int (nI i))] →  W p l e R s m args below meth c H locs cells slots Q (F0 m 98 ls []) := by
  have hg : ∀ w ∈ gw, w.before args s = true := fun w h => hts w (List.mem_cons_of_mem _ h)
  have hpc := hG.1
  have hmc := hG.2.1
  have hkc := hG.2.2.1
  have hgi := hG.2.2.2
  have hbi := hB.2.2
  have hn := hB.1
  have hco := hB.2.1
  have hg2 : ∀ i m, i < n → (usB wd ht oh co (mw 0) (mh 0)) i = true → m < ew (oh i) (sc i) m ∧ ew (oh i) (sc i) m ≤ m + 10086400 := uE_gt hB hsc
  have hgo := goW_ok (a := cN x) (gl := cN y) (bg := bg) (en := en) (bt := bt) (on := on) (wh := wh) (us := (usB wd ht oh co (mw 0) (mh 0))) hn hg2 hbp hbc hbs
  rw [hGe] at hgo
  have hf5 : G.2.2.2.2.2.2 ≤ 5 := by rw [hgo.1.1]; exact hgo.1.2.1
  have hc5 := hgo.2.2.1 (cN z)
  intro fu
  induction fu with
  | zero => intro i v h1 hv hz5 hcd hzf h0; exact absurd h0 (Nat.not_lt_zero _)
  | succ fu ihL =>
    intro i v h1 hv hz5 hcd hzf hfu H locs hP hD hS ls hl
    refine lv_iload hx hb dM_k_98 (lv_at hl 4 rfl) ?_
    refine lv_aload_n hx hb dM_k_100 rfl (lv_at hl 0 rfl) ?_
    refine va_get (D := (dC, dI)) (ci := 5) (v := .int (nI (G.2.2.2.2.1 (cN z)))) (C := nM) (T := TM) (N := 26) hx hb hg inM hown hK hP 0 rfl rfl 19 (by decide) (hg _ kM_138) (fun _ h9 => h9) rfl dM_k_101 ?_
    refine rn_icmp_ge (tgt := 131) hx hb dM_k_104 (by decide) (by omega) (by omega) (fun c104 => ?_) (fun c104 => ?_)
    · exact kx0 i v h1 hv hz5 hcd hzf (by omega) H locs hP hD hS ls (lv_sub hl [0, 1, 2, 3, 4] rfl)
    · refine lv_aload_n hx hb dM_k_107 rfl (lv_at hl 0 rfl) ?_
      refine va_get (D := (dC, dI)) (ci := 5) (v := .ref (qm 14)) (C := nM) (T := TM) (N := 26) hx hb hg inM hown hK hP 0 rfl rfl 18 (by decide) (hg _ kM_51) (fun _ h9 => h9) rfl dM_k_108 ?_
      refine lv_iload hx hb dM_k_111 (lv_at hl 4 rfl) ?_
      refine lv_aload_n hx hb dM_k_113 rfl (lv_at hl 0 rfl) ?_
      refine va_get (D := (dC, dI)) (ci := 5) (v := .ref (qm 17)) (C := nM) (T := TM) (N := 26) hx hb hg inM hown hK hP 0 rfl rfl 22 (by decide) (hg _ kM_60) (fun _ h9 => h9) rfl dM_k_114 ?_
      refine rn_iconst hx hb 5 dM_k_117 (by decide) ?_
      refine lv_iload_n hx hb dM_k_118 rfl (lv_at hl 3 rfl) ?_
      refine rn_imul hx hb dM_k_119 ?_
      refine lv_iload hx hb dM_k_120 (lv_at hl 4 rfl) ?_
      refine rn_iadd hx hb dM_k_122 ?_
      refine ga_i (f := G.2.2.2.1) hx hb hK hP 17 0 rfl rfl (by omega) (by decide) dM_k_123 ?_
      refine sa_i (f := v) (v := G.2.2.2.1 ((5 * (cN z)) + i)) hx hb hK hP hD hS 14 0 rfl rfl (by omega) (by decide) dM_k_124 (fun H locs hP hD hS => ?_)
      have hP : va_P (dC, dI) vwCl (wM cI cJ cZ qm lv bg en sc wd ht sh oh ba mw mh mk rm (va_up v i (G.2.2.2.1 ((5 * (cN z)) + i))) G.2.2.2.2.2.1 G.2.2.2.2.1 G.2.2.2.1 G.2.1 G.2.2.1 0 pc n mc kc (G.2.2.2.2.1 (cN z)) G.2.2.2.2.2.2) H := hP
      have hD : va_D A (wM cI cJ cZ qm lv bg en sc wd ht sh oh ba mw mh mk rm (va_up v i (G.2.2.2.1 ((5 * (cN z)) + i))) G.2.2.2.2.2.1 G.2.2.2.2.1 G.2.2.2.1 G.2.1 G.2.2.1 0 pc n mc kc (G.2.2.2.2.1 (cN z)) G.2.2.2.2.2.2) := hD
      refine rn_iinc (lv' := [(4, .int (nI (i + 1))), (0, .ref (qm 0)), (1, .int (nI (cN x))), (2, .int (nI (cN y))), (3, .int (nI (cN z)))]) hx hb dM_k_125 hl (k := 4) rfl (by decide) rfl (fun ls hl => ?_)
      refine lv_goto (tgt := 98) hx hb dM_k_128 (by decide) ?_
      exact ihL (i + 1) (va_up v i (G.2.2.2.1 ((5 * (cN z)) + i))) (by omega) (cpN_s hv) (hz5) (hcd) (hzf) (by omega) H locs hP hD hS ls (lv_sub hl [1, 2, 3, 4, 0] rfl)

set_option maxHeartbeats 4000000 in
set_option maxRecDepth 100000 in
theorem ct_M_k (l : Launch) (dC : Nat → ClassId) (dI : Nat → Nat → Nat) (cI cJ cZ : ClassId) (qm : Nat → Nat) (lv mw mh mk : Nat → Nat) (pc mc kc : Nat) (bg en sc wd ht oh bt : Nat → Nat) (co n : Nat) (sh ba : Nat → Bool) (rm nm bs bc bp on wh : Nat → Nat) (cd sl fo : Nat) (x y z : Int32) (G : GS) (sz : Nat) (hG : bGp lv mw mh mk pc mc kc) (hB : bP bg en sc wd ht oh bt co n) (hsh : ∀ j, j < 40 → sh j = co.testBit j) (hba : ∀ f t, f < 40 → t < 40 → ba (40 * f + t) = (bt f).testBit t) (hsc : ∀ i, i < n → 1 ≤ sc i) (hbp : ∀ j, bp j < 40) (hbc : ∀ j, bc j ≤ 5) (hbs : ∀ j, bs j ≤ 60000000) (hGe : goW (usB wd ht oh co (mw 0) (mh 0)) bg en sc oh bt (cN x) (cN y) n on wh bp bc bs = G) : Met l yM_k wsM_k ({ frames := 3, cells := 0, slots := 0, locals := 73 }) (PcW (dC, dI) (wM cI cJ cZ qm lv bg en sc wd ht sh oh ba mw mh mk rm nm bs bc bp on wh cd pc n mc kc sl fo) (tyE cI cJ cZ) sz [.ref (qm 0), .int x, .int y, .int z]) (QwL (dC, dI) ((if cdK pc mc x y z = 0 then kmV (G) (cN z) else lN 0)) (wM cI cJ cZ qm lv bg en sc wd ht sh oh ba mw mh mk rm (if cdK pc mc x y z = 0 then (kmW (G) (cN z) nm).1 else nm) (if cdK pc mc x y z = 0 then G.2.2.2.2.2.1 else bs) (if cdK pc mc x y z = 0 then G.2.2.2.2.1 else bc) (if cdK pc mc x y z = 0 then G.2.2.2.1 else bp) (if cdK pc mc x y z = 0 then G.2.1 else on) (if cdK pc mc x y z = 0 then G.2.2.1 else wh) (cdK pc mc x y z) pc n mc kc (if cdK pc mc x y z = 0 then (kmW (G) (cN z) nm).2 else sl) (if cdK pc mc x y z = 0 then G.2.2.2.2.2.2 else fo)) (tyE cI cJ cZ) (va_A (wM cI cJ cZ qm lv bg en sc wd ht sh oh ba mw mh mk rm nm bs bc bp on wh cd pc n mc kc sl fo) sz)) 0 0 (va_A (wM cI cJ cZ qm lv bg en sc wd ht sh oh ba mw mh mk rm nm bs bc bp on wh cd pc n mc kc sl fo) sz) := by
  refine Met.ofW (cc := cM_k) (maxL := 5) (ret := (some .long)) (by decide) rfl ?_
  intro p e s m args below meth c s₁ B hml hv
  obtain ⟨rfl, hsz, hP, hK, hD0, hE⟩ := hv
  have hx := B.exec
  have hb := B.bytes
  have hr := B.returns
  have hts := atoms_spec (ws := wsM_k) B.pre
  have hg : ∀ w ∈ gw, w.before _ s = true := fun w h => hts w (List.mem_cons_of_mem _ h)
  have hown : s.vm.findClass nM = some m.cls := findClass_of_methodNamed B.named
  have hlocks := B.notSynchronized
  have hR : 3 ≤ (headSpec wsM_k ({ frames := 3, cells := 0, slots := 0, locals := 73 })).room.frames ∧ 73 ≤ (headSpec wsM_k ({ frames := 3, cells := 0, slots := 0, locals := 73 })).room.locals := ⟨Nat.le_refl _, Nat.le_refl _⟩
  have hcs : 0 ≤ (headSpec wsM_k ({ frames := 3, cells := 0, slots := 0, locals := 73 })).room.cells ∧ 0 ≤ (headSpec wsM_k ({ frames := 3, cells := 0, slots := 0, locals := 73 })).room.slots := ⟨Nat.zero_le _, Nat.zero_le _⟩
  subst hsz
  have hD := hD0.self (sz := s.heap.size)
  generalize hAe : va_A (wM cI cJ cZ qm lv bg en sc wd ht sh oh ba mw mh mk rm nm bs bc bp on wh cd pc n mc kc sl fo) s.heap.size = A at hD ⊢
  have hA : ∀ q : Nat, s.heap.size ≤ q → A q := fun q h => by rw [← hAe]; exact Or.inr h
  obtain ⟨H, hH⟩ : ∃ H, H = s.heap := ⟨_, rfl⟩
  have hS : va_S A s.heap H [] := by rw [hH]; exact va_S.rf
  rw [← hH] at hP ⊢
  have hpc := hG.1
  have hmc := hG.2.1
  have hkc := hG.2.2.1
  have hgi := hG.2.2.2
  have hbi := hB.2.2
  have hn := hB.1
  have hco := hB.2.1
  have hg2 : ∀ i m, i < n → (usB wd ht oh co (mw 0) (mh 0)) i = true → m < ew (oh i) (sc i) m ∧ ew (oh i) (sc i) m ≤ m + 10086400 := uE_gt hB hsc
  have hgo := goW_ok (a := cN x) (gl := cN y) (bg := bg) (en := en) (bt := bt) (on := on) (wh := wh) (us := (usB wd ht oh co (mw 0) (mh 0))) hn hg2 hbp hbc hbs
  rw [hGe] at hgo
  have hf5 : G.2.2.2.2.2.2 ≤ 5 := by rw [hgo.1.1]; exact hgo.1.2.1
  have hc5 := hgo.2.2.1 (cN z)
  have hl := lv_entry ([.ref (qm 0), .int x, .int y, .int z]) (n := 5) (Nat.le_of_ble_eq_true rfl)
  rw [lg_entry_eq]
  generalize (lg_sl ([.ref (qm 0), .int x, .int y, .int z]) ++ List.replicate (5 - (lg_sl ([.ref (qm 0), .int x, .int y, .int z])).length) Slot.unset).toArray = ls at hl ⊢
  have hl : lv_has ls 5 [(0, .ref (qm 0)), (1, .int x), (2, .int y), (3, .int z)] := hl
  refine lv_aload_n hx hb dM_k_0 rfl (lv_at hl 0 rfl) ?_
  refine lv_aload_n hx hb dM_k_1 rfl (lv_at hl 0 rfl) ?_
  refine lv_iload_n hx hb dM_k_2 rfl (lv_at hl 1 rfl) ?_
  refine cpV_i (b := (qm 0)) (C := nM) (As := [.int x]) (rest := [.ref (qm 0)]) (post := fun r : Int32 => r = bI (inB x pc)) ⟨hx, hb, hml, hown, hts⟩ (ct_M_isPlace l dC dI cI cJ cZ qm lv mw mh mk pc mc kc bg en sc wd ht oh bt co n sh ba rm nm bs bc bp on wh cd sl fo x (hG) (hB)) (cwV 1 hts (gv kM_86 ki_M_isPlace ksel_M_isPlace kin_M kc_M_isPlace) rfl rfl rfl (by decide +kernel) ⟨Nat.le_trans (by decide) hR.1, Nat.le_trans (by decide) hR.2⟩) (va_recv hK hP (ci := 5) (q0 := 0) rfl rfl) hP hK hE rfl hl.1 rfl (Nat.le_of_ble_eq_true rfl) dM_k_3 hcs (fun r hr => ?_)
  subst hr
  refine rb_eq (tgt := 34) hx hb dM_k_6 (by decide) (fun c6 => ?_) (fun c6 => ?_)
  · refine rn_iconst hx hb 1 dM_k_34 (by decide) ?_
    refine lv_goto (tgt := 50) hx hb dM_k_35 (by decide) ?_
    refine va_put (D := (dC, dI)) (ci := 5) (v := .int (nI 1)) (ty := .int) (C := nM) (T := TM) (N := 26) hx hb hg inM tM tM_ok nmM hown hK hP hD hS 0 rfl rfl 0 (by decide) (hg _ kM_69) (fun _ h9 => h9) rfl (by decide +kernel) rfl rfl (Nat.le_of_ble_eq_true rfl) dM_k_50 (fun H locs hP hD hS => ?_)
    have hP : va_P (dC, dI) vwCl (wM cI cJ cZ qm lv bg en sc wd ht sh oh ba mw mh mk rm nm bs bc bp on wh 1 pc n mc kc sl fo) H := hP
    have hD : va_D A (wM cI cJ cZ qm lv bg en sc wd ht sh oh ba mw mh mk rm nm bs bc bp on wh 1 pc n mc kc sl fo) := hD
    refine lv_aload_n hx hb dM_k_53 rfl (lv_at hl 0 rfl) ?_
    refine va_get (D := (dC, dI)) (ci := 5) (v := .int (nI 1)) (C := nM) (T := TM) (N := 26) hx hb hg inM hown hK hP 0 rfl rfl 0 (by decide) (hg _ kM_69) (fun _ h9 => h9) rfl dM_k_54 ?_
    refine lv_if_le (tgt := 62) hx hb dM_k_57 (by decide) (fun c57 => absurd c57 (by decide)) (fun c57 => ?_)
    refine rn_lconst hx hb 0 dM_k_60 rfl ?_
    have hcd : cdK pc mc x y z = 1 := by first | (simp [cdK, c6]; done) | (simp [cdK, c14]; done) | (simp [cdK, c19]; done) | (simp [cdK, c31]; done)
    have hP9 : va_P (dC, dI) vwCl (wM cI cJ cZ qm lv bg en sc wd ht sh oh ba mw mh mk rm (if cdK pc mc x y z = 0 then (kmW (G) (cN z) nm).1 else nm) (if cdK pc mc x y z = 0 then G.2.2.2.2.2.1 else bs) (if cdK pc mc x y z = 0 then G.2.2.2.2.1 else bc) (if cdK pc mc x y z = 0 then G.2.2.2.1 else bp) (if cdK pc mc x y z = 0 then G.2.1 else on) (if cdK pc mc x y z = 0 then G.2.2.1 else wh) (cdK pc mc x y z) pc n mc kc (if cdK pc mc x y z = 0 then (kmW (G) (cN z) nm).2 else sl) (if cdK pc mc x y z = 0 then G.2.2.2.2.2.2 else fo)) H := by rw [hcd]; exact hP
    have hD9 : va_D A (wM cI cJ cZ qm lv bg en sc wd ht sh oh ba mw mh mk rm (if cdK pc mc x y z = 0 then (kmW (G) (cN z) nm).1 else nm) (if cdK pc mc x y z = 0 then G.2.2.2.2.2.1 else bs) (if cdK pc mc x y z = 0 then G.2.2.2.2.1 else bc) (if cdK pc mc x y z = 0 then G.2.2.2.1 else bp) (if cdK pc mc x y z = 0 then G.2.1 else on) (if cdK pc mc x y z = 0 then G.2.2.1 else wh) (cdK pc mc x y z) pc n mc kc (if cdK pc mc x y z = 0 then (kmW (G) (cN z) nm).2 else sl) (if cdK pc mc x y z = 0 then G.2.2.2.2.2.2 else fo)) := by rw [hcd]; exact hD
    exact W.lret hx hb hr (fun t ht hW => ⟨⟨_, (), rfl, (by rw [hcd]; rfl), by rw [ht]; exact hP9, va_K.moved hW.alike hK, hD9⟩, hS.F ht⟩) hS.2.2 dM_k_61
  · refine lv_aload_n hx hb dM_k_9 rfl (lv_at hl 0 rfl) ?_
    refine lv_iload_n hx hb dM_k_10 rfl (lv_at hl 2 rfl) ?_
    refine cpV_i (b := (qm 0)) (C := nM) (As := [.int y]) (rest := [.ref (qm 0)]) (post := fun r : Int32 => r = bI (inB y pc)) ⟨hx, hb, hml, hown, hts⟩ (ct_M_isPlace l dC dI cI cJ cZ qm lv mw mh mk pc mc kc bg en sc wd ht oh bt co n sh ba rm nm bs bc bp on wh cd sl fo y (hG) (hB)) (cwV 1 hts (gv kM_86 ki_M_isPlace ksel_M_isPlace kin_M kc_M_isPlace) rfl rfl rfl (by decide +kernel) ⟨Nat.le_trans (by decide) hR.1, Nat.le_trans (by decide) hR.2⟩) (va_recv hK hP (ci := 5) (q0 := 0) rfl rfl) hP hK hE rfl hl.1 rfl (Nat.le_of_ble_eq_true rfl) dM_k_11 hcs (fun r hr => ?_)
    subst hr
    refine rb_eq (tgt := 34) hx hb dM_k_14 (by decide) (fun c14 => ?_) (fun c14 => ?_)
    · refine rn_iconst hx hb 1 dM_k_34 (by decide) ?_
      refine lv_goto (tgt := 50) hx hb dM_k_35 (by decide) ?_
      refine va_put (D := (dC, dI)) (ci := 5) (v := .int (nI 1)) (ty := .int) (C := nM) (T := TM) (N := 26) hx hb hg inM tM tM_ok nmM hown hK hP hD hS 0 rfl rfl 0 (by decide) (hg _ kM_69) (fun _ h9 => h9) rfl (by decide +kernel) rfl rfl (Nat.le_of_ble_eq_true rfl) dM_k_50 (fun H locs hP hD hS => ?_)
      have hP : va_P (dC, dI) vwCl (wM cI cJ cZ qm lv bg en sc wd ht sh oh ba mw mh mk rm nm bs bc bp on wh 1 pc n mc kc sl fo) H := hP
      have hD : va_D A (wM cI cJ cZ qm lv bg en sc wd ht sh oh ba mw mh mk rm nm bs bc bp on wh 1 pc n mc kc sl fo) := hD
      refine lv_aload_n hx hb dM_k_53 rfl (lv_at hl 0 rfl) ?_
      refine va_get (D := (dC, dI)) (ci := 5) (v := .int (nI 1)) (C := nM) (T := TM) (N := 26) hx hb hg inM hown hK hP 0 rfl rfl 0 (by decide) (hg _ kM_69) (fun _ h9 => h9) rfl dM_k_54 ?_
      refine lv_if_le (tgt := 62) hx hb dM_k_57 (by decide) (fun c57 => absurd c57 (by decide)) (fun c57 => ?_)
      refine rn_lconst hx hb 0 dM_k_60 rfl ?_
      have hcd : cdK pc mc x y z = 1 := by first | (simp [cdK, c6]; done) | (simp [cdK, c14]; done) | (simp [cdK, c19]; done) | (simp [cdK, c31]; done)
      have hP9 : va_P (dC, dI) vwCl (wM cI cJ cZ qm lv bg en sc wd ht sh oh ba mw mh mk rm (if cdK pc mc x y z = 0 then (kmW (G) (cN z) nm).1 else nm) (if cdK pc mc x y z = 0 then G.2.2.2.2.2.1 else bs) (if cdK pc mc x y z = 0 then G.2.2.2.2.1 else bc) (if cdK pc mc x y z = 0 then G.2.2.2.1 else bp) (if cdK pc mc x y z = 0 then G.2.1 else on) (if cdK pc mc x y z = 0 then G.2.2.1 else wh) (cdK pc mc x y z) pc n mc kc (if cdK pc mc x y z = 0 then (kmW (G) (cN z) nm).2 else sl) (if cdK pc mc x y z = 0 then G.2.2.2.2.2.2 else fo)) H := by rw [hcd]; exact hP
      have hD9 : va_D A (wM cI cJ cZ qm lv bg en sc wd ht sh oh ba mw mh mk rm (if cdK pc mc x y z = 0 then (kmW (G) (cN z) nm).1 else nm) (if cdK pc mc x y z = 0 then G.2.2.2.2.2.1 else bs) (if cdK pc mc x y z = 0 then G.2.2.2.2.1 else bc) (if cdK pc mc x y z = 0 then G.2.2.2.1 else bp) (if cdK pc mc x y z = 0 then G.2.1 else on) (if cdK pc mc x y z = 0 then G.2.2.1 else wh) (cdK pc mc x y z) pc n mc kc (if cdK pc mc x y z = 0 then (kmW (G) (cN z) nm).2 else sl) (if cdK pc mc x y z = 0 then G.2.2.2.2.2.2 else fo)) := by rw [hcd]; exact hD
      exact W.lret hx hb hr (fun t ht hW => ⟨⟨_, (), rfl, (by rw [hcd]; rfl), by rw [ht]; exact hP9, va_K.moved hW.alike hK, hD9⟩, hS.F ht⟩) hS.2.2 dM_k_61
    · refine lv_iload_n hx hb dM_k_17 rfl (lv_at hl 1 rfl) ?_
      refine lv_iload_n hx hb dM_k_18 rfl (lv_at hl 2 rfl) ?_
      refine lv_icmp_eq (tgt := 34) hx hb dM_k_19 (by decide) (fun c19 => ?_) (fun c19 => ?_)
      · refine rn_iconst hx hb 1 dM_k_34 (by decide) ?_
        refine lv_goto (tgt := 50) hx hb dM_k_35 (by decide) ?_
        refine va_put (D := (dC, dI)) (ci := 5) (v := .int (nI 1)) (ty := .int) (C := nM) (T := TM) (N := 26) hx hb hg inM tM tM_ok nmM hown hK hP hD hS 0 rfl rfl 0 (by decide) (hg _ kM_69) (fun _ h9 => h9) rfl (by decide +kernel) rfl rfl (Nat.le_of_ble_eq_true rfl) dM_k_50 (fun H locs hP hD hS => ?_)
        have hP : va_P (dC, dI) vwCl (wM cI cJ cZ qm lv bg en sc wd ht sh oh ba mw mh mk rm nm bs bc bp on wh 1 pc n mc kc sl fo) H := hP
        have hD : va_D A (wM cI cJ cZ qm lv bg en sc wd ht sh oh ba mw mh mk rm nm bs bc bp on wh 1 pc n mc kc sl fo) := hD
        refine lv_aload_n hx hb dM_k_53 rfl (lv_at hl 0 rfl) ?_
        refine va_get (D := (dC, dI)) (ci := 5) (v := .int (nI 1)) (C := nM) (T := TM) (N := 26) hx hb hg inM hown hK hP 0 rfl rfl 0 (by decide) (hg _ kM_69) (fun _ h9 => h9) rfl dM_k_54 ?_
        refine lv_if_le (tgt := 62) hx hb dM_k_57 (by decide) (fun c57 => absurd c57 (by decide)) (fun c57 => ?_)
        refine rn_lconst hx hb 0 dM_k_60 rfl ?_
        have hcd : cdK pc mc x y z = 1 := by first | (simp [cdK, c6]; done) | (simp [cdK, c14]; done) | (simp [cdK, c19]; done) | (simp [cdK, c31]; done)
        have hP9 : va_P (dC, dI) vwCl (wM cI cJ cZ qm lv bg en sc wd ht sh oh ba mw mh mk rm (if cdK pc mc x y z = 0 then (kmW (G) (cN z) nm).1 else nm) (if cdK pc mc x y z = 0 then G.2.2.2.2.2.1 else bs) (if cdK pc mc x y z = 0 then G.2.2.2.2.1 else bc) (if cdK pc mc x y z = 0 then G.2.2.2.1 else bp) (if cdK pc mc x y z = 0 then G.2.1 else on) (if cdK pc mc x y z = 0 then G.2.2.1 else wh) (cdK pc mc x y z) pc n mc kc (if cdK pc mc x y z = 0 then (kmW (G) (cN z) nm).2 else sl) (if cdK pc mc x y z = 0 then G.2.2.2.2.2.2 else fo)) H := by rw [hcd]; exact hP
        have hD9 : va_D A (wM cI cJ cZ qm lv bg en sc wd ht sh oh ba mw mh mk rm (if cdK pc mc x y z = 0 then (kmW (G) (cN z) nm).1 else nm) (if cdK pc mc x y z = 0 then G.2.2.2.2.2.1 else bs) (if cdK pc mc x y z = 0 then G.2.2.2.2.1 else bc) (if cdK pc mc x y z = 0 then G.2.2.2.1 else bp) (if cdK pc mc x y z = 0 then G.2.1 else on) (if cdK pc mc x y z = 0 then G.2.2.1 else wh) (cdK pc mc x y z) pc n mc kc (if cdK pc mc x y z = 0 then (kmW (G) (cN z) nm).2 else sl) (if cdK pc mc x y z = 0 then G.2.2.2.2.2.2 else fo)) := by rw [hcd]; exact hD
        exact W.lret hx hb hr (fun t ht hW => ⟨⟨_, (), rfl, (by rw [hcd]; rfl), by rw [ht]; exact hP9, va_K.moved hW.alike hK, hD9⟩, hS.F ht⟩) hS.2.2 dM_k_61
      · refine lv_iload_n hx hb dM_k_22 rfl (lv_at hl 3 rfl) ?_
        refine lv_i2l (v := (z).toInt64) hx hb dM_k_23 rfl ?_
        refine rn_lconst hx hb 0 dM_k_24 rfl ?_
        refine lv_ldc2 (v := 4) hx hb hown (hg _ kM_168) dM_k_25 ?_
        refine tp_l (y := lN 4) rfl ?_
        refine cpS_i (As := [.long ((z).toInt64), .long (lN 0), .long (lN 4)]) (rest := [.ref (qm 0)]) (post := fun r : Int32 => r = bI (wiB ((z).toInt64) (lN 0) (lN 4))) ⟨hx, hb, hml, hown, hts⟩ (ct_M_in l dC dI cI cJ cZ ((z).toInt64) (lN 0) (lN 4) ) (va_cwS 3 hts (gs kM_76 ks_M_in kin_M kc_M_in) rfl rfl rfl (by decide +kernel) ⟨Nat.le_trans (by decide) hR.1, Nat.le_trans (by decide) hR.2⟩) (hP.sub (ws' := []) [] rfl) hK hE rfl hl.1 rfl (Nat.le_of_ble_eq_true rfl) dM_k_28 hcs (fun r hr => ?_)
        subst hr
        refine rb_ne (tgt := 38) hx hb dM_k_31 (by decide) (fun c31 => ?_) (fun c31 => ?_)
        · refine lv_aload_n hx hb dM_k_38 rfl (lv_at hl 0 rfl) ?_
          refine va_get (D := (dC, dI)) (ci := 5) (v := .int (nI mc)) (C := nM) (T := TM) (N := 26) hx hb hg inM hown hK hP 0 rfl rfl 12 (by decide) (hg _ kM_101) (fun _ h9 => h9) rfl dM_k_39 ?_
          refine lv_if_ne (tgt := 49) hx hb dM_k_42 (by decide) (fun c42 => ?_) (fun c42 => ?_)
          · refine rn_iconst hx hb 0 dM_k_49 (by decide) ?_
            refine va_put (D := (dC, dI)) (ci := 5) (v := .int (nI 0)) (ty := .int) (C := nM) (T := TM) (N := 26) hx hb hg inM tM tM_ok nmM hown hK hP hD hS 0 rfl rfl 0 (by decide) (hg _ kM_69) (fun _ h9 => h9) rfl (by decide +kernel) rfl rfl (Nat.le_of_ble_eq_true rfl) dM_k_50 (fun H locs hP hD hS => ?_)
            have hP : va_P (dC, dI) vwCl (wM cI cJ cZ qm lv bg en sc wd ht sh oh ba mw mh mk rm nm bs bc bp on wh 0 pc n mc kc sl fo) H := hP
            have hD : va_D A (wM cI cJ cZ qm lv bg en sc wd ht sh oh ba mw mh mk rm nm bs bc bp on wh 0 pc n mc kc sl fo) := hD
            refine lv_aload_n hx hb dM_k_53 rfl (lv_at hl 0 rfl) ?_
            refine va_get (D := (dC, dI)) (ci := 5) (v := .int (nI 0)) (C := nM) (T := TM) (N := 26) hx hb hg inM hown hK hP 0 rfl rfl 0 (by decide) (hg _ kM_69) (fun _ h9 => h9) rfl dM_k_54 ?_
            refine lv_if_le (tgt := 62) hx hb dM_k_57 (by decide) (fun c57 => ?_) (fun c57 => absurd c57 (by decide))
            obtain ⟨j1, hj1, ej1⟩ := in_of c6 (by omega)
            obtain ⟨j2, hj2, ej2⟩ := in_of c14 (by omega)
            obtain ⟨j3, hj30, hj3, ej3⟩ := wi_of c31 (by decide) (by decide)
            have f1 : cN x = j1 := by rw [ej1]; exact cN_n (by omega)
            have f2 : cN y = j2 := by rw [ej2]; exact cN_n (by omega)
            have f3 : cN z = j3 := by rw [ej3]; exact cN_n (by omega)
            have ex : x = nI (cN x) := by rw [f1]; exact ej1
            have ey : y = nI (cN y) := by rw [f2]; exact ej2
            have ez : z = nI (cN z) := by rw [f3]; exact ej3
            have hmx : cN x < 20 := by omega
            have hay : cN y < 20 := by omega
            have hz5 : cN z < 5 := by omega
            have hm0 := n0_ne c42
            have hcd : cdK pc mc x y z = 0 := by rw [cdK, if_pos ⟨c6, c14, c19, c31⟩, if_neg hm0]
            have hl : lv_has ls 5 [(0, .ref (qm 0)), (1, .int (nI (cN x))), (2, .int (nI (cN y))), (3, .int (nI (cN z)))] := by rw [ex, ey, ez] at hl; exact hl
            refine lv_aload_n hx hb dM_k_62 rfl (lv_at hl 0 rfl) ?_
            refine lv_iload_n hx hb dM_k_63 rfl (lv_at hl 1 rfl) ?_
            refine lv_iload_n hx hb dM_k_64 rfl (lv_at hl 2 rfl) ?_
            refine kwV_v (D := (dC, dI)) (b := (qm 0)) (C := nM) (As := [.int (nI (cN x)), .int (nI (cN y))]) (rest := []) (wc := (wM cI cJ cZ qm lv bg en sc wd ht sh oh ba mw mh mk rm nm bs bc bp on wh 0 pc n mc kc sl fo)) (wr := []) (w1 := (wM cI cJ cZ qm lv bg en sc wd ht sh oh ba mw mh mk rm nm ((goW (usB wd ht oh co (mw 0) (mh 0)) bg en sc oh bt (cN x) (cN y) n on wh bp bc bs).2.2.2.2.2.1) ((goW (usB wd ht oh co (mw 0) (mh 0)) bg en sc oh bt (cN x) (cN y) n on wh bp bc bs).2.2.2.2.1) ((goW (usB wd ht oh co (mw 0) (mh 0)) bg en sc oh bt (cN x) (cN y) n on wh bp bc bs).2.2.2.1) ((goW (usB wd ht oh co (mw 0) (mh 0)) bg en sc oh bt (cN x) (cN y) n on wh bp bc bs).2.1) ((goW (usB wd ht oh co (mw 0) (mh 0)) bg en sc oh bt (cN x) (cN y) n on wh bp bc bs).2.2.1) 0 pc n mc kc sl ((goW (usB wd ht oh co (mw 0) (mh 0)) bg en sc oh bt (cN x) (cN y) n on wh bp bc bs).2.2.2.2.2.2))) (wn := (wM cI cJ cZ qm lv bg en sc wd ht sh oh ba mw mh mk rm nm ((goW (usB wd ht oh co (mw 0) (mh 0)) bg en sc oh bt (cN x) (cN y) n on wh bp bc bs).2.2.2.2.2.1) ((goW (usB wd ht oh co (mw 0) (mh 0)) bg en sc oh bt (cN x) (cN y) n on wh bp bc bs).2.2.2.2.1) ((goW (usB wd ht oh co (mw 0) (mh 0)) bg en sc oh bt (cN x) (cN y) n on wh bp bc bs).2.2.2.1) ((goW (usB wd ht oh co (mw 0) (mh 0)) bg en sc oh bt (cN x) (cN y) n on wh bp bc bs).2.1) ((goW (usB wd ht oh co (mw 0) (mh 0)) bg en sc oh bt (cN x) (cN y) n on wh bp bc bs).2.2.1) 0 pc n mc kc sl ((goW (usB wd ht oh co (mw 0) (mh 0)) bg en sc oh bt (cN x) (cN y) n on wh bp bc bs).2.2.2.2.2.2))) ⟨hx, hb, hml, hown, hts⟩ (ct_M_goThrough l dC dI cI cJ cZ qm lv mw mh mk pc mc kc bg en sc wd ht oh bt co n sh ba rm nm bs bc bp on wh 0 sl fo (cN x) (cN y) H.size (hG) (hB) (hsh) (hba) (hsc) (hbp) (hbc) (hbs) (by omega) (by omega) (by omega)) (cwV 2 hts (gv kM_170 ki_M_goThrough ksel_M_goThrough kin_M kc_M_goThrough) rfl rfl rfl (by decide +kernel) ⟨Nat.le_trans (by decide) hR.1, Nat.le_trans (by decide) hR.2⟩) (va_recv hK hP (ci := 5) (q0 := 0) rfl rfl) hP hD hK hE hS hA [0, 1, 2, 3, 4, 5, 6, 7, 8, 9, 10, 11, 12, 13, 14, 15, 16, 17, 18, 19] [] [0, 1, 2, 3, 4, 5, 6, 7, 8, 9, 10, 11, 12, 13, 14, 15, 16, 17, 18, 19] rfl (by decide) rfl (by decide) (by decide) rfl (by decide) rfl hl.1 rfl (Nat.le_of_ble_eq_true rfl) dM_k_65 hcs (fun H locs hP hD hS => ?_)
            rw [hGe] at hP hD
            have hP : va_P (dC, dI) vwCl (wM cI cJ cZ qm lv bg en sc wd ht sh oh ba mw mh mk rm nm G.2.2.2.2.2.1 G.2.2.2.2.1 G.2.2.2.1 G.2.1 G.2.2.1 0 pc n mc kc sl G.2.2.2.2.2.2) H := hP
            have hD : va_D A (wM cI cJ cZ qm lv bg en sc wd ht sh oh ba mw mh mk rm nm G.2.2.2.2.2.1 G.2.2.2.2.1 G.2.2.2.1 G.2.1 G.2.2.1 0 pc n mc kc sl G.2.2.2.2.2.2) := hD
            refine lv_aload_n hx hb dM_k_68 rfl (lv_at hl 0 rfl) ?_
            refine rn_iconst hx hb 0 dM_k_69 (by decide) ?_
            refine va_put (D := (dC, dI)) (ci := 5) (v := .int (nI 0)) (ty := .int) (C := nM) (T := TM) (N := 26) hx hb hg inM tM tM_ok nmM hown hK hP hD hS 0 rfl rfl 19 (by decide) (hg _ kM_138) (fun _ h9 => h9) rfl (by decide +kernel) rfl rfl (Nat.le_of_ble_eq_true rfl) dM_k_70 (fun H locs hP hD hS => ?_)
            have hP : va_P (dC, dI) vwCl (wM cI cJ cZ qm lv bg en sc wd ht sh oh ba mw mh mk rm nm G.2.2.2.2.2.1 G.2.2.2.2.1 G.2.2.2.1 G.2.1 G.2.2.1 0 pc n mc kc 0 G.2.2.2.2.2.2) H := hP
            have hD : va_D A (wM cI cJ cZ qm lv bg en sc wd ht sh oh ba mw mh mk rm nm G.2.2.2.2.2.1 G.2.2.2.2.1 G.2.2.2.1 G.2.1 G.2.2.1 0 pc n mc kc 0 G.2.2.2.2.2.2) := hD
            refine lv_iload_n hx hb dM_k_73 rfl (lv_at hl 3 rfl) ?_
            refine lv_aload_n hx hb dM_k_74 rfl (lv_at hl 0 rfl) ?_
            refine va_get (D := (dC, dI)) (ci := 5) (v := .int (nI G.2.2.2.2.2.2)) (C := nM) (T := TM) (N := 26) hx hb hg inM hown hK hP 0 rfl rfl 23 (by decide) (hg _ kM_155) (fun _ h9 => h9) rfl dM_k_75 ?_
            refine rn_icmp_lt (tgt := 85) hx hb dM_k_78 (by decide) (by omega) (by omega) (fun c78 => ?_) (fun c78 => ?_)
            · refine lv_aload_n hx hb dM_k_85 rfl (lv_at hl 0 rfl) ?_
              refine lv_aload_n hx hb dM_k_86 rfl (lv_at hl 0 rfl) ?_
              refine va_get (D := (dC, dI)) (ci := 5) (v := .ref (qm 16)) (C := nM) (T := TM) (N := 26) hx hb hg inM hown hK hP 0 rfl rfl 21 (by decide) (hg _ kM_57) (fun _ h9 => h9) rfl dM_k_87 ?_
              refine lv_iload_n hx hb dM_k_90 rfl (lv_at hl 3 rfl) ?_
              refine ga_i (f := G.2.2.2.2.1) hx hb hK hP 16 0 rfl rfl (by omega) (by decide) dM_k_91 ?_
              refine va_put (D := (dC, dI)) (ci := 5) (v := .int (nI (G.2.2.2.2.1 (cN z)))) (ty := .int) (C := nM) (T := TM) (N := 26) hx hb hg inM tM tM_ok nmM hown hK hP hD hS 0 rfl rfl 19 (by decide) (hg _ kM_138) (fun _ h9 => h9) rfl (by decide +kernel) rfl rfl (Nat.le_of_ble_eq_true rfl) dM_k_92 (fun H locs hP hD hS => ?_)
              have hP : va_P (dC, dI) vwCl (wM cI cJ cZ qm lv bg en sc wd ht sh oh ba mw mh mk rm nm G.2.2.2.2.2.1 G.2.2.2.2.1 G.2.2.2.1 G.2.1 G.2.2.1 0 pc n mc kc (G.2.2.2.2.1 (cN z)) G.2.2.2.2.2.2) H := hP
              have hD : va_D A (wM cI cJ cZ qm lv bg en sc wd ht sh oh ba mw mh mk rm nm G.2.2.2.2.2.1 G.2.2.2.2.1 G.2.2.2.1 G.2.1 G.2.2.1 0 pc n mc kc (G.2.2.2.2.1 (cN z)) G.2.2.2.2.2.2) := hD
              refine rn_iconst hx hb 0 dM_k_95 (by decide) ?_
              refine lv_istore (lv' := [(4, .int (nI 0)), (0, .ref (qm 0)), (1, .int (nI (cN x))), (2, .int (nI (cN y))), (3, .int (nI (cN z)))]) hx hb dM_k_96 hl (by decide) rfl (fun ls hl => ?_)
              refine lp_M_k qm lv mw mh mk pc mc kc bg en sc wd ht oh bt co n sh ba rm nm bs bc bp on wh cd sl fo x y z G hG hB hsh hba hsc hbp hbc hbs hGe  hx hb hml hown hts hK hE hA (by first | exact hR | exact ⟨Nat.le_trans (by decide) hR.1, Nat.le_trans (by decide) hR.2⟩) hcs (fun i v h1 hv hz5 hcd hzf hx0 H locs hP hD hS ls hl => ?_) ((G.2.2.2.2.1 (cN z) - 0) + 1) 0 nm (Nat.zero_le _) (cpN_0) (hz5) (hcd) (by omega) (by omega) _ _ hP hD hS ls (lv_sub hl [1, 2, 3, 4, 0] rfl)
              refine lv_aload_n hx hb dM_k_131 rfl (lv_at hl 0 rfl) ?_
              refine va_get (D := (dC, dI)) (ci := 5) (v := .ref (qm 15)) (C := nM) (T := TM) (N := 26) hx hb hg inM hown hK hP 0 rfl rfl 20 (by decide) (hg _ kM_54) (fun _ h9 => h9) rfl dM_k_132 ?_
              refine lv_iload_n hx hb dM_k_135 rfl (lv_at hl 3 rfl) ?_
              refine ga_l (f := G.2.2.2.2.2.1) hx hb hK hP 15 1 rfl rfl (by omega) (by decide) dM_k_136 ?_
              have hcd : cdK pc mc x y z = 0 := hcd
              have hP9 : va_P (dC, dI) vwCl (wM cI cJ cZ qm lv bg en sc wd ht sh oh ba mw mh mk rm (if cdK pc mc x y z = 0 then (kmW (G) (cN z) nm).1 else nm) (if cdK pc mc x y z = 0 then G.2.2.2.2.2.1 else bs) (if cdK pc mc x y z = 0 then G.2.2.2.2.1 else bc) (if cdK pc mc x y z = 0 then G.2.2.2.1 else bp) (if cdK pc mc x y z = 0 then G.2.1 else on) (if cdK pc mc x y z = 0 then G.2.2.1 else wh) (cdK pc mc x y z) pc n mc kc (if cdK pc mc x y z = 0 then (kmW (G) (cN z) nm).2 else sl) (if cdK pc mc x y z = 0 then G.2.2.2.2.2.2 else fo)) H := by rw [hcd, show kmW (G) (cN z) nm = (v, G.2.2.2.2.1 (cN z)) from by rw [hv, hx0]; exact if_pos hzf]; exact hP
              have hD9 : va_D A (wM cI cJ cZ qm lv bg en sc wd ht sh oh ba mw mh mk rm (if cdK pc mc x y z = 0 then (kmW (G) (cN z) nm).1 else nm) (if cdK pc mc x y z = 0 then G.2.2.2.2.2.1 else bs) (if cdK pc mc x y z = 0 then G.2.2.2.2.1 else bc) (if cdK pc mc x y z = 0 then G.2.2.2.1 else bp) (if cdK pc mc x y z = 0 then G.2.1 else on) (if cdK pc mc x y z = 0 then G.2.2.1 else wh) (cdK pc mc x y z) pc n mc kc (if cdK pc mc x y z = 0 then (kmW (G) (cN z) nm).2 else sl) (if cdK pc mc x y z = 0 then G.2.2.2.2.2.2 else fo)) := by rw [hcd, show kmW (G) (cN z) nm = (v, G.2.2.2.2.1 (cN z)) from by rw [hv, hx0]; exact if_pos hzf]; exact hD
              exact W.lret hx hb hr (fun t ht hW => ⟨⟨_, (), rfl, (by rw [hcd]; exact (if_pos hzf).symm), by rw [ht]; exact hP9, va_K.moved hW.alike hK, hD9⟩, hS.F ht⟩) hS.2.2 dM_k_137
            · refine lv_ldc2 (v := -1) hx hb hown (hg _ kM_118) dM_k_81 ?_
              have hcd : cdK pc mc x y z = 0 := hcd
              have hP9 : va_P (dC, dI) vwCl (wM cI cJ cZ qm lv bg en sc wd ht sh oh ba mw mh mk rm (if cdK pc mc x y z = 0 then (kmW (G) (cN z) nm).1 else nm) (if cdK pc mc x y z = 0 then G.2.2.2.2.2.1 else bs) (if cdK pc mc x y z = 0 then G.2.2.2.2.1 else bc) (if cdK pc mc x y z = 0 then G.2.2.2.1 else bp) (if cdK pc mc x y z = 0 then G.2.1 else on) (if cdK pc mc x y z = 0 then G.2.2.1 else wh) (cdK pc mc x y z) pc n mc kc (if cdK pc mc x y z = 0 then (kmW (G) (cN z) nm).2 else sl) (if cdK pc mc x y z = 0 then G.2.2.2.2.2.2 else fo)) H := by rw [hcd, show kmW (G) (cN z) nm = (nm, 0) from if_neg c78]; exact hP
              have hD9 : va_D A (wM cI cJ cZ qm lv bg en sc wd ht sh oh ba mw mh mk rm (if cdK pc mc x y z = 0 then (kmW (G) (cN z) nm).1 else nm) (if cdK pc mc x y z = 0 then G.2.2.2.2.2.1 else bs) (if cdK pc mc x y z = 0 then G.2.2.2.2.1 else bc) (if cdK pc mc x y z = 0 then G.2.2.2.1 else bp) (if cdK pc mc x y z = 0 then G.2.1 else on) (if cdK pc mc x y z = 0 then G.2.2.1 else wh) (cdK pc mc x y z) pc n mc kc (if cdK pc mc x y z = 0 then (kmW (G) (cN z) nm).2 else sl) (if cdK pc mc x y z = 0 then G.2.2.2.2.2.2 else fo)) := by rw [hcd, show kmW (G) (cN z) nm = (nm, 0) from if_neg c78]; exact hD
              exact W.lret hx hb hr (fun t ht hW => ⟨⟨_, (), rfl, (by rw [hcd]; exact (if_neg c78).symm), by rw [ht]; exact hP9, va_K.moved hW.alike hK, hD9⟩, hS.F ht⟩) hS.2.2 dM_k_84
          · refine rn_iconst hx hb 2 dM_k_45 (by decide) ?_
            refine lv_goto (tgt := 50) hx hb dM_k_46 (by decide) ?_
            refine va_put (D := (dC, dI)) (ci := 5) (v := .int (nI 2)) (ty := .int) (C := nM) (T := TM) (N := 26) hx hb hg inM tM tM_ok nmM hown hK hP hD hS 0 rfl rfl 0 (by decide) (hg _ kM_69) (fun _ h9 => h9) rfl (by decide +kernel) rfl rfl (Nat.le_of_ble_eq_true rfl) dM_k_50 (fun H locs hP hD hS => ?_)
            have hP : va_P (dC, dI) vwCl (wM cI cJ cZ qm lv bg en sc wd ht sh oh ba mw mh mk rm nm bs bc bp on wh 2 pc n mc kc sl fo) H := hP
            have hD : va_D A (wM cI cJ cZ qm lv bg en sc wd ht sh oh ba mw mh mk rm nm bs bc bp on wh 2 pc n mc kc sl fo) := hD
            refine lv_aload_n hx hb dM_k_53 rfl (lv_at hl 0 rfl) ?_
            refine va_get (D := (dC, dI)) (ci := 5) (v := .int (nI 2)) (C := nM) (T := TM) (N := 26) hx hb hg inM hown hK hP 0 rfl rfl 0 (by decide) (hg _ kM_69) (fun _ h9 => h9) rfl dM_k_54 ?_
            refine lv_if_le (tgt := 62) hx hb dM_k_57 (by decide) (fun c57 => absurd c57 (by decide)) (fun c57 => ?_)
            refine rn_lconst hx hb 0 dM_k_60 rfl ?_
            have hcd : cdK pc mc x y z = 2 := by rw [cdK, if_pos ⟨c6, c14, c19, c31⟩, if_pos (n0_of6 hmc c42)]
            have hP9 : va_P (dC, dI) vwCl (wM cI cJ cZ qm lv bg en sc wd ht sh oh ba mw mh mk rm (if cdK pc mc x y z = 0 then (kmW (G) (cN z) nm).1 else nm) (if cdK pc mc x y z = 0 then G.2.2.2.2.2.1 else bs) (if cdK pc mc x y z = 0 then G.2.2.2.2.1 else bc) (if cdK pc mc x y z = 0 then G.2.2.2.1 else bp) (if cdK pc mc x y z = 0 then G.2.1 else on) (if cdK pc mc x y z = 0 then G.2.2.1 else wh) (cdK pc mc x y z) pc n mc kc (if cdK pc mc x y z = 0 then (kmW (G) (cN z) nm).2 else sl) (if cdK pc mc x y z = 0 then G.2.2.2.2.2.2 else fo)) H := by rw [hcd]; exact hP
            have hD9 : va_D A (wM cI cJ cZ qm lv bg en sc wd ht sh oh ba mw mh mk rm (if cdK pc mc x y z = 0 then (kmW (G) (cN z) nm).1 else nm) (if cdK pc mc x y z = 0 then G.2.2.2.2.2.1 else bs) (if cdK pc mc x y z = 0 then G.2.2.2.2.1 else bc) (if cdK pc mc x y z = 0 then G.2.2.2.1 else bp) (if cdK pc mc x y z = 0 then G.2.1 else on) (if cdK pc mc x y z = 0 then G.2.2.1 else wh) (cdK pc mc x y z) pc n mc kc (if cdK pc mc x y z = 0 then (kmW (G) (cN z) nm).2 else sl) (if cdK pc mc x y z = 0 then G.2.2.2.2.2.2 else fo)) := by rw [hcd]; exact hD
            exact W.lret hx hb hr (fun t ht hW => ⟨⟨_, (), rfl, (by rw [hcd]; rfl), by rw [ht]; exact hP9, va_K.moved hW.alike hK, hD9⟩, hS.F ht⟩) hS.2.2 dM_k_61
        · refine rn_iconst hx hb 1 dM_k_34 (by decide) ?_
          refine lv_goto (tgt := 50) hx hb dM_k_35 (by decide) ?_
          refine va_put (D := (dC, dI)) (ci := 5) (v := .int (nI 1)) (ty := .int) (C := nM) (T := TM) (N := 26) hx hb hg inM tM tM_ok nmM hown hK hP hD hS 0 rfl rfl 0 (by decide) (hg _ kM_69) (fun _ h9 => h9) rfl (by decide +kernel) rfl rfl (Nat.le_of_ble_eq_true rfl) dM_k_50 (fun H locs hP hD hS => ?_)
          have hP : va_P (dC, dI) vwCl (wM cI cJ cZ qm lv bg en sc wd ht sh oh ba mw mh mk rm nm bs bc bp on wh 1 pc n mc kc sl fo) H := hP
          have hD : va_D A (wM cI cJ cZ qm lv bg en sc wd ht sh oh ba mw mh mk rm nm bs bc bp on wh 1 pc n mc kc sl fo) := hD
          refine lv_aload_n hx hb dM_k_53 rfl (lv_at hl 0 rfl) ?_
          refine va_get (D := (dC, dI)) (ci := 5) (v := .int (nI 1)) (C := nM) (T := TM) (N := 26) hx hb hg inM hown hK hP 0 rfl rfl 0 (by decide) (hg _ kM_69) (fun _ h9 => h9) rfl dM_k_54 ?_
          refine lv_if_le (tgt := 62) hx hb dM_k_57 (by decide) (fun c57 => absurd c57 (by decide)) (fun c57 => ?_)
          refine rn_lconst hx hb 0 dM_k_60 rfl ?_
          have hcd : cdK pc mc x y z = 1 := by first | (simp [cdK, c6]; done) | (simp [cdK, c14]; done) | (simp [cdK, c19]; done) | (simp [cdK, c31]; done)
          have hP9 : va_P (dC, dI) vwCl (wM cI cJ cZ qm lv bg en sc wd ht sh oh ba mw mh mk rm (if cdK pc mc x y z = 0 then (kmW (G) (cN z) nm).1 else nm) (if cdK pc mc x y z = 0 then G.2.2.2.2.2.1 else bs) (if cdK pc mc x y z = 0 then G.2.2.2.2.1 else bc) (if cdK pc mc x y z = 0 then G.2.2.2.1 else bp) (if cdK pc mc x y z = 0 then G.2.1 else on) (if cdK pc mc x y z = 0 then G.2.2.1 else wh) (cdK pc mc x y z) pc n mc kc (if cdK pc mc x y z = 0 then (kmW (G) (cN z) nm).2 else sl) (if cdK pc mc x y z = 0 then G.2.2.2.2.2.2 else fo)) H := by rw [hcd]; exact hP
          have hD9 : va_D A (wM cI cJ cZ qm lv bg en sc wd ht sh oh ba mw mh mk rm (if cdK pc mc x y z = 0 then (kmW (G) (cN z) nm).1 else nm) (if cdK pc mc x y z = 0 then G.2.2.2.2.2.1 else bs) (if cdK pc mc x y z = 0 then G.2.2.2.2.1 else bc) (if cdK pc mc x y z = 0 then G.2.2.2.1 else bp) (if cdK pc mc x y z = 0 then G.2.1 else on) (if cdK pc mc x y z = 0 then G.2.2.1 else wh) (cdK pc mc x y z) pc n mc kc (if cdK pc mc x y z = 0 then (kmW (G) (cN z) nm).2 else sl) (if cdK pc mc x y z = 0 then G.2.2.2.2.2.2 else fo)) := by rw [hcd]; exact hD
          exact W.lret hx hb hr (fun t ht hW => ⟨⟨_, (), rfl, (by rw [hcd]; rfl), by rw [ht]; exact hP9, va_K.moved hW.alike hK, hD9⟩, hS.F ht⟩) hS.2.2 dM_k_61
