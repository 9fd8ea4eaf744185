/-! ===== WayGraph itself ===== -/
def inB (x : Int32) (n : Nat) : Bool := decide (0 ≤ x ∧ x < nI n)
def wiB (v lo hi : Int64) : Bool := decide (lo ≤ v ∧ v ≤ hi)
def cN (x : Int32) : Nat := x.toNatClampNeg
def cLn (v : Int64) : Nat := v.toInt.toNat
theorem cN_n {j : Nat} (h : j < 2147483648) : cN (nI j) = j := nI_clamp h
theorem cL_n {j : Nat} (h : j < 9223372036854775808) : cLn (lN j) = j := by unfold cLn; rw [pk_lT h]; rfl
theorem in_of {x : Int32} {n : Nat} (h : inB x n = true) (hn : n < 2147483648) : ∃ j : Nat, j < n ∧ x = nI j := ix_in h hn
theorem wl_of {v : Int64} {a b : Nat} (h : wiB v (lN a) (lN b) = true) (ha : a < 9223372036854775808) (hb : b < 9223372036854775808) : ∃ j : Nat, a ≤ j ∧ j ≤ b ∧ v = lN j := by
  have h1 := of_decide_eq_true h
  rw [Int64.le_iff_toInt_le, Int64.le_iff_toInt_le, pk_lT ha, pk_lT hb] at h1
  refine ⟨v.toInt.toNat, by omega, by omega, ?_⟩
  apply Int64.toInt_inj.mp
  rw [pk_lT (by omega)]
  omega
theorem wi_of {x : Int32} {a b : Nat} (h : wiB x.toInt64 (lN a) (lN b) = true) (hb : b < 2147483648) (hab : a ≤ b) : ∃ j : Nat, a ≤ j ∧ j ≤ b ∧ x = nI j := by
  have h1 := of_decide_eq_true h
  rw [Int64.le_iff_toInt_le, Int64.le_iff_toInt_le, pk_lT (by omega), pk_lT (by omega), Int32.toInt_toInt64] at h1
  refine ⟨x.toInt.toNat, by omega, by omega, ?_⟩
  apply Int32.toInt_inj.mp
  rw [nI_toInt (by omega)]
  omega
abbrev PcX (D : va_G) (ws : va_W) (tys : List (ClassId × FieldType)) (sz : Nat) (av : List Value) : Array Value → State → Prop := va_Pc av (fun U => U.heap.size = sz ∧ va_P D vwCl ws U.heap ∧ va_K D vwCl tys U ∧ va_D (fun _ => True) ws ∧ EV U ∧ EX U)
theorem fbX {D : va_G} {ws : va_W} {tys : List (ClassId × FieldType)} {sz : Nat} {av : List Value} : FrameBlind (PcX D ws tys sz av) := fun a U g mk q => by
  obtain ⟨q0, q1, qP, qK, qD, qE, qX⟩ := q
  exact ⟨q0, q1, qP, va_K.moved (u := U) (U := U.calling g mk a) (Vm.Alike.refl U.vm) qK, qD, EV.same (u := U) (U := U.calling g mk a) rfl qE, EX.calling qX⟩
def bGp (lv mw mh mk : Nat → Nat) (pc mc kc : Nat) : Prop := pc ≤ 20 ∧ mc ≤ 6 ∧ kc ≤ 8 ∧ ∀ i, lv i < 10 ∧ mw i ≤ 10000 ∧ mh i ≤ 10000 ∧ mk i < 20

set_option maxHeartbeats 4000000 in
set_option maxRecDepth 100000 in
theorem ct_G_hasPlace (l : Launch) (dC : Nat → ClassId) (dI : Nat → Nat → Nat) (cI cJ cZ : ClassId) (qg q ql qs qr : Nat → Nat) (lv mw mh mk : Nat → Nat) (pc mc kc : Nat) (x : Int32) (hG : bGp lv mw mh mk pc mc kc) : Met l yG_hasPlace wsG_hasPlace ({ frames := 0, cells := 0, slots := 0, locals := 0 }) (PcR (dC, dI) (wG cI cJ cZ qg q ql qs qr lv mw mh mk pc mc kc) (tyE cI cJ cZ) [.ref (qg 0), .int x]) (vp_Si (fun r => r = bI (inB x pc))) 0 0 (fun _ => False) := by
  refine Met.ofW (cc := cG_hasPlace) (maxL := 2) (ret := (some .boolean)) (by decide) rfl ?_
  intro p e s m args below meth c s₁ B hml hv
  obtain ⟨rfl, hP, hK, hE⟩ := hv
  have hx := B.exec
  have hb := B.bytes
  have hr := B.returns
  have hts := atoms_spec (ws := wsG_hasPlace) B.pre
  have hg : ∀ w ∈ gw, w.before _ s = true := fun w h => hts w (List.mem_cons_of_mem _ h)
  have hown : s.vm.findClass nG = some m.cls := findClass_of_methodNamed B.named
  have hlocks := B.notSynchronized
  have hR : 0 ≤ (headSpec wsG_hasPlace ({ frames := 0, cells := 0, slots := 0, locals := 0 })).room.frames ∧ 0 ≤ (headSpec wsG_hasPlace ({ frames := 0, cells := 0, slots := 0, locals := 0 })).room.locals := ⟨Nat.le_refl _, Nat.le_refl _⟩
  have hcs : 0 ≤ (headSpec wsG_hasPlace ({ frames := 0, cells := 0, slots := 0, locals := 0 })).room.cells ∧ 0 ≤ (headSpec wsG_hasPlace ({ frames := 0, cells := 0, slots := 0, locals := 0 })).room.slots := ⟨Nat.zero_le _, Nat.zero_le _⟩
  have hpc := hG.1
  have hmc := hG.2.1
  have hkc := hG.2.2.1
  have hgi := hG.2.2.2
  have hl := lv_entry ([.ref (qg 0), .int x]) (n := 2) (Nat.le_of_ble_eq_true rfl)
  rw [lg_entry_eq]
  generalize (lg_sl ([.ref (qg 0), .int x]) ++ List.replicate (2 - (lg_sl ([.ref (qg 0), .int x])).length) Slot.unset).toArray = ls at hl ⊢
  have hl : lv_has ls 2 [(0, .ref (qg 0)), (1, .int x)] := hl
  refine lv_iload_n hx hb dG_hasPlace_0 rfl (lv_at hl 1 rfl) ?_
  refine lv_if_lt (tgt := 16) hx hb dG_hasPlace_1 (by decide) (fun c1 => ?_) (fun c1 => ?_)
  · refine rn_iconst hx hb 0 dG_hasPlace_16 (by decide) ?_
    exact W.zret hx hb hr rfl (fun t ht hW => ⟨_, rfl, (by first | exact ha_t c1 c9 | exact ha_1 c1 | exact ha_2 c9), ht⟩) (fun _ h9 => nomatch h9) dG_hasPlace_17
  · refine lv_iload_n hx hb dG_hasPlace_4 rfl (lv_at hl 1 rfl) ?_
    refine lv_aload_n hx hb dG_hasPlace_5 rfl (lv_at hl 0 rfl) ?_
    refine va_get (D := (dC, dI)) (ci := 0) (v := .int (nI pc)) (C := nG) (T := TG) (N := 11) hx hb hg inG hown hK hP 0 rfl rfl 1 (by decide) (hg _ kG_64) (fun _ h9 => h9) rfl dG_hasPlace_6 ?_
    refine lv_icmp_ge (tgt := 16) hx hb dG_hasPlace_9 (by decide) (fun c9 => ?_) (fun c9 => ?_)
    · refine rn_iconst hx hb 0 dG_hasPlace_16 (by decide) ?_
      exact W.zret hx hb hr rfl (fun t ht hW => ⟨_, rfl, (by first | exact ha_t c1 c9 | exact ha_1 c1 | exact ha_2 c9), ht⟩) (fun _ h9 => nomatch h9) dG_hasPlace_17
    · refine rn_iconst hx hb 1 dG_hasPlace_12 (by decide) ?_
      refine lv_goto (tgt := 17) hx hb dG_hasPlace_13 (by decide) ?_
      exact W.zret hx hb hr rfl (fun t ht hW => ⟨_, rfl, (by first | exact ha_t c1 c9 | exact ha_1 c1 | exact ha_2 c9), ht⟩) (fun _ h9 => nomatch h9) dG_hasPlace_17

set_option maxHeartbeats 4000000 in
set_option maxRecDepth 100000 in
theorem ct_G_hasMover (l : Launch) (dC : Nat → ClassId) (dI : Nat → Nat → Nat) (cI cJ cZ : ClassId) (qg q ql qs qr : Nat → Nat) (lv mw mh mk : Nat → Nat) (pc mc kc : Nat) (x : Int32) (hG : bGp lv mw mh mk pc mc kc) : Met l yG_hasMover wsG_hasMover ({ frames := 0, cells := 0, slots := 0, locals := 0 }) (PcR (dC, dI) (wG cI cJ cZ qg q ql qs qr lv mw mh mk pc mc kc) (tyE cI cJ cZ) [.ref (qg 0), .int x]) (vp_Si (fun r => r = bI (inB x mc))) 0 0 (fun _ => False) := by
  refine Met.ofW (cc := cG_hasMover) (maxL := 2) (ret := (some .boolean)) (by decide) rfl ?_
  intro p e s m args below meth c s₁ B hml hv
  obtain ⟨rfl, hP, hK, hE⟩ := hv
  have hx := B.exec
  have hb := B.bytes
  have hr := B.returns
  have hts := atoms_spec (ws := wsG_hasMover) B.pre
  have hg : ∀ w ∈ gw, w.before _ s = true := fun w h => hts w (List.mem_cons_of_mem _ h)
  have hown : s.vm.findClass nG = some m.cls := findClass_of_methodNamed B.named
  have hlocks := B.notSynchronized
  have hR : 0 ≤ (headSpec wsG_hasMover ({ frames := 0, cells := 0, slots := 0, locals := 0 })).room.frames ∧ 0 ≤ (headSpec wsG_hasMover ({ frames := 0, cells := 0, slots := 0, locals := 0 })).room.locals := ⟨Nat.le_refl _, Nat.le_refl _⟩
  have hcs : 0 ≤ (headSpec wsG_hasMover ({ frames := 0, cells := 0, slots := 0, locals := 0 })).room.cells ∧ 0 ≤ (headSpec wsG_hasMover ({ frames := 0, cells := 0, slots := 0, locals := 0 })).room.slots := ⟨Nat.zero_le _, Nat.zero_le _⟩
  have hpc := hG.1
  have hmc := hG.2.1
  have hkc := hG.2.2.1
  have hgi := hG.2.2.2
  have hl := lv_entry ([.ref (qg 0), .int x]) (n := 2) (Nat.le_of_ble_eq_true rfl)
  rw [lg_entry_eq]
  generalize (lg_sl ([.ref (qg 0), .int x]) ++ List.replicate (2 - (lg_sl ([.ref (qg 0), .int x])).length) Slot.unset).toArray = ls at hl ⊢
  have hl : lv_has ls 2 [(0, .ref (qg 0)), (1, .int x)] := hl
  refine lv_iload_n hx hb dG_hasMover_0 rfl (lv_at hl 1 rfl) ?_
  refine lv_if_lt (tgt := 16) hx hb dG_hasMover_1 (by decide) (fun c1 => ?_) (fun c1 => ?_)
  · refine rn_iconst hx hb 0 dG_hasMover_16 (by decide) ?_
    exact W.zret hx hb hr rfl (fun t ht hW => ⟨_, rfl, (by first | exact ha_t c1 c9 | exact ha_1 c1 | exact ha_2 c9), ht⟩) (fun _ h9 => nomatch h9) dG_hasMover_17
  · refine lv_iload_n hx hb dG_hasMover_4 rfl (lv_at hl 1 rfl) ?_
    refine lv_aload_n hx hb dG_hasMover_5 rfl (lv_at hl 0 rfl) ?_
    refine va_get (D := (dC, dI)) (ci := 0) (v := .int (nI mc)) (C := nG) (T := TG) (N := 11) hx hb hg inG hown hK hP 0 rfl rfl 5 (by decide) (hg _ kG_120) (fun _ h9 => h9) rfl dG_hasMover_6 ?_
    refine lv_icmp_ge (tgt := 16) hx hb dG_hasMover_9 (by decide) (fun c9 => ?_) (fun c9 => ?_)
    · refine rn_iconst hx hb 0 dG_hasMover_16 (by decide) ?_
      exact W.zret hx hb hr rfl (fun t ht hW => ⟨_, rfl, (by first | exact ha_t c1 c9 | exact ha_1 c1 | exact ha_2 c9), ht⟩) (fun _ h9 => nomatch h9) dG_hasMover_17
    · refine rn_iconst hx hb 1 dG_hasMover_12 (by decide) ?_
      refine lv_goto (tgt := 17) hx hb dG_hasMover_13 (by decide) ?_
      exact W.zret hx hb hr rfl (fun t ht hW => ⟨_, rfl, (by first | exact ha_t c1 c9 | exact ha_1 c1 | exact ha_2 c9), ht⟩) (fun _ h9 => nomatch h9) dG_hasMover_17

def szB (v w : Int64) : Bool := wiB v (lN 1) (lN 10000) && wiB w (lN 1) (lN 10000)

set_option maxHeartbeats 4000000 in
set_option maxRecDepth 100000 in
theorem ct_G_isSize (l : Launch) (dC : Nat → ClassId) (dI : Nat → Nat → Nat) (cI cJ cZ : ClassId) (v w : Int64) : Met l yG_isSize wsG_isSize ({ frames := 1, cells := 0, slots := 0, locals := 25 }) (PcR (dC, dI) [] (tyE cI cJ cZ) [.long v, .long w]) (vp_Si (fun r => r = bI (szB v w))) 0 0 (fun _ => False) := by
  refine Met.ofW (cc := cG_isSize) (maxL := 4) (ret := (some .boolean)) (by decide) rfl ?_
  intro p e s m args below meth c s₁ B hml hv
  obtain ⟨rfl, hP, hK, hE⟩ := hv
  have hx := B.exec
  have hb := B.bytes
  have hr := B.returns
  have hts := atoms_spec (ws := wsG_isSize) B.pre
  have hg : ∀ w ∈ gw, w.before _ s = true := fun w h => hts w (List.mem_cons_of_mem _ h)
  have hown : s.vm.findClass nG = some m.cls := findClass_of_methodNamed B.named
  have hlocks := B.notSynchronized
  have hR : 1 ≤ (headSpec wsG_isSize ({ frames := 1, cells := 0, slots := 0, locals := 25 })).room.frames ∧ 25 ≤ (headSpec wsG_isSize ({ frames := 1, cells := 0, slots := 0, locals := 25 })).room.locals := ⟨Nat.le_refl _, Nat.le_refl _⟩
  have hcs : 0 ≤ (headSpec wsG_isSize ({ frames := 1, cells := 0, slots := 0, locals := 25 })).room.cells ∧ 0 ≤ (headSpec wsG_isSize ({ frames := 1, cells := 0, slots := 0, locals := 25 })).room.slots := ⟨Nat.zero_le _, Nat.zero_le _⟩
  have hl := lv_entry ([.long v, .long w]) (n := 4) (Nat.le_of_ble_eq_true rfl)
  rw [lg_entry_eq]
  generalize (lg_sl ([.long v, .long w]) ++ List.replicate (4 - (lg_sl ([.long v, .long w])).length) Slot.unset).toArray = ls at hl ⊢
  have hl : lv_has ls 4 [(0, .long v), (2, .long w)] := hl
  refine lv_lload_n hx hb dG_isSize_0 rfl (lv_at hl 0 rfl) ?_
  refine rn_lconst hx hb 1 dG_isSize_1 rfl ?_
  refine lv_ldc2 (v := 10000) hx hb hown (hg _ kG_81) dG_isSize_2 ?_
  refine tp_l (y := lN 10000) rfl ?_
  refine cpS_i (As := [.long v, .long (lN 1), .long (lN 10000)]) (rest := []) (post := fun r : Int32 => r = bI (wiB v (lN 1) (lN 10000))) ⟨hx, hb, hml, hown, hts⟩ (ct_G_within l dC dI cI cJ cZ v (lN 1) (lN 10000) ) (va_cwS 3 hts (gs kG_53 ks_G_within kin_G kc_G_within) rfl rfl rfl (by decide +kernel) ⟨Nat.le_trans (by decide) hR.1, Nat.le_trans (by decide) hR.2⟩) hP hK hE rfl hl.1 rfl (Nat.le_of_ble_eq_true rfl) dG_isSize_5 hcs (fun r hr => ?_)
  subst hr
  refine rb_eq (tgt := 26) hx hb dG_isSize_8 (by decide) (fun c8 => ?_) (fun c8 => ?_)
  · refine rn_iconst hx hb 0 dG_isSize_26 (by decide) ?_
    exact W.zret hx hb hr rfl (fun t ht hW => ⟨_, rfl, (by first | (simp [szB, c8, c19, bI]; done) | (simp [szB, c8, bI]; done) | (simp [szB, c19, bI]; done) | (simp [szB, c8, c19, bI]; rfl) | (simp [szB, c8, bI]; rfl) | (simp [szB, c19, bI]; rfl)), ht⟩) (fun _ h9 => nomatch h9) dG_isSize_27
  · refine lv_lload_n hx hb dG_isSize_11 rfl (lv_at hl 1 rfl) ?_
    refine rn_lconst hx hb 1 dG_isSize_12 rfl ?_
    refine lv_ldc2 (v := 10000) hx hb hown (hg _ kG_81) dG_isSize_13 ?_
    refine tp_l (y := lN 10000) rfl ?_
    refine cpS_i (As := [.long w, .long (lN 1), .long (lN 10000)]) (rest := []) (post := fun r : Int32 => r = bI (wiB w (lN 1) (lN 10000))) ⟨hx, hb, hml, hown, hts⟩ (ct_G_within l dC dI cI cJ cZ w (lN 1) (lN 10000) ) (va_cwS 3 hts (gs kG_53 ks_G_within kin_G kc_G_within) rfl rfl rfl (by decide +kernel) ⟨Nat.le_trans (by decide) hR.1, Nat.le_trans (by decide) hR.2⟩) hP hK hE rfl hl.1 rfl (Nat.le_of_ble_eq_true rfl) dG_isSize_16 hcs (fun r hr => ?_)
    subst hr
    refine rb_eq (tgt := 26) hx hb dG_isSize_19 (by decide) (fun c19 => ?_) (fun c19 => ?_)
    · refine rn_iconst hx hb 0 dG_isSize_26 (by decide) ?_
      exact W.zret hx hb hr rfl (fun t ht hW => ⟨_, rfl, (by first | (simp [szB, c8, c19, bI]; done) | (simp [szB, c8, bI]; done) | (simp [szB, c19, bI]; done) | (simp [szB, c8, c19, bI]; rfl) | (simp [szB, c8, bI]; rfl) | (simp [szB, c19, bI]; rfl)), ht⟩) (fun _ h9 => nomatch h9) dG_isSize_27
    · refine rn_iconst hx hb 1 dG_isSize_22 (by decide) ?_
      refine lv_goto (tgt := 27) hx hb dG_isSize_23 (by decide) ?_
      exact W.zret hx hb hr rfl (fun t ht hW => ⟨_, rfl, (by first | (simp [szB, c8, c19, bI]; done) | (simp [szB, c8, bI]; done) | (simp [szB, c19, bI]; done) | (simp [szB, c8, c19, bI]; rfl) | (simp [szB, c8, bI]; rfl) | (simp [szB, c19, bI]; rfl)), ht⟩) (fun _ h9 => nomatch h9) dG_isSize_27

def imB (mk : Nat → Nat) (x : Int32) : Nat → Bool
  | 0 => false
  | k + 1 => imB mk x k || decide (nI (mk k) = x)
theorem imB_le {mk : Nat → Nat} {x : Int32} {k : Nat} (hk : nI (mk k) = x) : ∀ n, k < n → imB mk x n = true := by
  intro n
  induction n with
  | zero => intro q; omega
  | succ n ih =>
    intro q
    by_cases e : k = n
    · subst e; simp [imB, hk]
    · simp [imB, ih (by omega)]

set_option maxHeartbeats 4000000 in
set_option maxRecDepth 100000 in
theorem lp_G_marked {p : Program} {l : Launch} {e : Env} {R : Room} {s : State} {m : MethodId} {args : Array Value} {below : List Frame} {meth : Method} {c : Code} {H : Heap} {locs : List Loc} {cells slots : Nat} {Q : State → Prop} {dC : Nat → ClassId} {dI : Nat → Nat → Nat} {cI cJ cZ : ClassId} (qg q ql qs qr : Nat → Nat) (lv mw mh mk : Nat → Nat) (pc mc kc : Nat) (x : Int32) (hG : bGp lv mw mh mk pc mc kc) (hx : p.tables.exec = Jvm.exec) (hb : c.code = cG_isMarked) (hml : c.maxLocals = 3) (hown : s.vm.findClass nG = some m.cls) (hts : ∀ w ∈ wsG_isMarked, w.before args s = true) (hK : va_K (dC, dI) vwCl (tyE cI cJ cZ) s) (hP : va_P (dC, dI) vwCl (wG cI cJ cZ qg q ql qs qr lv mw mh mk pc mc kc) H) (hE : EV s) (hR : 0 ≤ R.frames ∧ 0 ≤ R.locals) (hcs : cells ≤ R.cells ∧ slots ≤ R.slots)
    (kx0 : ∀ (i : Nat) (hi : i ≤ kc) (ha : imB mk x i = false) (hx0 : kc ≤ i) (ls : Array Slot), lv_has ls 3 [(0, .ref (qg 0)), (1, .int x), (2, .int (nI i))] → W p l e R s m args below meth c H locs cells slots Q (F0 m 28 ls []))
    (kx1 : ∀ (i : Nat) (hi : i ≤ kc) (ha : imB mk x i = false) (hx0 : i < kc) (hx1 : nI (mk i) = x) (ls : Array Slot), lv_has ls 3 [(0, .ref (qg 0)), (1, .int x), (2, .int (nI i))] → W p l e R s m args below meth c H locs cells slots Q (F0 m 20 ls []))
    : ∀ (fu : Nat) (i : Nat) (hi : i ≤ kc) (ha : imB mk x i = false), kc - i < fu → ∀ ls : Array Slot, lv_has ls 3 [(0, .ref (qg 0)), (1, .int x), (2, .int (nI i))] → W p l e R s m args below meth c H locs cells slots Q (F0 m 2 ls []) := by
  have hg : ∀ w ∈ gw, w.before args s = true := fun w h => hts w (List.mem_cons_of_mem _ h)
  have hpc := hG.1
  have hmc := hG.2.1
  have hkc := hG.2.2.1
  have hgi := hG.2.2.2
  intro fu
  induction fu with
  | zero => intro i hi ha h0; exact absurd h0 (Nat.not_lt_zero _)
  | succ fu ihL =>
    intro i hi ha hfu ls hl
    refine lv_iload_n hx hb dG_isMarked_2 rfl (lv_at hl 2 rfl) ?_
    refine lv_aload_n hx hb dG_isMarked_3 rfl (lv_at hl 0 rfl) ?_
    refine va_get (D := (dC, dI)) (ci := 0) (v := .int (nI kc)) (C := nG) (T := TG) (N := 11) hx hb hg inG hown hK hP 0 rfl rfl 7 (by decide) (hg _ kG_201) (fun _ h9 => h9) rfl dG_isMarked_4 ?_
    refine rn_icmp_ge (tgt := 28) hx hb dG_isMarked_7 (by decide) (by omega) (by omega) (fun c7 => ?_) (fun c7 => ?_)
    · exact kx0 i hi ha (by omega) ls (lv_sub hl [0, 1, 2] rfl)
    · refine lv_aload_n hx hb dG_isMarked_10 rfl (lv_at hl 0 rfl) ?_
      refine va_get (D := (dC, dI)) (ci := 0) (v := .ref (qg 4)) (C := nG) (T := TG) (N := 11) hx hb hg inG hown hK hP 0 rfl rfl 6 (by decide) (hg _ kG_27) (fun _ h9 => h9) rfl dG_isMarked_11 ?_
      refine lv_iload_n hx hb dG_isMarked_14 rfl (lv_at hl 2 rfl) ?_
      refine ga_i (f := mk) hx hb hK hP 4 0 rfl rfl (by omega) (by decide) dG_isMarked_15 ?_
      refine lv_iload_n hx hb dG_isMarked_16 rfl (lv_at hl 1 rfl) ?_
      refine lv_icmp_ne (tgt := 22) hx hb dG_isMarked_17 (by decide) (fun c17 => ?_) (fun c17 => ?_)
      · refine rn_iinc (lv' := [(2, .int (nI (i + 1))), (0, .ref (qg 0)), (1, .int x)]) hx hb dG_isMarked_22 hl (k := 2) rfl (by decide) rfl (fun ls hl => ?_)
        refine lv_goto (tgt := 2) hx hb dG_isMarked_25 (by decide) ?_
        exact ihL (i + 1) (by omega) (by simp [imB, ha, c17]) (by omega) ls (lv_sub hl [1, 2, 0] rfl)
      · exact kx1 i hi ha (by omega) (c17) ls (lv_sub hl [0, 1, 2] rfl)

set_option maxHeartbeats 4000000 in
set_option maxRecDepth 100000 in
theorem ct_G_isMarked (l : Launch) (dC : Nat → ClassId) (dI : Nat → Nat → Nat) (cI cJ cZ : ClassId) (qg q ql qs qr : Nat → Nat) (lv mw mh mk : Nat → Nat) (pc mc kc : Nat) (x : Int32) (hG : bGp lv mw mh mk pc mc kc) : Met l yG_isMarked wsG_isMarked ({ frames := 0, cells := 0, slots := 0, locals := 0 }) (PcR (dC, dI) (wG cI cJ cZ qg q ql qs qr lv mw mh mk pc mc kc) (tyE cI cJ cZ) [.ref (qg 0), .int x]) (vp_Si (fun r => r = bI (imB mk x kc))) 0 0 (fun _ => False) := by
  refine Met.ofW (cc := cG_isMarked) (maxL := 3) (ret := (some .boolean)) (by decide) rfl ?_
  intro p e s m args below meth c s₁ B hml hv
  obtain ⟨rfl, hP, hK, hE⟩ := hv
  have hx := B.exec
  have hb := B.bytes
  have hr := B.returns
  have hts := atoms_spec (ws := wsG_isMarked) B.pre
  have hg : ∀ w ∈ gw, w.before _ s = true := fun w h => hts w (List.mem_cons_of_mem _ h)
  have hown : s.vm.findClass nG = some m.cls := findClass_of_methodNamed B.named
  have hlocks := B.notSynchronized
  have hR : 0 ≤ (headSpec wsG_isMarked ({ frames := 0, cells := 0, slots := 0, locals := 0 })).room.frames ∧ 0 ≤ (headSpec wsG_isMarked ({ frames := 0, cells := 0, slots := 0, locals := 0 })).room.locals := ⟨Nat.le_refl _, Nat.le_refl _⟩
  have hcs : 0 ≤ (headSpec wsG_isMarked ({ frames := 0, cells := 0, slots := 0, locals := 0 })).room.cells ∧ 0 ≤ (headSpec wsG_isMarked ({ frames := 0, cells := 0, slots := 0, locals := 0 })).room.slots := ⟨Nat.zero_le _, Nat.zero_le _⟩
  have hpc := hG.1
  have hmc := hG.2.1
  have hkc := hG.2.2.1
  have hgi := hG.2.2.2
  have hl := lv_entry ([.ref (qg 0), .int x]) (n := 3) (Nat.le_of_ble_eq_true rfl)
  rw [lg_entry_eq]
  generalize (lg_sl ([.ref (qg 0), .int x]) ++ List.replicate (3 - (lg_sl ([.ref (qg 0), .int x])).length) Slot.unset).toArray = ls at hl ⊢
  have hl : lv_has ls 3 [(0, .ref (qg 0)), (1, .int x)] := hl
  refine rn_iconst hx hb 0 dG_isMarked_0 (by decide) ?_
  refine lv_istore_n (lv' := [(2, .int (nI 0)), (0, .ref (qg 0)), (1, .int x)]) hx hb dG_isMarked_1 rfl hl (by decide) rfl (fun ls hl => ?_)
  refine lp_G_marked qg q ql qs qr lv mw mh mk pc mc kc x hG hx hb hml hown hts hK hP hE (by first | exact hR | exact ⟨Nat.le_trans (by decide) hR.1, Nat.le_trans (by decide) hR.2⟩) hcs (fun i hi ha hx0 ls hl => ?_) (fun i hi ha hx0 hx1 ls hl => ?_) ((kc - 0) + 1) 0 (by omega) (rfl) (by omega) ls (lv_sub hl [1, 2, 0] rfl)
  · refine rn_iconst hx hb 0 dG_isMarked_28 (by decide) ?_
    exact W.zret hx hb hr rfl (fun t ht hW => ⟨_, rfl, (by first | (rw [imB_le hx1 kc hx0]; rfl) | (rw [show kc = i from (by omega), ha]; rfl)), ht⟩) (fun _ h9 => nomatch h9) dG_isMarked_29
  · refine rn_iconst hx hb 1 dG_isMarked_20 (by decide) ?_
    exact W.zret hx hb hr rfl (fun t ht hW => ⟨_, rfl, (by first | (rw [imB_le hx1 kc hx0]; rfl) | (rw [show kc = i from (by omega), ha]; rfl)), ht⟩) (fun _ h9 => nomatch h9) dG_isMarked_21


def cdPl (pc : Nat) (x : Int32) : Nat := if wiB x.toInt64 (lN 0) (lN 9) = true then (if pc < 20 then 0 else 2) else 1

set_option maxHeartbeats 4000000 in
set_option maxRecDepth 100000 in
theorem ct_G_place (l : Launch) (hl0 : l.stackTraces = false) (dC : Nat → ClassId) (dI : Nat → Nat → Nat) (cI cJ cZ : ClassId) (qg q ql qs qr : Nat → Nat) (lv mw mh mk : Nat → Nat) (pc mc kc : Nat) (bg en sc wd ht oh bt : Nat → Nat) (co n : Nat) (re : Nat → Nat) (sa fm : Nat) (tr rp rn rs : Nat → Nat) (rk us gl : Nat) (nu : Nat → Nat) (rl : Nat) (x : Int32) (sz : Nat) (hG : bGp lv mw mh mk pc mc kc) : vx_Met l yG_place wsG_place ({ frames := 6, cells := 1, slots := 6, locals := 120 }) (PcX (dC, dI) (wG cI cJ cZ qg q ql qs qr lv mw mh mk pc mc kc ++ wP cI cJ cZ q bg en sc wd ht oh bt co n ++ wL cI cJ cZ ql re sa fm ++ wS cI cJ cZ qs tr rp rn rs rk us gl ++ wR cI cJ cZ qr nu rl) (tyE cI cJ cZ) sz [.ref (qg 0), .int x]) (va_Qi (fun r (_ : Unit) => cdPl pc x = 0 ∧ r = nI pc) (QwB (dC, dI) (wG cI cJ cZ qg q ql qs qr (va_up lv pc (cN x)) mw mh mk (pc + 1) mc kc ++ wP cI cJ cZ q bg en sc wd ht oh bt co n ++ wL cI cJ cZ ql re sa fm ++ wS cI cJ cZ qs tr rp rn rs rk us gl ++ wR cI cJ cZ qr nu rl) (tyE cI cJ cZ) (va_A (wG cI cJ cZ qg q ql qs qr lv mw mh mk pc mc kc ++ wP cI cJ cZ q bg en sc wd ht oh bt co n ++ wL cI cJ cZ ql re sa fm ++ wS cI cJ cZ qs tr rp rn rs rk us gl ++ wR cI cJ cZ qr nu rl) sz)) (va_A (wG cI cJ cZ qg q ql qs qr lv mw mh mk pc mc kc ++ wP cI cJ cZ q bg en sc wd ht oh bt co n ++ wL cI cJ cZ ql re sa fm ++ wS cI cJ cZ qs tr rp rn rs rk us gl ++ wR cI cJ cZ qr nu rl) sz)) (XCw (cdPl pc x) [(1, xIA), (2, xUO)]) 1 6 (va_A (wG cI cJ cZ qg q ql qs qr lv mw mh mk pc mc kc ++ wP cI cJ cZ q bg en sc wd ht oh bt co n ++ wL cI cJ cZ ql re sa fm ++ wS cI cJ cZ qs tr rp rn rs rk us gl ++ wR cI cJ cZ qr nu rl) sz) := by
  refine vx_ofW (cc := cG_place) (maxL := 2) (ret := (some .int)) (by decide) rfl ?_
  intro p e s m args below meth c s₁ B hml hno hv
  obtain ⟨rfl, hsz, hP, hK, hD0, hE, hEX⟩ := hv
  have hx := B.exec
  have hb := B.bytes
  have hr := B.returns
  have hts := atoms_spec (ws := wsG_place) B.pre
  have hg : ∀ w ∈ gw, w.before _ s = true := fun w h => hts w (List.mem_cons_of_mem _ h)
  have hown : s.vm.findClass nG = some m.cls := findClass_of_methodNamed B.named
  have hlocks := B.notSynchronized
  have hR : 6 ≤ (headSpec wsG_place ({ frames := 6, cells := 1, slots := 6, locals := 120 })).room.frames ∧ 120 ≤ (headSpec wsG_place ({ frames := 6, cells := 1, slots := 6, locals := 120 })).room.locals := ⟨Nat.le_refl _, Nat.le_refl _⟩
  have hcs : 0 ≤ (headSpec wsG_place ({ frames := 6, cells := 1, slots := 6, locals := 120 })).room.cells ∧ 0 ≤ (headSpec wsG_place ({ frames := 6, cells := 1, slots := 6, locals := 120 })).room.slots := ⟨Nat.zero_le _, Nat.zero_le _⟩
  subst hsz
  have hD := hD0.self (sz := s.heap.size)
  generalize hAe : va_A (wG cI cJ cZ qg q ql qs qr lv mw mh mk pc mc kc ++ wP cI cJ cZ q bg en sc wd ht oh bt co n ++ wL cI cJ cZ ql re sa fm ++ wS cI cJ cZ qs tr rp rn rs rk us gl ++ wR cI cJ cZ qr nu rl) s.heap.size = A at hD ⊢
  have hA : ∀ q : Nat, s.heap.size ≤ q → A q := fun q h => by rw [← hAe]; exact Or.inr h
  obtain ⟨H, hH⟩ : ∃ H, H = s.heap := ⟨_, rfl⟩
  have hS : va_S A s.heap H [] := by rw [hH]; exact va_S.rf
  rw [← hH] at hP ⊢
  have hpc := hG.1
  have hmc := hG.2.1
  have hkc := hG.2.2.1
  have hgi := hG.2.2.2
  have hl := lv_entry ([.ref (qg 0), .int x]) (n := 2) (Nat.le_of_ble_eq_true rfl)
  rw [lg_entry_eq]
  generalize (lg_sl ([.ref (qg 0), .int x]) ++ List.replicate (2 - (lg_sl ([.ref (qg 0), .int x])).length) Slot.unset).toArray = ls at hl ⊢
  have hl : lv_has ls 2 [(0, .ref (qg 0)), (1, .int x)] := hl
  refine lv_iload_n hx hb dG_place_0 rfl (lv_at hl 1 rfl) ?_
  refine lv_i2l (v := (x).toInt64) hx hb dG_place_1 rfl ?_
  refine rn_lconst hx hb 0 dG_place_2 rfl ?_
  refine lv_ldc2 (v := 9) hx hb hown (hg _ kG_51) dG_place_3 ?_
  refine tp_l (y := lN 9) rfl ?_
  refine cpS_i (As := [.long ((x).toInt64), .long (lN 0), .long (lN 9)]) (rest := []) (post := fun r : Int32 => r = bI (wiB ((x).toInt64) (lN 0) (lN 9))) ⟨hx, hb, hml, hown, hts⟩ (ct_G_within l dC dI cI cJ cZ ((x).toInt64) (lN 0) (lN 9) ) (va_cwS 3 hts (gs kG_53 ks_G_within kin_G kc_G_within) rfl rfl rfl (by decide +kernel) ⟨Nat.le_trans (by decide) hR.1, Nat.le_trans (by decide) hR.2⟩) (hP.sub (ws' := []) [] rfl) hK hE rfl hl.1 rfl (Nat.le_of_ble_eq_true rfl) dG_place_6 hcs (fun r hr => ?_)
  subst hr
  refine rb_ne (tgt := 22) hx hb dG_place_9 (by decide) (fun c9 => ?_) (fun c9 => ?_)
  · obtain ⟨j, hj1, hj2, ej⟩ := wi_of c9 (by decide) (by decide)
    have hl : lv_has ls 2 [(0, .ref (qg 0)), (1, .int (nI j))] := by rw [ej] at hl; exact hl
    refine lv_aload_n hx hb dG_place_22 rfl (lv_at hl 0 rfl) ?_
    refine va_get (D := (dC, dI)) (ci := 0) (v := .int (nI pc)) (C := nG) (T := TG) (N := 11) hx hb hg inG hown hK hP 0 rfl rfl 1 (by decide) (hg _ kG_64) (fun _ h9 => h9) rfl dG_place_23 ?_
    refine rn_bipush hx hb 20 dG_place_26 (by decide) ?_
    refine rn_icmp_lt (tgt := 41) hx hb dG_place_28 (by decide) (by omega) (by omega) (fun c28 => ?_) (fun c28 => ?_)
    · refine lv_aload_n hx hb dG_place_41 rfl (lv_at hl 0 rfl) ?_
      refine va_get (D := (dC, dI)) (ci := 0) (v := .ref (qg 1)) (C := nG) (T := TG) (N := 11) hx hb hg inG hown hK hP 0 rfl rfl 0 (by decide) (hg _ kG_9) (fun _ h9 => h9) rfl dG_place_42 ?_
      refine lv_aload_n hx hb dG_place_45 rfl (lv_at hl 0 rfl) ?_
      refine va_get (D := (dC, dI)) (ci := 0) (v := .int (nI pc)) (C := nG) (T := TG) (N := 11) hx hb hg inG hown hK hP 0 rfl rfl 1 (by decide) (hg _ kG_64) (fun _ h9 => h9) rfl dG_place_46 ?_
      refine lv_iload_n hx hb dG_place_49 rfl (lv_at hl 1 rfl) ?_
      refine sa_i (f := lv) (v := j) hx hb hK hP hD hS 1 0 rfl rfl (by omega) (by decide) dG_place_50 (fun H locs hP hD hS => ?_)
      have hP : va_P (dC, dI) vwCl (wG cI cJ cZ qg q ql qs qr (va_up lv pc j) mw mh mk pc mc kc ++ wP cI cJ cZ q bg en sc wd ht oh bt co n ++ wL cI cJ cZ ql re sa fm ++ wS cI cJ cZ qs tr rp rn rs rk us gl ++ wR cI cJ cZ qr nu rl) H := hP
      have hD : va_D A (wG cI cJ cZ qg q ql qs qr (va_up lv pc j) mw mh mk pc mc kc ++ wP cI cJ cZ q bg en sc wd ht oh bt co n ++ wL cI cJ cZ ql re sa fm ++ wS cI cJ cZ qs tr rp rn rs rk us gl ++ wR cI cJ cZ qr nu rl) := hD
      refine lv_aload_n hx hb dG_place_51 rfl (lv_at hl 0 rfl) ?_
      refine lv_dup hx hb dG_place_52 rfl ?_
      refine va_get (D := (dC, dI)) (ci := 0) (v := .int (nI pc)) (C := nG) (T := TG) (N := 11) hx hb hg inG hown hK hP 0 rfl rfl 1 (by decide) (hg _ kG_64) (fun _ h9 => h9) rfl dG_place_53 ?_
      refine rn_iconst hx hb 1 dG_place_56 (by decide) ?_
      refine rn_iadd hx hb dG_place_57 ?_
      refine va_put (D := (dC, dI)) (ci := 0) (v := .int (nI (pc + 1))) (ty := .int) (C := nG) (T := TG) (N := 11) hx hb hg inG tG tG_ok nmG hown hK hP hD hS 0 rfl rfl 1 (by decide) (hg _ kG_64) (fun _ h9 => h9) rfl (by decide +kernel) rfl rfl (Nat.le_of_ble_eq_true rfl) dG_place_58 (fun H locs hP hD hS => ?_)
      have hP : va_P (dC, dI) vwCl (wG cI cJ cZ qg q ql qs qr (va_up lv pc j) mw mh mk (pc + 1) mc kc ++ wP cI cJ cZ q bg en sc wd ht oh bt co n ++ wL cI cJ cZ ql re sa fm ++ wS cI cJ cZ qs tr rp rn rs rk us gl ++ wR cI cJ cZ qr nu rl) H := hP
      have hD : va_D A (wG cI cJ cZ qg q ql qs qr (va_up lv pc j) mw mh mk (pc + 1) mc kc ++ wP cI cJ cZ q bg en sc wd ht oh bt co n ++ wL cI cJ cZ ql re sa fm ++ wS cI cJ cZ qs tr rp rn rs rk us gl ++ wR cI cJ cZ qr nu rl) := hD
      refine lv_aload_n hx hb dG_place_61 rfl (lv_at hl 0 rfl) ?_
      refine va_get (D := (dC, dI)) (ci := 0) (v := .int (nI (pc + 1))) (C := nG) (T := TG) (N := 11) hx hb hg inG hown hK hP 0 rfl rfl 1 (by decide) (hg _ kG_64) (fun _ h9 => h9) rfl dG_place_62 ?_
      refine rn_iconst hx hb 1 dG_place_65 (by decide) ?_
      refine rn_isub hx hb dG_place_66 (by omega) ?_
      have hP9 : va_P (dC, dI) vwCl (wG cI cJ cZ qg q ql qs qr (va_up lv pc (cN x)) mw mh mk (pc + 1) mc kc ++ wP cI cJ cZ q bg en sc wd ht oh bt co n ++ wL cI cJ cZ ql re sa fm ++ wS cI cJ cZ qs tr rp rn rs rk us gl ++ wR cI cJ cZ qr nu rl) H := by rw [ej, cN_n (show j < 2147483648 by omega)]; exact hP
      have hD9 : va_D A (wG cI cJ cZ qg q ql qs qr (va_up lv pc (cN x)) mw mh mk (pc + 1) mc kc ++ wP cI cJ cZ q bg en sc wd ht oh bt co n ++ wL cI cJ cZ ql re sa fm ++ wS cI cJ cZ qs tr rp rn rs rk us gl ++ wR cI cJ cZ qr nu rl) := by rw [ej, cN_n (show j < 2147483648 by omega)]; exact hD
      refine W.widen (k := 1) (n := 6) (by omega) (by omega) ?_
      refine vx_ret ?_
      exact W.iret hx hb hr (fun t ht hW => ⟨⟨_, (), rfl, ⟨(by simp [cdPl, c9, c28]), (congrArg nI (by omega))⟩, by rw [ht]; exact hP9, va_K.moved hW.alike hK, hD9⟩, hS.F ht⟩) hS.2.2 dG_place_67
    · subst hH
      exact thr hx hb hl0 hown hEX hg kG_68 kin_UnsupportedOperationException at_UO (by decide +kernel) (is := 70) (text := "no more places") (by decide) (hl.1.trans hml.symm) dG_place_31 dG_place_34 dG_place_35 dG_place_37 dG_place_40 hno (Nat.lt_of_lt_of_le (by decide) hR.1) (Nat.le_trans (Nat.le_of_ble_eq_true rfl) hR.2) (Nat.le_refl _) (Nat.le_refl _) hlocks (by simp [cdPl, c9, c28])
  · subst hH
    exact thr hx hb hl0 hown hEX hg kG_57 kin_IllegalArgumentException at_IA (by decide +kernel) (is := 59) (text := "no such level") (by decide) (hl.1.trans hml.symm) dG_place_12 dG_place_15 dG_place_16 dG_place_18 dG_place_21 hno (Nat.lt_of_lt_of_le (by decide) hR.1) (Nat.le_trans (Nat.le_of_ble_eq_true rfl) hR.2) (Nat.le_refl _) (Nat.le_refl _) hlocks (by simp [cdPl, c9])

def cdLi (n : Nat) (x w : Int32) (h : Int64) : Nat := if inB x n = true ∧ szB w.toInt64 h = true then 0 else 1
theorem sz_of {w : Int32} {h : Int64} (q : szB w.toInt64 h = true) : ∃ a b : Nat, 1 ≤ a ∧ a ≤ 10000 ∧ w = nI a ∧ 1 ≤ b ∧ b ≤ 10000 ∧ h = lN b := by
  unfold szB at q
  rw [Bool.and_eq_true] at q
  obtain ⟨a, a1, a2, a3⟩ := wi_of q.1 (by decide) (by decide)
  obtain ⟨b, b1, b2, b3⟩ := wl_of q.2 (by decide) (by decide)
  exact ⟨a, b, a1, a2, a3, b1, b2, b3⟩

set_option maxHeartbeats 4000000 in
set_option maxRecDepth 100000 in
theorem ct_G_limit (l : Launch) (hl0 : l.stackTraces = false) (dC : Nat → ClassId) (dI : Nat → Nat → Nat) (cI cJ cZ : ClassId) (qg q ql qs qr : Nat → Nat) (lv mw mh mk : Nat → Nat) (pc mc kc : Nat) (bg en sc wd ht oh bt : Nat → Nat) (co n : Nat) (re : Nat → Nat) (sa fm : Nat) (tr rp rn rs : Nat → Nat) (rk us gl : Nat) (nu : Nat → Nat) (rl : Nat) (x w : Int32) (h : Int64) (sz : Nat) (hG : bGp lv mw mh mk pc mc kc) (hB : bP bg en sc wd ht oh bt co n) : vx_Met l yG_limit wsG_limit ({ frames := 6, cells := 1, slots := 6, locals := 120 }) (PcX (dC, dI) (wG cI cJ cZ qg q ql qs qr lv mw mh mk pc mc kc ++ wP cI cJ cZ q bg en sc wd ht oh bt co n ++ wL cI cJ cZ ql re sa fm ++ wS cI cJ cZ qs tr rp rn rs rk us gl ++ wR cI cJ cZ qr nu rl) (tyE cI cJ cZ) sz [.ref (qg 0), .int x, .int w, .long h]) (va_Qv (fun _ : Unit => cdLi n x w h = 0) (QwB (dC, dI) (wG cI cJ cZ qg q ql qs qr lv mw mh mk pc mc kc ++ wP cI cJ cZ q bg en sc (va_up wd (cN x) (cN w)) (va_up ht (cN x) (cLn h)) oh bt co n ++ wL cI cJ cZ ql re sa fm ++ wS cI cJ cZ qs tr rp rn rs rk us gl ++ wR cI cJ cZ qr nu rl) (tyE cI cJ cZ) (va_A (wG cI cJ cZ qg q ql qs qr lv mw mh mk pc mc kc ++ wP cI cJ cZ q bg en sc wd ht oh bt co n ++ wL cI cJ cZ ql re sa fm ++ wS cI cJ cZ qs tr rp rn rs rk us gl ++ wR cI cJ cZ qr nu rl) sz)) (va_A (wG cI cJ cZ qg q ql qs qr lv mw mh mk pc mc kc ++ wP cI cJ cZ q bg en sc wd ht oh bt co n ++ wL cI cJ cZ ql re sa fm ++ wS cI cJ cZ qs tr rp rn rs rk us gl ++ wR cI cJ cZ qr nu rl) sz)) (XCw (cdLi n x w h) [(1, xIA)]) 1 6 (va_A (wG cI cJ cZ qg q ql qs qr lv mw mh mk pc mc kc ++ wP cI cJ cZ q bg en sc wd ht oh bt co n ++ wL cI cJ cZ ql re sa fm ++ wS cI cJ cZ qs tr rp rn rs rk us gl ++ wR cI cJ cZ qr nu rl) sz) := by
  refine vx_ofW (cc := cG_limit) (maxL := 5) (ret := none) (by decide) rfl ?_
  intro p e s m args below meth c s₁ B hml hno hv
  obtain ⟨rfl, hsz, hP, hK, hD0, hE, hEX⟩ := hv
  have hx := B.exec
  have hb := B.bytes
  have hr := B.returns
  have hts := atoms_spec (ws := wsG_limit) B.pre
  have hg : ∀ w ∈ gw, w.before _ s = true := fun w h => hts w (List.mem_cons_of_mem _ h)
  have hown : s.vm.findClass nG = some m.cls := findClass_of_methodNamed B.named
  have hlocks := B.notSynchronized
  have hR : 6 ≤ (headSpec wsG_limit ({ frames := 6, cells := 1, slots := 6, locals := 120 })).room.frames ∧ 120 ≤ (headSpec wsG_limit ({ frames := 6, cells := 1, slots := 6, locals := 120 })).room.locals := ⟨Nat.le_refl _, Nat.le_refl _⟩
  have hcs : 0 ≤ (headSpec wsG_limit ({ frames := 6, cells := 1, slots := 6, locals := 120 })).room.cells ∧ 0 ≤ (headSpec wsG_limit ({ frames := 6, cells := 1, slots := 6, locals := 120 })).room.slots := ⟨Nat.zero_le _, Nat.zero_le _⟩
  subst hsz
  have hD := hD0.self (sz := s.heap.size)
  generalize hAe : va_A (wG cI cJ cZ qg q ql qs qr lv mw mh mk pc mc kc ++ wP cI cJ cZ q bg en sc wd ht oh bt co n ++ wL cI cJ cZ ql re sa fm ++ wS cI cJ cZ qs tr rp rn rs rk us gl ++ wR cI cJ cZ qr nu rl) s.heap.size = A at hD ⊢
  have hA : ∀ q : Nat, s.heap.size ≤ q → A q := fun q h => by rw [← hAe]; exact Or.inr h
  obtain ⟨H, hH⟩ : ∃ H, H = s.heap := ⟨_, rfl⟩
  have hS : va_S A s.heap H [] := by rw [hH]; exact va_S.rf
  rw [← hH] at hP ⊢
  have hpc := hG.1
  have hmc := hG.2.1
  have hkc := hG.2.2.1
  have hgi := hG.2.2.2
  have hbi := hB.2.2
  have hn := hB.1
  have hco := hB.2.1
  have hl := lv_entry ([.ref (qg 0), .int x, .int w, .long h]) (n := 5) (Nat.le_of_ble_eq_true rfl)
  rw [lg_entry_eq]
  generalize (lg_sl ([.ref (qg 0), .int x, .int w, .long h]) ++ List.replicate (5 - (lg_sl ([.ref (qg 0), .int x, .int w, .long h])).length) Slot.unset).toArray = ls at hl ⊢
  have hl : lv_has ls 5 [(0, .ref (qg 0)), (1, .int x), (2, .int w), (3, .long h)] := hl
  refine lv_aload_n hx hb dG_limit_0 rfl (lv_at hl 0 rfl) ?_
  refine va_get (D := (dC, dI)) (ci := 0) (v := .ref (q 0)) (C := nG) (T := TG) (N := 11) hx hb hg inG hown hK hP 0 rfl rfl 2 (by decide) (hg _ kG_16) (fun _ h9 => h9) rfl dG_limit_1 ?_
  refine lv_iload_n hx hb dG_limit_4 rfl (lv_at hl 1 rfl) ?_
  refine cpV_i (b := (q 0)) (C := nP) (As := [.int x]) (rest := []) (post := fun r : Int32 => r = bI (inB x n)) ⟨hx, hb, hml, hown, hts⟩ (ct_P_has l dC dI cI cJ cZ q bg en sc wd ht oh bt co n x (hB)) (cwV 1 hts (gv kG_103 ki_P_has ksel_P_has kin_P kc_P_has) rfl rfl rfl (by decide +kernel) ⟨Nat.le_trans (by decide) hR.1, Nat.le_trans (by decide) hR.2⟩) (va_recv hK hP (ci := 1) (q0 := 5) rfl rfl) (hP.sub (ws' := (wP cI cJ cZ q bg en sc wd ht oh bt co n)) [5, 6, 7, 8, 9, 10, 11, 12] rfl) hK hE rfl hl.1 rfl (Nat.le_of_ble_eq_true rfl) dG_limit_5 hcs (fun r hr => ?_)
  subst hr
  refine rb_eq (tgt := 20) hx hb dG_limit_8 (by decide) (fun c8 => ?_) (fun c8 => ?_)
  · subst hH
    exact thr hx hb hl0 hown hEX hg kG_57 kin_IllegalArgumentException at_IA (by decide +kernel) (is := 110) (text := "no such piece, or a limit out of range") (by decide) (hl.1.trans hml.symm) dG_limit_20 dG_limit_23 dG_limit_24 dG_limit_26 dG_limit_29 hno (Nat.lt_of_lt_of_le (by decide) hR.1) (Nat.le_trans (Nat.le_of_ble_eq_true rfl) hR.2) (Nat.le_refl _) (Nat.le_refl _) hlocks (by simp [cdLi, c8])
  · refine lv_iload_n hx hb dG_limit_11 rfl (lv_at hl 2 rfl) ?_
    refine lv_i2l (v := (w).toInt64) hx hb dG_limit_12 rfl ?_
    refine lv_lload_n hx hb dG_limit_13 rfl (lv_at hl 3 rfl) ?_
    refine cpS_i (As := [.long ((w).toInt64), .long h]) (rest := []) (post := fun r : Int32 => r = bI (szB ((w).toInt64) h)) ⟨hx, hb, hml, hown, hts⟩ (ct_G_isSize l dC dI cI cJ cZ ((w).toInt64) h ) (va_cwS 2 hts (gs kG_106 ks_G_isSize kin_G kc_G_isSize) rfl rfl rfl (by decide +kernel) ⟨Nat.le_trans (by decide) hR.1, Nat.le_trans (by decide) hR.2⟩) (hP.sub (ws' := []) [] rfl) hK hE rfl hl.1 rfl (Nat.le_of_ble_eq_true rfl) dG_limit_14 hcs (fun r hr => ?_)
    subst hr
    refine rb_ne (tgt := 30) hx hb dG_limit_17 (by decide) (fun c17 => ?_) (fun c17 => ?_)
    · obtain ⟨j, hj, ej⟩ := in_of c8 (by omega)
      obtain ⟨a, b, ha1, ha2, ea, hb1, hb2, eb⟩ := sz_of c17
      have hl : lv_has ls 5 [(0, .ref (qg 0)), (1, .int (nI j)), (2, .int (nI a)), (3, .long (lN b))] := by rw [ej, ea, eb] at hl; exact hl
      refine lv_aload_n hx hb dG_limit_30 rfl (lv_at hl 0 rfl) ?_
      refine va_get (D := (dC, dI)) (ci := 0) (v := .ref (q 0)) (C := nG) (T := TG) (N := 11) hx hb hg inG hown hK hP 0 rfl rfl 2 (by decide) (hg _ kG_16) (fun _ h9 => h9) rfl dG_limit_31 ?_
      refine va_get (D := (dC, dI)) (ci := 1) (v := .ref (q 4)) (C := nP) (T := TP) (N := 9) hx hb hg inP hown hK hP 5 rfl rfl 3 (by decide) (hg _ kG_112) (fun _ h9 => h9) rfl dG_limit_34 ?_
      refine lv_iload_n hx hb dG_limit_37 rfl (lv_at hl 1 rfl) ?_
      refine lv_iload_n hx hb dG_limit_38 rfl (lv_at hl 2 rfl) ?_
      refine sa_i (f := wd) (v := a) hx hb hK hP hD hS 9 0 rfl rfl (by omega) (by decide) dG_limit_39 (fun H locs hP hD hS => ?_)
      have hP : va_P (dC, dI) vwCl (wG cI cJ cZ qg q ql qs qr lv mw mh mk pc mc kc ++ wP cI cJ cZ q bg en sc (va_up wd j a) ht oh bt co n ++ wL cI cJ cZ ql re sa fm ++ wS cI cJ cZ qs tr rp rn rs rk us gl ++ wR cI cJ cZ qr nu rl) H := hP
      have hD : va_D A (wG cI cJ cZ qg q ql qs qr lv mw mh mk pc mc kc ++ wP cI cJ cZ q bg en sc (va_up wd j a) ht oh bt co n ++ wL cI cJ cZ ql re sa fm ++ wS cI cJ cZ qs tr rp rn rs rk us gl ++ wR cI cJ cZ qr nu rl) := hD
      refine lv_aload_n hx hb dG_limit_40 rfl (lv_at hl 0 rfl) ?_
      refine va_get (D := (dC, dI)) (ci := 0) (v := .ref (q 0)) (C := nG) (T := TG) (N := 11) hx hb hg inG hown hK hP 0 rfl rfl 2 (by decide) (hg _ kG_16) (fun _ h9 => h9) rfl dG_limit_41 ?_
      refine va_get (D := (dC, dI)) (ci := 1) (v := .ref (q 5)) (C := nP) (T := TP) (N := 9) hx hb hg inP hown hK hP 5 rfl rfl 4 (by decide) (hg _ kG_115) (fun _ h9 => h9) rfl dG_limit_44 ?_
      refine lv_iload_n hx hb dG_limit_47 rfl (lv_at hl 1 rfl) ?_
      refine lv_lload_n hx hb dG_limit_48 rfl (lv_at hl 3 rfl) ?_
      refine sa_l (f := ht) (v := b) hx hb hK hP hD hS 10 1 rfl rfl (by omega) (by decide) dG_limit_49 (fun H locs hP hD hS => ?_)
      have hP : va_P (dC, dI) vwCl (wG cI cJ cZ qg q ql qs qr lv mw mh mk pc mc kc ++ wP cI cJ cZ q bg en sc (va_up wd j a) (va_up ht j b) oh bt co n ++ wL cI cJ cZ ql re sa fm ++ wS cI cJ cZ qs tr rp rn rs rk us gl ++ wR cI cJ cZ qr nu rl) H := hP
      have hD : va_D A (wG cI cJ cZ qg q ql qs qr lv mw mh mk pc mc kc ++ wP cI cJ cZ q bg en sc (va_up wd j a) (va_up ht j b) oh bt co n ++ wL cI cJ cZ ql re sa fm ++ wS cI cJ cZ qs tr rp rn rs rk us gl ++ wR cI cJ cZ qr nu rl) := hD
      have hP9 : va_P (dC, dI) vwCl (wG cI cJ cZ qg q ql qs qr lv mw mh mk pc mc kc ++ wP cI cJ cZ q bg en sc (va_up wd (cN x) (cN w)) (va_up ht (cN x) (cLn h)) oh bt co n ++ wL cI cJ cZ ql re sa fm ++ wS cI cJ cZ qs tr rp rn rs rk us gl ++ wR cI cJ cZ qr nu rl) H := by rw [ej, ea, eb, cN_n (show j < 2147483648 by omega), cN_n (show a < 2147483648 by omega), cL_n (show b < 9223372036854775808 by omega)]; exact hP
      have hD9 : va_D A (wG cI cJ cZ qg q ql qs qr lv mw mh mk pc mc kc ++ wP cI cJ cZ q bg en sc (va_up wd (cN x) (cN w)) (va_up ht (cN x) (cLn h)) oh bt co n ++ wL cI cJ cZ ql re sa fm ++ wS cI cJ cZ qs tr rp rn rs rk us gl ++ wR cI cJ cZ qr nu rl) := by rw [ej, ea, eb, cN_n (show j < 2147483648 by omega), cN_n (show a < 2147483648 by omega), cL_n (show b < 9223372036854775808 by omega)]; exact hD
      refine W.widen (k := 1) (n := 6) (by omega) (by omega) ?_
      refine vx_ret ?_
      exact W.vret hx hb hr (fun t ht hW => ⟨⟨(), rfl, (by simp [cdLi, c8, c17]), by rw [ht]; exact hP9, va_K.moved hW.alike hK, hD9⟩, hS.F ht⟩) hS.2.2 dG_limit_50
    · subst hH
      exact thr hx hb hl0 hown hEX hg kG_57 kin_IllegalArgumentException at_IA (by decide +kernel) (is := 110) (text := "no such piece, or a limit out of range") (by decide) (hl.1.trans hml.symm) dG_limit_20 dG_limit_23 dG_limit_24 dG_limit_26 dG_limit_29 hno (Nat.lt_of_lt_of_le (by decide) hR.1) (Nat.le_trans (Nat.le_of_ble_eq_true rfl) hR.2) (Nat.le_refl _) (Nat.le_refl _) hlocks (by simp [cdLi, c8, c17])

def cdMo (mc : Nat) (w : Int32) (h : Int64) : Nat := if szB w.toInt64 h = true then (if mc < 6 then 0 else 2) else 1

set_option maxHeartbeats 4000000 in
set_option maxRecDepth 100000 in
theorem ct_G_mover (l : Launch) (hl0 : l.stackTraces = false) (dC : Nat → ClassId) (dI : Nat → Nat → Nat) (cI cJ cZ : ClassId) (qg q ql qs qr : Nat → Nat) (lv mw mh mk : Nat → Nat) (pc mc kc : Nat) (bg en sc wd ht oh bt : Nat → Nat) (co n : Nat) (re : Nat → Nat) (sa fm : Nat) (tr rp rn rs : Nat → Nat) (rk us gl : Nat) (nu : Nat → Nat) (rl : Nat) (w : Int32) (h : Int64) (sz : Nat) (hG : bGp lv mw mh mk pc mc kc) (hB : bP bg en sc wd ht oh bt co n) : vx_Met l yG_mover wsG_mover ({ frames := 6, cells := 1, slots := 6, locals := 120 }) (PcX (dC, dI) (wG cI cJ cZ qg q ql qs qr lv mw mh mk pc mc kc ++ wP cI cJ cZ q bg en sc wd ht oh bt co n ++ wL cI cJ cZ ql re sa fm ++ wS cI cJ cZ qs tr rp rn rs rk us gl ++ wR cI cJ cZ qr nu rl) (tyE cI cJ cZ) sz [.ref (qg 0), .int w, .long h]) (va_Qi (fun r (_ : Unit) => cdMo mc w h = 0 ∧ r = (if afB wd ht (cN w) (cLn h) n = true then nI mc else -1)) (QwB (dC, dI) (wG cI cJ cZ qg q ql qs qr lv (if afB wd ht (cN w) (cLn h) n = true then va_up mw mc (cN w) else mw) (if afB wd ht (cN w) (cLn h) n = true then va_up mh mc (cLn h) else mh) mk pc (if afB wd ht (cN w) (cLn h) n = true then mc + 1 else mc) kc ++ wP cI cJ cZ q bg en sc wd ht oh bt co n ++ wL cI cJ cZ ql re sa fm ++ wS cI cJ cZ qs tr rp rn rs rk us gl ++ wR cI cJ cZ qr nu rl) (tyE cI cJ cZ) (va_A (wG cI cJ cZ qg q ql qs qr lv mw mh mk pc mc kc ++ wP cI cJ cZ q bg en sc wd ht oh bt co n ++ wL cI cJ cZ ql re sa fm ++ wS cI cJ cZ qs tr rp rn rs rk us gl ++ wR cI cJ cZ qr nu rl) sz)) (va_A (wG cI cJ cZ qg q ql qs qr lv mw mh mk pc mc kc ++ wP cI cJ cZ q bg en sc wd ht oh bt co n ++ wL cI cJ cZ ql re sa fm ++ wS cI cJ cZ qs tr rp rn rs rk us gl ++ wR cI cJ cZ qr nu rl) sz)) (XCw (cdMo mc w h) [(1, xIA), (2, xUO)]) 1 6 (va_A (wG cI cJ cZ qg q ql qs qr lv mw mh mk pc mc kc ++ wP cI cJ cZ q bg en sc wd ht oh bt co n ++ wL cI cJ cZ ql re sa fm ++ wS cI cJ cZ qs tr rp rn rs rk us gl ++ wR cI cJ cZ qr nu rl) sz) := by
  refine vx_ofW (cc := cG_mover) (maxL := 4) (ret := (some .int)) (by decide) rfl ?_
  intro p e s m args below meth c s₁ B hml hno hv
  obtain ⟨rfl, hsz, hP, hK, hD0, hE, hEX⟩ := hv
  have hx := B.exec
  have hb := B.bytes
  have hr := B.returns
  have hts := atoms_spec (ws := wsG_mover) B.pre
  have hg : ∀ w ∈ gw, w.before _ s = true := fun w h => hts w (List.mem_cons_of_mem _ h)
  have hown : s.vm.findClass nG = some m.cls := findClass_of_methodNamed B.named
  have hlocks := B.notSynchronized
  have hR : 6 ≤ (headSpec wsG_mover ({ frames := 6, cells := 1, slots := 6, locals := 120 })).room.frames ∧ 120 ≤ (headSpec wsG_mover ({ frames := 6, cells := 1, slots := 6, locals := 120 })).room.locals := ⟨Nat.le_refl _, Nat.le_refl _⟩
  have hcs : 0 ≤ (headSpec wsG_mover ({ frames := 6, cells := 1, slots := 6, locals := 120 })).room.cells ∧ 0 ≤ (headSpec wsG_mover ({ frames := 6, cells := 1, slots := 6, locals := 120 })).room.slots := ⟨Nat.zero_le _, Nat.zero_le _⟩
  subst hsz
  have hD := hD0.self (sz := s.heap.size)
  generalize hAe : va_A (wG cI cJ cZ qg q ql qs qr lv mw mh mk pc mc kc ++ wP cI cJ cZ q bg en sc wd ht oh bt co n ++ wL cI cJ cZ ql re sa fm ++ wS cI cJ cZ qs tr rp rn rs rk us gl ++ wR cI cJ cZ qr nu rl) s.heap.size = A at hD ⊢
  have hA : ∀ q : Nat, s.heap.size ≤ q → A q := fun q h => by rw [← hAe]; exact Or.inr h
  obtain ⟨H, hH⟩ : ∃ H, H = s.heap := ⟨_, rfl⟩
  have hS : va_S A s.heap H [] := by rw [hH]; exact va_S.rf
  rw [← hH] at hP ⊢
  have hpc := hG.1
  have hmc := hG.2.1
  have hkc := hG.2.2.1
  have hgi := hG.2.2.2
  have hbi := hB.2.2
  have hn := hB.1
  have hco := hB.2.1
  have hl := lv_entry ([.ref (qg 0), .int w, .long h]) (n := 4) (Nat.le_of_ble_eq_true rfl)
  rw [lg_entry_eq]
  generalize (lg_sl ([.ref (qg 0), .int w, .long h]) ++ List.replicate (4 - (lg_sl ([.ref (qg 0), .int w, .long h])).length) Slot.unset).toArray = ls at hl ⊢
  have hl : lv_has ls 4 [(0, .ref (qg 0)), (1, .int w), (2, .long h)] := hl
  refine lv_iload_n hx hb dG_mover_0 rfl (lv_at hl 1 rfl) ?_
  refine lv_i2l (v := (w).toInt64) hx hb dG_mover_1 rfl ?_
  refine lv_lload_n hx hb dG_mover_2 rfl (lv_at hl 2 rfl) ?_
  refine cpS_i (As := [.long ((w).toInt64), .long h]) (rest := []) (post := fun r : Int32 => r = bI (szB ((w).toInt64) h)) ⟨hx, hb, hml, hown, hts⟩ (ct_G_isSize l dC dI cI cJ cZ ((w).toInt64) h ) (va_cwS 2 hts (gs kG_106 ks_G_isSize kin_G kc_G_isSize) rfl rfl rfl (by decide +kernel) ⟨Nat.le_trans (by decide) hR.1, Nat.le_trans (by decide) hR.2⟩) (hP.sub (ws' := []) [] rfl) hK hE rfl hl.1 rfl (Nat.le_of_ble_eq_true rfl) dG_mover_3 hcs (fun r hr => ?_)
  subst hr
  refine rb_ne (tgt := 19) hx hb dG_mover_6 (by decide) (fun c6 => ?_) (fun c6 => ?_)
  · obtain ⟨a, b, ha1, ha2, ea, hb1, hb2, eb⟩ := sz_of c6
    have e1 : cN w = a := by rw [ea]; exact cN_n (by omega)
    have e2 : cLn h = b := by rw [eb]; exact cL_n (by omega)
    have hl : lv_has ls 4 [(0, .ref (qg 0)), (1, .int (nI a)), (2, .long (lN b))] := by rw [ea, eb] at hl; exact hl
    refine lv_aload_n hx hb dG_mover_19 rfl (lv_at hl 0 rfl) ?_
    refine va_get (D := (dC, dI)) (ci := 0) (v := .int (nI mc)) (C := nG) (T := TG) (N := 11) hx hb hg inG hown hK hP 0 rfl rfl 5 (by decide) (hg _ kG_120) (fun _ h9 => h9) rfl dG_mover_20 ?_
    refine rn_bipush hx hb 6 dG_mover_23 (by decide) ?_
    refine rn_icmp_lt (tgt := 38) hx hb dG_mover_25 (by decide) (by omega) (by omega) (fun c25 => ?_) (fun c25 => ?_)
    · refine lv_aload_n hx hb dG_mover_38 rfl (lv_at hl 0 rfl) ?_
      refine va_get (D := (dC, dI)) (ci := 0) (v := .ref (q 0)) (C := nG) (T := TG) (N := 11) hx hb hg inG hown hK hP 0 rfl rfl 2 (by decide) (hg _ kG_16) (fun _ h9 => h9) rfl dG_mover_39 ?_
      refine lv_iload_n hx hb dG_mover_42 rfl (lv_at hl 1 rfl) ?_
      refine lv_lload_n hx hb dG_mover_43 rfl (lv_at hl 2 rfl) ?_
      refine cpV_i (b := (q 0)) (C := nP) (As := [.int (nI a), .long (lN b)]) (rest := []) (post := fun r : Int32 => r = bI (afB wd ht a b n)) ⟨hx, hb, hml, hown, hts⟩ (ct_P_anyFits l dC dI cI cJ cZ q bg en sc wd ht oh bt co n a b (hB) (by omega) (by omega)) (cwV 2 hts (gv kG_125 ki_P_anyFits ksel_P_anyFits kin_P kc_P_anyFits) rfl rfl rfl (by decide +kernel) ⟨Nat.le_trans (by decide) hR.1, Nat.le_trans (by decide) hR.2⟩) (va_recv hK hP (ci := 1) (q0 := 5) rfl rfl) (hP.sub (ws' := (wP cI cJ cZ q bg en sc wd ht oh bt co n)) [5, 6, 7, 8, 9, 10, 11, 12] rfl) hK hE rfl hl.1 rfl (Nat.le_of_ble_eq_true rfl) dG_mover_44 hcs (fun r hr => ?_)
      subst hr
      refine rb_ne (tgt := 52) hx hb dG_mover_47 (by decide) (fun c47 => ?_) (fun c47 => ?_)
      · refine lv_aload_n hx hb dG_mover_52 rfl (lv_at hl 0 rfl) ?_
        refine va_get (D := (dC, dI)) (ci := 0) (v := .ref (qg 2)) (C := nG) (T := TG) (N := 11) hx hb hg inG hown hK hP 0 rfl rfl 3 (by decide) (hg _ kG_20) (fun _ h9 => h9) rfl dG_mover_53 ?_
        refine lv_aload_n hx hb dG_mover_56 rfl (lv_at hl 0 rfl) ?_
        refine va_get (D := (dC, dI)) (ci := 0) (v := .int (nI mc)) (C := nG) (T := TG) (N := 11) hx hb hg inG hown hK hP 0 rfl rfl 5 (by decide) (hg _ kG_120) (fun _ h9 => h9) rfl dG_mover_57 ?_
        refine lv_iload_n hx hb dG_mover_60 rfl (lv_at hl 1 rfl) ?_
        refine sa_i (f := mw) (v := a) hx hb hK hP hD hS 2 0 rfl rfl (by omega) (by decide) dG_mover_61 (fun H locs hP hD hS => ?_)
        have hP : va_P (dC, dI) vwCl (wG cI cJ cZ qg q ql qs qr lv (va_up mw mc a) mh mk pc mc kc ++ wP cI cJ cZ q bg en sc wd ht oh bt co n ++ wL cI cJ cZ ql re sa fm ++ wS cI cJ cZ qs tr rp rn rs rk us gl ++ wR cI cJ cZ qr nu rl) H := hP
        have hD : va_D A (wG cI cJ cZ qg q ql qs qr lv (va_up mw mc a) mh mk pc mc kc ++ wP cI cJ cZ q bg en sc wd ht oh bt co n ++ wL cI cJ cZ ql re sa fm ++ wS cI cJ cZ qs tr rp rn rs rk us gl ++ wR cI cJ cZ qr nu rl) := hD
        refine lv_aload_n hx hb dG_mover_62 rfl (lv_at hl 0 rfl) ?_
        refine va_get (D := (dC, dI)) (ci := 0) (v := .ref (qg 3)) (C := nG) (T := TG) (N := 11) hx hb hg inG hown hK hP 0 rfl rfl 4 (by decide) (hg _ kG_23) (fun _ h9 => h9) rfl dG_mover_63 ?_
        refine lv_aload_n hx hb dG_mover_66 rfl (lv_at hl 0 rfl) ?_
        refine va_get (D := (dC, dI)) (ci := 0) (v := .int (nI mc)) (C := nG) (T := TG) (N := 11) hx hb hg inG hown hK hP 0 rfl rfl 5 (by decide) (hg _ kG_120) (fun _ h9 => h9) rfl dG_mover_67 ?_
        refine lv_lload_n hx hb dG_mover_70 rfl (lv_at hl 2 rfl) ?_
        refine sa_l (f := mh) (v := b) hx hb hK hP hD hS 3 1 rfl rfl (by omega) (by decide) dG_mover_71 (fun H locs hP hD hS => ?_)
        have hP : va_P (dC, dI) vwCl (wG cI cJ cZ qg q ql qs qr lv (va_up mw mc a) (va_up mh mc b) mk pc mc kc ++ wP cI cJ cZ q bg en sc wd ht oh bt co n ++ wL cI cJ cZ ql re sa fm ++ wS cI cJ cZ qs tr rp rn rs rk us gl ++ wR cI cJ cZ qr nu rl) H := hP
        have hD : va_D A (wG cI cJ cZ qg q ql qs qr lv (va_up mw mc a) (va_up mh mc b) mk pc mc kc ++ wP cI cJ cZ q bg en sc wd ht oh bt co n ++ wL cI cJ cZ ql re sa fm ++ wS cI cJ cZ qs tr rp rn rs rk us gl ++ wR cI cJ cZ qr nu rl) := hD
        refine lv_aload_n hx hb dG_mover_72 rfl (lv_at hl 0 rfl) ?_
        refine lv_dup hx hb dG_mover_73 rfl ?_
        refine va_get (D := (dC, dI)) (ci := 0) (v := .int (nI mc)) (C := nG) (T := TG) (N := 11) hx hb hg inG hown hK hP 0 rfl rfl 5 (by decide) (hg _ kG_120) (fun _ h9 => h9) rfl dG_mover_74 ?_
        refine rn_iconst hx hb 1 dG_mover_77 (by decide) ?_
        refine rn_iadd hx hb dG_mover_78 ?_
        refine va_put (D := (dC, dI)) (ci := 0) (v := .int (nI (mc + 1))) (ty := .int) (C := nG) (T := TG) (N := 11) hx hb hg inG tG tG_ok nmG hown hK hP hD hS 0 rfl rfl 5 (by decide) (hg _ kG_120) (fun _ h9 => h9) rfl (by decide +kernel) rfl rfl (Nat.le_of_ble_eq_true rfl) dG_mover_79 (fun H locs hP hD hS => ?_)
        have hP : va_P (dC, dI) vwCl (wG cI cJ cZ qg q ql qs qr lv (va_up mw mc a) (va_up mh mc b) mk pc (mc + 1) kc ++ wP cI cJ cZ q bg en sc wd ht oh bt co n ++ wL cI cJ cZ ql re sa fm ++ wS cI cJ cZ qs tr rp rn rs rk us gl ++ wR cI cJ cZ qr nu rl) H := hP
        have hD : va_D A (wG cI cJ cZ qg q ql qs qr lv (va_up mw mc a) (va_up mh mc b) mk pc (mc + 1) kc ++ wP cI cJ cZ q bg en sc wd ht oh bt co n ++ wL cI cJ cZ ql re sa fm ++ wS cI cJ cZ qs tr rp rn rs rk us gl ++ wR cI cJ cZ qr nu rl) := hD
        refine lv_aload_n hx hb dG_mover_82 rfl (lv_at hl 0 rfl) ?_
        refine va_get (D := (dC, dI)) (ci := 0) (v := .int (nI (mc + 1))) (C := nG) (T := TG) (N := 11) hx hb hg inG hown hK hP 0 rfl rfl 5 (by decide) (hg _ kG_120) (fun _ h9 => h9) rfl dG_mover_83 ?_
        refine rn_iconst hx hb 1 dG_mover_86 (by decide) ?_
        refine rn_isub hx hb dG_mover_87 (by omega) ?_
        have hP9 : va_P (dC, dI) vwCl (wG cI cJ cZ qg q ql qs qr lv (if afB wd ht (cN w) (cLn h) n = true then va_up mw mc (cN w) else mw) (if afB wd ht (cN w) (cLn h) n = true then va_up mh mc (cLn h) else mh) mk pc (if afB wd ht (cN w) (cLn h) n = true then mc + 1 else mc) kc ++ wP cI cJ cZ q bg en sc wd ht oh bt co n ++ wL cI cJ cZ ql re sa fm ++ wS cI cJ cZ qs tr rp rn rs rk us gl ++ wR cI cJ cZ qr nu rl) H := by rw [e1, e2, c47]; exact hP
        have hD9 : va_D A (wG cI cJ cZ qg q ql qs qr lv (if afB wd ht (cN w) (cLn h) n = true then va_up mw mc (cN w) else mw) (if afB wd ht (cN w) (cLn h) n = true then va_up mh mc (cLn h) else mh) mk pc (if afB wd ht (cN w) (cLn h) n = true then mc + 1 else mc) kc ++ wP cI cJ cZ q bg en sc wd ht oh bt co n ++ wL cI cJ cZ ql re sa fm ++ wS cI cJ cZ qs tr rp rn rs rk us gl ++ wR cI cJ cZ qr nu rl) := by rw [e1, e2, c47]; exact hD
        refine W.widen (k := 1) (n := 6) (by omega) (by omega) ?_
        refine vx_ret ?_
        exact W.iret hx hb hr (fun t ht hW => ⟨⟨_, (), rfl, ⟨(by simp [cdMo, c6, c25, c47]), (by rw [e1, e2, c47]; exact congrArg nI (by omega))⟩, by rw [ht]; exact hP9, va_K.moved hW.alike hK, hD9⟩, hS.F ht⟩) hS.2.2 dG_mover_88
      · refine lv_iconst (v := -1) hx hb dG_mover_50 (by decide) ?_
        have hP9 : va_P (dC, dI) vwCl (wG cI cJ cZ qg q ql qs qr lv (if afB wd ht (cN w) (cLn h) n = true then va_up mw mc (cN w) else mw) (if afB wd ht (cN w) (cLn h) n = true then va_up mh mc (cLn h) else mh) mk pc (if afB wd ht (cN w) (cLn h) n = true then mc + 1 else mc) kc ++ wP cI cJ cZ q bg en sc wd ht oh bt co n ++ wL cI cJ cZ ql re sa fm ++ wS cI cJ cZ qs tr rp rn rs rk us gl ++ wR cI cJ cZ qr nu rl) H := by rw [e1, e2, c47]; exact hP
        have hD9 : va_D A (wG cI cJ cZ qg q ql qs qr lv (if afB wd ht (cN w) (cLn h) n = true then va_up mw mc (cN w) else mw) (if afB wd ht (cN w) (cLn h) n = true then va_up mh mc (cLn h) else mh) mk pc (if afB wd ht (cN w) (cLn h) n = true then mc + 1 else mc) kc ++ wP cI cJ cZ q bg en sc wd ht oh bt co n ++ wL cI cJ cZ ql re sa fm ++ wS cI cJ cZ qs tr rp rn rs rk us gl ++ wR cI cJ cZ qr nu rl) := by rw [e1, e2, c47]; exact hD
        refine W.widen (k := 1) (n := 6) (by omega) (by omega) ?_
        refine vx_ret ?_
        exact W.iret hx hb hr (fun t ht hW => ⟨⟨_, (), rfl, ⟨(by simp [cdMo, c6, c25, c47]), (by rw [e1, e2, c47]; rfl)⟩, by rw [ht]; exact hP9, va_K.moved hW.alike hK, hD9⟩, hS.F ht⟩) hS.2.2 dG_mover_51
    · subst hH
      exact thr hx hb hl0 hown hEX hg kG_68 kin_UnsupportedOperationException at_UO (by decide +kernel) (is := 123) (text := "no more movers") (by decide) (hl.1.trans hml.symm) dG_mover_28 dG_mover_31 dG_mover_32 dG_mover_34 dG_mover_37 hno (Nat.lt_of_lt_of_le (by decide) hR.1) (Nat.le_trans (Nat.le_of_ble_eq_true rfl) hR.2) (Nat.le_refl _) (Nat.le_refl _) hlocks (by simp [cdMo, c6, c25])
  · subst hH
    exact thr hx hb hl0 hown hEX hg kG_57 kin_IllegalArgumentException at_IA (by decide +kernel) (is := 118) (text := "width or height out of range") (by decide) (hl.1.trans hml.symm) dG_mover_9 dG_mover_12 dG_mover_13 dG_mover_15 dG_mover_18 hno (Nat.lt_of_lt_of_le (by decide) hR.1) (Nat.le_trans (Nat.le_of_ble_eq_true rfl) hR.2) (Nat.le_refl _) (Nat.le_refl _) hlocks (by simp [cdMo, c6])

def cdCl (n : Nat) (x : Int32) : Nat := if inB x n = true then 0 else 1

set_option maxHeartbeats 4000000 in
set_option maxRecDepth 100000 in
theorem ct_G_closed (l : Launch) (hl0 : l.stackTraces = false) (dC : Nat → ClassId) (dI : Nat → Nat → Nat) (cI cJ cZ : ClassId) (qg q ql qs qr : Nat → Nat) (lv mw mh mk : Nat → Nat) (pc mc kc : Nat) (bg en sc wd ht oh bt : Nat → Nat) (co n : Nat) (re : Nat → Nat) (sa fm : Nat) (tr rp rn rs : Nat → Nat) (rk us gl : Nat) (nu : Nat → Nat) (rl : Nat) (x : Int32) (on : Bool) (sz : Nat) (hG : bGp lv mw mh mk pc mc kc) (hB : bP bg en sc wd ht oh bt co n) : vx_Met l yG_closed wsG_closed ({ frames := 6, cells := 1, slots := 6, locals := 120 }) (PcX (dC, dI) (wG cI cJ cZ qg q ql qs qr lv mw mh mk pc mc kc ++ wP cI cJ cZ q bg en sc wd ht oh bt co n ++ wL cI cJ cZ ql re sa fm ++ wS cI cJ cZ qs tr rp rn rs rk us gl ++ wR cI cJ cZ qr nu rl) (tyE cI cJ cZ) sz [.ref (qg 0), .int x, .int (bI on)]) (va_Qi (fun r (_ : Unit) => cdCl n x = 0 ∧ r = nI (pcn (sB co (cN x) on) 64)) (QwB (dC, dI) (wG cI cJ cZ qg q ql qs qr lv mw mh mk pc mc kc ++ wP cI cJ cZ q bg en sc wd ht oh bt (sB co (cN x) on) n ++ wL cI cJ cZ ql re sa fm ++ wS cI cJ cZ qs tr rp rn rs rk us gl ++ wR cI cJ cZ qr nu rl) (tyE cI cJ cZ) (va_A (wG cI cJ cZ qg q ql qs qr lv mw mh mk pc mc kc ++ wP cI cJ cZ q bg en sc wd ht oh bt co n ++ wL cI cJ cZ ql re sa fm ++ wS cI cJ cZ qs tr rp rn rs rk us gl ++ wR cI cJ cZ qr nu rl) sz)) (va_A (wG cI cJ cZ qg q ql qs qr lv mw mh mk pc mc kc ++ wP cI cJ cZ q bg en sc wd ht oh bt co n ++ wL cI cJ cZ ql re sa fm ++ wS cI cJ cZ qs tr rp rn rs rk us gl ++ wR cI cJ cZ qr nu rl) sz)) (XCw (cdCl n x) [(1, xIA)]) 1 6 (va_A (wG cI cJ cZ qg q ql qs qr lv mw mh mk pc mc kc ++ wP cI cJ cZ q bg en sc wd ht oh bt co n ++ wL cI cJ cZ ql re sa fm ++ wS cI cJ cZ qs tr rp rn rs rk us gl ++ wR cI cJ cZ qr nu rl) sz) := by
  refine vx_ofW (cc := cG_closed) (maxL := 3) (ret := (some .int)) (by decide) rfl ?_
  intro p e s m args below meth c s₁ B hml hno hv
  obtain ⟨rfl, hsz, hP, hK, hD0, hE, hEX⟩ := hv
  have hx := B.exec
  have hb := B.bytes
  have hr := B.returns
  have hts := atoms_spec (ws := wsG_closed) B.pre
  have hg : ∀ w ∈ gw, w.before _ s = true := fun w h => hts w (List.mem_cons_of_mem _ h)
  have hown : s.vm.findClass nG = some m.cls := findClass_of_methodNamed B.named
  have hlocks := B.notSynchronized
  have hR : 6 ≤ (headSpec wsG_closed ({ frames := 6, cells := 1, slots := 6, locals := 120 })).room.frames ∧ 120 ≤ (headSpec wsG_closed ({ frames := 6, cells := 1, slots := 6, locals := 120 })).room.locals := ⟨Nat.le_refl _, Nat.le_refl _⟩
  have hcs : 0 ≤ (headSpec wsG_closed ({ frames := 6, cells := 1, slots := 6, locals := 120 })).room.cells ∧ 0 ≤ (headSpec wsG_closed ({ frames := 6, cells := 1, slots := 6, locals := 120 })).room.slots := ⟨Nat.zero_le _, Nat.zero_le _⟩
  subst hsz
  have hD := hD0.self (sz := s.heap.size)
  generalize hAe : va_A (wG cI cJ cZ qg q ql qs qr lv mw mh mk pc mc kc ++ wP cI cJ cZ q bg en sc wd ht oh bt co n ++ wL cI cJ cZ ql re sa fm ++ wS cI cJ cZ qs tr rp rn rs rk us gl ++ wR cI cJ cZ qr nu rl) s.heap.size = A at hD ⊢
  have hA : ∀ q : Nat, s.heap.size ≤ q → A q := fun q h => by rw [← hAe]; exact Or.inr h
  obtain ⟨H, hH⟩ : ∃ H, H = s.heap := ⟨_, rfl⟩
  have hS : va_S A s.heap H [] := by rw [hH]; exact va_S.rf
  rw [← hH] at hP ⊢
  have hpc := hG.1
  have hmc := hG.2.1
  have hkc := hG.2.2.1
  have hgi := hG.2.2.2
  have hbi := hB.2.2
  have hn := hB.1
  have hco := hB.2.1
  have hl := lv_entry ([.ref (qg 0), .int x, .int (bI on)]) (n := 3) (Nat.le_of_ble_eq_true rfl)
  rw [lg_entry_eq]
  generalize (lg_sl ([.ref (qg 0), .int x, .int (bI on)]) ++ List.replicate (3 - (lg_sl ([.ref (qg 0), .int x, .int (bI on)])).length) Slot.unset).toArray = ls at hl ⊢
  have hl : lv_has ls 3 [(0, .ref (qg 0)), (1, .int x), (2, .int (bI on))] := hl
  refine lv_aload_n hx hb dG_closed_0 rfl (lv_at hl 0 rfl) ?_
  refine va_get (D := (dC, dI)) (ci := 0) (v := .ref (q 0)) (C := nG) (T := TG) (N := 11) hx hb hg inG hown hK hP 0 rfl rfl 2 (by decide) (hg _ kG_16) (fun _ h9 => h9) rfl dG_closed_1 ?_
  refine lv_iload_n hx hb dG_closed_4 rfl (lv_at hl 1 rfl) ?_
  refine cpV_i (b := (q 0)) (C := nP) (As := [.int x]) (rest := []) (post := fun r : Int32 => r = bI (inB x n)) ⟨hx, hb, hml, hown, hts⟩ (ct_P_has l dC dI cI cJ cZ q bg en sc wd ht oh bt co n x (hB)) (cwV 1 hts (gv kG_103 ki_P_has ksel_P_has kin_P kc_P_has) rfl rfl rfl (by decide +kernel) ⟨Nat.le_trans (by decide) hR.1, Nat.le_trans (by decide) hR.2⟩) (va_recv hK hP (ci := 1) (q0 := 5) rfl rfl) (hP.sub (ws' := (wP cI cJ cZ q bg en sc wd ht oh bt co n)) [5, 6, 7, 8, 9, 10, 11, 12] rfl) hK hE rfl hl.1 rfl (Nat.le_of_ble_eq_true rfl) dG_closed_5 hcs (fun r hr => ?_)
  subst hr
  refine rb_ne (tgt := 21) hx hb dG_closed_8 (by decide) (fun c8 => ?_) (fun c8 => ?_)
  · obtain ⟨j, hj, ej⟩ := in_of c8 (by omega)
    have e1 : cN x = j := by rw [ej]; exact cN_n (by omega)
    have hsb : sB co j on < 1099511627776 := sB_lt (w := 40) on hco (by omega)
    have hl : lv_has ls 3 [(0, .ref (qg 0)), (1, .int (nI j)), (2, .int (bI on))] := by rw [ej] at hl; exact hl
    refine lv_aload_n hx hb dG_closed_21 rfl (lv_at hl 0 rfl) ?_
    refine va_get (D := (dC, dI)) (ci := 0) (v := .ref (q 0)) (C := nG) (T := TG) (N := 11) hx hb hg inG hown hK hP 0 rfl rfl 2 (by decide) (hg _ kG_16) (fun _ h9 => h9) rfl dG_closed_22 ?_
    refine lv_aload_n hx hb dG_closed_25 rfl (lv_at hl 0 rfl) ?_
    refine va_get (D := (dC, dI)) (ci := 0) (v := .ref (q 0)) (C := nG) (T := TG) (N := 11) hx hb hg inG hown hK hP 0 rfl rfl 2 (by decide) (hg _ kG_16) (fun _ h9 => h9) rfl dG_closed_26 ?_
    refine va_get (D := (dC, dI)) (ci := 1) (v := .long (lN co)) (C := nP) (T := TP) (N := 9) hx hb hg inP hown hK hP 5 rfl rfl 7 (by decide) (hg _ kG_131) (fun _ h9 => h9) rfl dG_closed_29 ?_
    refine lv_iload_n hx hb dG_closed_32 rfl (lv_at hl 1 rfl) ?_
    refine lv_iload_n hx hb dG_closed_33 rfl (lv_at hl 2 rfl) ?_
    refine cpS_l (As := [.long (lN co), .int (nI j), .int (bI on)]) (rest := [.ref (q 0)]) (post := fun r : Int64 => r = lN (sB co j on)) ⟨hx, hb, hml, hown, hts⟩ (ct_G_withBit l dC dI cI cJ cZ co j on (by omega) (by omega)) (va_cwS 3 hts (gs kG_135 ks_G_withBit kin_G kc_G_withBit) rfl rfl rfl (by decide +kernel) ⟨Nat.le_trans (by decide) hR.1, Nat.le_trans (by decide) hR.2⟩) (hP.sub (ws' := []) [] rfl) hK hE rfl hl.1 rfl (Nat.le_of_ble_eq_true rfl) dG_closed_34 hcs (fun r hr => ?_)
    subst hr
    refine va_put (D := (dC, dI)) (ci := 1) (v := .long (lN (sB co j on))) (ty := .long) (C := nP) (T := TP) (N := 9) hx hb hg inP tP tP_ok nmP hown hK hP hD hS 5 rfl rfl 7 (by decide) (hg _ kG_131) (fun _ h9 => h9) rfl (by decide +kernel) rfl rfl (Nat.le_of_ble_eq_true rfl) dG_closed_37 (fun H locs hP hD hS => ?_)
    have hP : va_P (dC, dI) vwCl (wG cI cJ cZ qg q ql qs qr lv mw mh mk pc mc kc ++ wP cI cJ cZ q bg en sc wd ht oh bt (sB co j on) n ++ wL cI cJ cZ ql re sa fm ++ wS cI cJ cZ qs tr rp rn rs rk us gl ++ wR cI cJ cZ qr nu rl) H := hP
    have hD : va_D A (wG cI cJ cZ qg q ql qs qr lv mw mh mk pc mc kc ++ wP cI cJ cZ q bg en sc wd ht oh bt (sB co j on) n ++ wL cI cJ cZ ql re sa fm ++ wS cI cJ cZ qs tr rp rn rs rk us gl ++ wR cI cJ cZ qr nu rl) := hD
    refine lv_aload_n hx hb dG_closed_40 rfl (lv_at hl 0 rfl) ?_
    refine va_get (D := (dC, dI)) (ci := 0) (v := .ref (q 0)) (C := nG) (T := TG) (N := 11) hx hb hg inG hown hK hP 0 rfl rfl 2 (by decide) (hg _ kG_16) (fun _ h9 => h9) rfl dG_closed_41 ?_
    refine va_get (D := (dC, dI)) (ci := 1) (v := .long (lN (sB co j on))) (C := nP) (T := TP) (N := 9) hx hb hg inP hown hK hP 5 rfl rfl 7 (by decide) (hg _ kG_131) (fun _ h9 => h9) rfl dG_closed_44 ?_
    refine cpS_i (As := [.long (lN (sB co j on))]) (rest := []) (post := fun r : Int32 => r = nI (pcn (sB co j on) 64)) ⟨hx, hb, hml, hown, hts⟩ (ct_JL_bitCount l dC dI cI cJ cZ (sB co j on) (by omega)) (va_cwS 1 hts (gs kG_139 ks_JL_bitCount kin_JL kc_JL_bitCount) rfl rfl rfl (by decide +kernel) ⟨Nat.le_trans (by decide) hR.1, Nat.le_trans (by decide) hR.2⟩) (hP.sub (ws' := []) [] rfl) hK hE rfl hl.1 rfl (Nat.le_of_ble_eq_true rfl) dG_closed_47 hcs (fun r hr => ?_)
    subst hr
    have hP9 : va_P (dC, dI) vwCl (wG cI cJ cZ qg q ql qs qr lv mw mh mk pc mc kc ++ wP cI cJ cZ q bg en sc wd ht oh bt (sB co (cN x) on) n ++ wL cI cJ cZ ql re sa fm ++ wS cI cJ cZ qs tr rp rn rs rk us gl ++ wR cI cJ cZ qr nu rl) H := by rw [e1]; exact hP
    have hD9 : va_D A (wG cI cJ cZ qg q ql qs qr lv mw mh mk pc mc kc ++ wP cI cJ cZ q bg en sc wd ht oh bt (sB co (cN x) on) n ++ wL cI cJ cZ ql re sa fm ++ wS cI cJ cZ qs tr rp rn rs rk us gl ++ wR cI cJ cZ qr nu rl) := by rw [e1]; exact hD
    refine W.widen (k := 1) (n := 6) (by omega) (by omega) ?_
    refine vx_ret ?_
    exact W.iret hx hb hr (fun t ht hW => ⟨⟨_, (), rfl, ⟨(by simp [cdCl, c8]), (by rw [e1])⟩, by rw [ht]; exact hP9, va_K.moved hW.alike hK, hD9⟩, hS.F ht⟩) hS.2.2 dG_closed_50
  · subst hH
    exact thr hx hb hl0 hown hEX hg kG_57 kin_IllegalArgumentException at_IA (by decide +kernel) (is := 129) (text := "no such piece") (by decide) (hl.1.trans hml.symm) dG_closed_11 dG_closed_14 dG_closed_15 dG_closed_17 dG_closed_20 hno (Nat.lt_of_lt_of_le (by decide) hR.1) (Nat.le_trans (Nat.le_of_ble_eq_true rfl) hR.2) (Nat.le_refl _) (Nat.le_refl _) hlocks (by simp [cdCl, c8])

def cdDo (n : Nat) (x y : Int32) : Nat := if inB x n = true ∧ wiB y.toInt64 (lN 0) (lN 23) = true then 0 else 1

set_option maxHeartbeats 4000000 in
set_option maxRecDepth 100000 in
theorem ct_G_door (l : Launch) (hl0 : l.stackTraces = false) (dC : Nat → ClassId) (dI : Nat → Nat → Nat) (cI cJ cZ : ClassId) (qg q ql qs qr : Nat → Nat) (lv mw mh mk : Nat → Nat) (pc mc kc : Nat) (bg en sc wd ht oh bt : Nat → Nat) (co n : Nat) (re : Nat → Nat) (sa fm : Nat) (tr rp rn rs : Nat → Nat) (rk us gl : Nat) (nu : Nat → Nat) (rl : Nat) (x y : Int32) (on : Bool) (sz : Nat) (hG : bGp lv mw mh mk pc mc kc) (hB : bP bg en sc wd ht oh bt co n) : vx_Met l yG_door wsG_door ({ frames := 6, cells := 1, slots := 6, locals := 120 }) (PcX (dC, dI) (wG cI cJ cZ qg q ql qs qr lv mw mh mk pc mc kc ++ wP cI cJ cZ q bg en sc wd ht oh bt co n ++ wL cI cJ cZ ql re sa fm ++ wS cI cJ cZ qs tr rp rn rs rk us gl ++ wR cI cJ cZ qr nu rl) (tyE cI cJ cZ) sz [.ref (qg 0), .int x, .int y, .int (bI on)]) (va_Qi (fun r (_ : Unit) => cdDo n x y = 0 ∧ r = nI (pcn (sB (oh (cN x)) (cN y) on) 64)) (QwB (dC, dI) (wG cI cJ cZ qg q ql qs qr lv mw mh mk pc mc kc ++ wP cI cJ cZ q bg en sc wd ht (va_up oh (cN x) (sB (oh (cN x)) (cN y) on)) bt co n ++ wL cI cJ cZ ql re sa fm ++ wS cI cJ cZ qs tr rp rn rs rk us gl ++ wR cI cJ cZ qr nu rl) (tyE cI cJ cZ) (va_A (wG cI cJ cZ qg q ql qs qr lv mw mh mk pc mc kc ++ wP cI cJ cZ q bg en sc wd ht oh bt co n ++ wL cI cJ cZ ql re sa fm ++ wS cI cJ cZ qs tr rp rn rs rk us gl ++ wR cI cJ cZ qr nu rl) sz)) (va_A (wG cI cJ cZ qg q ql qs qr lv mw mh mk pc mc kc ++ wP cI cJ cZ q bg en sc wd ht oh bt co n ++ wL cI cJ cZ ql re sa fm ++ wS cI cJ cZ qs tr rp rn rs rk us gl ++ wR cI cJ cZ qr nu rl) sz)) (XCw (cdDo n x y) [(1, xIA)]) 1 6 (va_A (wG cI cJ cZ qg q ql qs qr lv mw mh mk pc mc kc ++ wP cI cJ cZ q bg en sc wd ht oh bt co n ++ wL cI cJ cZ ql re sa fm ++ wS cI cJ cZ qs tr rp rn rs rk us gl ++ wR cI cJ cZ qr nu rl) sz) := by
  refine vx_ofW (cc := cG_door) (maxL := 4) (ret := (some .int)) (by decide) rfl ?_
  intro p e s m args below meth c s₁ B hml hno hv
  obtain ⟨rfl, hsz, hP, hK, hD0, hE, hEX⟩ := hv
  have hx := B.exec
  have hb := B.bytes
  have hr := B.returns
  have hts := atoms_spec (ws := wsG_door) B.pre
  have hg : ∀ w ∈ gw, w.before _ s = true := fun w h => hts w (List.mem_cons_of_mem _ h)
  have hown : s.vm.findClass nG = some m.cls := findClass_of_methodNamed B.named
  have hlocks := B.notSynchronized
  have hR : 6 ≤ (headSpec wsG_door ({ frames := 6, cells := 1, slots := 6, locals := 120 })).room.frames ∧ 120 ≤ (headSpec wsG_door ({ frames := 6, cells := 1, slots := 6, locals := 120 })).room.locals := ⟨Nat.le_refl _, Nat.le_refl _⟩
  have hcs : 0 ≤ (headSpec wsG_door ({ frames := 6, cells := 1, slots := 6, locals := 120 })).room.cells ∧ 0 ≤ (headSpec wsG_door ({ frames := 6, cells := 1, slots := 6, locals := 120 })).room.slots := ⟨Nat.zero_le _, Nat.zero_le _⟩
  subst hsz
  have hD := hD0.self (sz := s.heap.size)
  generalize hAe : va_A (wG cI cJ cZ qg q ql qs qr lv mw mh mk pc mc kc ++ wP cI cJ cZ q bg en sc wd ht oh bt co n ++ wL cI cJ cZ ql re sa fm ++ wS cI cJ cZ qs tr rp rn rs rk us gl ++ wR cI cJ cZ qr nu rl) s.heap.size = A at hD ⊢
  have hA : ∀ q : Nat, s.heap.size ≤ q → A q := fun q h => by rw [← hAe]; exact Or.inr h
  obtain ⟨H, hH⟩ : ∃ H, H = s.heap := ⟨_, rfl⟩
  have hS : va_S A s.heap H [] := by rw [hH]; exact va_S.rf
  rw [← hH] at hP ⊢
  have hpc := hG.1
  have hmc := hG.2.1
  have hkc := hG.2.2.1
  have hgi := hG.2.2.2
  have hbi := hB.2.2
  have hn := hB.1
  have hco := hB.2.1
  have hl := lv_entry ([.ref (qg 0), .int x, .int y, .int (bI on)]) (n := 4) (Nat.le_of_ble_eq_true rfl)
  rw [lg_entry_eq]
  generalize (lg_sl ([.ref (qg 0), .int x, .int y, .int (bI on)]) ++ List.replicate (4 - (lg_sl ([.ref (qg 0), .int x, .int y, .int (bI on)])).length) Slot.unset).toArray = ls at hl ⊢
  have hl : lv_has ls 4 [(0, .ref (qg 0)), (1, .int x), (2, .int y), (3, .int (bI on))] := hl
  refine lv_aload_n hx hb dG_door_0 rfl (lv_at hl 0 rfl) ?_
  refine va_get (D := (dC, dI)) (ci := 0) (v := .ref (q 0)) (C := nG) (T := TG) (N := 11) hx hb hg inG hown hK hP 0 rfl rfl 2 (by decide) (hg _ kG_16) (fun _ h9 => h9) rfl dG_door_1 ?_
  refine lv_iload_n hx hb dG_door_4 rfl (lv_at hl 1 rfl) ?_
  refine cpV_i (b := (q 0)) (C := nP) (As := [.int x]) (rest := []) (post := fun r : Int32 => r = bI (inB x n)) ⟨hx, hb, hml, hown, hts⟩ (ct_P_has l dC dI cI cJ cZ q bg en sc wd ht oh bt co n x (hB)) (cwV 1 hts (gv kG_103 ki_P_has ksel_P_has kin_P kc_P_has) rfl rfl rfl (by decide +kernel) ⟨Nat.le_trans (by decide) hR.1, Nat.le_trans (by decide) hR.2⟩) (va_recv hK hP (ci := 1) (q0 := 5) rfl rfl) (hP.sub (ws' := (wP cI cJ cZ q bg en sc wd ht oh bt co n)) [5, 6, 7, 8, 9, 10, 11, 12] rfl) hK hE rfl hl.1 rfl (Nat.le_of_ble_eq_true rfl) dG_door_5 hcs (fun r hr => ?_)
  subst hr
  refine rb_eq (tgt := 23) hx hb dG_door_8 (by decide) (fun c8 => ?_) (fun c8 => ?_)
  · subst hH
    exact thr hx hb hl0 hown hEX hg kG_57 kin_IllegalArgumentException at_IA (by decide +kernel) (is := 162) (text := "no such piece or hour") (by decide) (hl.1.trans hml.symm) dG_door_23 dG_door_26 dG_door_27 dG_door_29 dG_door_32 hno (Nat.lt_of_lt_of_le (by decide) hR.1) (Nat.le_trans (Nat.le_of_ble_eq_true rfl) hR.2) (Nat.le_refl _) (Nat.le_refl _) hlocks (by simp [cdDo, c8])
  · refine lv_iload_n hx hb dG_door_11 rfl (lv_at hl 2 rfl) ?_
    refine lv_i2l (v := (y).toInt64) hx hb dG_door_12 rfl ?_
    refine rn_lconst hx hb 0 dG_door_13 rfl ?_
    refine lv_ldc2 (v := 23) hx hb hown (hg _ kG_160) dG_door_14 ?_
    refine tp_l (y := lN 23) rfl ?_
    refine cpS_i (As := [.long ((y).toInt64), .long (lN 0), .long (lN 23)]) (rest := []) (post := fun r : Int32 => r = bI (wiB ((y).toInt64) (lN 0) (lN 23))) ⟨hx, hb, hml, hown, hts⟩ (ct_G_within l dC dI cI cJ cZ ((y).toInt64) (lN 0) (lN 23) ) (va_cwS 3 hts (gs kG_53 ks_G_within kin_G kc_G_within) rfl rfl rfl (by decide +kernel) ⟨Nat.le_trans (by decide) hR.1, Nat.le_trans (by decide) hR.2⟩) (hP.sub (ws' := []) [] rfl) hK hE rfl hl.1 rfl (Nat.le_of_ble_eq_true rfl) dG_door_17 hcs (fun r hr => ?_)
    subst hr
    refine rb_ne (tgt := 33) hx hb dG_door_20 (by decide) (fun c20 => ?_) (fun c20 => ?_)
    · obtain ⟨j, hj, ej⟩ := in_of c8 (by omega)
      obtain ⟨k, hk1, hk2, ek⟩ := wi_of c20 (by decide) (by decide)
      have e1 : cN x = j := by rw [ej]; exact cN_n (by omega)
      have e2 : cN y = k := by rw [ek]; exact cN_n (by omega)
      have bj := hbi j
      have hsb : sB (oh j) k on < 16777216 := sB_lt (w := 24) on bj.2.2.2.2.2.1 (by omega)
      have hup : va_up oh j (sB (oh j) k on) j = sB (oh j) k on := by simp [va_up]
      have hl : lv_has ls 4 [(0, .ref (qg 0)), (1, .int (nI j)), (2, .int (nI k)), (3, .int (bI on))] := by rw [ej, ek] at hl; exact hl
      refine lv_aload_n hx hb dG_door_33 rfl (lv_at hl 0 rfl) ?_
      refine va_get (D := (dC, dI)) (ci := 0) (v := .ref (q 0)) (C := nG) (T := TG) (N := 11) hx hb hg inG hown hK hP 0 rfl rfl 2 (by decide) (hg _ kG_16) (fun _ h9 => h9) rfl dG_door_34 ?_
      refine va_get (D := (dC, dI)) (ci := 1) (v := .ref (q 6)) (C := nP) (T := TP) (N := 9) hx hb hg inP hown hK hP 5 rfl rfl 5 (by decide) (hg _ kG_164) (fun _ h9 => h9) rfl dG_door_37 ?_
      refine lv_iload_n hx hb dG_door_40 rfl (lv_at hl 1 rfl) ?_
      refine lv_aload_n hx hb dG_door_41 rfl (lv_at hl 0 rfl) ?_
      refine va_get (D := (dC, dI)) (ci := 0) (v := .ref (q 0)) (C := nG) (T := TG) (N := 11) hx hb hg inG hown hK hP 0 rfl rfl 2 (by decide) (hg _ kG_16) (fun _ h9 => h9) rfl dG_door_42 ?_
      refine va_get (D := (dC, dI)) (ci := 1) (v := .ref (q 6)) (C := nP) (T := TP) (N := 9) hx hb hg inP hown hK hP 5 rfl rfl 5 (by decide) (hg _ kG_164) (fun _ h9 => h9) rfl dG_door_45 ?_
      refine lv_iload_n hx hb dG_door_48 rfl (lv_at hl 1 rfl) ?_
      refine ga_l (f := oh) hx hb hK hP 11 1 rfl rfl (by omega) (by decide) dG_door_49 ?_
      refine lv_iload_n hx hb dG_door_50 rfl (lv_at hl 2 rfl) ?_
      refine lv_iload_n hx hb dG_door_51 rfl (lv_at hl 3 rfl) ?_
      refine cpS_l (As := [.long (lN (oh j)), .int (nI k), .int (bI on)]) (rest := [.int (nI j), .ref (q 6)]) (post := fun r : Int64 => r = lN (sB (oh j) k on)) ⟨hx, hb, hml, hown, hts⟩ (ct_G_withBit l dC dI cI cJ cZ (oh j) k on (by omega) (by omega)) (va_cwS 3 hts (gs kG_135 ks_G_withBit kin_G kc_G_withBit) rfl rfl rfl (by decide +kernel) ⟨Nat.le_trans (by decide) hR.1, Nat.le_trans (by decide) hR.2⟩) (hP.sub (ws' := []) [] rfl) hK hE rfl hl.1 rfl (Nat.le_of_ble_eq_true rfl) dG_door_52 hcs (fun r hr => ?_)
      subst hr
      refine sa_l (f := oh) (v := sB (oh j) k on) hx hb hK hP hD hS 11 1 rfl rfl (by omega) (by decide) dG_door_55 (fun H locs hP hD hS => ?_)
      have hP : va_P (dC, dI) vwCl (wG cI cJ cZ qg q ql qs qr lv mw mh mk pc mc kc ++ wP cI cJ cZ q bg en sc wd ht (va_up oh j (sB (oh j) k on)) bt co n ++ wL cI cJ cZ ql re sa fm ++ wS cI cJ cZ qs tr rp rn rs rk us gl ++ wR cI cJ cZ qr nu rl) H := hP
      have hD : va_D A (wG cI cJ cZ qg q ql qs qr lv mw mh mk pc mc kc ++ wP cI cJ cZ q bg en sc wd ht (va_up oh j (sB (oh j) k on)) bt co n ++ wL cI cJ cZ ql re sa fm ++ wS cI cJ cZ qs tr rp rn rs rk us gl ++ wR cI cJ cZ qr nu rl) := hD
      refine lv_aload_n hx hb dG_door_56 rfl (lv_at hl 0 rfl) ?_
      refine va_get (D := (dC, dI)) (ci := 0) (v := .ref (q 0)) (C := nG) (T := TG) (N := 11) hx hb hg inG hown hK hP 0 rfl rfl 2 (by decide) (hg _ kG_16) (fun _ h9 => h9) rfl dG_door_57 ?_
      refine va_get (D := (dC, dI)) (ci := 1) (v := .ref (q 6)) (C := nP) (T := TP) (N := 9) hx hb hg inP hown hK hP 5 rfl rfl 5 (by decide) (hg _ kG_164) (fun _ h9 => h9) rfl dG_door_60 ?_
      refine lv_iload_n hx hb dG_door_63 rfl (lv_at hl 1 rfl) ?_
      refine ga_l (f := va_up oh j (sB (oh j) k on)) hx hb hK hP 11 1 rfl rfl (by omega) (by decide) dG_door_64 ?_
      refine tp_l (y := lN (sB (oh j) k on)) (congrArg lN hup) ?_
      refine cpS_i (As := [.long (lN (sB (oh j) k on))]) (rest := []) (post := fun r : Int32 => r = nI (pcn (sB (oh j) k on) 64)) ⟨hx, hb, hml, hown, hts⟩ (ct_JL_bitCount l dC dI cI cJ cZ (sB (oh j) k on) (by omega)) (va_cwS 1 hts (gs kG_139 ks_JL_bitCount kin_JL kc_JL_bitCount) rfl rfl rfl (by decide +kernel) ⟨Nat.le_trans (by decide) hR.1, Nat.le_trans (by decide) hR.2⟩) (hP.sub (ws' := []) [] rfl) hK hE rfl hl.1 rfl (Nat.le_of_ble_eq_true rfl) dG_door_65 hcs (fun r hr => ?_)
      subst hr
      have hP9 : va_P (dC, dI) vwCl (wG cI cJ cZ qg q ql qs qr lv mw mh mk pc mc kc ++ wP cI cJ cZ q bg en sc wd ht (va_up oh (cN x) (sB (oh (cN x)) (cN y) on)) bt co n ++ wL cI cJ cZ ql re sa fm ++ wS cI cJ cZ qs tr rp rn rs rk us gl ++ wR cI cJ cZ qr nu rl) H := by rw [e1, e2]; exact hP
      have hD9 : va_D A (wG cI cJ cZ qg q ql qs qr lv mw mh mk pc mc kc ++ wP cI cJ cZ q bg en sc wd ht (va_up oh (cN x) (sB (oh (cN x)) (cN y) on)) bt co n ++ wL cI cJ cZ ql re sa fm ++ wS cI cJ cZ qs tr rp rn rs rk us gl ++ wR cI cJ cZ qr nu rl) := by rw [e1, e2]; exact hD
      refine W.widen (k := 1) (n := 6) (by omega) (by omega) ?_
      refine vx_ret ?_
      exact W.iret hx hb hr (fun t ht hW => ⟨⟨_, (), rfl, ⟨(by simp [cdDo, c8, c20]), (by rw [e1, e2])⟩, by rw [ht]; exact hP9, va_K.moved hW.alike hK, hD9⟩, hS.F ht⟩) hS.2.2 dG_door_68
    · subst hH
      exact thr hx hb hl0 hown hEX hg kG_57 kin_IllegalArgumentException at_IA (by decide +kernel) (is := 162) (text := "no such piece or hour") (by decide) (hl.1.trans hml.symm) dG_door_23 dG_door_26 dG_door_27 dG_door_29 dG_door_32 hno (Nat.lt_of_lt_of_le (by decide) hR.1) (Nat.le_trans (Nat.le_of_ble_eq_true rfl) hR.2) (Nat.le_refl _) (Nat.le_refl _) hlocks (by simp [cdDo, c8, c20])


def cdMa (pc kc : Nat) (mk : Nat → Nat) (x : Int32) : Nat := if inB x pc = true then (if imB mk x kc = true then 2 else if kc < 8 then 0 else 3) else 1

set_option maxHeartbeats 4000000 in
set_option maxRecDepth 100000 in
theorem ct_G_mark (l : Launch) (hl0 : l.stackTraces = false) (dC : Nat → ClassId) (dI : Nat → Nat → Nat) (cI cJ cZ : ClassId) (qg q ql qs qr : Nat → Nat) (lv mw mh mk : Nat → Nat) (pc mc kc : Nat) (bg en sc wd ht oh bt : Nat → Nat) (co n : Nat) (re : Nat → Nat) (sa fm : Nat) (tr rp rn rs : Nat → Nat) (rk us gl : Nat) (nu : Nat → Nat) (rl : Nat) (x : Int32) (sz : Nat) (hG : bGp lv mw mh mk pc mc kc) : vx_Met l yG_mark wsG_mark ({ frames := 6, cells := 1, slots := 6, locals := 120 }) (PcX (dC, dI) (wG cI cJ cZ qg q ql qs qr lv mw mh mk pc mc kc ++ wP cI cJ cZ q bg en sc wd ht oh bt co n ++ wL cI cJ cZ ql re sa fm ++ wS cI cJ cZ qs tr rp rn rs rk us gl ++ wR cI cJ cZ qr nu rl) (tyE cI cJ cZ) sz [.ref (qg 0), .int x]) (va_Qi (fun r (_ : Unit) => cdMa pc kc mk x = 0 ∧ r = nI (kc + 1)) (QwB (dC, dI) (wG cI cJ cZ qg q ql qs qr lv mw mh (va_up mk kc (cN x)) pc mc (kc + 1) ++ wP cI cJ cZ q bg en sc wd ht oh bt co n ++ wL cI cJ cZ ql re sa fm ++ wS cI cJ cZ qs tr rp rn rs rk us gl ++ wR cI cJ cZ qr nu rl) (tyE cI cJ cZ) (va_A (wG cI cJ cZ qg q ql qs qr lv mw mh mk pc mc kc ++ wP cI cJ cZ q bg en sc wd ht oh bt co n ++ wL cI cJ cZ ql re sa fm ++ wS cI cJ cZ qs tr rp rn rs rk us gl ++ wR cI cJ cZ qr nu rl) sz)) (va_A (wG cI cJ cZ qg q ql qs qr lv mw mh mk pc mc kc ++ wP cI cJ cZ q bg en sc wd ht oh bt co n ++ wL cI cJ cZ ql re sa fm ++ wS cI cJ cZ qs tr rp rn rs rk us gl ++ wR cI cJ cZ qr nu rl) sz)) (XCw (cdMa pc kc mk x) [(1, xIA), (2, xIS), (3, xUO)]) 1 6 (va_A (wG cI cJ cZ qg q ql qs qr lv mw mh mk pc mc kc ++ wP cI cJ cZ q bg en sc wd ht oh bt co n ++ wL cI cJ cZ ql re sa fm ++ wS cI cJ cZ qs tr rp rn rs rk us gl ++ wR cI cJ cZ qr nu rl) sz) := by
  refine vx_ofW (cc := cG_mark) (maxL := 2) (ret := (some .int)) (by decide) rfl ?_
  intro p e s m args below meth c s₁ B hml hno hv
  obtain ⟨rfl, hsz, hP, hK, hD0, hE, hEX⟩ := hv
  have hx := B.exec
  have hb := B.bytes
  have hr := B.returns
  have hts := atoms_spec (ws := wsG_mark) B.pre
  have hg : ∀ w ∈ gw, w.before _ s = true := fun w h => hts w (List.mem_cons_of_mem _ h)
  have hown : s.vm.findClass nG = some m.cls := findClass_of_methodNamed B.named
  have hlocks := B.notSynchronized
  have hR : 6 ≤ (headSpec wsG_mark ({ frames := 6, cells := 1, slots := 6, locals := 120 })).room.frames ∧ 120 ≤ (headSpec wsG_mark ({ frames := 6, cells := 1, slots := 6, locals := 120 })).room.locals := ⟨Nat.le_refl _, Nat.le_refl _⟩
  have hcs : 0 ≤ (headSpec wsG_mark ({ frames := 6, cells := 1, slots := 6, locals := 120 })).room.cells ∧ 0 ≤ (headSpec wsG_mark ({ frames := 6, cells := 1, slots := 6, locals := 120 })).room.slots := ⟨Nat.zero_le _, Nat.zero_le _⟩
  subst hsz
  have hD := hD0.self (sz := s.heap.size)
  generalize hAe : va_A (wG cI cJ cZ qg q ql qs qr lv mw mh mk pc mc kc ++ wP cI cJ cZ q bg en sc wd ht oh bt co n ++ wL cI cJ cZ ql re sa fm ++ wS cI cJ cZ qs tr rp rn rs rk us gl ++ wR cI cJ cZ qr nu rl) s.heap.size = A at hD ⊢
  have hA : ∀ q : Nat, s.heap.size ≤ q → A q := fun q h => by rw [← hAe]; exact Or.inr h
  obtain ⟨H, hH⟩ : ∃ H, H = s.heap := ⟨_, rfl⟩
  have hS : va_S A s.heap H [] := by rw [hH]; exact va_S.rf
  rw [← hH] at hP ⊢
  have hpc := hG.1
  have hmc := hG.2.1
  have hkc := hG.2.2.1
  have hgi := hG.2.2.2
  have hl := lv_entry ([.ref (qg 0), .int x]) (n := 2) (Nat.le_of_ble_eq_true rfl)
  rw [lg_entry_eq]
  generalize (lg_sl ([.ref (qg 0), .int x]) ++ List.replicate (2 - (lg_sl ([.ref (qg 0), .int x])).length) Slot.unset).toArray = ls at hl ⊢
  have hl : lv_has ls 2 [(0, .ref (qg 0)), (1, .int x)] := hl
  refine lv_aload_n hx hb dG_mark_0 rfl (lv_at hl 0 rfl) ?_
  refine lv_iload_n hx hb dG_mark_1 rfl (lv_at hl 1 rfl) ?_
  refine cpV_i (b := (qg 0)) (C := nG) (As := [.int x]) (rest := []) (post := fun r : Int32 => r = bI (inB x pc)) ⟨hx, hb, hml, hown, hts⟩ (ct_G_hasPlace l dC dI cI cJ cZ qg q ql qs qr lv mw mh mk pc mc kc x (hG)) (cwV 1 hts (gv kG_73 ki_G_hasPlace ksel_G_hasPlace kin_G kc_G_hasPlace) rfl rfl rfl (by decide +kernel) ⟨Nat.le_trans (by decide) hR.1, Nat.le_trans (by decide) hR.2⟩) (va_recv hK hP (ci := 0) (q0 := 0) rfl rfl) (hP.sub (ws' := (wG cI cJ cZ qg q ql qs qr lv mw mh mk pc mc kc)) [0, 1, 2, 3, 4] rfl) hK hE rfl hl.1 rfl (Nat.le_of_ble_eq_true rfl) dG_mark_2 hcs (fun r hr => ?_)
  subst hr
  refine rb_ne (tgt := 18) hx hb dG_mark_5 (by decide) (fun c5 => ?_) (fun c5 => ?_)
  · refine lv_aload_n hx hb dG_mark_18 rfl (lv_at hl 0 rfl) ?_
    refine lv_iload_n hx hb dG_mark_19 rfl (lv_at hl 1 rfl) ?_
    refine cpV_i (b := (qg 0)) (C := nG) (As := [.int x]) (rest := []) (post := fun r : Int32 => r = bI (imB mk x kc)) ⟨hx, hb, hml, hown, hts⟩ (ct_G_isMarked l dC dI cI cJ cZ qg q ql qs qr lv mw mh mk pc mc kc x (hG)) (cwV 1 hts (gv kG_193 ki_G_isMarked ksel_G_isMarked kin_G kc_G_isMarked) rfl rfl rfl (by decide +kernel) ⟨Nat.le_trans (by decide) hR.1, Nat.le_trans (by decide) hR.2⟩) (va_recv hK hP (ci := 0) (q0 := 0) rfl rfl) (hP.sub (ws' := (wG cI cJ cZ qg q ql qs qr lv mw mh mk pc mc kc)) [0, 1, 2, 3, 4] rfl) hK hE rfl hl.1 rfl (Nat.le_of_ble_eq_true rfl) dG_mark_20 hcs (fun r hr => ?_)
    subst hr
    refine rb_eq (tgt := 36) hx hb dG_mark_23 (by decide) (fun c23 => ?_) (fun c23 => ?_)
    · refine lv_aload_n hx hb dG_mark_36 rfl (lv_at hl 0 rfl) ?_
      refine va_get (D := (dC, dI)) (ci := 0) (v := .int (nI kc)) (C := nG) (T := TG) (N := 11) hx hb hg inG hown hK hP 0 rfl rfl 7 (by decide) (hg _ kG_201) (fun _ h9 => h9) rfl dG_mark_37 ?_
      refine rn_bipush hx hb 8 dG_mark_40 (by decide) ?_
      refine rn_icmp_lt (tgt := 55) hx hb dG_mark_42 (by decide) (by omega) (by omega) (fun c42 => ?_) (fun c42 => ?_)
      · obtain ⟨j, hj, ej⟩ := in_of c5 (by omega)
        have e1 : cN x = j := by rw [ej]; exact cN_n (by omega)
        have hl : lv_has ls 2 [(0, .ref (qg 0)), (1, .int (nI j))] := by rw [ej] at hl; exact hl
        refine lv_aload_n hx hb dG_mark_55 rfl (lv_at hl 0 rfl) ?_
        refine va_get (D := (dC, dI)) (ci := 0) (v := .ref (qg 4)) (C := nG) (T := TG) (N := 11) hx hb hg inG hown hK hP 0 rfl rfl 6 (by decide) (hg _ kG_27) (fun _ h9 => h9) rfl dG_mark_56 ?_
        refine lv_aload_n hx hb dG_mark_59 rfl (lv_at hl 0 rfl) ?_
        refine va_get (D := (dC, dI)) (ci := 0) (v := .int (nI kc)) (C := nG) (T := TG) (N := 11) hx hb hg inG hown hK hP 0 rfl rfl 7 (by decide) (hg _ kG_201) (fun _ h9 => h9) rfl dG_mark_60 ?_
        refine lv_iload_n hx hb dG_mark_63 rfl (lv_at hl 1 rfl) ?_
        refine sa_i (f := mk) (v := j) hx hb hK hP hD hS 4 0 rfl rfl (by omega) (by decide) dG_mark_64 (fun H locs hP hD hS => ?_)
        have hP : va_P (dC, dI) vwCl (wG cI cJ cZ qg q ql qs qr lv mw mh (va_up mk kc j) pc mc kc ++ wP cI cJ cZ q bg en sc wd ht oh bt co n ++ wL cI cJ cZ ql re sa fm ++ wS cI cJ cZ qs tr rp rn rs rk us gl ++ wR cI cJ cZ qr nu rl) H := hP
        have hD : va_D A (wG cI cJ cZ qg q ql qs qr lv mw mh (va_up mk kc j) pc mc kc ++ wP cI cJ cZ q bg en sc wd ht oh bt co n ++ wL cI cJ cZ ql re sa fm ++ wS cI cJ cZ qs tr rp rn rs rk us gl ++ wR cI cJ cZ qr nu rl) := hD
        refine lv_aload_n hx hb dG_mark_65 rfl (lv_at hl 0 rfl) ?_
        refine lv_dup hx hb dG_mark_66 rfl ?_
        refine va_get (D := (dC, dI)) (ci := 0) (v := .int (nI kc)) (C := nG) (T := TG) (N := 11) hx hb hg inG hown hK hP 0 rfl rfl 7 (by decide) (hg _ kG_201) (fun _ h9 => h9) rfl dG_mark_67 ?_
        refine rn_iconst hx hb 1 dG_mark_70 (by decide) ?_
        refine rn_iadd hx hb dG_mark_71 ?_
        refine va_put (D := (dC, dI)) (ci := 0) (v := .int (nI (kc + 1))) (ty := .int) (C := nG) (T := TG) (N := 11) hx hb hg inG tG tG_ok nmG hown hK hP hD hS 0 rfl rfl 7 (by decide) (hg _ kG_201) (fun _ h9 => h9) rfl (by decide +kernel) rfl rfl (Nat.le_of_ble_eq_true rfl) dG_mark_72 (fun H locs hP hD hS => ?_)
        have hP : va_P (dC, dI) vwCl (wG cI cJ cZ qg q ql qs qr lv mw mh (va_up mk kc j) pc mc (kc + 1) ++ wP cI cJ cZ q bg en sc wd ht oh bt co n ++ wL cI cJ cZ ql re sa fm ++ wS cI cJ cZ qs tr rp rn rs rk us gl ++ wR cI cJ cZ qr nu rl) H := hP
        have hD : va_D A (wG cI cJ cZ qg q ql qs qr lv mw mh (va_up mk kc j) pc mc (kc + 1) ++ wP cI cJ cZ q bg en sc wd ht oh bt co n ++ wL cI cJ cZ ql re sa fm ++ wS cI cJ cZ qs tr rp rn rs rk us gl ++ wR cI cJ cZ qr nu rl) := hD
        refine lv_aload_n hx hb dG_mark_75 rfl (lv_at hl 0 rfl) ?_
        refine va_get (D := (dC, dI)) (ci := 0) (v := .int (nI (kc + 1))) (C := nG) (T := TG) (N := 11) hx hb hg inG hown hK hP 0 rfl rfl 7 (by decide) (hg _ kG_201) (fun _ h9 => h9) rfl dG_mark_76 ?_
        have hP9 : va_P (dC, dI) vwCl (wG cI cJ cZ qg q ql qs qr lv mw mh (va_up mk kc (cN x)) pc mc (kc + 1) ++ wP cI cJ cZ q bg en sc wd ht oh bt co n ++ wL cI cJ cZ ql re sa fm ++ wS cI cJ cZ qs tr rp rn rs rk us gl ++ wR cI cJ cZ qr nu rl) H := by rw [e1]; exact hP
        have hD9 : va_D A (wG cI cJ cZ qg q ql qs qr lv mw mh (va_up mk kc (cN x)) pc mc (kc + 1) ++ wP cI cJ cZ q bg en sc wd ht oh bt co n ++ wL cI cJ cZ ql re sa fm ++ wS cI cJ cZ qs tr rp rn rs rk us gl ++ wR cI cJ cZ qr nu rl) := by rw [e1]; exact hD
        refine W.widen (k := 1) (n := 6) (by omega) (by omega) ?_
        refine vx_ret ?_
        exact W.iret hx hb hr (fun t ht hW => ⟨⟨_, (), rfl, ⟨(by simp [cdMa, c5, c23, c42]), (rfl)⟩, by rw [ht]; exact hP9, va_K.moved hW.alike hK, hD9⟩, hS.F ht⟩) hS.2.2 dG_mark_79
      · subst hH
        exact thr hx hb hl0 hown hEX hg kG_68 kin_UnsupportedOperationException at_UO (by decide +kernel) (is := 204) (text := "no more marks") (by decide) (hl.1.trans hml.symm) dG_mark_45 dG_mark_48 dG_mark_49 dG_mark_51 dG_mark_54 hno (Nat.lt_of_lt_of_le (by decide) hR.1) (Nat.le_trans (Nat.le_of_ble_eq_true rfl) hR.2) (Nat.le_refl _) (Nat.le_refl _) hlocks (by simp [cdMa, c5, c23, c42])
    · subst hH
      exact thr hx hb hl0 hown hEX hg kG_196 kin_IllegalStateException at_IS (by decide +kernel) (is := 198) (text := "marked before") (by decide) (hl.1.trans hml.symm) dG_mark_26 dG_mark_29 dG_mark_30 dG_mark_32 dG_mark_35 hno (Nat.lt_of_lt_of_le (by decide) hR.1) (Nat.le_trans (Nat.le_of_ble_eq_true rfl) hR.2) (Nat.le_refl _) (Nat.le_refl _) hlocks (by simp [cdMa, c5, c23])
  · subst hH
    exact thr hx hb hl0 hown hEX hg kG_57 kin_IllegalArgumentException at_IA (by decide +kernel) (is := 191) (text := "no such place") (by decide) (hl.1.trans hml.symm) dG_mark_8 dG_mark_11 dG_mark_12 dG_mark_14 dG_mark_17 hno (Nat.lt_of_lt_of_le (by decide) hR.1) (Nat.le_trans (Nat.le_of_ble_eq_true rfl) hR.2) (Nat.le_refl _) (Nat.le_refl _) hlocks (by simp [cdMa, c5])
