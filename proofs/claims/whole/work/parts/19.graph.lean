/-! ===== WayGraph itself ===== -/
def inB (x : Int32) (n : Nat) : Bool := decide (0 ≤ x ∧ x < nI n)
def wiB (v lo hi : Int64) : Bool := decide (lo ≤ v ∧ v ≤ hi)
def cN (x : Int32) : Nat := x.toNatClampNeg
def cLn (v : Int64) : Nat := v.toInt.toNat
theorem cN_n {j : Nat} (h : j < 2147483648) : cN (nI j) = j := nI_clamp h
theorem cL_n {j : Nat} (h : j < 9223372036854775808) : cLn (lN j) = j := by unfold cLn; rw [pk_lT h]; rfl
theorem in_of {x : Int32} {n : Nat} (h : inB x n = true) (hn : n < 2147483648) : ∃ j : Nat, j < n ∧ x = nI j := ix_in h hn
theorem wl_of {v : Int64} {a b : Nat} (h : wiB v (lN a) (lN b) = true) (ha : a < 9223372036854775808) (hb : b < 9223372036854775808) : ∃ j : Nat, a ≤ j ∧ j ≤ b ∧ v = lN j := by
  have h1 := of_decide_eq_true h
  rw [Int64.le_iff_toInt_le, Int64.le_iff_toInt_le, pk_lT ha, pk_lT hb] at h1
  refine ⟨v.toInt.toNat, by omega, by omega, ?_⟩
  apply Int64.toInt_inj.mp
  rw [pk_lT (by omega)]
  omega
theorem wi_of {x : Int32} {a b : Nat} (h : wiB x.toInt64 (lN a) (lN b) = true) (hb : b < 2147483648) (hab : a ≤ b) : ∃ j : Nat, a ≤ j ∧ j ≤ b ∧ x = nI j := by
  have h1 := of_decide_eq_true h
  rw [Int64.le_iff_toInt_le, Int64.le_iff_toInt_le, pk_lT (by omega), pk_lT (by omega), Int32.toInt_toInt64] at h1
  refine ⟨x.toInt.toNat, by omega, by omega, ?_⟩
  apply Int32.toInt_inj.mp
  rw [nI_toInt (by omega)]
  omega
abbrev PcX (D : va_G) (ws : va_W) (tys : List (ClassId × FieldType)) (sz : Nat) (av : List Value) : Array Value → State → Prop := va_Pc av (fun U => U.heap.size = sz ∧ va_P D vwCl ws U.heap ∧ va_K D vwCl tys U ∧ va_D (fun _ => True) ws ∧ EV U ∧ EX U)
theorem fbX {D : va_G} {ws : va_W} {tys : List (ClassId × FieldType)} {sz : Nat} {av : List Value} : FrameBlind (PcX D ws tys sz av) := fun a U g mk q => by
  obtain ⟨q0, q1, qP, qK, qD, qE, qX⟩ := q
  exact ⟨q0, q1, qP, va_K.moved (u := U) (U := U.calling g mk a) (Vm.Alike.refl U.vm) qK, qD, EV.same (u := U) (U := U.calling g mk a) rfl qE, EX.calling qX⟩
def bGp (lv mw mh mk : Nat → Nat) (pc mc kc : Nat) : Prop := pc ≤ 20 ∧ mc ≤ 6 ∧ kc ≤ 8 ∧ ∀ i, lv i < 10 ∧ mw i ≤ 10000 ∧ mh i ≤ 10000 ∧ mk i < 20

set_option maxHeartbeats 4000000 in
set_option maxRecDepth 100000 in
theorem ct_G_hasPlace (l : Launch) (dC : Nat → ClassId) (dI : Nat → Nat → Nat) (cI cJ cZ : ClassId) (qg q ql qs qr : Nat → Nat) (lv mw mh mk : Nat → Nat) (pc mc kc : Nat) (x : Int32) (hG : bGp lv mw mh mk pc mc kc) : Met l yG_hasPlace wsG_hasPlace ({ frames := 0, cells := 0, slots := 0, locals := 0 }) (PcR (dC, dI) (wG cI cJ cZ qg q ql qs qr lv mw mh mk pc mc kc) (tyE cI cJ cZ) [.ref (qg 0), .int x]) (vp_Si (fun r => r = bI (inB x pc))) 0 0 (fun _ => False) := by
  refine Met.ofW (cc := cG_hasPlace) (maxL := 2) (ret := (some .boolean)) (by decide) rfl ?_
  intro p e s m args below meth c s₁ B hml hv
  obtain ⟨rfl, hP, hK, hE⟩ := hv
  have hx := B.exec
  have hb := B.bytes
  have hr := B.returns
  have hts := atoms_spec (ws := wsG_hasPlace) B.pre
  have hg : ∀ w ∈ gw, w.before _ s = true := fun w h => hts w (List.mem_cons_of_mem _ h)
  have hown : s.vm.findClass nG = some m.cls := findClass_of_methodNamed B.named
  have hlocks := B.notSynchronized
  have hR : 0 ≤ (headSpec wsG_hasPlace ({ frames := 0, cells := 0, slots := 0, locals := 0 })).room.frames ∧ 0 ≤ (headSpec wsG_hasPlace ({ frames := 0, cells := 0, slots := 0, locals := 0 })).room.locals := ⟨Nat.le_refl _, Nat.le_refl _⟩
  have hcs : 0 ≤ (headSpec wsG_hasPlace ({ frames := 0, cells := 0, slots := 0, locals := 0 })).room.cells ∧ 0 ≤ (headSpec wsG_hasPlace ({ frames := 0, cells := 0, slots := 0, locals := 0 })).room.slots := ⟨Nat.zero_le _, Nat.zero_le _⟩
  have hpc := hG.1
  have hmc := hG.2.1
  have hkc := hG.2.2.1
  have hgi := hG.2.2.2
  have hl := lv_entry ([.ref (qg 0), .int x]) (n := 2) (Nat.le_of_ble_eq_true rfl)
  rw [lg_entry_eq]
  generalize (lg_sl ([.ref (qg 0), .int x]) ++ List.replicate (2 - (lg_sl ([.ref (qg 0), .int x])).length) Slot.unset).toArray = ls at hl ⊢
  have hl : lv_has ls 2 [(0, .ref (qg 0)), (1, .int x)] := hl
  refine lv_iload_n hx hb dG_hasPlace_0 rfl (lv_at hl 1 rfl) ?_
  refine lv_if_lt (tgt := 16) hx hb dG_hasPlace_1 (by decide) (fun c1 => ?_) (fun c1 => ?_)
  · refine rn_iconst hx hb 0 dG_hasPlace_16 (by decide) ?_
    exact W.zret hx hb hr rfl (fun t ht hW => ⟨_, rfl, (by first | exact ha_t c1 c9 | exact ha_1 c1 | exact ha_2 c9), ht⟩) (fun _ h9 => nomatch h9) dG_hasPlace_17
  · refine lv_iload_n hx hb dG_hasPlace_4 rfl (lv_at hl 1 rfl) ?_
    refine lv_aload_n hx hb dG_hasPlace_5 rfl (lv_at hl 0 rfl) ?_
    refine va_get (D := (dC, dI)) (ci := 0) (v := .int (nI pc)) (C := nG) (T := TG) (N := 11) hx hb hg inG hown hK hP 0 rfl rfl 1 (by decide) (hg _ kG_64) (fun _ h9 => h9) rfl dG_hasPlace_6 ?_
    refine lv_icmp_ge (tgt := 16) hx hb dG_hasPlace_9 (by decide) (fun c9 => ?_) (fun c9 => ?_)
    · refine rn_iconst hx hb 0 dG_hasPlace_16 (by decide) ?_
      exact W.zret hx hb hr rfl (fun t ht hW => ⟨_, rfl, (by first | exact ha_t c1 c9 | exact ha_1 c1 | exact ha_2 c9), ht⟩) (fun _ h9 => nomatch h9) dG_hasPlace_17
    · refine rn_iconst hx hb 1 dG_hasPlace_12 (by decide) ?_
      refine lv_goto (tgt := 17) hx hb dG_hasPlace_13 (by decide) ?_
      exact W.zret hx hb hr rfl (fun t ht hW => ⟨_, rfl, (by first | exact ha_t c1 c9 | exact ha_1 c1 | exact ha_2 c9), ht⟩) (fun _ h9 => nomatch h9) dG_hasPlace_17

set_option maxHeartbeats 4000000 in
set_option maxRecDepth 100000 in
theorem ct_G_hasMover (l : Launch) (dC : Nat → ClassId) (dI : Nat → Nat → Nat) (cI cJ cZ : ClassId) (qg q ql qs qr : Nat → Nat) (lv mw mh mk : Nat → Nat) (pc mc kc : Nat) (x : Int32) (hG : bGp lv mw mh mk pc mc kc) : Met l yG_hasMover wsG_hasMover ({ frames := 0, cells := 0, slots := 0, locals := 0 }) (PcR (dC, dI) (wG cI cJ cZ qg q ql qs qr lv mw mh mk pc mc kc) (tyE cI cJ cZ) [.ref (qg 0), .int x]) (vp_Si (fun r => r = bI (inB x mc))) 0 0 (fun _ => False) := by
  refine Met.ofW (cc := cG_hasMover) (maxL := 2) (ret := (some .boolean)) (by decide) rfl ?_
  intro p e s m args below meth c s₁ B hml hv
  obtain ⟨rfl, hP, hK, hE⟩ := hv
  have hx := B.exec
  have hb := B.bytes
  have hr := B.returns
  have hts := atoms_spec (ws := wsG_hasMover) B.pre
  have hg : ∀ w ∈ gw, w.before _ s = true := fun w h => hts w (List.mem_cons_of_mem _ h)
  have hown : s.vm.findClass nG = some m.cls := findClass_of_methodNamed B.named
  have hlocks := B.notSynchronized
  have hR : 0 ≤ (headSpec wsG_hasMover ({ frames := 0, cells := 0, slots := 0, locals := 0 })).room.frames ∧ 0 ≤ (headSpec wsG_hasMover ({ frames := 0, cells := 0, slots := 0, locals := 0 })).room.locals := ⟨Nat.le_refl _, Nat.le_refl _⟩
  have hcs : 0 ≤ (headSpec wsG_hasMover ({ frames := 0, cells := 0, slots := 0, locals := 0 })).room.cells ∧ 0 ≤ (headSpec wsG_hasMover ({ frames := 0, cells := 0, slots := 0, locals := 0 })).room.slots := ⟨Nat.zero_le _, Nat.zero_le _⟩
  have hpc := hG.1
  have hmc := hG.2.1
  have hkc := hG.2.2.1
  have hgi := hG.2.2.2
  have hl := lv_entry ([.ref (qg 0), .int x]) (n := 2) (Nat.le_of_ble_eq_true rfl)
  rw [lg_entry_eq]
  generalize (lg_sl ([.ref (qg 0), .int x]) ++ List.replicate (2 - (lg_sl ([.ref (qg 0), .int x])).length) Slot.unset).toArray = ls at hl ⊢
  have hl : lv_has ls 2 [(0, .ref (qg 0)), (1, .int x)] := hl
  refine lv_iload_n hx hb dG_hasMover_0 rfl (lv_at hl 1 rfl) ?_
  refine lv_if_lt (tgt := 16) hx hb dG_hasMover_1 (by decide) (fun c1 => ?_) (fun c1 => ?_)
  · refine rn_iconst hx hb 0 dG_hasMover_16 (by decide) ?_
    exact W.zret hx hb hr rfl (fun t ht hW => ⟨_, rfl, (by first | exact ha_t c1 c9 | exact ha_1 c1 | exact ha_2 c9), ht⟩) (fun _ h9 => nomatch h9) dG_hasMover_17
  · refine lv_iload_n hx hb dG_hasMover_4 rfl (lv_at hl 1 rfl) ?_
    refine lv_aload_n hx hb dG_hasMover_5 rfl (lv_at hl 0 rfl) ?_
    refine va_get (D := (dC, dI)) (ci := 0) (v := .int (nI mc)) (C := nG) (T := TG) (N := 11) hx hb hg inG hown hK hP 0 rfl rfl 5 (by decide) (hg _ kG_120) (fun _ h9 => h9) rfl dG_hasMover_6 ?_
    refine lv_icmp_ge (tgt := 16) hx hb dG_hasMover_9 (by decide) (fun c9 => ?_) (fun c9 => ?_)
    · refine rn_iconst hx hb 0 dG_hasMover_16 (by decide) ?_
      exact W.zret hx hb hr rfl (fun t ht hW => ⟨_, rfl, (by first | exact ha_t c1 c9 | exact ha_1 c1 | exact ha_2 c9), ht⟩) (fun _ h9 => nomatch h9) dG_hasMover_17
    · refine rn_iconst hx hb 1 dG_hasMover_12 (by decide) ?_
      refine lv_goto (tgt := 17) hx hb dG_hasMover_13 (by decide) ?_
      exact W.zret hx hb hr rfl (fun t ht hW => ⟨_, rfl, (by first | exact ha_t c1 c9 | exact ha_1 c1 | exact ha_2 c9), ht⟩) (fun _ h9 => nomatch h9) dG_hasMover_17

def szB (v w : Int64) : Bool := wiB v (lN 1) (lN 10000) && wiB w (lN 1) (lN 10000)

set_option maxHeartbeats 4000000 in
set_option maxRecDepth 100000 in
theorem ct_G_isSize (l : Launch) (dC : Nat → ClassId) (dI : Nat → Nat → Nat) (cI cJ cZ : ClassId) (v w : Int64) : Met l yG_isSize wsG_isSize ({ frames := 1, cells := 0, slots := 0, locals := 25 }) (PcR (dC, dI) [] (tyE cI cJ cZ) [.long v, .long w]) (vp_Si (fun r => r = bI (szB v w))) 0 0 (fun _ => False) := by
  refine Met.ofW (cc := cG_isSize) (maxL := 4) (ret := (some .boolean)) (by decide) rfl ?_
  intro p e s m args below meth c s₁ B hml hv
  obtain ⟨rfl, hP, hK, hE⟩ := hv
  have hx := B.exec
  have hb := B.bytes
  have hr := B.returns
  have hts := atoms_spec (ws := wsG_isSize) B.pre
  have hg : ∀ w ∈ gw, w.before _ s = true := fun w h => hts w (List.mem_cons_of_mem _ h)
  have hown : s.vm.findClass nG = some m.cls := findClass_of_methodNamed B.named
  have hlocks := B.notSynchronized
  have hR : 1 ≤ (headSpec wsG_isSize ({ frames := 1, cells := 0, slots := 0, locals := 25 })).room.frames ∧ 25 ≤ (headSpec wsG_isSize ({ frames := 1, cells := 0, slots := 0, locals := 25 })).room.locals := ⟨Nat.le_refl _, Nat.le_refl _⟩
  have hcs : 0 ≤ (headSpec wsG_isSize ({ frames := 1, cells := 0, slots := 0, locals := 25 })).room.cells ∧ 0 ≤ (headSpec wsG_isSize ({ frames := 1, cells := 0, slots := 0, locals := 25 })).room.slots := ⟨Nat.zero_le _, Nat.zero_le _⟩
  have hl := lv_entry ([.long v, .long w]) (n := 4) (Nat.le_of_ble_eq_true rfl)
  rw [lg_entry_eq]
  generalize (lg_sl ([.long v, .long w]) ++ List.replicate (4 - (lg_sl ([.long v, .long w])).length) Slot.unset).toArray = ls at hl ⊢
  have hl : lv_has ls 4 [(0, .long v), (2, .long w)] := hl
  refine lv_lload_n hx hb dG_isSize_0 rfl (lv_at hl 0 rfl) ?_
  refine rn_lconst hx hb 1 dG_isSize_1 rfl ?_
  refine lv_ldc2 (v := 10000) hx hb hown (hg _ kG_81) dG_isSize_2 ?_
  refine tp_l (y := lN 10000) rfl ?_
  refine cpS_i (As := [.long v, .long (lN 1), .long (lN 10000)]) (rest := []) (post := fun r : Int32 => r = bI (wiB v (lN 1) (lN 10000))) ⟨hx, hb, hml, hown, hts⟩ (ct_G_within l dC dI cI cJ cZ v (lN 1) (lN 10000) ) (va_cwS 3 hts (gs kG_53 ks_G_within kin_G kc_G_within) rfl rfl rfl (by decide +kernel) ⟨Nat.le_trans (by decide) hR.1, Nat.le_trans (by decide) hR.2⟩) hP hK hE rfl hl.1 rfl (Nat.le_of_ble_eq_true rfl) dG_isSize_5 hcs (fun r hr => ?_)
  subst hr
  refine rb_eq (tgt := 26) hx hb dG_isSize_8 (by decide) (fun c8 => ?_) (fun c8 => ?_)
  · refine rn_iconst hx hb 0 dG_isSize_26 (by decide) ?_
    exact W.zret hx hb hr rfl (fun t ht hW => ⟨_, rfl, (by first | (simp [szB, c8, c19, bI]; done) | (simp [szB, c8, bI]; done) | (simp [szB, c19, bI]; done) | (simp [szB, c8, c19, bI]; rfl) | (simp [szB, c8, bI]; rfl) | (simp [szB, c19, bI]; rfl)), ht⟩) (fun _ h9 => nomatch h9) dG_isSize_27
  · refine lv_lload_n hx hb dG_isSize_11 rfl (lv_at hl 1 rfl) ?_
    refine rn_lconst hx hb 1 dG_isSize_12 rfl ?_
    refine lv_ldc2 (v := 10000) hx hb hown (hg _ kG_81) dG_isSize_13 ?_
    refine tp_l (y := lN 10000) rfl ?_
    refine cpS_i (As := [.long w, .long (lN 1), .long (lN 10000)]) (rest := []) (post := fun r : Int32 => r = bI (wiB w (lN 1) (lN 10000))) ⟨hx, hb, hml, hown, hts⟩ (ct_G_within l dC dI cI cJ cZ w (lN 1) (lN 10000) ) (va_cwS 3 hts (gs kG_53 ks_G_within kin_G kc_G_within) rfl rfl rfl (by decide +kernel) ⟨Nat.le_trans (by decide) hR.1, Nat.le_trans (by decide) hR.2⟩) hP hK hE rfl hl.1 rfl (Nat.le_of_ble_eq_true rfl) dG_isSize_16 hcs (fun r hr => ?_)
    subst hr
    refine rb_eq (tgt := 26) hx hb dG_isSize_19 (by decide) (fun c19 => ?_) (fun c19 => ?_)
    · refine rn_iconst hx hb 0 dG_isSize_26 (by decide) ?_
      exact W.zret hx hb hr rfl (fun t ht hW => ⟨_, rfl, (by first | (simp [szB, c8, c19, bI]; done) | (simp [szB, c8, bI]; done) | (simp [szB, c19, bI]; done) | (simp [szB, c8, c19, bI]; rfl) | (simp [szB, c8, bI]; rfl) | (simp [szB, c19, bI]; rfl)), ht⟩) (fun _ h9 => nomatch h9) dG_isSize_27
    · refine rn_iconst hx hb 1 dG_isSize_22 (by decide) ?_
      refine lv_goto (tgt := 27) hx hb dG_isSize_23 (by decide) ?_
      exact W.zret hx hb hr rfl (fun t ht hW => ⟨_, rfl, (by first | (simp [szB, c8, c19, bI]; done) | (simp [szB, c8, bI]; done) | (simp [szB, c19, bI]; done) | (simp [szB, c8, c19, bI]; rfl) | (simp [szB, c8, bI]; rfl) | (simp [szB, c19, bI]; rfl)), ht⟩) (fun _ h9 => nomatch h9) dG_isSize_27

def imB (mk : Nat → Nat) (x : Int32) : Nat → Bool
  | 0 => false
  | k + 1 => imB mk x k || decide (nI (mk k) = x)
theorem imB_le {mk : Nat → Nat} {x : Int32} {k : Nat} (hk : nI (mk k) = x) : ∀ n, k < n → imB mk x n = true := by
  intro n
  induction n with
  | zero => intro q; omega
  | succ n ih =>
    intro q
    by_cases e : k = n
    · subst e; simp [imB, hk]
    · simp [imB, ih (by omega)]

set_option maxHeartbeats 4000000 in
set_option maxRecDepth 100000 in
theorem lp_G_marked {p : Program} {l : Launch} {e : Env} {R : Room} {s : State} {m : MethodId} {args : Array Value} {below : List Frame} {meth : Method} {c : Code} {H : Heap} {locs : List Loc} {cells slots : Nat} {Q : State → Prop} {dC : Nat → ClassId} {dI : Nat → Nat → Nat} {cI cJ cZ : ClassId} (qg q ql qs qr : Nat → Nat) (lv mw mh mk : Nat → Nat) (pc mc kc : Nat) (x : Int32) (hG : bGp lv mw mh mk pc mc kc) (hx : p.tables.exec = Jvm.exec) (hb : c.code = cG_isMarked) (hml : c.maxLocals = 3) (hown : s.vm.findClass nG = some m.cls) (hts : ∀ w ∈ wsG_isMarked, w.before args s = true) (hK : va_K (dC, dI) vwCl (tyE cI cJ cZ) s) (hP : va_P (dC, dI) vwCl (wG cI cJ cZ qg q ql qs qr lv mw mh mk pc mc kc) H) (hE : EV s) (hR : 0 ≤ R.frames ∧ 0 ≤ R.locals) (hcs : cells ≤ R.cells ∧ slots ≤ R.slots)
    (kx0 : ∀ (i : Nat) (hi : i ≤ kc) (ha : imB mk x i = false) (hx0 : kc ≤ i) (ls : Array Slot), lv_has ls 3 [(0, .ref (qg 0)), (1, .int x), (2, .int (nI i))] → W p l e R s m args below meth c H locs cells slots Q (F0 m 28 ls []))
    (kx1 : ∀ (i : Nat) (hi : i ≤ kc) (ha : imB mk x i = false) (hx0 : i < kc) (hx1 : nI (mk i) = x) (ls : Array Slot), lv_has ls 3 [(0, .ref (qg 0)), (1, .int x), (2, .int (nI i))] → W p l e R s m args below meth c H locs cells slots Q (F0 m 20 ls []))
    : ∀ (fu : Nat) (i : Nat) (hi : i ≤ kc) (ha : imB mk x i = false), kc - i < fu → ∀ ls : Array Slot, lv_has ls 3 [(0, .ref (qg 0)), (1, .int x), (2, .int (nI i))] → W p l e R s m args below meth c H locs cells slots Q (F0 m 2 ls []) := by
  have hg : ∀ w ∈ gw, w.before args s = true := fun w h => hts w (List.mem_cons_of_mem _ h)
  have hpc := hG.1
  have hmc := hG.2.1
  have hkc := hG.2.2.1
  have hgi := hG.2.2.2
  intro fu
  induction fu with
  | zero => intro i hi ha h0; exact absurd h0 (Nat.not_lt_zero _)
  | succ fu ihL =>
    intro i hi ha hfu ls hl
    refine lv_iload_n hx hb dG_isMarked_2 rfl (lv_at hl 2 rfl) ?_
    refine lv_aload_n hx hb dG_isMarked_3 rfl (lv_at hl 0 rfl) ?_
    refine va_get (D := (dC, dI)) (ci := 0) (v := .int (nI kc)) (C := nG) (T := TG) (N := 11) hx hb hg inG hown hK hP 0 rfl rfl 7 (by decide) (hg _ kG_201) (fun _ h9 => h9) rfl dG_isMarked_4 ?_
    refine rn_icmp_ge (tgt := 28) hx hb dG_isMarked_7 (by decide) (by omega) (by omega) (fun c7 => ?_) (fun c7 => ?_)
    · exact kx0 i hi ha (by omega) ls (lv_sub hl [0, 1, 2] rfl)
    · refine lv_aload_n hx hb dG_isMarked_10 rfl (lv_at hl 0 rfl) ?_
      refine va_get (D := (dC, dI)) (ci := 0) (v := .ref (qg 4)) (C := nG) (T := TG) (N := 11) hx hb hg inG hown hK hP 0 rfl rfl 6 (by decide) (hg _ kG_27) (fun _ h9 => h9) rfl dG_isMarked_11 ?_
      refine lv_iload_n hx hb dG_isMarked_14 rfl (lv_at hl 2 rfl) ?_
      refine ga_i (f := mk) hx hb hK hP 4 0 rfl rfl (by omega) (by decide) dG_isMarked_15 ?_
      refine lv_iload_n hx hb dG_isMarked_16 rfl (lv_at hl 1 rfl) ?_
      refine lv_icmp_ne (tgt := 22) hx hb dG_isMarked_17 (by decide) (fun c17 => ?_) (fun c17 => ?_)
      · refine rn_iinc (lv' := [(2, .int (nI (i + 1))), (0, .ref (qg 0)), (1, .int x)]) hx hb dG_isMarked_22 hl (k := 2) rfl (by decide) rfl (fun ls hl => ?_)
        refine lv_goto (tgt := 2) hx hb dG_isMarked_25 (by decide) ?_
        exact ihL (i + 1) (by omega) (by simp [imB, ha, c17]) (by omega) ls (lv_sub hl [1, 2, 0] rfl)
      · exact kx1 i hi ha (by omega) (c17) ls (lv_sub hl [0, 1, 2] rfl)

set_option maxHeartbeats 4000000 in
set_option maxRecDepth 100000 in
theorem ct_G_isMarked (l : Launch) (dC : Nat → ClassId) (dI : Nat → Nat → Nat) (cI cJ cZ : ClassId) (qg q ql qs qr : Nat → Nat) (lv mw mh mk : Nat → Nat) (pc mc kc : Nat) (x : Int32) (hG : bGp lv mw mh mk pc mc kc) : Met l yG_isMarked wsG_isMarked ({ frames := 0, cells := 0, slots := 0, locals := 0 }) (PcR (dC, dI) (wG cI cJ cZ qg q ql qs qr lv mw mh mk pc mc kc) (tyE cI cJ cZ) [.ref (qg 0), .int x]) (vp_Si (fun r => r = bI (imB mk x kc))) 0 0 (fun _ => False) := by
  refine Met.ofW (cc := cG_isMarked) (maxL := 3) (ret := (some .boolean)) (by decide) rfl ?_
  intro p e s m args below meth c s₁ B hml hv
  obtain ⟨rfl, hP, hK, hE⟩ := hv
  have hx := B.exec
  have hb := B.bytes
  have hr := B.returns
  have hts := atoms_spec (ws := wsG_isMarked) B.pre
  have hg : ∀ w ∈ gw, w.before _ s = true := fun w h => hts w (List.mem_cons_of_mem _ h)
  have hown : s.vm.findClass nG = some m.cls := findClass_of_methodNamed B.named
  have hlocks := B.notSynchronized
  have hR : 0 ≤ (headSpec wsG_isMarked ({ frames := 0, cells := 0, slots := 0, locals := 0 })).room.frames ∧ 0 ≤ (headSpec wsG_isMarked ({ frames := 0, cells := 0, slots := 0, locals := 0 })).room.locals := ⟨Nat.le_refl _, Nat.le_refl _⟩
  have hcs : 0 ≤ (headSpec wsG_isMarked ({ frames := 0, cells := 0, slots := 0, locals := 0 })).room.cells ∧ 0 ≤ (headSpec wsG_isMarked ({ frames := 0, cells := 0, slots := 0, locals := 0 })).room.slots := ⟨Nat.zero_le _, Nat.zero_le _⟩
  have hpc := hG.1
  have hmc := hG.2.1
  have hkc := hG.2.2.1
  have hgi := hG.2.2.2
  have hl := lv_entry ([.ref (qg 0), .int x]) (n := 3) (Nat.le_of_ble_eq_true rfl)
  rw [lg_entry_eq]
  generalize (lg_sl ([.ref (qg 0), .int x]) ++ List.replicate (3 - (lg_sl ([.ref (qg 0), .int x])).length) Slot.unset).toArray = ls at hl ⊢
  have hl : lv_has ls 3 [(0, .ref (qg 0)), (1, .int x)] := hl
  refine rn_iconst hx hb 0 dG_isMarked_0 (by decide) ?_
  refine lv_istore_n (lv' := [(2, .int (nI 0)), (0, .ref (qg 0)), (1, .int x)]) hx hb dG_isMarked_1 rfl hl (by decide) rfl (fun ls hl => ?_)
  refine lp_G_marked qg q ql qs qr lv mw mh mk pc mc kc x hG hx hb hml hown hts hK hP hE (by first | exact hR | exact ⟨Nat.le_trans (by decide) hR.1, Nat.le_trans (by decide) hR.2⟩) hcs (fun i hi ha hx0 ls hl => ?_) (fun i hi ha hx0 hx1 ls hl => ?_) ((kc - 0) + 1) 0 (by omega) (rfl) (by omega) ls (lv_sub hl [1, 2, 0] rfl)
  · refine rn_iconst hx hb 0 dG_isMarked_28 (by decide) ?_
    exact W.zret hx hb hr rfl (fun t ht hW => ⟨_, rfl, (by first | (rw [imB_le hx1 kc hx0]; rfl) | (rw [show kc = i from (by omega), ha]; rfl)), ht⟩) (fun _ h9 => nomatch h9) dG_isMarked_29
  · refine rn_iconst hx hb 1 dG_isMarked_20 (by decide) ?_
    exact W.zret hx hb hr rfl (fun t ht hW => ⟨_, rfl, (by first | (rw [imB_le hx1 kc hx0]; rfl) | (rw [show kc = i from (by omega), ha]; rfl)), ht⟩) (fun _ h9 => nomatch h9) dG_isMarked_21


def cdPl (pc : Nat) (x : Int32) : Nat := if wiB x.toInt64 (lN 0) (lN 9) = true then (if pc < 20 then 0 else 2) else 1

set_option maxHeartbeats 4000000 in
set_option maxRecDepth 100000 in
theorem ct_G_place (l : Launch) (hl0 : l.stackTraces = false) (dC : Nat → ClassId) (dI : Nat → Nat → Nat) (cI cJ cZ : ClassId) (qg q ql qs qr : Nat → Nat) (lv mw mh mk : Nat → Nat) (pc mc kc : Nat) (bg en sc wd ht oh bt : Nat → Nat) (co n : Nat) (re : Nat → Nat) (sa fm : Nat) (tr rp rn rs : Nat → Nat) (rk us gl : Nat) (nu : Nat → Nat) (rl : Nat) (x : Int32) (sz : Nat) (hG : bGp lv mw mh mk pc mc kc) : vx_Met l yG_place wsG_place ({ frames := 6, cells := 1, slots := 6, locals := 120 }) (PcX (dC, dI) (wG cI cJ cZ qg q ql qs qr lv mw mh mk pc mc kc ++ wP cI cJ cZ q bg en sc wd ht oh bt co n ++ wL cI cJ cZ ql re sa fm ++ wS cI cJ cZ qs tr rp rn rs rk us gl ++ wR cI cJ cZ qr nu rl) (tyE cI cJ cZ) sz [.ref (qg 0), .int x]) (va_Qi (fun r (_ : Unit) => cdPl pc x = 0 ∧ r = nI pc) (QwB (dC, dI) (wG cI cJ cZ qg q ql qs qr (va_up lv pc (cN x)) mw mh mk (pc + 1) mc kc ++ wP cI cJ cZ q bg en sc wd ht oh bt co n ++ wL cI cJ cZ ql re sa fm ++ wS cI cJ cZ qs tr rp rn rs rk us gl ++ wR cI cJ cZ qr nu rl) (tyE cI cJ cZ) (va_A (wG cI cJ cZ qg q ql qs qr lv mw mh mk pc mc kc ++ wP cI cJ cZ q bg en sc wd ht oh bt co n ++ wL cI cJ cZ ql re sa fm ++ wS cI cJ cZ qs tr rp rn rs rk us gl ++ wR cI cJ cZ qr nu rl) sz)) (va_A (wG cI cJ cZ qg q ql qs qr lv mw mh mk pc mc kc ++ wP cI cJ cZ q bg en sc wd ht oh bt co n ++ wL cI cJ cZ ql re sa fm ++ wS cI cJ cZ qs tr rp rn rs rk us gl ++ wR cI cJ cZ qr nu rl) sz)) (XCw (cdPl pc x) [(1, xIA), (2, xUO)]) 1 6 (va_A (wG cI cJ cZ qg q ql qs qr lv mw mh mk pc mc kc ++ wP cI cJ cZ q bg en sc wd ht oh bt co n ++ wL cI cJ cZ ql re sa fm ++ wS cI cJ cZ qs tr rp rn rs rk us gl ++ wR cI cJ cZ qr nu rl) sz) := by
  refine vx_ofW (cc := cG_place) (maxL := 2) (ret := (some .int)) (by decide) rfl ?_
  intro p e s m args below meth c s₁ B hml hno hv
  obtain ⟨rfl, hsz, hP, hK, hD0, hE, hEX⟩ := hv
  have hx := B.exec
  have hb := B.bytes
  have hr := B.returns
  have hts := atoms_spec (ws := wsG_place) B.pre
  have hg : ∀ w ∈ gw, w.before _ s = true := fun w h => hts w (List.mem_cons_of_mem _ h)
  have hown : s.vm.findClass nG = some m.cls := findClass_of_methodNamed B.named
  have hlocks := B.notSynchronized
  have hR : 6 ≤ (headSpec wsG_place ({ frames := 6, cells := 1, slots := 6, locals := 120 })).room.frames ∧ 120 ≤ (headSpec wsG_place ({ frames := 6, cells := 1, slots := 6, locals := 120 })).room.locals := ⟨Nat.le_refl _, Nat.le_refl _⟩
  have hcs : 0 ≤ (headSpec wsG_place ({ frames := 6, cells := 1, slots := 6, locals := 120 })).room.cells ∧ 0 ≤ (headSpec wsG_place ({ frames := 6, cells := 1, slots := 6, locals := 120 })).room.slots := ⟨Nat.zero_le _, Nat.zero_le _⟩
  subst hsz
  have hD := hD0.self (sz := s.heap.size)
  generalize hAe : va_A (wG cI cJ cZ qg q ql qs qr lv mw mh mk pc mc kc ++ wP cI cJ cZ q bg en sc wd ht oh bt co n ++ wL cI cJ cZ ql re sa fm ++ wS cI cJ cZ qs tr rp rn rs rk us gl ++ wR cI cJ cZ qr nu rl) s.heap.size = A at hD ⊢
  have hA : ∀ q : Nat, s.heap.size ≤ q → A q := fun q h => by rw [← hAe]; exact Or.inr h
  obtain ⟨H, hH⟩ : ∃ H, H = s.heap := ⟨_, rfl⟩
  have hS : va_S A s.heap H [] := by rw [hH]; exact va_S.rf
  rw [← hH] at hP ⊢
  have hpc := hG.1
  have hmc := hG.2.1
  have hkc := hG.2.2.1
  have hgi := hG.2.2.2
  have hl := lv_entry ([.ref (qg 0), .int x]) (n := 2) (Nat.le_of_ble_eq_true rfl)
  rw [lg_entry_eq]
  generalize (lg_sl ([.ref (qg 0), .int x]) ++ List.replicate (2 - (lg_sl ([.ref (qg 0), .int x])).length) Slot.unset).toArray = ls at hl ⊢
  have hl : lv_has ls 2 [(0, .ref (qg 0)), (1, .int x)] := hl
  refine lv_iload_n hx hb dG_place_0 rfl (lv_at hl 1 rfl) ?_
  refine lv_i2l (v := (x).toInt64) hx hb dG_place_1 rfl ?_
  refine rn_lconst hx hb 0 dG_place_2 rfl ?_
  refine lv_ldc2 (v := 9) hx hb hown (hg _ kG_51) dG_place_3 ?_
  refine tp_l (y := lN 9) rfl ?_
  refine cpS_i (As := [.long ((x).toInt64), .long (lN 0), .long (lN 9)]) (rest := []) (post := fun r : Int32 => r = bI (wiB ((x).toInt64) (lN 0) (lN 9))) ⟨hx, hb, hml, hown, hts⟩ (ct_G_within l dC dI cI cJ cZ ((x).toInt64) (lN 0) (lN 9) ) (va_cwS 3 hts (gs kG_53 ks_G_within kin_G kc_G_within) rfl rfl rfl (by decide +kernel) ⟨Nat.le_trans (by decide) hR.1, Nat.le_trans (by decide) hR.2⟩) (hP.sub (ws' := []) [] rfl) hK hE rfl hl.1 rfl (Nat.le_of_ble_eq_true rfl) dG_place_6 hcs (fun r hr => ?_)
  subst hr
  refine rb_ne (tgt := 22) hx hb dG_place_9 (by decide) (fun c9 => ?_) (fun c9 => ?_)
  · obtain ⟨j, hj1, hj2, rfl⟩ := wi_of c9 (by decide) (by decide)
    refine lv_aload_n hx hb dG_place_22 rfl (lv_at hl 0 rfl) ?_
    refine va_get (D := (dC, dI)) (ci := 0) (v := .int (nI pc)) (C := nG) (T := TG) (N := 11) hx hb hg inG hown hK hP 0 rfl rfl 1 (by decide) (hg _ kG_64) (fun _ h9 => h9) rfl dG_place_23 ?_
    refine rn_bipush hx hb 20 dG_place_26 (by decide) ?_
    refine rn_icmp_lt (tgt := 41) hx hb dG_place_28 (by decide) (by omega) (by omega) (fun c28 => ?_) (fun c28 => ?_)
    · refine lv_aload_n hx hb dG_place_41 rfl (lv_at hl 0 rfl) ?_
      refine va_get (D := (dC, dI)) (ci := 0) (v := .ref (qg 1)) (C := nG) (T := TG) (N := 11) hx hb hg inG hown hK hP 0 rfl rfl 0 (by decide) (hg _ kG_9) (fun _ h9 => h9) rfl dG_place_42 ?_
      refine lv_aload_n hx hb dG_place_45 rfl (lv_at hl 0 rfl) ?_
      refine va_get (D := (dC, dI)) (ci := 0) (v := .int (nI pc)) (C := nG) (T := TG) (N := 11) hx hb hg inG hown hK hP 0 rfl rfl 1 (by decide) (hg _ kG_64) (fun _ h9 => h9) rfl dG_place_46 ?_
      refine lv_iload_n hx hb dG_place_49 rfl (lv_at hl 1 rfl) ?_
      refine sa_i (f := lv) (v := j) hx hb hK hP hD hS 1 0 rfl rfl (by omega) (by decide) dG_place_50 (fun H locs hP hD hS => ?_)
      have hP : va_P (dC, dI) vwCl (wG cI cJ cZ qg q ql qs qr (va_up lv pc j) mw mh mk pc mc kc ++ wP cI cJ cZ q bg en sc wd ht oh bt co n ++ wL cI cJ cZ ql re sa fm ++ wS cI cJ cZ qs tr rp rn rs rk us gl ++ wR cI cJ cZ qr nu rl) H := hP
      have hD : va_D A (wG cI cJ cZ qg q ql qs qr (va_up lv pc j) mw mh mk pc mc kc ++ wP cI cJ cZ q bg en sc wd ht oh bt co n ++ wL cI cJ cZ ql re sa fm ++ wS cI cJ cZ qs tr rp rn rs rk us gl ++ wR cI cJ cZ qr nu rl) := hD
      refine lv_aload_n hx hb dG_place_51 rfl (lv_at hl 0 rfl) ?_
      refine lv_dup hx hb dG_place_52 rfl ?_
      refine va_get (D := (dC, dI)) (ci := 0) (v := .int (nI pc)) (C := nG) (T := TG) (N := 11) hx hb hg inG hown hK hP 0 rfl rfl 1 (by decide) (hg _ kG_64) (fun _ h9 => h9) rfl dG_place_53 ?_
      refine rn_iconst hx hb 1 dG_place_56 (by decide) ?_
      refine rn_iadd hx hb dG_place_57 ?_
      refine va_put (D := (dC, dI)) (ci := 0) (v := .int (nI (pc + 1))) (ty := .int) (C := nG) (T := TG) (N := 11) hx hb hg inG tG tG_ok nmG hown hK hP hD hS 0 rfl rfl 1 (by decide) (hg _ kG_64) (fun _ h9 => h9) rfl (by decide +kernel) rfl rfl (Nat.le_of_ble_eq_true rfl) dG_place_58 (fun H locs hP hD hS => ?_)
      have hP : va_P (dC, dI) vwCl (wG cI cJ cZ qg q ql qs qr (va_up lv pc j) mw mh mk (pc + 1) mc kc ++ wP cI cJ cZ q bg en sc wd ht oh bt co n ++ wL cI cJ cZ ql re sa fm ++ wS cI cJ cZ qs tr rp rn rs rk us gl ++ wR cI cJ cZ qr nu rl) H := hP
      have hD : va_D A (wG cI cJ cZ qg q ql qs qr (va_up lv pc j) mw mh mk (pc + 1) mc kc ++ wP cI cJ cZ q bg en sc wd ht oh bt co n ++ wL cI cJ cZ ql re sa fm ++ wS cI cJ cZ qs tr rp rn rs rk us gl ++ wR cI cJ cZ qr nu rl) := hD
      refine lv_aload_n hx hb dG_place_61 rfl (lv_at hl 0 rfl) ?_
      refine va_get (D := (dC, dI)) (ci := 0) (v := .int (nI (pc + 1))) (C := nG) (T := TG) (N := 11) hx hb hg inG hown hK hP 0 rfl rfl 1 (by decide) (hg _ kG_64) (fun _ h9 => h9) rfl dG_place_62 ?_
      refine rn_iconst hx hb 1 dG_place_65 (by decide) ?_
      refine rn_isub hx hb dG_place_66 (by omega) ?_
      have hP9 : va_P (dC, dI) vwCl (wG cI cJ cZ qg q ql qs qr (va_up lv pc (cN x)) mw mh mk (pc + 1) mc kc ++ wP cI cJ cZ q bg en sc wd ht oh bt co n ++ wL cI cJ cZ ql re sa fm ++ wS cI cJ cZ qs tr rp rn rs rk us gl ++ wR cI cJ cZ qr nu rl) H := by rw [cN_n (show j < 2147483648 by omega)]; exact hP
      have hD9 : va_D A (wG cI cJ cZ qg q ql qs qr (va_up lv pc (cN x)) mw mh mk (pc + 1) mc kc ++ wP cI cJ cZ q bg en sc wd ht oh bt co n ++ wL cI cJ cZ ql re sa fm ++ wS cI cJ cZ qs tr rp rn rs rk us gl ++ wR cI cJ cZ qr nu rl) := by rw [cN_n (show j < 2147483648 by omega)]; exact hD
      refine W.widen (k := 1) (n := 6) (by omega) (by omega) ?_
      refine vx_ret ?_
      exact W.iret hx hb hr (fun t ht hW => ⟨⟨_, (), rfl, ⟨(by simp [cdPl, c9, c28]), (congrArg nI (by omega))⟩, by rw [ht]; exact hP9, va_K.moved hW.alike hK, hD9⟩, hS.F ht⟩) hS.2.2 dG_place_67
    · subst hH
      exact thr hx hb hl0 hown hEX hg kG_68 kin_UnsupportedOperationException at_UO (by decide +kernel) (is := 70) (text := "no more places") (by decide) (hl.1.trans hml.symm) dG_place_31 dG_place_34 dG_place_35 dG_place_37 dG_place_40 hno (Nat.lt_of_lt_of_le (by decide) hR.1) (Nat.le_trans (Nat.le_of_ble_eq_true rfl) hR.2) (Nat.le_refl _) (Nat.le_refl _) hlocks (by simp [cdPl, c9, c28])
  · subst hH
    exact thr hx hb hl0 hown hEX hg kG_57 kin_IllegalArgumentException at_IA (by decide +kernel) (is := 59) (text := "no such level") (by decide) (hl.1.trans hml.symm) dG_place_12 dG_place_15 dG_place_16 dG_place_18 dG_place_21 hno (Nat.lt_of_lt_of_le (by decide) hR.1) (Nat.le_trans (Nat.le_of_ble_eq_true rfl) hR.2) (Nat.le_refl _) (Nat.le_refl _) hlocks (by simp [cdPl, c9])
