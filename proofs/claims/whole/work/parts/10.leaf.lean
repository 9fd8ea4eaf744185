set_option maxHeartbeats 4000000 in
set_option maxRecDepth 100000 in
theorem ct_JM_max_J (l : Launch) (dC : Nat → ClassId) (dI : Nat → Nat → Nat) (cI cJ cZ : ClassId) (x y : Nat) (h1 : x < 9223372036854775808) (h2 : y < 9223372036854775808) : Met l yJM_max_J wsJM_max_J ({ frames := 0, cells := 0, slots := 0, locals := 0 }) (PcR (dC, dI) [] (tyE cI cJ cZ) [.long (lN x), .long (lN y)]) (vp_Sl (fun r => r = lN (max x y))) 0 0 (fun _ => False) := by
  refine va_MetF (cc := cJM_max_J) (maxL := 4) (ret := (some .long)) (by decide +kernel) rfl ?_
  intro p e s m args below meth c s₁ B hml hv
  obtain ⟨rfl, hP, hK, hE⟩ := hv
  have hx := B.exec
  have hb := B.bytes
  have hr := B.returns
  have hts := atoms_spec (ws := wsJM_max_J) B.pre
  have hg : ∀ w ∈ gw, w.before _ s = true := fun w h => hts w (List.mem_cons_of_mem _ h)
  have hown : s.vm.findClass nJM = some m.cls := findClass_of_methodNamed B.named
  have hlocks := B.notSynchronized
  have hR : 0 ≤ (headSpec wsJM_max_J ({ frames := 0, cells := 0, slots := 0, locals := 0 })).room.frames ∧ 0 ≤ (headSpec wsJM_max_J ({ frames := 0, cells := 0, slots := 0, locals := 0 })).room.locals := ⟨Nat.le_refl _, Nat.le_refl _⟩
  have hcs : 0 ≤ (headSpec wsJM_max_J ({ frames := 0, cells := 0, slots := 0, locals := 0 })).room.cells ∧ 0 ≤ (headSpec wsJM_max_J ({ frames := 0, cells := 0, slots := 0, locals := 0 })).room.slots := ⟨Nat.zero_le _, Nat.zero_le _⟩
  have hl := lv_entry ([.long (lN x), .long (lN y)]) (n := 4) (Nat.le_of_ble_eq_true rfl)
  rw [lg_entry_eq]
  generalize (lg_sl ([.long (lN x), .long (lN y)]) ++ List.replicate (4 - (lg_sl ([.long (lN x), .long (lN y)])).length) Slot.unset).toArray = ls at hl ⊢
  have hl : lv_has ls 4 [(0, .long (lN x)), (2, .long (lN y))] := hl
  refine lv_lload_n hx hb dJM_max_J_0 rfl (lv_at hl 0 rfl) ?_
  refine lv_lload_n hx hb dJM_max_J_1 rfl (lv_at hl 1 rfl) ?_
  refine rn_lcmp_lt (tgt := 10) hx hb dJM_max_J_2 dJM_max_J_3 (by decide) (by omega) (by omega) (fun c3 => ?_) (fun c3 => ?_)
  · refine lv_lload_n hx hb dJM_max_J_10 rfl (lv_at hl 1 rfl) ?_
    exact W.lret hx hb hr (fun t ht hW => ⟨_, rfl, (congrArg lN (by omega)), ht⟩) (fun _ h9 => nomatch h9) dJM_max_J_11
  · refine lv_lload_n hx hb dJM_max_J_6 rfl (lv_at hl 0 rfl) ?_
    refine lv_goto (tgt := 11) hx hb dJM_max_J_7 (by decide) ?_
    exact W.lret hx hb hr (fun t ht hW => ⟨_, rfl, (congrArg lN (by omega)), ht⟩) (fun _ h9 => nomatch h9) dJM_max_J_11

set_option maxHeartbeats 4000000 in
set_option maxRecDepth 100000 in
theorem ct_JM_min_J (l : Launch) (dC : Nat → ClassId) (dI : Nat → Nat → Nat) (cI cJ cZ : ClassId) (x y : Nat) (h1 : x < 9223372036854775808) (h2 : y < 9223372036854775808) : Met l yJM_min_J wsJM_min_J ({ frames := 0, cells := 0, slots := 0, locals := 0 }) (PcR (dC, dI) [] (tyE cI cJ cZ) [.long (lN x), .long (lN y)]) (vp_Sl (fun r => r = lN (min x y))) 0 0 (fun _ => False) := by
  refine va_MetF (cc := cJM_min_J) (maxL := 4) (ret := (some .long)) (by decide +kernel) rfl ?_
  intro p e s m args below meth c s₁ B hml hv
  obtain ⟨rfl, hP, hK, hE⟩ := hv
  have hx := B.exec
  have hb := B.bytes
  have hr := B.returns
  have hts := atoms_spec (ws := wsJM_min_J) B.pre
  have hg : ∀ w ∈ gw, w.before _ s = true := fun w h => hts w (List.mem_cons_of_mem _ h)
  have hown : s.vm.findClass nJM = some m.cls := findClass_of_methodNamed B.named
  have hlocks := B.notSynchronized
  have hR : 0 ≤ (headSpec wsJM_min_J ({ frames := 0, cells := 0, slots := 0, locals := 0 })).room.frames ∧ 0 ≤ (headSpec wsJM_min_J ({ frames := 0, cells := 0, slots := 0, locals := 0 })).room.locals := ⟨Nat.le_refl _, Nat.le_refl _⟩
  have hcs : 0 ≤ (headSpec wsJM_min_J ({ frames := 0, cells := 0, slots := 0, locals := 0 })).room.cells ∧ 0 ≤ (headSpec wsJM_min_J ({ frames := 0, cells := 0, slots := 0, locals := 0 })).room.slots := ⟨Nat.zero_le _, Nat.zero_le _⟩
  have hl := lv_entry ([.long (lN x), .long (lN y)]) (n := 4) (Nat.le_of_ble_eq_true rfl)
  rw [lg_entry_eq]
  generalize (lg_sl ([.long (lN x), .long (lN y)]) ++ List.replicate (4 - (lg_sl ([.long (lN x), .long (lN y)])).length) Slot.unset).toArray = ls at hl ⊢
  have hl : lv_has ls 4 [(0, .long (lN x)), (2, .long (lN y))] := hl
  refine lv_lload_n hx hb dJM_min_J_0 rfl (lv_at hl 0 rfl) ?_
  refine lv_lload_n hx hb dJM_min_J_1 rfl (lv_at hl 1 rfl) ?_
  refine rn_lcmp_gt (tgt := 10) hx hb dJM_min_J_2 dJM_min_J_3 (by decide) (by omega) (by omega) (fun c3 => ?_) (fun c3 => ?_)
  · refine lv_lload_n hx hb dJM_min_J_10 rfl (lv_at hl 1 rfl) ?_
    exact W.lret hx hb hr (fun t ht hW => ⟨_, rfl, (congrArg lN (by omega)), ht⟩) (fun _ h9 => nomatch h9) dJM_min_J_11
  · refine lv_lload_n hx hb dJM_min_J_6 rfl (lv_at hl 0 rfl) ?_
    refine lv_goto (tgt := 11) hx hb dJM_min_J_7 (by decide) ?_
    exact W.lret hx hb hr (fun t ht hW => ⟨_, rfl, (congrArg lN (by omega)), ht⟩) (fun _ h9 => nomatch h9) dJM_min_J_11

set_option maxHeartbeats 4000000 in
set_option maxRecDepth 100000 in
theorem ct_JM_min_I (l : Launch) (dC : Nat → ClassId) (dI : Nat → Nat → Nat) (cI cJ cZ : ClassId) (x y : Nat) (h1 : x < 2147483648) (h2 : y < 2147483648) : Met l yJM_min_I wsJM_min_I ({ frames := 0, cells := 0, slots := 0, locals := 0 }) (PcR (dC, dI) [] (tyE cI cJ cZ) [.int (nI x), .int (nI y)]) (vp_Si (fun r => r = nI (min x y))) 0 0 (fun _ => False) := by
  refine va_MetF (cc := cJM_min_I) (maxL := 2) (ret := (some .int)) (by decide +kernel) rfl ?_
  intro p e s m args below meth c s₁ B hml hv
  obtain ⟨rfl, hP, hK, hE⟩ := hv
  have hx := B.exec
  have hb := B.bytes
  have hr := B.returns
  have hts := atoms_spec (ws := wsJM_min_I) B.pre
  have hg : ∀ w ∈ gw, w.before _ s = true := fun w h => hts w (List.mem_cons_of_mem _ h)
  have hown : s.vm.findClass nJM = some m.cls := findClass_of_methodNamed B.named
  have hlocks := B.notSynchronized
  have hR : 0 ≤ (headSpec wsJM_min_I ({ frames := 0, cells := 0, slots := 0, locals := 0 })).room.frames ∧ 0 ≤ (headSpec wsJM_min_I ({ frames := 0, cells := 0, slots := 0, locals := 0 })).room.locals := ⟨Nat.le_refl _, Nat.le_refl _⟩
  have hcs : 0 ≤ (headSpec wsJM_min_I ({ frames := 0, cells := 0, slots := 0, locals := 0 })).room.cells ∧ 0 ≤ (headSpec wsJM_min_I ({ frames := 0, cells := 0, slots := 0, locals := 0 })).room.slots := ⟨Nat.zero_le _, Nat.zero_le _⟩
  have hl := lv_entry ([.int (nI x), .int (nI y)]) (n := 2) (Nat.le_of_ble_eq_true rfl)
  rw [lg_entry_eq]
  generalize (lg_sl ([.int (nI x), .int (nI y)]) ++ List.replicate (2 - (lg_sl ([.int (nI x), .int (nI y)])).length) Slot.unset).toArray = ls at hl ⊢
  have hl : lv_has ls 2 [(0, .int (nI x)), (1, .int (nI y))] := hl
  refine lv_iload_n hx hb dJM_min_I_0 rfl (lv_at hl 0 rfl) ?_
  refine lv_iload_n hx hb dJM_min_I_1 rfl (lv_at hl 1 rfl) ?_
  refine rn_icmp_gt (tgt := 9) hx hb dJM_min_I_2 (by decide) (by omega) (by omega) (fun c2 => ?_) (fun c2 => ?_)
  · refine lv_iload_n hx hb dJM_min_I_9 rfl (lv_at hl 1 rfl) ?_
    exact W.iret hx hb hr (fun t ht hW => ⟨_, rfl, (congrArg nI (by omega)), ht⟩) (fun _ h9 => nomatch h9) dJM_min_I_10
  · refine lv_iload_n hx hb dJM_min_I_5 rfl (lv_at hl 0 rfl) ?_
    refine lv_goto (tgt := 10) hx hb dJM_min_I_6 (by decide) ?_
    exact W.iret hx hb hr (fun t ht hW => ⟨_, rfl, (congrArg nI (by omega)), ht⟩) (fun _ h9 => nomatch h9) dJM_min_I_10

theorem bc_bound {x : Nat} (h : x < 2 ^ 64) : ((x / 2 ^ 1) &&& 6148914691236517205) ≤ x ∧ x - ((x / 2 ^ 1) &&& 6148914691236517205) < 2 ^ 64 ∧ (x - ((x / 2 ^ 1) &&& 6148914691236517205) = bv s1 x 8) := by
  have h1 := st1 8 x (by omega)
  have e : bm 85 8 = 6148914691236517205 := by decide
  rw [e] at h1
  exact ⟨h1.1, by omega, h1.2⟩
theorem bv_le68 {f : Nat → Nat} (hf : ∀ a, a < 256 → f a ≤ 68) : ∀ (m x : Nat), 3 * bv f x m < 256 ^ m := by
  intro m
  induction m with
  | zero => intro x; simp [bv]
  | succ m ih =>
    intro x
    have h1 := ih (x / 256)
    have h2 := hf (x % 256) (by omega)
    show 3 * (f (x % 256) + 256 * bv f (x / 256) m) < 256 ^ (m + 1)
    rw [Nat.pow_succ]
    omega
theorem bv_le8 {f : Nat → Nat} (hf : ∀ a, a < 256 → f a ≤ 8) : ∀ (m x : Nat), 31 * bv f x m < 256 ^ m := by
  intro m
  induction m with
  | zero => intro x; simp [bv]
  | succ m ih =>
    intro x
    have h1 := ih (x / 256)
    have h2 := hf (x % 256) (by omega)
    show 31 * (f (x % 256) + 256 * bv f (x / 256) m) < 256 ^ (m + 1)
    rw [Nat.pow_succ]
    omega

set_option maxHeartbeats 4000000 in
set_option maxRecDepth 100000 in
theorem ct_JL_bitCount (l : Launch) (dC : Nat → ClassId) (dI : Nat → Nat → Nat) (cI cJ cZ : ClassId) (x : Nat) (hx0 : x < 4611686018427387904) : Met l yJL_bitCount wsJL_bitCount ({ frames := 0, cells := 0, slots := 0, locals := 0 }) (PcR (dC, dI) [] (tyE cI cJ cZ) [.long (lN x)]) (vp_Si (fun r => r = nI (pcn x 64))) 0 0 (fun _ => False) := by
  refine va_MetF (cc := cJL_bitCount) (maxL := 2) (ret := (some .int)) (by decide +kernel) rfl ?_
  intro p e s m args below meth c s₁ B hml hv
  obtain ⟨rfl, hP, hK, hE⟩ := hv
  have hx := B.exec
  have hb := B.bytes
  have hr := B.returns
  have hts := atoms_spec (ws := wsJL_bitCount) B.pre
  have hg : ∀ w ∈ gw, w.before _ s = true := fun w h => hts w (List.mem_cons_of_mem _ h)
  have hown : s.vm.findClass nJL = some m.cls := findClass_of_methodNamed B.named
  have hlocks := B.notSynchronized
  have hR : 0 ≤ (headSpec wsJL_bitCount ({ frames := 0, cells := 0, slots := 0, locals := 0 })).room.frames ∧ 0 ≤ (headSpec wsJL_bitCount ({ frames := 0, cells := 0, slots := 0, locals := 0 })).room.locals := ⟨Nat.le_refl _, Nat.le_refl _⟩
  have hcs : 0 ≤ (headSpec wsJL_bitCount ({ frames := 0, cells := 0, slots := 0, locals := 0 })).room.cells ∧ 0 ≤ (headSpec wsJL_bitCount ({ frames := 0, cells := 0, slots := 0, locals := 0 })).room.slots := ⟨Nat.zero_le _, Nat.zero_le _⟩
  obtain ⟨f1, f2, f3⟩ := bc_bound (x := x) (by omega)
  obtain ⟨-, g2, g3⟩ := bc_steps (x := x) (by omega)
  have l1 := bv_lt s1_lt 8 x
  have l2 := bv_le68 (f := fun a => s2 (s1 a)) (fun a h => (s21_lt a h).1) 8 x
  have l3 := bv_le8 (f := fun a => pcn a 8) (fun a h => (d2b ⟨a, h⟩).2.2.2.2) 8 x
  have hfin := bcN_eq (x := x) (by omega)
  have hl := lv_entry ([.long (lN x)]) (n := 2) (Nat.le_of_ble_eq_true rfl)
  rw [lg_entry_eq]
  generalize (lg_sl ([.long (lN x)]) ++ List.replicate (2 - (lg_sl ([.long (lN x)])).length) Slot.unset).toArray = ls at hl ⊢
  have hl : lv_has ls 2 [(0, .long (lN x))] := hl
  refine lv_lload_n hx hb dJL_bitCount_0 rfl (lv_at hl 0 rfl) ?_
  refine lv_lload_n hx hb dJL_bitCount_1 rfl (lv_at hl 0 rfl) ?_
  refine rn_iconst hx hb 1 dJL_bitCount_2 (by decide) ?_
  refine rn_lushr hx hb dJL_bitCount_3 (by omega) (by omega) ?_
  refine lv_ldc2 (v := 6148914691236517205) hx hb hown (hg _ kJL_314) dJL_bitCount_4 ?_
  refine tp_l (y := lN 6148914691236517205) rfl ?_
  refine rn_land hx hb dJL_bitCount_7 (by omega) (by omega) ?_
  refine rn_lsub hx hb dJL_bitCount_8 (by omega) ?_
  refine tp_l (y := lN (bv s1 x 8)) (by rw [f3]) ?_
  refine lv_lstore_n (lv' := [(0, .long (lN (bv s1 x 8)))]) hx hb dJL_bitCount_9 rfl hl (by decide) rfl (fun ls hl => ?_)
  refine lv_lload_n hx hb dJL_bitCount_10 rfl (lv_at hl 0 rfl) ?_
  refine lv_ldc2 (v := 3689348814741910323) hx hb hown (hg _ kJL_316) dJL_bitCount_11 ?_
  refine tp_l (y := lN 3689348814741910323) rfl ?_
  refine rn_land hx hb dJL_bitCount_14 (by omega) (by omega) ?_
  refine lv_lload_n hx hb dJL_bitCount_15 rfl (lv_at hl 0 rfl) ?_
  refine rn_iconst hx hb 2 dJL_bitCount_16 (by decide) ?_
  refine rn_lushr hx hb dJL_bitCount_17 (by omega) (by omega) ?_
  refine lv_ldc2 (v := 3689348814741910323) hx hb hown (hg _ kJL_316) dJL_bitCount_18 ?_
  refine tp_l (y := lN 3689348814741910323) rfl ?_
  refine rn_land hx hb dJL_bitCount_21 (by omega) (by omega) ?_
  refine rn_ladd hx hb dJL_bitCount_22 ?_
  refine tp_l (y := lN (bv (fun a => s2 (s1 a)) x 8)) (congrArg lN g2) ?_
  refine lv_lstore_n (lv' := [(0, .long (lN (bv (fun a => s2 (s1 a)) x 8)))]) hx hb dJL_bitCount_23 rfl hl (by decide) rfl (fun ls hl => ?_)
  refine lv_lload_n hx hb dJL_bitCount_24 rfl (lv_at hl 0 rfl) ?_
  refine lv_lload_n hx hb dJL_bitCount_25 rfl (lv_at hl 0 rfl) ?_
  refine rn_iconst hx hb 4 dJL_bitCount_26 (by decide) ?_
  refine rn_lushr hx hb dJL_bitCount_27 (by omega) (by omega) ?_
  refine rn_ladd hx hb dJL_bitCount_28 ?_
  refine lv_ldc2 (v := 1085102592571150095) hx hb hown (hg _ kJL_318) dJL_bitCount_29 ?_
  refine tp_l (y := lN 1085102592571150095) rfl ?_
  refine rn_land hx hb dJL_bitCount_32 (by omega) (by omega) ?_
  refine tp_l (y := lN (bv (fun a => pcn a 8) x 8)) (congrArg lN g3) ?_
  refine lv_lstore_n (lv' := [(0, .long (lN (bv (fun a => pcn a 8) x 8)))]) hx hb dJL_bitCount_33 rfl hl (by decide) rfl (fun ls hl => ?_)
  refine lv_lload_n hx hb dJL_bitCount_34 rfl (lv_at hl 0 rfl) ?_
  refine lv_lload_n hx hb dJL_bitCount_35 rfl (lv_at hl 0 rfl) ?_
  refine rn_bipush hx hb 8 dJL_bitCount_36 (by decide) ?_
  refine rn_lushr hx hb dJL_bitCount_38 (by omega) (by omega) ?_
  refine rn_ladd hx hb dJL_bitCount_39 ?_
  refine lv_lstore_n (lv' := [(0, .long (lN ((bv (fun a => pcn a 8) x 8) + ((bv (fun a => pcn a 8) x 8) / 2 ^ 8))))]) hx hb dJL_bitCount_40 rfl hl (by decide) rfl (fun ls hl => ?_)
  refine lv_lload_n hx hb dJL_bitCount_41 rfl (lv_at hl 0 rfl) ?_
  refine lv_lload_n hx hb dJL_bitCount_42 rfl (lv_at hl 0 rfl) ?_
  refine rn_bipush hx hb 16 dJL_bitCount_43 (by decide) ?_
  refine rn_lushr hx hb dJL_bitCount_45 (by omega) (by omega) ?_
  refine rn_ladd hx hb dJL_bitCount_46 ?_
  refine lv_lstore_n (lv' := [(0, .long (lN (((bv (fun a => pcn a 8) x 8) + ((bv (fun a => pcn a 8) x 8) / 2 ^ 8)) + (((bv (fun a => pcn a 8) x 8) + ((bv (fun a => pcn a 8) x 8) / 2 ^ 8)) / 2 ^ 16))))]) hx hb dJL_bitCount_47 rfl hl (by decide) rfl (fun ls hl => ?_)
  refine lv_lload_n hx hb dJL_bitCount_48 rfl (lv_at hl 0 rfl) ?_
  refine lv_lload_n hx hb dJL_bitCount_49 rfl (lv_at hl 0 rfl) ?_
  refine rn_bipush hx hb 32 dJL_bitCount_50 (by decide) ?_
  refine rn_lushr hx hb dJL_bitCount_52 (by omega) (by omega) ?_
  refine rn_ladd hx hb dJL_bitCount_53 ?_
  refine lv_lstore_n (lv' := [(0, .long (lN ((((bv (fun a => pcn a 8) x 8) + ((bv (fun a => pcn a 8) x 8) / 2 ^ 8)) + (((bv (fun a => pcn a 8) x 8) + ((bv (fun a => pcn a 8) x 8) / 2 ^ 8)) / 2 ^ 16)) + ((((bv (fun a => pcn a 8) x 8) + ((bv (fun a => pcn a 8) x 8) / 2 ^ 8)) + (((bv (fun a => pcn a 8) x 8) + ((bv (fun a => pcn a 8) x 8) / 2 ^ 8)) / 2 ^ 16)) / 2 ^ 32))))]) hx hb dJL_bitCount_54 rfl hl (by decide) rfl (fun ls hl => ?_)
  refine lv_lload_n hx hb dJL_bitCount_55 rfl (lv_at hl 0 rfl) ?_
  refine rn_l2i hx hb dJL_bitCount_56 ?_
  refine rn_bipush hx hb 127 dJL_bitCount_57 (by decide) ?_
  refine rn_iand127 hx hb dJL_bitCount_59 ?_
  exact W.iret hx hb hr (fun t ht hW => ⟨_, rfl, (by have h9 := hfin; unfold bcN at h9; dsimp only at h9; rw [show x / 2 = x / 2 ^ 1 from rfl, f3, g2, g3] at h9; exact congrArg nI h9), ht⟩) (fun _ h9 => nomatch h9) dJL_bitCount_60

set_option maxHeartbeats 4000000 in
set_option maxRecDepth 100000 in
theorem ct_G_hasBit (l : Launch) (dC : Nat → ClassId) (dI : Nat → Nat → Nat) (cI cJ cZ : ClassId) (b k : Nat) (hb0 : b < 4611686018427387904) (hk : k < 64) : Met l yG_hasBit wsG_hasBit ({ frames := 0, cells := 0, slots := 0, locals := 0 }) (PcR (dC, dI) [] (tyE cI cJ cZ) [.long (lN b), .int (nI k)]) (vp_Si (fun r => r = bI (b.testBit k))) 0 0 (fun _ => False) := by
  refine Met.ofW (cc := cG_hasBit) (maxL := 3) (ret := (some .boolean)) (by decide) rfl ?_
  intro p e s m args below meth c s₁ B hml hv
  obtain ⟨rfl, hP, hK, hE⟩ := hv
  have hx := B.exec
  have hb := B.bytes
  have hr := B.returns
  have hts := atoms_spec (ws := wsG_hasBit) B.pre
  have hg : ∀ w ∈ gw, w.before _ s = true := fun w h => hts w (List.mem_cons_of_mem _ h)
  have hown : s.vm.findClass nG = some m.cls := findClass_of_methodNamed B.named
  have hlocks := B.notSynchronized
  have hR : 0 ≤ (headSpec wsG_hasBit ({ frames := 0, cells := 0, slots := 0, locals := 0 })).room.frames ∧ 0 ≤ (headSpec wsG_hasBit ({ frames := 0, cells := 0, slots := 0, locals := 0 })).room.locals := ⟨Nat.le_refl _, Nat.le_refl _⟩
  have hcs : 0 ≤ (headSpec wsG_hasBit ({ frames := 0, cells := 0, slots := 0, locals := 0 })).room.cells ∧ 0 ≤ (headSpec wsG_hasBit ({ frames := 0, cells := 0, slots := 0, locals := 0 })).room.slots := ⟨Nat.zero_le _, Nat.zero_le _⟩
  have hl := lv_entry ([.long (lN b), .int (nI k)]) (n := 3) (Nat.le_of_ble_eq_true rfl)
  rw [lg_entry_eq]
  generalize (lg_sl ([.long (lN b), .int (nI k)]) ++ List.replicate (3 - (lg_sl ([.long (lN b), .int (nI k)])).length) Slot.unset).toArray = ls at hl ⊢
  have hl : lv_has ls 3 [(0, .long (lN b)), (2, .int (nI k))] := hl
  refine lv_lload_n hx hb dG_hasBit_0 rfl (lv_at hl 0 rfl) ?_
  refine lv_iload_n hx hb dG_hasBit_1 rfl (lv_at hl 1 rfl) ?_
  refine rn_lshr hx hb dG_hasBit_2 (by omega) (by omega) ?_
  refine rn_lconst hx hb 1 dG_hasBit_3 rfl ?_
  refine rn_land hx hb dG_hasBit_4 (by have := Nat.div_le_self b (2 ^ k); omega) (by have := Nat.div_le_self b (2 ^ k); omega) ?_
  refine tp_l (y := lN ((b.testBit k).toNat)) (by rw [tb_div]) ?_
  have hbt := Bool.toNat_le (b.testBit k)
  refine rn_lconst hx hb 0 dG_hasBit_5 rfl ?_
  refine rn_lcmp_eq (tgt := 14) hx hb dG_hasBit_6 dG_hasBit_7 (by decide) (by omega) (by omega) (fun c7 => ?_) (fun c7 => ?_)
  · refine rn_iconst hx hb 0 dG_hasBit_14 (by decide) ?_
    exact W.zret hx hb hr rfl (fun t ht hW => ⟨_, rfl, (by cases hq : b.testBit k <;> simp_all [bI, nI]), ht⟩) (fun _ h9 => nomatch h9) dG_hasBit_15
  · refine rn_iconst hx hb 1 dG_hasBit_10 (by decide) ?_
    refine lv_goto (tgt := 15) hx hb dG_hasBit_11 (by decide) ?_
    exact W.zret hx hb hr rfl (fun t ht hW => ⟨_, rfl, (by cases hq : b.testBit k <;> simp_all [bI, nI]), ht⟩) (fun _ h9 => nomatch h9) dG_hasBit_15

set_option maxHeartbeats 4000000 in
set_option maxRecDepth 100000 in
theorem ct_G_withBit (l : Launch) (dC : Nat → ClassId) (dI : Nat → Nat → Nat) (cI cJ cZ : ClassId) (b k : Nat) (on : Bool) (hb0 : b < 4611686018427387904) (hk : k < 62) : Met l yG_withBit wsG_withBit ({ frames := 0, cells := 0, slots := 0, locals := 0 }) (PcR (dC, dI) [] (tyE cI cJ cZ) [.long (lN b), .int (nI k), .int (bI on)]) (vp_Sl (fun r => r = lN (sB b k on))) 0 0 (fun _ => False) := by
  refine Met.ofW (cc := cG_withBit) (maxL := 6) (ret := (some .long)) (by decide) rfl ?_
  intro p e s m args below meth c s₁ B hml hv
  obtain ⟨rfl, hP, hK, hE⟩ := hv
  have hx := B.exec
  have hb := B.bytes
  have hr := B.returns
  have hts := atoms_spec (ws := wsG_withBit) B.pre
  have hg : ∀ w ∈ gw, w.before _ s = true := fun w h => hts w (List.mem_cons_of_mem _ h)
  have hown : s.vm.findClass nG = some m.cls := findClass_of_methodNamed B.named
  have hlocks := B.notSynchronized
  have hR : 0 ≤ (headSpec wsG_withBit ({ frames := 0, cells := 0, slots := 0, locals := 0 })).room.frames ∧ 0 ≤ (headSpec wsG_withBit ({ frames := 0, cells := 0, slots := 0, locals := 0 })).room.locals := ⟨Nat.le_refl _, Nat.le_refl _⟩
  have hcs : 0 ≤ (headSpec wsG_withBit ({ frames := 0, cells := 0, slots := 0, locals := 0 })).room.cells ∧ 0 ≤ (headSpec wsG_withBit ({ frames := 0, cells := 0, slots := 0, locals := 0 })).room.slots := ⟨Nat.zero_le _, Nat.zero_le _⟩
  have h2k : 2 ^ k < 4611686018427387904 := Nat.pow_lt_pow_right (a := 2) (n := 62) (by decide) hk
  have hl := lv_entry ([.long (lN b), .int (nI k), .int (bI on)]) (n := 6) (Nat.le_of_ble_eq_true rfl)
  rw [lg_entry_eq]
  generalize (lg_sl ([.long (lN b), .int (nI k), .int (bI on)]) ++ List.replicate (6 - (lg_sl ([.long (lN b), .int (nI k), .int (bI on)])).length) Slot.unset).toArray = ls at hl ⊢
  have hl : lv_has ls 6 [(0, .long (lN b)), (2, .int (nI k)), (3, .int (bI on))] := hl
  refine rn_lconst hx hb 1 dG_withBit_0 rfl ?_
  refine lv_iload_n hx hb dG_withBit_1 rfl (lv_at hl 1 rfl) ?_
  refine rn_lshl1 hx hb dG_withBit_2 (by omega) ?_
  refine lv_lstore (lv' := [(4, .long (lN (2 ^ k))), (0, .long (lN b)), (2, .int (nI k)), (3, .int (bI on))]) hx hb dG_withBit_3 hl (by decide) rfl (fun ls hl => ?_)
  refine lv_iload_n hx hb dG_withBit_5 rfl (lv_at hl 3 rfl) ?_
  refine rb_eq (tgt := 16) hx hb dG_withBit_6 (by decide) (fun c6 => ?_) (fun c6 => ?_)
  · refine lv_lload_n hx hb dG_withBit_16 rfl (lv_at hl 1 rfl) ?_
    refine lv_lload hx hb dG_withBit_17 (lv_at hl 0 rfl) ?_
    refine lv_ldc2 (v := -1) hx hb hown (hg _ kG_179) dG_withBit_19 ?_
    refine rn_lnot hx hb dG_withBit_22 (by omega) ?_
    refine rn_land hx hb dG_withBit_23 (by omega) (Nat.sub_lt (by decide) (Nat.succ_pos _)) ?_
    exact W.lret hx hb hr (fun t ht hW => ⟨_, rfl, (congrArg lN (by simp [sB, c6])), ht⟩) (fun _ h9 => nomatch h9) dG_withBit_24
  · refine lv_lload_n hx hb dG_withBit_9 rfl (lv_at hl 1 rfl) ?_
    refine lv_lload hx hb dG_withBit_10 (lv_at hl 0 rfl) ?_
    refine rn_lor hx hb dG_withBit_12 (by omega) (by omega) ?_
    refine lv_goto (tgt := 24) hx hb dG_withBit_13 (by decide) ?_
    exact W.lret hx hb hr (fun t ht hW => ⟨_, rfl, (congrArg lN (by simp [sB, c6])), ht⟩) (fun _ h9 => nomatch h9) dG_withBit_24

theorem wi_t {v lo hi : Int64} (h1 : ¬ v < lo) (h2 : ¬ hi < v) : nI 1 = bI (decide (lo ≤ v ∧ v ≤ hi)) := by
  rw [decide_eq_true (by rw [Int64.lt_iff_toInt_lt] at h1 h2; rw [Int64.le_iff_toInt_le, Int64.le_iff_toInt_le]; omega)]; rfl
theorem wi_1 {v lo hi : Int64} (h1 : v < lo) : nI 0 = bI (decide (lo ≤ v ∧ v ≤ hi)) := by
  rw [decide_eq_false (by rw [Int64.lt_iff_toInt_lt] at h1; rw [Int64.le_iff_toInt_le, Int64.le_iff_toInt_le]; omega)]; rfl
theorem wi_2 {v lo hi : Int64} (h2 : hi < v) : nI 0 = bI (decide (lo ≤ v ∧ v ≤ hi)) := by
  rw [decide_eq_false (by rw [Int64.lt_iff_toInt_lt] at h2; rw [Int64.le_iff_toInt_le, Int64.le_iff_toInt_le]; omega)]; rfl

set_option maxHeartbeats 4000000 in
set_option maxRecDepth 100000 in
theorem ct_G_within (l : Launch) (dC : Nat → ClassId) (dI : Nat → Nat → Nat) (cI cJ cZ : ClassId) (v lo hi : Int64) : Met l yG_within wsG_within ({ frames := 0, cells := 0, slots := 0, locals := 0 }) (PcR (dC, dI) [] (tyE cI cJ cZ) [.long v, .long lo, .long hi]) (vp_Si (fun r => r = bI (decide (lo ≤ v ∧ v ≤ hi)))) 0 0 (fun _ => False) := by
  refine Met.ofW (cc := cG_within) (maxL := 6) (ret := (some .boolean)) (by decide) rfl ?_
  intro p e s m args below meth c s₁ B hml hv
  obtain ⟨rfl, hP, hK, hE⟩ := hv
  have hx := B.exec
  have hb := B.bytes
  have hr := B.returns
  have hts := atoms_spec (ws := wsG_within) B.pre
  have hg : ∀ w ∈ gw, w.before _ s = true := fun w h => hts w (List.mem_cons_of_mem _ h)
  have hown : s.vm.findClass nG = some m.cls := findClass_of_methodNamed B.named
  have hlocks := B.notSynchronized
  have hR : 0 ≤ (headSpec wsG_within ({ frames := 0, cells := 0, slots := 0, locals := 0 })).room.frames ∧ 0 ≤ (headSpec wsG_within ({ frames := 0, cells := 0, slots := 0, locals := 0 })).room.locals := ⟨Nat.le_refl _, Nat.le_refl _⟩
  have hcs : 0 ≤ (headSpec wsG_within ({ frames := 0, cells := 0, slots := 0, locals := 0 })).room.cells ∧ 0 ≤ (headSpec wsG_within ({ frames := 0, cells := 0, slots := 0, locals := 0 })).room.slots := ⟨Nat.zero_le _, Nat.zero_le _⟩
  have hl := lv_entry ([.long v, .long lo, .long hi]) (n := 6) (Nat.le_of_ble_eq_true rfl)
  rw [lg_entry_eq]
  generalize (lg_sl ([.long v, .long lo, .long hi]) ++ List.replicate (6 - (lg_sl ([.long v, .long lo, .long hi])).length) Slot.unset).toArray = ls at hl ⊢
  have hl : lv_has ls 6 [(0, .long v), (2, .long lo), (4, .long hi)] := hl
  refine lv_lload_n hx hb dG_within_0 rfl (lv_at hl 0 rfl) ?_
  refine lv_lload_n hx hb dG_within_1 rfl (lv_at hl 1 rfl) ?_
  refine rl_cmp_lt (tgt := 17) hx hb dG_within_2 dG_within_3 (by decide) (fun c3 => ?_) (fun c3 => ?_)
  · refine rn_iconst hx hb 0 dG_within_17 (by decide) ?_
    exact W.zret hx hb hr rfl (fun t ht hW => ⟨_, rfl, (by first | exact wi_t c3 c10 | exact wi_1 c3 | exact wi_2 c10), ht⟩) (fun _ h9 => nomatch h9) dG_within_18
  · refine lv_lload_n hx hb dG_within_6 rfl (lv_at hl 0 rfl) ?_
    refine lv_lload hx hb dG_within_7 (lv_at hl 2 rfl) ?_
    refine rl_cmp_gt (tgt := 17) hx hb dG_within_9 dG_within_10 (by decide) (fun c10 => ?_) (fun c10 => ?_)
    · refine rn_iconst hx hb 0 dG_within_17 (by decide) ?_
      exact W.zret hx hb hr rfl (fun t ht hW => ⟨_, rfl, (by first | exact wi_t c3 c10 | exact wi_1 c3 | exact wi_2 c10), ht⟩) (fun _ h9 => nomatch h9) dG_within_18
    · refine rn_iconst hx hb 1 dG_within_13 (by decide) ?_
      refine lv_goto (tgt := 18) hx hb dG_within_14 (by decide) ?_
      exact W.zret hx hb hr rfl (fun t ht hW => ⟨_, rfl, (by first | exact wi_t c3 c10 | exact wi_1 c3 | exact wi_2 c10), ht⟩) (fun _ h9 => nomatch h9) dG_within_18
