theorem ha_t {x y : Int32} (h1 : ¬ x < 0) (h2 : ¬ y ≤ x) : nI 1 = bI (decide (0 ≤ x ∧ x < y)) := by
  rw [decide_eq_true (by rw [Int32.lt_iff_toInt_lt] at h1; rw [Int32.le_iff_toInt_le] at h2; rw [Int32.le_iff_toInt_le, Int32.lt_iff_toInt_lt]; rw [Int32.toInt_zero] at *; omega)]; rfl
theorem ha_1 {x y : Int32} (h1 : x < 0) : nI 0 = bI (decide (0 ≤ x ∧ x < y)) := by
  rw [decide_eq_false (by rw [Int32.lt_iff_toInt_lt] at h1; rw [Int32.le_iff_toInt_le, Int32.lt_iff_toInt_lt]; rw [Int32.toInt_zero] at *; omega)]; rfl
theorem ha_2 {x y : Int32} (h2 : y ≤ x) : nI 0 = bI (decide (0 ≤ x ∧ x < y)) := by
  rw [decide_eq_false (by rw [Int32.le_iff_toInt_le] at h2; rw [Int32.le_iff_toInt_le, Int32.lt_iff_toInt_lt]; omega)]; rfl

set_option maxHeartbeats 4000000 in
set_option maxRecDepth 100000 in
theorem ct_P_has (l : Launch) (dC : Nat → ClassId) (dI : Nat → Nat → Nat) (cI cJ cZ : ClassId) (q : Nat → Nat) (bg en sc wd ht oh bt : Nat → Nat) (co n : Nat) (x : Int32) (hB : bP bg en sc wd ht oh bt co n) : Met l yP_has wsP_has ({ frames := 0, cells := 0, slots := 0, locals := 0 }) (PcR (dC, dI) (wP cI cJ cZ q bg en sc wd ht oh bt co n) (tyE cI cJ cZ) [.ref (q 0), .int x]) (vp_Si (fun r => r = bI (decide (0 ≤ x ∧ x < nI n)))) 0 0 (fun _ => False) := by
  refine Met.ofW (cc := cP_has) (maxL := 2) (ret := (some .boolean)) (by decide) rfl ?_
  intro p e s m args below meth c s₁ B hml hv
  obtain ⟨rfl, hP, hK, hE⟩ := hv
  have hx := B.exec
  have hb := B.bytes
  have hr := B.returns
  have hts := atoms_spec (ws := wsP_has) B.pre
  have hg : ∀ w ∈ gw, w.before _ s = true := fun w h => hts w (List.mem_cons_of_mem _ h)
  have hown : s.vm.findClass nP = some m.cls := findClass_of_methodNamed B.named
  have hlocks := B.notSynchronized
  have hR : 0 ≤ (headSpec wsP_has ({ frames := 0, cells := 0, slots := 0, locals := 0 })).room.frames ∧ 0 ≤ (headSpec wsP_has ({ frames := 0, cells := 0, slots := 0, locals := 0 })).room.locals := ⟨Nat.le_refl _, Nat.le_refl _⟩
  have hcs : 0 ≤ (headSpec wsP_has ({ frames := 0, cells := 0, slots := 0, locals := 0 })).room.cells ∧ 0 ≤ (headSpec wsP_has ({ frames := 0, cells := 0, slots := 0, locals := 0 })).room.slots := ⟨Nat.zero_le _, Nat.zero_le _⟩
  have hl := lv_entry ([.ref (q 0), .int x]) (n := 2) (Nat.le_of_ble_eq_true rfl)
  rw [lg_entry_eq]
  generalize (lg_sl ([.ref (q 0), .int x]) ++ List.replicate (2 - (lg_sl ([.ref (q 0), .int x])).length) Slot.unset).toArray = ls at hl ⊢
  have hl : lv_has ls 2 [(0, .ref (q 0)), (1, .int x)] := hl
  refine lv_iload_n hx hb dP_has_0 rfl (lv_at hl 1 rfl) ?_
  refine lv_if_lt (tgt := 16) hx hb dP_has_1 (by decide) (fun c1 => ?_) (fun c1 => ?_)
  · refine rn_iconst hx hb 0 dP_has_16 (by decide) ?_
    exact W.zret hx hb hr rfl (fun t ht hW => ⟨_, rfl, (by first | exact ha_t c1 c9 | exact ha_1 c1 | exact ha_2 c9), ht⟩) (fun _ h9 => nomatch h9) dP_has_17
  · refine lv_iload_n hx hb dP_has_4 rfl (lv_at hl 1 rfl) ?_
    refine lv_aload_n hx hb dP_has_5 rfl (lv_at hl 0 rfl) ?_
    refine va_get (D := (dC, dI)) (ci := 1) (v := .int (nI n)) (C := nP) (T := TP) (N := 9) hx hb hg inP hown hK hP 0 rfl rfl 8 (by decide) (hg _ kP_34) (fun _ h9 => h9) rfl dP_has_6 ?_
    refine lv_icmp_ge (tgt := 16) hx hb dP_has_9 (by decide) (fun c9 => ?_) (fun c9 => ?_)
    · refine rn_iconst hx hb 0 dP_has_16 (by decide) ?_
      exact W.zret hx hb hr rfl (fun t ht hW => ⟨_, rfl, (by first | exact ha_t c1 c9 | exact ha_1 c1 | exact ha_2 c9), ht⟩) (fun _ h9 => nomatch h9) dP_has_17
    · refine rn_iconst hx hb 1 dP_has_12 (by decide) ?_
      refine lv_goto (tgt := 17) hx hb dP_has_13 (by decide) ?_
      exact W.zret hx hb hr rfl (fun t ht hW => ⟨_, rfl, (by first | exact ha_t c1 c9 | exact ha_1 c1 | exact ha_2 c9), ht⟩) (fun _ h9 => nomatch h9) dP_has_17

set_option maxHeartbeats 4000000 in
set_option maxRecDepth 100000 in
theorem ct_P_isBarred (l : Launch) (dC : Nat → ClassId) (dI : Nat → Nat → Nat) (cI cJ cZ : ClassId) (q : Nat → Nat) (bg en sc wd ht oh bt : Nat → Nat) (co n : Nat) (f t : Nat) (hB : bP bg en sc wd ht oh bt co n) (hf : f < 40) (ht0 : t < 40) : Met l yP_isBarred wsP_isBarred ({ frames := 1, cells := 0, slots := 0, locals := 22 }) (PcR (dC, dI) (wP cI cJ cZ q bg en sc wd ht oh bt co n) (tyE cI cJ cZ) [.ref (q 0), .int (nI f), .int (nI t)]) (vp_Si (fun r => r = bI ((bt f).testBit t))) 0 0 (fun _ => False) := by
  refine Met.ofW (cc := cP_isBarred) (maxL := 3) (ret := (some .boolean)) (by decide) rfl ?_
  intro p e s m args below meth c s₁ B hml hv
  obtain ⟨rfl, hP, hK, hE⟩ := hv
  have hx := B.exec
  have hb := B.bytes
  have hr := B.returns
  have hts := atoms_spec (ws := wsP_isBarred) B.pre
  have hg : ∀ w ∈ gw, w.before _ s = true := fun w h => hts w (List.mem_cons_of_mem _ h)
  have hown : s.vm.findClass nP = some m.cls := findClass_of_methodNamed B.named
  have hlocks := B.notSynchronized
  have hR : 1 ≤ (headSpec wsP_isBarred ({ frames := 1, cells := 0, slots := 0, locals := 22 })).room.frames ∧ 22 ≤ (headSpec wsP_isBarred ({ frames := 1, cells := 0, slots := 0, locals := 22 })).room.locals := ⟨Nat.le_refl _, Nat.le_refl _⟩
  have hcs : 0 ≤ (headSpec wsP_isBarred ({ frames := 1, cells := 0, slots := 0, locals := 22 })).room.cells ∧ 0 ≤ (headSpec wsP_isBarred ({ frames := 1, cells := 0, slots := 0, locals := 22 })).room.slots := ⟨Nat.zero_le _, Nat.zero_le _⟩
  have hn := hB.1
  have hco := hB.2.1
  have hbi := hB.2.2
  have bf := hbi f
  have hl := lv_entry ([.ref (q 0), .int (nI f), .int (nI t)]) (n := 3) (Nat.le_of_ble_eq_true rfl)
  rw [lg_entry_eq]
  generalize (lg_sl ([.ref (q 0), .int (nI f), .int (nI t)]) ++ List.replicate (3 - (lg_sl ([.ref (q 0), .int (nI f), .int (nI t)])).length) Slot.unset).toArray = ls at hl ⊢
  have hl : lv_has ls 3 [(0, .ref (q 0)), (1, .int (nI f)), (2, .int (nI t))] := hl
  refine lv_aload_n hx hb dP_isBarred_0 rfl (lv_at hl 0 rfl) ?_
  refine va_get (D := (dC, dI)) (ci := 1) (v := .ref (q 7)) (C := nP) (T := TP) (N := 9) hx hb hg inP hown hK hP 0 rfl rfl 6 (by decide) (hg _ kP_31) (fun _ h9 => h9) rfl dP_isBarred_1 ?_
  refine lv_iload_n hx hb dP_isBarred_4 rfl (lv_at hl 1 rfl) ?_
  refine ga_l (f := bt) hx hb hK hP 7 1 rfl rfl (by omega) (by decide) dP_isBarred_5 ?_
  refine lv_iload_n hx hb dP_isBarred_6 rfl (lv_at hl 2 rfl) ?_
  refine cpN_i (As := [.long (lN (bt f)), .int (nI t)]) (rest := []) (post := fun r : Int32 => r = bI ((bt f).testBit t)) ⟨hx, hb, hml, hown, hts⟩ (ct_G_hasBit l dC dI cI cJ cZ (bt f) t (by omega) (by omega)) ⟨va_cnB 2 hts (gi kc_G_hasBit) rfl rfl rfl (hE _ kNP_42) (hg _ kin_G) (by decide +kernel) ⟨Nat.le_trans (by decide) hR.1, Nat.le_trans (by decide) hR.2⟩, hg _ ks_G_hasBit, trivial⟩ (hP.sub (ws' := []) [] rfl) hK hE rfl hl.1 rfl (Nat.le_of_ble_eq_true rfl) dP_isBarred_7 hcs (fun r hr => ?_)
  subst hr
  exact W.zret hx hb hr (bI_nar _) (fun t ht hW => ⟨_, rfl, (rfl), ht⟩) (fun _ h9 => nomatch h9) dP_isBarred_10

set_option maxHeartbeats 4000000 in
set_option maxRecDepth 100000 in
theorem ct_P_fits (l : Launch) (dC : Nat → ClassId) (dI : Nat → Nat → Nat) (cI cJ cZ : ClassId) (q : Nat → Nat) (bg en sc wd ht oh bt : Nat → Nat) (co n : Nat) (i w h : Nat) (hB : bP bg en sc wd ht oh bt co n) (hi : i < 40) (hw : w ≤ 10000) (hh : h ≤ 10000) : Met l yP_fits wsP_fits ({ frames := 0, cells := 0, slots := 0, locals := 0 }) (PcR (dC, dI) (wP cI cJ cZ q bg en sc wd ht oh bt co n) (tyE cI cJ cZ) [.ref (q 0), .int (nI i), .int (nI w), .long (lN h)]) (vp_Si (fun r => r = bI (decide (w ≤ wd i ∧ h ≤ ht i)))) 0 0 (fun _ => False) := by
  refine Met.ofW (cc := cP_fits) (maxL := 5) (ret := (some .boolean)) (by decide) rfl ?_
  intro p e s m args below meth c s₁ B hml hv
  obtain ⟨rfl, hP, hK, hE⟩ := hv
  have hx := B.exec
  have hb := B.bytes
  have hr := B.returns
  have hts := atoms_spec (ws := wsP_fits) B.pre
  have hg : ∀ w ∈ gw, w.before _ s = true := fun w h => hts w (List.mem_cons_of_mem _ h)
  have hown : s.vm.findClass nP = some m.cls := findClass_of_methodNamed B.named
  have hlocks := B.notSynchronized
  have hR : 0 ≤ (headSpec wsP_fits ({ frames := 0, cells := 0, slots := 0, locals := 0 })).room.frames ∧ 0 ≤ (headSpec wsP_fits ({ frames := 0, cells := 0, slots := 0, locals := 0 })).room.locals := ⟨Nat.le_refl _, Nat.le_refl _⟩
  have hcs : 0 ≤ (headSpec wsP_fits ({ frames := 0, cells := 0, slots := 0, locals := 0 })).room.cells ∧ 0 ≤ (headSpec wsP_fits ({ frames := 0, cells := 0, slots := 0, locals := 0 })).room.slots := ⟨Nat.zero_le _, Nat.zero_le _⟩
  have hn := hB.1
  have hco := hB.2.1
  have hbi := hB.2.2
  have bi := hbi i
  have hl := lv_entry ([.ref (q 0), .int (nI i), .int (nI w), .long (lN h)]) (n := 5) (Nat.le_of_ble_eq_true rfl)
  rw [lg_entry_eq]
  generalize (lg_sl ([.ref (q 0), .int (nI i), .int (nI w), .long (lN h)]) ++ List.replicate (5 - (lg_sl ([.ref (q 0), .int (nI i), .int (nI w), .long (lN h)])).length) Slot.unset).toArray = ls at hl ⊢
  have hl : lv_has ls 5 [(0, .ref (q 0)), (1, .int (nI i)), (2, .int (nI w)), (3, .long (lN h))] := hl
  refine lv_iload_n hx hb dP_fits_0 rfl (lv_at hl 2 rfl) ?_
  refine lv_aload_n hx hb dP_fits_1 rfl (lv_at hl 0 rfl) ?_
  refine va_get (D := (dC, dI)) (ci := 1) (v := .ref (q 4)) (C := nP) (T := TP) (N := 9) hx hb hg inP hown hK hP 0 rfl rfl 3 (by decide) (hg _ kP_22) (fun _ h9 => h9) rfl dP_fits_2 ?_
  refine lv_iload_n hx hb dP_fits_5 rfl (lv_at hl 1 rfl) ?_
  refine ga_i (f := wd) hx hb hK hP 4 0 rfl rfl (by omega) (by decide) dP_fits_6 ?_
  refine rn_icmp_gt (tgt := 25) hx hb dP_fits_7 (by decide) (by omega) (by omega) (fun c7 => ?_) (fun c7 => ?_)
  · refine rn_iconst hx hb 0 dP_fits_25 (by decide) ?_
    exact W.zret hx hb hr rfl (fun t ht hW => ⟨_, rfl, (by first | (rw [decide_eq_true (by omega)]; rfl) | (rw [decide_eq_false (by omega)]; rfl)), ht⟩) (fun _ h9 => nomatch h9) dP_fits_26
  · refine lv_lload_n hx hb dP_fits_10 rfl (lv_at hl 3 rfl) ?_
    refine lv_aload_n hx hb dP_fits_11 rfl (lv_at hl 0 rfl) ?_
    refine va_get (D := (dC, dI)) (ci := 1) (v := .ref (q 5)) (C := nP) (T := TP) (N := 9) hx hb hg inP hown hK hP 0 rfl rfl 4 (by decide) (hg _ kP_25) (fun _ h9 => h9) rfl dP_fits_12 ?_
    refine lv_iload_n hx hb dP_fits_15 rfl (lv_at hl 1 rfl) ?_
    refine ga_l (f := ht) hx hb hK hP 5 1 rfl rfl (by omega) (by decide) dP_fits_16 ?_
    refine rn_lcmp_gt (tgt := 25) hx hb dP_fits_17 dP_fits_18 (by decide) (by omega) (by omega) (fun c18 => ?_) (fun c18 => ?_)
    · refine rn_iconst hx hb 0 dP_fits_25 (by decide) ?_
      exact W.zret hx hb hr rfl (fun t ht hW => ⟨_, rfl, (by first | (rw [decide_eq_true (by omega)]; rfl) | (rw [decide_eq_false (by omega)]; rfl)), ht⟩) (fun _ h9 => nomatch h9) dP_fits_26
    · refine rn_iconst hx hb 1 dP_fits_21 (by decide) ?_
      refine lv_goto (tgt := 26) hx hb dP_fits_22 (by decide) ?_
      exact W.zret hx hb hr rfl (fun t ht hW => ⟨_, rfl, (by first | (rw [decide_eq_true (by omega)]; rfl) | (rw [decide_eq_false (by omega)]; rfl)), ht⟩) (fun _ h9 => nomatch h9) dP_fits_26

def foB (bg en bt : Nat → Nat) (f t : Nat) : Bool := decide (bg t = en f) && !(bt f).testBit t

set_option maxHeartbeats 4000000 in
set_option maxRecDepth 100000 in
theorem ct_P_canFollow (l : Launch) (dC : Nat → ClassId) (dI : Nat → Nat → Nat) (cI cJ cZ : ClassId) (q : Nat → Nat) (bg en sc wd ht oh bt : Nat → Nat) (co n : Nat) (f t : Nat) (hB : bP bg en sc wd ht oh bt co n) (hf : f < 40) (ht0 : t < 40) : Met l yP_canFollow wsP_canFollow ({ frames := 2, cells := 0, slots := 0, locals := 44 }) (PcR (dC, dI) (wP cI cJ cZ q bg en sc wd ht oh bt co n) (tyE cI cJ cZ) [.ref (q 0), .int (nI f), .int (nI t)]) (vp_Si (fun r => r = bI (foB bg en bt f t))) 0 0 (fun _ => False) := by
  refine Met.ofW (cc := cP_canFollow) (maxL := 3) (ret := (some .boolean)) (by decide) rfl ?_
  intro p e s m args below meth c s₁ B hml hv
  obtain ⟨rfl, hP, hK, hE⟩ := hv
  have hx := B.exec
  have hb := B.bytes
  have hr := B.returns
  have hts := atoms_spec (ws := wsP_canFollow) B.pre
  have hg : ∀ w ∈ gw, w.before _ s = true := fun w h => hts w (List.mem_cons_of_mem _ h)
  have hown : s.vm.findClass nP = some m.cls := findClass_of_methodNamed B.named
  have hlocks := B.notSynchronized
  have hR : 2 ≤ (headSpec wsP_canFollow ({ frames := 2, cells := 0, slots := 0, locals := 44 })).room.frames ∧ 44 ≤ (headSpec wsP_canFollow ({ frames := 2, cells := 0, slots := 0, locals := 44 })).room.locals := ⟨Nat.le_refl _, Nat.le_refl _⟩
  have hcs : 0 ≤ (headSpec wsP_canFollow ({ frames := 2, cells := 0, slots := 0, locals := 44 })).room.cells ∧ 0 ≤ (headSpec wsP_canFollow ({ frames := 2, cells := 0, slots := 0, locals := 44 })).room.slots := ⟨Nat.zero_le _, Nat.zero_le _⟩
  have hn := hB.1
  have hco := hB.2.1
  have hbi := hB.2.2
  have bf := hbi f
  have bt0 := hbi t
  have hl := lv_entry ([.ref (q 0), .int (nI f), .int (nI t)]) (n := 3) (Nat.le_of_ble_eq_true rfl)
  rw [lg_entry_eq]
  generalize (lg_sl ([.ref (q 0), .int (nI f), .int (nI t)]) ++ List.replicate (3 - (lg_sl ([.ref (q 0), .int (nI f), .int (nI t)])).length) Slot.unset).toArray = ls at hl ⊢
  have hl : lv_has ls 3 [(0, .ref (q 0)), (1, .int (nI f)), (2, .int (nI t))] := hl
  refine lv_aload_n hx hb dP_canFollow_0 rfl (lv_at hl 0 rfl) ?_
  refine va_get (D := (dC, dI)) (ci := 1) (v := .ref (q 1)) (C := nP) (T := TP) (N := 9) hx hb hg inP hown hK hP 0 rfl rfl 0 (by decide) (hg _ kP_9) (fun _ h9 => h9) rfl dP_canFollow_1 ?_
  refine lv_iload_n hx hb dP_canFollow_4 rfl (lv_at hl 2 rfl) ?_
  refine ga_i (f := bg) hx hb hK hP 1 0 rfl rfl (by omega) (by decide) dP_canFollow_5 ?_
  refine lv_aload_n hx hb dP_canFollow_6 rfl (lv_at hl 0 rfl) ?_
  refine va_get (D := (dC, dI)) (ci := 1) (v := .ref (q 2)) (C := nP) (T := TP) (N := 9) hx hb hg inP hown hK hP 0 rfl rfl 1 (by decide) (hg _ kP_15) (fun _ h9 => h9) rfl dP_canFollow_7 ?_
  refine lv_iload_n hx hb dP_canFollow_10 rfl (lv_at hl 1 rfl) ?_
  refine ga_i (f := en) hx hb hK hP 2 0 rfl rfl (by omega) (by decide) dP_canFollow_11 ?_
  refine rn_icmp_ne (tgt := 28) hx hb dP_canFollow_12 (by decide) (by omega) (by omega) (fun c12 => ?_) (fun c12 => ?_)
  · refine rn_iconst hx hb 0 dP_canFollow_28 (by decide) ?_
    exact W.zret hx hb hr rfl (fun t ht hW => ⟨_, rfl, (by simp_all [foB, bI, nI]), ht⟩) (fun _ h9 => nomatch h9) dP_canFollow_29
  · refine lv_aload_n hx hb dP_canFollow_15 rfl (lv_at hl 0 rfl) ?_
    refine lv_iload_n hx hb dP_canFollow_16 rfl (lv_at hl 1 rfl) ?_
    refine lv_iload_n hx hb dP_canFollow_17 rfl (lv_at hl 2 rfl) ?_
    refine cpV_i (b := (q 0)) (C := nP) (As := [.int (nI f), .int (nI t)]) (rest := []) (post := fun r : Int32 => r = bI ((bt f).testBit t)) ⟨hx, hb, hml, hown, hts⟩ (ct_P_isBarred l dC dI cI cJ cZ q bg en sc wd ht oh bt co n f t (hB) (hf) (ht0)) (cwV 2 hts (gv kP_64 ki_P_isBarred ksel_P_isBarred kin_P kc_P_isBarred) rfl rfl rfl (by decide +kernel) ⟨Nat.le_trans (by decide) hR.1, Nat.le_trans (by decide) hR.2⟩) (va_recv hK hP (ci := 1) (q0 := 0) rfl rfl) hP hK hE rfl hl.1 rfl (Nat.le_of_ble_eq_true rfl) dP_canFollow_18 hcs (fun r hr => ?_)
    subst hr
    refine rb_ne (tgt := 28) hx hb dP_canFollow_21 (by decide) (fun c21 => ?_) (fun c21 => ?_)
    · refine rn_iconst hx hb 0 dP_canFollow_28 (by decide) ?_
      exact W.zret hx hb hr rfl (fun t ht hW => ⟨_, rfl, (by simp_all [foB, bI, nI]), ht⟩) (fun _ h9 => nomatch h9) dP_canFollow_29
    · refine rn_iconst hx hb 1 dP_canFollow_24 (by decide) ?_
      refine lv_goto (tgt := 29) hx hb dP_canFollow_25 (by decide) ?_
      exact W.zret hx hb hr rfl (fun t ht hW => ⟨_, rfl, (by simp_all [foB, bI, nI]), ht⟩) (fun _ h9 => nomatch h9) dP_canFollow_29

def afB (wd ht : Nat → Nat) (w h : Nat) : Nat → Bool
  | 0 => false
  | k + 1 => afB wd ht w h k || decide (w ≤ wd k ∧ h ≤ ht k)
theorem afB_le {wd ht : Nat → Nat} {w h k : Nat} (hk : decide (w ≤ wd k ∧ h ≤ ht k) = true) : ∀ n, k < n → afB wd ht w h n = true := by
  intro n
  induction n with
  | zero => intro q; omega
  | succ n ih =>
    intro q
    by_cases e : k = n
    · subst e; simp [afB] at *; exact Or.inr hk
    · simp [afB, ih (by omega)]

set_option maxHeartbeats 4000000 in
set_option maxRecDepth 100000 in
theorem lp_P_anyFits {p : Program} {l : Launch} {e : Env} {R : Room} {s : State} {m : MethodId} {args : Array Value} {below : List Frame} {meth : Method} {c : Code} {H : Heap} {locs : List Loc} {cells slots : Nat} {Q : State → Prop} {dC : Nat → ClassId} {dI : Nat → Nat → Nat} {cI cJ cZ : ClassId} (q : Nat → Nat) (bg en sc wd ht oh bt : Nat → Nat) (co n : Nat) (w h : Nat) (hB : bP bg en sc wd ht oh bt co n) (hw : w ≤ 10000) (hh : h ≤ 10000) (hx : p.tables.exec = Jvm.exec) (hb : c.code = cP_anyFits) (hml : c.maxLocals = 5) (hown : s.vm.findClass nP = some m.cls) (hts : ∀ w ∈ wsP_anyFits, w.before args s = true) (hK : va_K (dC, dI) vwCl (tyE cI cJ cZ) s) (hP : va_P (dC, dI) vwCl (wP cI cJ cZ q bg en sc wd ht oh bt co n) H) (hE : EV s) (hR : 1 ≤ R.frames ∧ 24 ≤ R.locals) (hcs : cells ≤ R.cells ∧ slots ≤ R.slots)
    (kx0 : ∀ (i : Nat) (hi : i ≤ n) (ha : afB wd ht w h i = false) (hx0 : n ≤ i) (ls : Array Slot), lv_has ls 5 [(0, .ref (q 0)), (1, .int (nI w)), (2, .long (lN h)), (4, .int (nI i))] → W p l e R s m args below meth c H locs cells slots Q (F0 m 31 ls []))
    (kx1 : ∀ (i : Nat) (hi : i ≤ n) (ha : afB wd ht w h i = false) (hx0 : i < n) (hx1 : decide (w ≤ wd i ∧ h ≤ ht i) = true) (ls : Array Slot), lv_has ls 5 [(0, .ref (q 0)), (1, .int (nI w)), (2, .long (lN h)), (4, .int (nI i))] → W p l e R s m args below meth c H locs cells slots Q (F0 m 23 ls []))
    : ∀ (fu : Nat) (i : Nat) (hi : i ≤ n) (ha : afB wd ht w h i = false), n - i < fu → ∀ ls : Array Slot, lv_has ls 5 [(0, .ref (q 0)), (1, .int (nI w)), (2, .long (lN h)), (4, .int (nI i))] → W p l e R s m args below meth c H locs cells slots Q (F0 m 3 ls []) := by
  have hg : ∀ w ∈ gw, w.before args s = true := fun w h => hts w (List.mem_cons_of_mem _ h)
  have hn := hB.1
  have hco := hB.2.1
  have hbi := hB.2.2
  intro fu
  induction fu with
  | zero => intro i hi ha h0; exact absurd h0 (Nat.not_lt_zero _)
  | succ fu ih =>
    intro i hi ha hfu ls hl
    refine lv_iload hx hb dP_anyFits_3 (lv_at hl 3 rfl) ?_
    refine lv_aload_n hx hb dP_anyFits_5 rfl (lv_at hl 0 rfl) ?_
    refine va_get (D := (dC, dI)) (ci := 1) (v := .int (nI n)) (C := nP) (T := TP) (N := 9) hx hb hg inP hown hK hP 0 rfl rfl 8 (by decide) (hg _ kP_34) (fun _ h9 => h9) rfl dP_anyFits_6 ?_
    refine rn_icmp_ge (tgt := 31) hx hb dP_anyFits_9 (by decide) (by omega) (by omega) (fun c9 => ?_) (fun c9 => ?_)
    · exact kx0 i hi ha (by omega) ls (lv_sub hl [0, 1, 2, 3] rfl)
    · refine lv_aload_n hx hb dP_anyFits_12 rfl (lv_at hl 0 rfl) ?_
      refine lv_iload hx hb dP_anyFits_13 (lv_at hl 3 rfl) ?_
      refine lv_iload_n hx hb dP_anyFits_15 rfl (lv_at hl 1 rfl) ?_
      refine lv_lload_n hx hb dP_anyFits_16 rfl (lv_at hl 2 rfl) ?_
      refine cpV_i (b := (q 0)) (C := nP) (As := [.int (nI i), .int (nI w), .long (lN h)]) (rest := []) (post := fun r : Int32 => r = bI (decide (w ≤ wd i ∧ h ≤ ht i))) ⟨hx, hb, hml, hown, hts⟩ (ct_P_fits l dC dI cI cJ cZ q bg en sc wd ht oh bt co n i w h (hB) (by omega) (hw) (hh)) (cwV 3 hts (gv kP_52 ki_P_fits ksel_P_fits kin_P kc_P_fits) rfl rfl rfl (by decide +kernel) ⟨Nat.le_trans (by decide) hR.1, Nat.le_trans (by decide) hR.2⟩) (va_recv hK hP (ci := 1) (q0 := 0) rfl rfl) hP hK hE rfl hl.1 rfl (Nat.le_of_ble_eq_true rfl) dP_anyFits_17 hcs (fun r hr => ?_)
      subst hr
      refine rb_eq (tgt := 25) hx hb dP_anyFits_20 (by decide) (fun c20 => ?_) (fun c20 => ?_)
      · refine rn_iinc (lv' := [(4, .int (nI (i + 1))), (0, .ref (q 0)), (1, .int (nI w)), (2, .long (lN h))]) hx hb dP_anyFits_25 hl (k := 3) rfl (by decide) rfl (fun ls hl => ?_)
        refine lv_goto (tgt := 3) hx hb dP_anyFits_28 (by decide) ?_
        exact ih (i + 1) (by omega) (by simp_all [afB]) (by omega) ls (lv_sub hl [1, 2, 3, 0] rfl)
      · exact kx1 i hi ha (by omega) (by assumption) ls (lv_sub hl [0, 1, 2, 3] rfl)

set_option maxHeartbeats 4000000 in
set_option maxRecDepth 100000 in
theorem ct_P_anyFits (l : Launch) (dC : Nat → ClassId) (dI : Nat → Nat → Nat) (cI cJ cZ : ClassId) (q : Nat → Nat) (bg en sc wd ht oh bt : Nat → Nat) (co n : Nat) (w h : Nat) (hB : bP bg en sc wd ht oh bt co n) (hw : w ≤ 10000) (hh : h ≤ 10000) : Met l yP_anyFits wsP_anyFits ({ frames := 1, cells := 0, slots := 0, locals := 24 }) (PcR (dC, dI) (wP cI cJ cZ q bg en sc wd ht oh bt co n) (tyE cI cJ cZ) [.ref (q 0), .int (nI w), .long (lN h)]) (vp_Si (fun r => r = bI (afB wd ht w h n))) 0 0 (fun _ => False) := by
  refine Met.ofW (cc := cP_anyFits) (maxL := 5) (ret := (some .boolean)) (by decide) rfl ?_
  intro p e s m args below meth c s₁ B hml hv
  obtain ⟨rfl, hP, hK, hE⟩ := hv
  have hx := B.exec
  have hb := B.bytes
  have hr := B.returns
  have hts := atoms_spec (ws := wsP_anyFits) B.pre
  have hg : ∀ w ∈ gw, w.before _ s = true := fun w h => hts w (List.mem_cons_of_mem _ h)
  have hown : s.vm.findClass nP = some m.cls := findClass_of_methodNamed B.named
  have hlocks := B.notSynchronized
  have hR : 1 ≤ (headSpec wsP_anyFits ({ frames := 1, cells := 0, slots := 0, locals := 24 })).room.frames ∧ 24 ≤ (headSpec wsP_anyFits ({ frames := 1, cells := 0, slots := 0, locals := 24 })).room.locals := ⟨Nat.le_refl _, Nat.le_refl _⟩
  have hcs : 0 ≤ (headSpec wsP_anyFits ({ frames := 1, cells := 0, slots := 0, locals := 24 })).room.cells ∧ 0 ≤ (headSpec wsP_anyFits ({ frames := 1, cells := 0, slots := 0, locals := 24 })).room.slots := ⟨Nat.zero_le _, Nat.zero_le _⟩
  have hn := hB.1
  have hco := hB.2.1
  have hbi := hB.2.2
  have hl := lv_entry ([.ref (q 0), .int (nI w), .long (lN h)]) (n := 5) (Nat.le_of_ble_eq_true rfl)
  rw [lg_entry_eq]
  generalize (lg_sl ([.ref (q 0), .int (nI w), .long (lN h)]) ++ List.replicate (5 - (lg_sl ([.ref (q 0), .int (nI w), .long (lN h)])).length) Slot.unset).toArray = ls at hl ⊢
  have hl : lv_has ls 5 [(0, .ref (q 0)), (1, .int (nI w)), (2, .long (lN h))] := hl
  refine rn_iconst hx hb 0 dP_anyFits_0 (by decide) ?_
  refine lv_istore (lv' := [(4, .int (nI 0)), (0, .ref (q 0)), (1, .int (nI w)), (2, .long (lN h))]) hx hb dP_anyFits_1 hl (by decide) rfl (fun ls hl => ?_)
  refine lp_P_anyFits q bg en sc wd ht oh bt co n w h hB hw hh hx hb hml hown hts hK hP hE (by first | exact hR | exact ⟨Nat.le_trans (by decide) hR.1, Nat.le_trans (by decide) hR.2⟩) hcs (fun i hi ha hx0 ls hl => ?_) (fun i hi ha hx0 hx1 ls hl => ?_) ((n - 0) + 1) 0 (by omega) (rfl) (by omega) ls (lv_sub hl [1, 2, 3, 0] rfl)
  · refine rn_iconst hx hb 0 dP_anyFits_31 (by decide) ?_
    exact W.zret hx hb hr rfl (fun t ht hW => ⟨_, rfl, (by first | (rw [afB_le hx1 n hx0]; rfl) | (rw [show n = i from (by omega), ha]; rfl)), ht⟩) (fun _ h9 => nomatch h9) dP_anyFits_32
  · refine rn_iconst hx hb 1 dP_anyFits_23 (by decide) ?_
    exact W.zret hx hb hr rfl (fun t ht hW => ⟨_, rfl, (by first | (rw [afB_le hx1 n hx0]; rfl) | (rw [show n = i from (by omega), ha]; rfl)), ht⟩) (fun _ h9 => nomatch h9) dP_anyFits_24

set_option maxHeartbeats 4000000 in
set_option maxRecDepth 100000 in
theorem lp_P_end {p : Program} {l : Launch} {e : Env} {R : Room} {s : State} {m : MethodId} {args : Array Value} {below : List Frame} {meth : Method} {c : Code} {H : Heap} {locs : List Loc} {cells slots : Nat} {Q : State → Prop} {dC : Nat → ClassId} {dI : Nat → Nat → Nat} {cI cJ cZ : ClassId} (q : Nat → Nat) (bg en sc wd ht oh bt : Nat → Nat) (co n : Nat) (i m0 : Nat) (hB : bP bg en sc wd ht oh bt co n) (hi : i < 40) (hm0 : m0 < 2305843009213693952) (hx : p.tables.exec = Jvm.exec) (hb : c.code = cP_endWhenUsedFrom) (hml : c.maxLocals = 8) (hown : s.vm.findClass nP = some m.cls) (hts : ∀ w ∈ wsP_endWhenUsedFrom, w.before args s = true) (hK : va_K (dC, dI) vwCl (tyE cI cJ cZ) s) (hP : va_P (dC, dI) vwCl (wP cI cJ cZ q bg en sc wd ht oh bt co n) H) (hE : EV s) (hR : 1 ≤ R.frames ∧ 22 ≤ R.locals) (hcs : cells ≤ R.cells ∧ slots ≤ R.slots)
    (kx0 : ∀ (hr0 : Nat) (h1 : m0 / 3600 ≤ hr0) (h2 : hr0 ≤ m0 / 3600 + 24) (h3 : ew (oh i) (sc i) m0 = ewL (oh i) (sc i) m0 (m0 / 3600 + 24 - hr0) hr0) (hx0 : m0 / 3600 + 24 ≤ hr0) (ls : Array Slot), lv_has ls 8 [(0, .ref (q 0)), (1, .int (nI i)), (2, .long (lN m0)), (4, .long (lN (m0 / 3600))), (6, .long (lN hr0))] → W p l e R s m args below meth c H locs cells slots Q (F0 m 69 ls []))
    (kx1 : ∀ (hr0 : Nat) (h1 : m0 / 3600 ≤ hr0) (h2 : hr0 ≤ m0 / 3600 + 24) (h3 : ew (oh i) (sc i) m0 = ewL (oh i) (sc i) m0 (m0 / 3600 + 24 - hr0) hr0) (hx0 : hr0 < m0 / 3600 + 24) (hx1 : (oh i).testBit (hr0 % 24) = true) (ls : Array Slot), lv_has ls 8 [(0, .ref (q 0)), (1, .int (nI i)), (2, .long (lN m0)), (4, .long (lN (m0 / 3600))), (6, .long (lN hr0))] → W p l e R s m args below meth c H locs cells slots Q (F0 m 42 ls []))
    : ∀ (fu : Nat) (hr0 : Nat) (h1 : m0 / 3600 ≤ hr0) (h2 : hr0 ≤ m0 / 3600 + 24) (h3 : ew (oh i) (sc i) m0 = ewL (oh i) (sc i) m0 (m0 / 3600 + 24 - hr0) hr0), m0 / 3600 + 24 - hr0 < fu → ∀ ls : Array Slot, lv_has ls 8 [(0, .ref (q 0)), (1, .int (nI i)), (2, .long (lN m0)), (4, .long (lN (m0 / 3600))), (6, .long (lN hr0))] → W p l e R s m args below meth c H locs cells slots Q (F0 m 11 ls []) := by
  have hg : ∀ w ∈ gw, w.before args s = true := fun w h => hts w (List.mem_cons_of_mem _ h)
  have hn := hB.1
  have hco := hB.2.1
  have hbi := hB.2.2
  have bi := hbi i
  have hdv : m0 / 3600 * 3600 ≤ m0 := Nat.div_mul_le_self m0 3600
  intro fu
  induction fu with
  | zero => intro hr0 h1 h2 h3 h0; exact absurd h0 (Nat.not_lt_zero _)
  | succ fu ih =>
    intro hr0 h1 h2 h3 hfu ls hl
    refine lv_lload hx hb dP_endWhenUsedFrom_11 (lv_at hl 4 rfl) ?_
    refine lv_lload hx hb dP_endWhenUsedFrom_13 (lv_at hl 3 rfl) ?_
    refine lv_ldc2 (v := 24) hx hb hown (hg _ kP_70) dP_endWhenUsedFrom_15 ?_
    refine tp_l (y := lN 24) rfl ?_
    refine rn_ladd hx hb dP_endWhenUsedFrom_18 ?_
    refine rn_lcmp_ge (tgt := 69) hx hb dP_endWhenUsedFrom_19 dP_endWhenUsedFrom_20 (by decide) (by omega) (by omega) (fun c20 => ?_) (fun c20 => ?_)
    · exact kx0 hr0 h1 h2 h3 (by omega) ls (lv_sub hl [0, 1, 2, 3, 4] rfl)
    · refine lv_aload_n hx hb dP_endWhenUsedFrom_23 rfl (lv_at hl 0 rfl) ?_
      refine va_get (D := (dC, dI)) (ci := 1) (v := .ref (q 6)) (C := nP) (T := TP) (N := 9) hx hb hg inP hown hK hP 0 rfl rfl 5 (by decide) (hg _ kP_28) (fun _ h9 => h9) rfl dP_endWhenUsedFrom_24 ?_
      refine lv_iload_n hx hb dP_endWhenUsedFrom_27 rfl (lv_at hl 1 rfl) ?_
      refine ga_l (f := oh) hx hb hK hP 6 1 rfl rfl (by omega) (by decide) dP_endWhenUsedFrom_28 ?_
      refine lv_lload hx hb dP_endWhenUsedFrom_29 (lv_at hl 4 rfl) ?_
      refine lv_ldc2 (v := 24) hx hb hown (hg _ kP_70) dP_endWhenUsedFrom_31 ?_
      refine tp_l (y := lN 24) rfl ?_
      refine rn_lrem hx hb dP_endWhenUsedFrom_34 (by omega) (by omega) (by omega) ?_
      refine rn_l2i hx hb dP_endWhenUsedFrom_35 ?_
      refine cpN_i (As := [.long (lN (oh i)), .int (nI (hr0 % 24))]) (rest := []) (post := fun r : Int32 => r = bI ((oh i).testBit (hr0 % 24))) ⟨hx, hb, hml, hown, hts⟩ (ct_G_hasBit l dC dI cI cJ cZ (oh i) (hr0 % 24) (by omega) (by omega)) ⟨va_cnB 2 hts (gi kc_G_hasBit) rfl rfl rfl (hE _ kNP_42) (hg _ kin_G) (by decide +kernel) ⟨Nat.le_trans (by decide) hR.1, Nat.le_trans (by decide) hR.2⟩, hg _ ks_G_hasBit, trivial⟩ (hP.sub (ws' := []) [] rfl) hK hE rfl hl.1 rfl (Nat.le_of_ble_eq_true rfl) dP_endWhenUsedFrom_36 hcs (fun r hr => ?_)
      subst hr
      refine rb_eq (tgt := 60) hx hb dP_endWhenUsedFrom_39 (by decide) (fun c39 => ?_) (fun c39 => ?_)
      · refine lv_lload hx hb dP_endWhenUsedFrom_60 (lv_at hl 4 rfl) ?_
        refine rn_lconst hx hb 1 dP_endWhenUsedFrom_62 rfl ?_
        refine rn_ladd hx hb dP_endWhenUsedFrom_63 ?_
        refine lv_lstore (lv' := [(6, .long (lN (hr0 + 1))), (0, .ref (q 0)), (1, .int (nI i)), (2, .long (lN m0)), (4, .long (lN (m0 / 3600)))]) hx hb dP_endWhenUsedFrom_64 hl (by decide) rfl (fun ls hl => ?_)
        refine lv_goto (tgt := 11) hx hb dP_endWhenUsedFrom_66 (by decide) ?_
        exact ih (hr0 + 1) (by omega) (by omega) (by rw [h3, show m0 / 3600 + 24 - hr0 = (m0 / 3600 + 24 - (hr0 + 1)) + 1 by omega]; simp only [ewL]; rw [if_neg (by simp_all)]) (by omega) ls (lv_sub hl [1, 2, 3, 4, 0] rfl)
      · exact kx1 hr0 h1 h2 h3 (by omega) (by assumption) ls (lv_sub hl [0, 1, 2, 3, 4] rfl)

set_option maxHeartbeats 4000000 in
set_option maxRecDepth 100000 in
theorem ct_P_endWhenUsedFrom (l : Launch) (dC : Nat → ClassId) (dI : Nat → Nat → Nat) (cI cJ cZ : ClassId) (q : Nat → Nat) (bg en sc wd ht oh bt : Nat → Nat) (co n : Nat) (i m0 : Nat) (hB : bP bg en sc wd ht oh bt co n) (hi : i < 40) (hm0 : m0 < 2305843009213693952) : Met l yP_endWhenUsedFrom wsP_endWhenUsedFrom ({ frames := 1, cells := 0, slots := 0, locals := 23 }) (PcR (dC, dI) (wP cI cJ cZ q bg en sc wd ht oh bt co n) (tyE cI cJ cZ) [.ref (q 0), .int (nI i), .long (lN m0)]) (vp_Sl (fun r => r = lN (ew (oh i) (sc i) m0))) 0 0 (fun _ => False) := by
  refine Met.ofW (cc := cP_endWhenUsedFrom) (maxL := 8) (ret := (some .long)) (by decide) rfl ?_
  intro p e s m args below meth c s₁ B hml hv
  obtain ⟨rfl, hP, hK, hE⟩ := hv
  have hx := B.exec
  have hb := B.bytes
  have hr := B.returns
  have hts := atoms_spec (ws := wsP_endWhenUsedFrom) B.pre
  have hg : ∀ w ∈ gw, w.before _ s = true := fun w h => hts w (List.mem_cons_of_mem _ h)
  have hown : s.vm.findClass nP = some m.cls := findClass_of_methodNamed B.named
  have hlocks := B.notSynchronized
  have hR : 1 ≤ (headSpec wsP_endWhenUsedFrom ({ frames := 1, cells := 0, slots := 0, locals := 23 })).room.frames ∧ 23 ≤ (headSpec wsP_endWhenUsedFrom ({ frames := 1, cells := 0, slots := 0, locals := 23 })).room.locals := ⟨Nat.le_refl _, Nat.le_refl _⟩
  have hcs : 0 ≤ (headSpec wsP_endWhenUsedFrom ({ frames := 1, cells := 0, slots := 0, locals := 23 })).room.cells ∧ 0 ≤ (headSpec wsP_endWhenUsedFrom ({ frames := 1, cells := 0, slots := 0, locals := 23 })).room.slots := ⟨Nat.zero_le _, Nat.zero_le _⟩
  have hn := hB.1
  have hco := hB.2.1
  have hbi := hB.2.2
  have bi := hbi i
  have hdv : m0 / 3600 * 3600 ≤ m0 := Nat.div_mul_le_self m0 3600
  have hl := lv_entry ([.ref (q 0), .int (nI i), .long (lN m0)]) (n := 8) (Nat.le_of_ble_eq_true rfl)
  rw [lg_entry_eq]
  generalize (lg_sl ([.ref (q 0), .int (nI i), .long (lN m0)]) ++ List.replicate (8 - (lg_sl ([.ref (q 0), .int (nI i), .long (lN m0)])).length) Slot.unset).toArray = ls at hl ⊢
  have hl : lv_has ls 8 [(0, .ref (q 0)), (1, .int (nI i)), (2, .long (lN m0))] := hl
  refine lv_lload_n hx hb dP_endWhenUsedFrom_0 rfl (lv_at hl 2 rfl) ?_
  refine lv_ldc2 (v := 3600) hx hb hown (hg _ kP_68) dP_endWhenUsedFrom_1 ?_
  refine tp_l (y := lN 3600) rfl ?_
  refine rn_ldiv hx hb dP_endWhenUsedFrom_4 (by omega) (by omega) (by omega) ?_
  refine lv_lstore (lv' := [(4, .long (lN (m0 / 3600))), (0, .ref (q 0)), (1, .int (nI i)), (2, .long (lN m0))]) hx hb dP_endWhenUsedFrom_5 hl (by decide) rfl (fun ls hl => ?_)
  refine lv_lload hx hb dP_endWhenUsedFrom_7 (lv_at hl 0 rfl) ?_
  refine lv_lstore (lv' := [(6, .long (lN (m0 / 3600))), (4, .long (lN (m0 / 3600))), (0, .ref (q 0)), (1, .int (nI i)), (2, .long (lN m0))]) hx hb dP_endWhenUsedFrom_9 hl (by decide) rfl (fun ls hl => ?_)
  refine lp_P_end q bg en sc wd ht oh bt co n i m0 hB hi hm0 hx hb hml hown hts hK hP hE (by first | exact hR | exact ⟨Nat.le_trans (by decide) hR.1, Nat.le_trans (by decide) hR.2⟩) hcs (fun hr0 h1 h2 h3 hx0 ls hl => ?_) (fun hr0 h1 h2 h3 hx0 hx1 ls hl => ?_) ((m0 / 3600 + 24 - (m0 / 3600)) + 1) (m0 / 3600) (by omega) (by omega) (by rw [show m0 / 3600 + 24 - m0 / 3600 = 24 by omega]; rfl) (by omega) ls (lv_sub hl [2, 3, 4, 1, 0] rfl)
  · refine lv_ldc2 (v := 1152921504606846976) hx hb hown (hg _ kP_78) dP_endWhenUsedFrom_69 ?_
    refine tp_l (y := lN 1152921504606846976) rfl ?_
    exact W.lret hx hb hr (fun t ht hW => ⟨_, rfl, (by first | (show lN _ = lN _; rw [h3, show m0 / 3600 + 24 - hr0 = (m0 / 3600 + 24 - (hr0 + 1)) + 1 by omega]; simp only [ewL]; rw [if_pos hx1]; done) | (show lN _ = lN _; rw [h3, show m0 / 3600 + 24 - hr0 = 0 by omega]; rfl)), ht⟩) (fun _ h9 => nomatch h9) dP_endWhenUsedFrom_72
  · refine lv_lload_n hx hb dP_endWhenUsedFrom_42 rfl (lv_at hl 2 rfl) ?_
    refine lv_lload hx hb dP_endWhenUsedFrom_43 (lv_at hl 4 rfl) ?_
    refine lv_ldc2 (v := 3600) hx hb hown (hg _ kP_68) dP_endWhenUsedFrom_45 ?_
    refine tp_l (y := lN 3600) rfl ?_
    refine rn_lmul hx hb dP_endWhenUsedFrom_48 ?_
    refine cpS_l (As := [.long (lN m0), .long (lN (hr0 * 3600))]) (rest := []) (post := fun r : Int64 => r = lN (max m0 (hr0 * 3600))) ⟨hx, hb, hml, hown, hts⟩ (ct_JM_max_J l dC dI cI cJ cZ m0 (hr0 * 3600) (by omega) (by omega)) (va_cwS 2 hts (gs kP_72 ks_JM_max_J kin_JM kc_JM_max_J) rfl rfl rfl (by decide +kernel) ⟨Nat.le_trans (by decide) hR.1, Nat.le_trans (by decide) hR.2⟩) (hP.sub (ws' := []) [] rfl) hK hE rfl hl.1 rfl (Nat.le_of_ble_eq_true rfl) dP_endWhenUsedFrom_49 hcs (fun r hr => ?_)
    subst hr
    refine lv_aload_n hx hb dP_endWhenUsedFrom_52 rfl (lv_at hl 0 rfl) ?_
    refine va_get (D := (dC, dI)) (ci := 1) (v := .ref (q 3)) (C := nP) (T := TP) (N := 9) hx hb hg inP hown hK hP 0 rfl rfl 2 (by decide) (hg _ kP_18) (fun _ h9 => h9) rfl dP_endWhenUsedFrom_53 ?_
    refine lv_iload_n hx hb dP_endWhenUsedFrom_56 rfl (lv_at hl 1 rfl) ?_
    refine ga_l (f := sc) hx hb hK hP 3 1 rfl rfl (by omega) (by decide) dP_endWhenUsedFrom_57 ?_
    refine rn_ladd hx hb dP_endWhenUsedFrom_58 ?_
    exact W.lret hx hb hr (fun t ht hW => ⟨_, rfl, (by first | (show lN _ = lN _; rw [h3, show m0 / 3600 + 24 - hr0 = (m0 / 3600 + 24 - (hr0 + 1)) + 1 by omega]; simp only [ewL]; rw [if_pos hx1]; done) | (show lN _ = lN _; rw [h3, show m0 / 3600 + 24 - hr0 = 0 by omega]; rfl)), ht⟩) (fun _ h9 => nomatch h9) dP_endWhenUsedFrom_59

def usB (wd ht oh : Nat → Nat) (co w h k : Nat) : Bool := decide (oh k ≠ 0) && !co.testBit k && decide (w ≤ wd k ∧ h ≤ ht k)
theorem us_0 {wd ht oh : Nat → Nat} {co w h k : Nat} (c : oh k = 0) : usB wd ht oh co w h k = false := by simp [usB, c]
theorem us_1 {wd ht oh : Nat → Nat} {co w h k : Nat} (c : co.testBit k = true) : usB wd ht oh co w h k = false := by simp [usB, c]
theorem us_2 {wd ht oh : Nat → Nat} {co w h k : Nat} (c : decide (w ≤ wd k ∧ h ≤ ht k) = false) : usB wd ht oh co w h k = false := by rw [usB, c]; simp
theorem us_3 {wd ht oh : Nat → Nat} {co w h k : Nat} (c1 : ¬ oh k = 0) (c2 : co.testBit k = false) (c3 : decide (w ≤ wd k ∧ h ≤ ht k) = true) : usB wd ht oh co w h k = true := by rw [usB, c3, c2]; simp [c1]
def uM (wd ht oh : Nat → Nat) (co w h : Nat) : Nat → Nat
  | 0 => 0
  | k + 1 => sB (uM wd ht oh co w h k) k (usB wd ht oh co w h k)
theorem uM_ok (wd ht oh : Nat → Nat) (co w h : Nat) : ∀ k, k ≤ 40 → uM wd ht oh co w h k < 1099511627776 ∧ ∀ j, (uM wd ht oh co w h k).testBit j = (decide (j < k) && usB wd ht oh co w h j) := by
  intro k
  induction k with
  | zero => intro _; exact ⟨(show 0 < 1099511627776 by decide), fun j => by simp [uM]⟩
  | succ k ih =>
    intro hk
    obtain ⟨h1, h2⟩ := ih (by omega)
    refine ⟨sB_lt (w := 40) _ h1 (by omega), fun j => ?_⟩
    show (sB (uM wd ht oh co w h k) k (usB wd ht oh co w h k)).testBit j = _
    rw [sB_tb _ (by omega) (by omega), h2]
    by_cases e : j = k
    · subst e; simp
    · by_cases e2 : j < k
      · simp [e, e2, show j < k + 1 by omega]
      · simp [e, e2, show ¬ j < k + 1 by omega]

set_option maxHeartbeats 4000000 in
set_option maxRecDepth 100000 in
theorem lp_P_usableBy {p : Program} {l : Launch} {e : Env} {R : Room} {s : State} {m : MethodId} {args : Array Value} {below : List Frame} {meth : Method} {c : Code} {H : Heap} {locs : List Loc} {cells slots : Nat} {Q : State → Prop} {dC : Nat → ClassId} {dI : Nat → Nat → Nat} {cI cJ cZ : ClassId} (q : Nat → Nat) (bg en sc wd ht oh bt : Nat → Nat) (co n : Nat) (w h : Nat) (hB : bP bg en sc wd ht oh bt co n) (hw : w ≤ 10000) (hh : h ≤ 10000) (hx : p.tables.exec = Jvm.exec) (hb : c.code = cP_usableBy) (hml : c.maxLocals = 8) (hown : s.vm.findClass nP = some m.cls) (hts : ∀ w ∈ wsP_usableBy, w.before args s = true) (hK : va_K (dC, dI) vwCl (tyE cI cJ cZ) s) (hP : va_P (dC, dI) vwCl (wP cI cJ cZ q bg en sc wd ht oh bt co n) H) (hE : EV s) (hR : 1 ≤ R.frames ∧ 25 ≤ R.locals) (hcs : cells ≤ R.cells ∧ slots ≤ R.slots)
    (kx0 : ∀ (i : Nat) (u : Nat) (hi : i ≤ n) (hu : u = uM wd ht oh co w h i) (hx0 : n ≤ i) (ls : Array Slot), lv_has ls 8 [(0, .ref (q 0)), (1, .int (nI w)), (2, .long (lN h)), (4, .long (lN u)), (6, .int (nI i))] → W p l e R s m args below meth c H locs cells slots Q (F0 m 82 ls []))
    : ∀ (fu : Nat) (i : Nat) (u : Nat) (hi : i ≤ n) (hu : u = uM wd ht oh co w h i), n - i < fu → ∀ ls : Array Slot, lv_has ls 8 [(0, .ref (q 0)), (1, .int (nI w)), (2, .long (lN h)), (4, .long (lN u)), (6, .int (nI i))] → W p l e R s m args below meth c H locs cells slots Q (F0 m 6 ls []) := by
  have hg : ∀ w ∈ gw, w.before args s = true := fun w h => hts w (List.mem_cons_of_mem _ h)
  have hn := hB.1
  have hco := hB.2.1
  have hbi := hB.2.2
  intro fu
  induction fu with
  | zero => intro i u hi hu h0; exact absurd h0 (Nat.not_lt_zero _)
  | succ fu ih =>
    intro i u hi hu hfu ls hl
    refine lv_iload hx hb dP_usableBy_6 (lv_at hl 4 rfl) ?_
    refine lv_aload_n hx hb dP_usableBy_8 rfl (lv_at hl 0 rfl) ?_
    refine va_get (D := (dC, dI)) (ci := 1) (v := .int (nI n)) (C := nP) (T := TP) (N := 9) hx hb hg inP hown hK hP 0 rfl rfl 8 (by decide) (hg _ kP_34) (fun _ h9 => h9) rfl dP_usableBy_9 ?_
    refine rn_icmp_ge (tgt := 82) hx hb dP_usableBy_12 (by decide) (by omega) (by omega) (fun c12 => ?_) (fun c12 => ?_)
    · exact kx0 i u hi hu (by omega) ls (lv_sub hl [0, 1, 2, 3, 4] rfl)
    · have bi := hbi i
      have hub := (uM_ok wd ht oh co w h i (by omega)).1
      rw [← hu] at hub
      refine lv_aload_n hx hb dP_usableBy_15 rfl (lv_at hl 0 rfl) ?_
      refine va_get (D := (dC, dI)) (ci := 1) (v := .ref (q 6)) (C := nP) (T := TP) (N := 9) hx hb hg inP hown hK hP 0 rfl rfl 5 (by decide) (hg _ kP_28) (fun _ h9 => h9) rfl dP_usableBy_16 ?_
      refine lv_iload hx hb dP_usableBy_19 (lv_at hl 4 rfl) ?_
      refine ga_l (f := oh) hx hb hK hP 6 1 rfl rfl (by omega) (by decide) dP_usableBy_21 ?_
      refine rn_lconst hx hb 0 dP_usableBy_22 rfl ?_
      refine rn_lcmp_eq (tgt := 43) hx hb dP_usableBy_23 dP_usableBy_24 (by decide) (by omega) (by omega) (fun c24 => ?_) (fun c24 => ?_)
      · refine rn_iconst hx hb 0 dP_usableBy_43 (by decide) ?_
        refine lv_istore (lv' := [(7, .int (nI 0)), (0, .ref (q 0)), (1, .int (nI w)), (2, .long (lN h)), (4, .long (lN u)), (6, .int (nI i))]) hx hb dP_usableBy_44 hl (by decide) rfl (fun ls hl => ?_)
        refine lv_lload hx hb dP_usableBy_46 (lv_at hl 4 rfl) ?_
        refine lv_iload hx hb dP_usableBy_48 (lv_at hl 5 rfl) ?_
        refine lv_iload hx hb dP_usableBy_50 (lv_at hl 0 rfl) ?_
        refine lv_if_eq (tgt := 70) hx hb dP_usableBy_52 (by decide) (fun c52 => ?_) (fun c52 => absurd c52 (by decide))
        refine rn_iconst hx hb 0 dP_usableBy_70 (by decide) ?_
        refine cpN_l (As := [.long (lN u), .int (nI i), .int (bI false)]) (rest := []) (post := fun r : Int64 => r = lN (sB u i false)) ⟨hx, hb, hml, hown, hts⟩ (ct_G_withBit l dC dI cI cJ cZ u i false (by omega) (by omega)) ⟨va_cnB 3 hts (gi kc_G_withBit) rfl rfl rfl (hE _ kNP_60) (hg _ kin_G) (by decide +kernel) ⟨Nat.le_trans (by decide) hR.1, Nat.le_trans (by decide) hR.2⟩, hg _ ks_G_withBit, trivial⟩ (hP.sub (ws' := []) [] rfl) hK hE rfl hl.1 rfl (Nat.le_of_ble_eq_true rfl) dP_usableBy_71 hcs (fun r hr => ?_)
        subst hr
        refine lv_lstore (lv' := [(4, .long (lN (sB u i false))), (7, .int (nI 0)), (0, .ref (q 0)), (1, .int (nI w)), (2, .long (lN h)), (6, .int (nI i))]) hx hb dP_usableBy_74 hl (by decide) rfl (fun ls hl => ?_)
        refine rn_iinc (lv' := [(6, .int (nI (i + 1))), (4, .long (lN (sB u i false))), (7, .int (nI 0)), (0, .ref (q 0)), (1, .int (nI w)), (2, .long (lN h))]) hx hb dP_usableBy_76 hl (k := 5) rfl (by decide) rfl (fun ls hl => ?_)
        refine lv_goto (tgt := 6) hx hb dP_usableBy_79 (by decide) ?_
        exact ih (i + 1) (sB u i false) (by omega) (by rw [hu]; show sB _ i _ = sB _ i (usB wd ht oh co w h i); first | rw [us_0 c24] | rw [us_1 c36] | rw [us_2 c63] | rw [us_3 c24 c36 c63]) (by omega) ls (lv_sub hl [3, 4, 5, 1, 0] rfl)
      · refine lv_aload_n hx hb dP_usableBy_27 rfl (lv_at hl 0 rfl) ?_
        refine va_get (D := (dC, dI)) (ci := 1) (v := .long (lN co)) (C := nP) (T := TP) (N := 9) hx hb hg inP hown hK hP 0 rfl rfl 7 (by decide) (hg _ kP_56) (fun _ h9 => h9) rfl dP_usableBy_28 ?_
        refine lv_iload hx hb dP_usableBy_31 (lv_at hl 4 rfl) ?_
        refine cpN_i (As := [.long (lN co), .int (nI i)]) (rest := []) (post := fun r : Int32 => r = bI (co.testBit i)) ⟨hx, hb, hml, hown, hts⟩ (ct_G_hasBit l dC dI cI cJ cZ co i (by omega) (by omega)) ⟨va_cnB 2 hts (gi kc_G_hasBit) rfl rfl rfl (hE _ kNP_42) (hg _ kin_G) (by decide +kernel) ⟨Nat.le_trans (by decide) hR.1, Nat.le_trans (by decide) hR.2⟩, hg _ ks_G_hasBit, trivial⟩ (hP.sub (ws' := []) [] rfl) hK hE rfl hl.1 rfl (Nat.le_of_ble_eq_true rfl) dP_usableBy_33 hcs (fun r hr => ?_)
        subst hr
        refine rb_ne (tgt := 43) hx hb dP_usableBy_36 (by decide) (fun c36 => ?_) (fun c36 => ?_)
        · refine rn_iconst hx hb 0 dP_usableBy_43 (by decide) ?_
          refine lv_istore (lv' := [(7, .int (nI 0)), (0, .ref (q 0)), (1, .int (nI w)), (2, .long (lN h)), (4, .long (lN u)), (6, .int (nI i))]) hx hb dP_usableBy_44 hl (by decide) rfl (fun ls hl => ?_)
          refine lv_lload hx hb dP_usableBy_46 (lv_at hl 4 rfl) ?_
          refine lv_iload hx hb dP_usableBy_48 (lv_at hl 5 rfl) ?_
          refine lv_iload hx hb dP_usableBy_50 (lv_at hl 0 rfl) ?_
          refine lv_if_eq (tgt := 70) hx hb dP_usableBy_52 (by decide) (fun c52 => ?_) (fun c52 => absurd c52 (by decide))
          refine rn_iconst hx hb 0 dP_usableBy_70 (by decide) ?_
          refine cpN_l (As := [.long (lN u), .int (nI i), .int (bI false)]) (rest := []) (post := fun r : Int64 => r = lN (sB u i false)) ⟨hx, hb, hml, hown, hts⟩ (ct_G_withBit l dC dI cI cJ cZ u i false (by omega) (by omega)) ⟨va_cnB 3 hts (gi kc_G_withBit) rfl rfl rfl (hE _ kNP_60) (hg _ kin_G) (by decide +kernel) ⟨Nat.le_trans (by decide) hR.1, Nat.le_trans (by decide) hR.2⟩, hg _ ks_G_withBit, trivial⟩ (hP.sub (ws' := []) [] rfl) hK hE rfl hl.1 rfl (Nat.le_of_ble_eq_true rfl) dP_usableBy_71 hcs (fun r hr => ?_)
          subst hr
          refine lv_lstore (lv' := [(4, .long (lN (sB u i false))), (7, .int (nI 0)), (0, .ref (q 0)), (1, .int (nI w)), (2, .long (lN h)), (6, .int (nI i))]) hx hb dP_usableBy_74 hl (by decide) rfl (fun ls hl => ?_)
          refine rn_iinc (lv' := [(6, .int (nI (i + 1))), (4, .long (lN (sB u i false))), (7, .int (nI 0)), (0, .ref (q 0)), (1, .int (nI w)), (2, .long (lN h))]) hx hb dP_usableBy_76 hl (k := 5) rfl (by decide) rfl (fun ls hl => ?_)
          refine lv_goto (tgt := 6) hx hb dP_usableBy_79 (by decide) ?_
          exact ih (i + 1) (sB u i false) (by omega) (by rw [hu]; show sB _ i _ = sB _ i (usB wd ht oh co w h i); first | rw [us_0 c24] | rw [us_1 c36] | rw [us_2 c63] | rw [us_3 c24 c36 c63]) (by omega) ls (lv_sub hl [3, 4, 5, 1, 0] rfl)
        · refine rn_iconst hx hb 1 dP_usableBy_39 (by decide) ?_
          refine lv_goto (tgt := 44) hx hb dP_usableBy_40 (by decide) ?_
          refine lv_istore (lv' := [(7, .int (nI 1)), (0, .ref (q 0)), (1, .int (nI w)), (2, .long (lN h)), (4, .long (lN u)), (6, .int (nI i))]) hx hb dP_usableBy_44 hl (by decide) rfl (fun ls hl => ?_)
          refine lv_lload hx hb dP_usableBy_46 (lv_at hl 4 rfl) ?_
          refine lv_iload hx hb dP_usableBy_48 (lv_at hl 5 rfl) ?_
          refine lv_iload hx hb dP_usableBy_50 (lv_at hl 0 rfl) ?_
          refine lv_if_eq (tgt := 70) hx hb dP_usableBy_52 (by decide) (fun c52 => absurd c52 (by decide)) (fun c52 => ?_)
          refine lv_aload_n hx hb dP_usableBy_55 rfl (lv_at hl 1 rfl) ?_
          refine lv_iload hx hb dP_usableBy_56 (lv_at hl 5 rfl) ?_
          refine lv_iload_n hx hb dP_usableBy_58 rfl (lv_at hl 2 rfl) ?_
          refine lv_lload_n hx hb dP_usableBy_59 rfl (lv_at hl 3 rfl) ?_
          refine cpV_i (b := (q 0)) (C := nP) (As := [.int (nI i), .int (nI w), .long (lN h)]) (rest := [.int (nI i), .long (lN u)]) (post := fun r : Int32 => r = bI (decide (w ≤ wd i ∧ h ≤ ht i))) ⟨hx, hb, hml, hown, hts⟩ (ct_P_fits l dC dI cI cJ cZ q bg en sc wd ht oh bt co n i w h (hB) (by omega) (hw) (hh)) (cwV 3 hts (gv kP_52 ki_P_fits ksel_P_fits kin_P kc_P_fits) rfl rfl rfl (by decide +kernel) ⟨Nat.le_trans (by decide) hR.1, Nat.le_trans (by decide) hR.2⟩) (va_recv hK hP (ci := 1) (q0 := 0) rfl rfl) hP hK hE rfl hl.1 rfl (Nat.le_of_ble_eq_true rfl) dP_usableBy_60 hcs (fun r hr => ?_)
          subst hr
          refine rb_eq (tgt := 70) hx hb dP_usableBy_63 (by decide) (fun c63 => ?_) (fun c63 => ?_)
          · refine rn_iconst hx hb 0 dP_usableBy_70 (by decide) ?_
            refine cpN_l (As := [.long (lN u), .int (nI i), .int (bI false)]) (rest := []) (post := fun r : Int64 => r = lN (sB u i false)) ⟨hx, hb, hml, hown, hts⟩ (ct_G_withBit l dC dI cI cJ cZ u i false (by omega) (by omega)) ⟨va_cnB 3 hts (gi kc_G_withBit) rfl rfl rfl (hE _ kNP_60) (hg _ kin_G) (by decide +kernel) ⟨Nat.le_trans (by decide) hR.1, Nat.le_trans (by decide) hR.2⟩, hg _ ks_G_withBit, trivial⟩ (hP.sub (ws' := []) [] rfl) hK hE rfl hl.1 rfl (Nat.le_of_ble_eq_true rfl) dP_usableBy_71 hcs (fun r hr => ?_)
            subst hr
            refine lv_lstore (lv' := [(4, .long (lN (sB u i false))), (7, .int (nI 1)), (0, .ref (q 0)), (1, .int (nI w)), (2, .long (lN h)), (6, .int (nI i))]) hx hb dP_usableBy_74 hl (by decide) rfl (fun ls hl => ?_)
            refine rn_iinc (lv' := [(6, .int (nI (i + 1))), (4, .long (lN (sB u i false))), (7, .int (nI 1)), (0, .ref (q 0)), (1, .int (nI w)), (2, .long (lN h))]) hx hb dP_usableBy_76 hl (k := 5) rfl (by decide) rfl (fun ls hl => ?_)
            refine lv_goto (tgt := 6) hx hb dP_usableBy_79 (by decide) ?_
            exact ih (i + 1) (sB u i false) (by omega) (by rw [hu]; show sB _ i _ = sB _ i (usB wd ht oh co w h i); first | rw [us_0 c24] | rw [us_1 c36] | rw [us_2 c63] | rw [us_3 c24 c36 c63]) (by omega) ls (lv_sub hl [3, 4, 5, 1, 0] rfl)
          · refine rn_iconst hx hb 1 dP_usableBy_66 (by decide) ?_
            refine lv_goto (tgt := 71) hx hb dP_usableBy_67 (by decide) ?_
            refine cpN_l (As := [.long (lN u), .int (nI i), .int (bI true)]) (rest := []) (post := fun r : Int64 => r = lN (sB u i true)) ⟨hx, hb, hml, hown, hts⟩ (ct_G_withBit l dC dI cI cJ cZ u i true (by omega) (by omega)) ⟨va_cnB 3 hts (gi kc_G_withBit) rfl rfl rfl (hE _ kNP_60) (hg _ kin_G) (by decide +kernel) ⟨Nat.le_trans (by decide) hR.1, Nat.le_trans (by decide) hR.2⟩, hg _ ks_G_withBit, trivial⟩ (hP.sub (ws' := []) [] rfl) hK hE rfl hl.1 rfl (Nat.le_of_ble_eq_true rfl) dP_usableBy_71 hcs (fun r hr => ?_)
            subst hr
            refine lv_lstore (lv' := [(4, .long (lN (sB u i true))), (7, .int (nI 1)), (0, .ref (q 0)), (1, .int (nI w)), (2, .long (lN h)), (6, .int (nI i))]) hx hb dP_usableBy_74 hl (by decide) rfl (fun ls hl => ?_)
            refine rn_iinc (lv' := [(6, .int (nI (i + 1))), (4, .long (lN (sB u i true))), (7, .int (nI 1)), (0, .ref (q 0)), (1, .int (nI w)), (2, .long (lN h))]) hx hb dP_usableBy_76 hl (k := 5) rfl (by decide) rfl (fun ls hl => ?_)
            refine lv_goto (tgt := 6) hx hb dP_usableBy_79 (by decide) ?_
            exact ih (i + 1) (sB u i true) (by omega) (by rw [hu]; show sB _ i _ = sB _ i (usB wd ht oh co w h i); first | rw [us_0 c24] | rw [us_1 c36] | rw [us_2 c63] | rw [us_3 c24 c36 c63]) (by omega) ls (lv_sub hl [3, 4, 5, 1, 0] rfl)

set_option maxHeartbeats 4000000 in
set_option maxRecDepth 100000 in
theorem ct_P_usableBy (l : Launch) (dC : Nat → ClassId) (dI : Nat → Nat → Nat) (cI cJ cZ : ClassId) (q : Nat → Nat) (bg en sc wd ht oh bt : Nat → Nat) (co n : Nat) (w h : Nat) (hB : bP bg en sc wd ht oh bt co n) (hw : w ≤ 10000) (hh : h ≤ 10000) : Met l yP_usableBy wsP_usableBy ({ frames := 1, cells := 0, slots := 0, locals := 25 }) (PcR (dC, dI) (wP cI cJ cZ q bg en sc wd ht oh bt co n) (tyE cI cJ cZ) [.ref (q 0), .int (nI w), .long (lN h)]) (vp_Sl (fun r => r = lN (uM wd ht oh co w h n))) 0 0 (fun _ => False) := by
  refine Met.ofW (cc := cP_usableBy) (maxL := 8) (ret := (some .long)) (by decide) rfl ?_
  intro p e s m args below meth c s₁ B hml hv
  obtain ⟨rfl, hP, hK, hE⟩ := hv
  have hx := B.exec
  have hb := B.bytes
  have hr := B.returns
  have hts := atoms_spec (ws := wsP_usableBy) B.pre
  have hg : ∀ w ∈ gw, w.before _ s = true := fun w h => hts w (List.mem_cons_of_mem _ h)
  have hown : s.vm.findClass nP = some m.cls := findClass_of_methodNamed B.named
  have hlocks := B.notSynchronized
  have hR : 1 ≤ (headSpec wsP_usableBy ({ frames := 1, cells := 0, slots := 0, locals := 25 })).room.frames ∧ 25 ≤ (headSpec wsP_usableBy ({ frames := 1, cells := 0, slots := 0, locals := 25 })).room.locals := ⟨Nat.le_refl _, Nat.le_refl _⟩
  have hcs : 0 ≤ (headSpec wsP_usableBy ({ frames := 1, cells := 0, slots := 0, locals := 25 })).room.cells ∧ 0 ≤ (headSpec wsP_usableBy ({ frames := 1, cells := 0, slots := 0, locals := 25 })).room.slots := ⟨Nat.zero_le _, Nat.zero_le _⟩
  have hn := hB.1
  have hco := hB.2.1
  have hbi := hB.2.2
  have hl := lv_entry ([.ref (q 0), .int (nI w), .long (lN h)]) (n := 8) (Nat.le_of_ble_eq_true rfl)
  rw [lg_entry_eq]
  generalize (lg_sl ([.ref (q 0), .int (nI w), .long (lN h)]) ++ List.replicate (8 - (lg_sl ([.ref (q 0), .int (nI w), .long (lN h)])).length) Slot.unset).toArray = ls at hl ⊢
  have hl : lv_has ls 8 [(0, .ref (q 0)), (1, .int (nI w)), (2, .long (lN h))] := hl
  refine rn_lconst hx hb 0 dP_usableBy_0 rfl ?_
  refine lv_lstore (lv' := [(4, .long (lN 0)), (0, .ref (q 0)), (1, .int (nI w)), (2, .long (lN h))]) hx hb dP_usableBy_1 hl (by decide) rfl (fun ls hl => ?_)
  refine rn_iconst hx hb 0 dP_usableBy_3 (by decide) ?_
  refine lv_istore (lv' := [(6, .int (nI 0)), (4, .long (lN 0)), (0, .ref (q 0)), (1, .int (nI w)), (2, .long (lN h))]) hx hb dP_usableBy_4 hl (by decide) rfl (fun ls hl => ?_)
  refine lp_P_usableBy q bg en sc wd ht oh bt co n w h hB hw hh hx hb hml hown hts hK hP hE (by first | exact hR | exact ⟨Nat.le_trans (by decide) hR.1, Nat.le_trans (by decide) hR.2⟩) hcs (fun i u hi hu hx0 ls hl => ?_) ((n - 0) + 1) 0 0 (by omega) (rfl) (by omega) ls (lv_sub hl [2, 3, 4, 1, 0] rfl)
  refine lv_lload hx hb dP_usableBy_82 (lv_at hl 3 rfl) ?_
  exact W.lret hx hb hr (fun t ht hW => ⟨_, rfl, (congrArg lN (by rw [hu, show n = i from by omega])), ht⟩) (fun _ h9 => nomatch h9) dP_usableBy_84

def cbN (bt : Nat → Nat) : Nat → Nat
  | 0 => 0
  | k + 1 => cbN bt k + pcn (bt k) 64

set_option maxHeartbeats 4000000 in
set_option maxRecDepth 100000 in
theorem lp_P_count {p : Program} {l : Launch} {e : Env} {R : Room} {s : State} {m : MethodId} {args : Array Value} {below : List Frame} {meth : Method} {c : Code} {H : Heap} {locs : List Loc} {cells slots : Nat} {Q : State → Prop} {dC : Nat → ClassId} {dI : Nat → Nat → Nat} {cI cJ cZ : ClassId} (q : Nat → Nat) (bg en sc wd ht oh bt : Nat → Nat) (co n : Nat) (hB : bP bg en sc wd ht oh bt co n) (hx : p.tables.exec = Jvm.exec) (hb : c.code = cP_countBarredTurns) (hml : c.maxLocals = 3) (hown : s.vm.findClass nP = some m.cls) (hts : ∀ w ∈ wsP_countBarredTurns, w.before args s = true) (hK : va_K (dC, dI) vwCl (tyE cI cJ cZ) s) (hP : va_P (dC, dI) vwCl (wP cI cJ cZ q bg en sc wd ht oh bt co n) H) (hE : EV s) (hR : 1 ≤ R.frames ∧ 21 ≤ R.locals) (hcs : cells ≤ R.cells ∧ slots ≤ R.slots)
    (kx0 : ∀ (i : Nat) (u : Nat) (hi : i ≤ n) (hu : u = cbN bt i) (hx0 : n ≤ i) (ls : Array Slot), lv_has ls 3 [(0, .ref (q 0)), (1, .int (nI u)), (2, .int (nI i))] → W p l e R s m args below meth c H locs cells slots Q (F0 m 30 ls []))
    : ∀ (fu : Nat) (i : Nat) (u : Nat) (hi : i ≤ n) (hu : u = cbN bt i), n - i < fu → ∀ ls : Array Slot, lv_has ls 3 [(0, .ref (q 0)), (1, .int (nI u)), (2, .int (nI i))] → W p l e R s m args below meth c H locs cells slots Q (F0 m 4 ls []) := by
  have hg : ∀ w ∈ gw, w.before args s = true := fun w h => hts w (List.mem_cons_of_mem _ h)
  have hn := hB.1
  have hco := hB.2.1
  have hbi := hB.2.2
  intro fu
  induction fu with
  | zero => intro i u hi hu h0; exact absurd h0 (Nat.not_lt_zero _)
  | succ fu ih =>
    intro i u hi hu hfu ls hl
    refine lv_iload_n hx hb dP_countBarredTurns_4 rfl (lv_at hl 2 rfl) ?_
    refine lv_aload_n hx hb dP_countBarredTurns_5 rfl (lv_at hl 0 rfl) ?_
    refine va_get (D := (dC, dI)) (ci := 1) (v := .int (nI n)) (C := nP) (T := TP) (N := 9) hx hb hg inP hown hK hP 0 rfl rfl 8 (by decide) (hg _ kP_34) (fun _ h9 => h9) rfl dP_countBarredTurns_6 ?_
    refine rn_icmp_ge (tgt := 30) hx hb dP_countBarredTurns_9 (by decide) (by omega) (by omega) (fun c9 => ?_) (fun c9 => ?_)
    · exact kx0 i u hi hu (by omega) ls (lv_sub hl [0, 1, 2] rfl)
    · have bi := hbi i
      refine lv_iload_n hx hb dP_countBarredTurns_12 rfl (lv_at hl 1 rfl) ?_
      refine lv_aload_n hx hb dP_countBarredTurns_13 rfl (lv_at hl 0 rfl) ?_
      refine va_get (D := (dC, dI)) (ci := 1) (v := .ref (q 7)) (C := nP) (T := TP) (N := 9) hx hb hg inP hown hK hP 0 rfl rfl 6 (by decide) (hg _ kP_31) (fun _ h9 => h9) rfl dP_countBarredTurns_14 ?_
      refine lv_iload_n hx hb dP_countBarredTurns_17 rfl (lv_at hl 2 rfl) ?_
      refine ga_l (f := bt) hx hb hK hP 7 1 rfl rfl (by omega) (by decide) dP_countBarredTurns_18 ?_
      refine cpS_i (As := [.long (lN (bt i))]) (rest := [.int (nI u)]) (post := fun r : Int32 => r = nI (pcn (bt i) 64)) ⟨hx, hb, hml, hown, hts⟩ (ct_JL_bitCount l dC dI cI cJ cZ (bt i) (by omega)) (va_cwS 1 hts (gs kP_46 ks_JL_bitCount kin_JL kc_JL_bitCount) rfl rfl rfl (by decide +kernel) ⟨Nat.le_trans (by decide) hR.1, Nat.le_trans (by decide) hR.2⟩) (hP.sub (ws' := []) [] rfl) hK hE rfl hl.1 rfl (Nat.le_of_ble_eq_true rfl) dP_countBarredTurns_19 hcs (fun r hr => ?_)
      subst hr
      refine rn_iadd hx hb dP_countBarredTurns_22 ?_
      refine lv_istore_n (lv' := [(1, .int (nI (u + (pcn (bt i) 64)))), (0, .ref (q 0)), (2, .int (nI i))]) hx hb dP_countBarredTurns_23 rfl hl (by decide) rfl (fun ls hl => ?_)
      refine rn_iinc (lv' := [(2, .int (nI (i + 1))), (1, .int (nI (u + (pcn (bt i) 64)))), (0, .ref (q 0))]) hx hb dP_countBarredTurns_24 hl (k := 2) rfl (by decide) rfl (fun ls hl => ?_)
      refine lv_goto (tgt := 4) hx hb dP_countBarredTurns_27 (by decide) ?_
      exact ih (i + 1) (u + (pcn (bt i) 64)) (by omega) (by simp_all [cbN]) (by omega) ls (lv_sub hl [2, 1, 0] rfl)

set_option maxHeartbeats 4000000 in
set_option maxRecDepth 100000 in
theorem ct_P_countBarredTurns (l : Launch) (dC : Nat → ClassId) (dI : Nat → Nat → Nat) (cI cJ cZ : ClassId) (q : Nat → Nat) (bg en sc wd ht oh bt : Nat → Nat) (co n : Nat) (hB : bP bg en sc wd ht oh bt co n) : Met l yP_countBarredTurns wsP_countBarredTurns ({ frames := 1, cells := 0, slots := 0, locals := 21 }) (PcR (dC, dI) (wP cI cJ cZ q bg en sc wd ht oh bt co n) (tyE cI cJ cZ) [.ref (q 0)]) (vp_Si (fun r => r = nI (cbN bt n))) 0 0 (fun _ => False) := by
  refine Met.ofW (cc := cP_countBarredTurns) (maxL := 3) (ret := (some .int)) (by decide) rfl ?_
  intro p e s m args below meth c s₁ B hml hv
  obtain ⟨rfl, hP, hK, hE⟩ := hv
  have hx := B.exec
  have hb := B.bytes
  have hr := B.returns
  have hts := atoms_spec (ws := wsP_countBarredTurns) B.pre
  have hg : ∀ w ∈ gw, w.before _ s = true := fun w h => hts w (List.mem_cons_of_mem _ h)
  have hown : s.vm.findClass nP = some m.cls := findClass_of_methodNamed B.named
  have hlocks := B.notSynchronized
  have hR : 1 ≤ (headSpec wsP_countBarredTurns ({ frames := 1, cells := 0, slots := 0, locals := 21 })).room.frames ∧ 21 ≤ (headSpec wsP_countBarredTurns ({ frames := 1, cells := 0, slots := 0, locals := 21 })).room.locals := ⟨Nat.le_refl _, Nat.le_refl _⟩
  have hcs : 0 ≤ (headSpec wsP_countBarredTurns ({ frames := 1, cells := 0, slots := 0, locals := 21 })).room.cells ∧ 0 ≤ (headSpec wsP_countBarredTurns ({ frames := 1, cells := 0, slots := 0, locals := 21 })).room.slots := ⟨Nat.zero_le _, Nat.zero_le _⟩
  have hn := hB.1
  have hco := hB.2.1
  have hbi := hB.2.2
  have hl := lv_entry ([.ref (q 0)]) (n := 3) (Nat.le_of_ble_eq_true rfl)
  rw [lg_entry_eq]
  generalize (lg_sl ([.ref (q 0)]) ++ List.replicate (3 - (lg_sl ([.ref (q 0)])).length) Slot.unset).toArray = ls at hl ⊢
  have hl : lv_has ls 3 [(0, .ref (q 0))] := hl
  refine rn_iconst hx hb 0 dP_countBarredTurns_0 (by decide) ?_
  refine lv_istore_n (lv' := [(1, .int (nI 0)), (0, .ref (q 0))]) hx hb dP_countBarredTurns_1 rfl hl (by decide) rfl (fun ls hl => ?_)
  refine rn_iconst hx hb 0 dP_countBarredTurns_2 (by decide) ?_
  refine lv_istore_n (lv' := [(2, .int (nI 0)), (1, .int (nI 0)), (0, .ref (q 0))]) hx hb dP_countBarredTurns_3 rfl hl (by decide) rfl (fun ls hl => ?_)
  refine lp_P_count q bg en sc wd ht oh bt co n hB hx hb hml hown hts hK hP hE (by first | exact hR | exact ⟨Nat.le_trans (by decide) hR.1, Nat.le_trans (by decide) hR.2⟩) hcs (fun i u hi hu hx0 ls hl => ?_) ((n - 0) + 1) 0 0 (by omega) (rfl) (by omega) ls (lv_sub hl [2, 1, 0] rfl)
  refine lv_iload_n hx hb dP_countBarredTurns_30 rfl (lv_at hl 1 rfl) ?_
  exact W.iret hx hb hr (fun t ht hW => ⟨_, rfl, (congrArg nI (by rw [hu, show n = i from by omega])), ht⟩) (fun _ h9 => nomatch h9) dP_countBarredTurns_31
