set_option maxHeartbeats 4000000 in
set_option maxRecDepth 100000 in
theorem ct_M_in (l : Launch) (dC : Nat → ClassId) (dI : Nat → Nat → Nat) (cI cJ cZ : ClassId) (v lo hi : Int64) : Met l yM_in wsM_in ({ frames := 0, cells := 0, slots := 0, locals := 0 }) (PcR (dC, dI) [] (tyE cI cJ cZ) [.long v, .long lo, .long hi]) (vp_Si (fun r => r = bI (wiB v lo hi))) 0 0 (fun _ => False) := by
  refine Met.ofW (cc := cM_in) (maxL := 6) (ret := (some .boolean)) (by decide) rfl ?_
  intro p e s m args below meth c s₁ B hml hv
  obtain ⟨rfl, hP, hK, hE⟩ := hv
  have hx := B.exec
  have hb := B.bytes
  have hr := B.returns
  have hts := atoms_spec (ws := wsM_in) B.pre
  have hg : ∀ w ∈ gw, w.before _ s = true := fun w h => hts w (List.mem_cons_of_mem _ h)
  have hown : s.vm.findClass nM = some m.cls := findClass_of_methodNamed B.named
  have hlocks := B.notSynchronized
  have hR : 0 ≤ (headSpec wsM_in ({ frames := 0, cells := 0, slots := 0, locals := 0 })).room.frames ∧ 0 ≤ (headSpec wsM_in ({ frames := 0, cells := 0, slots := 0, locals := 0 })).room.locals := ⟨Nat.le_refl _, Nat.le_refl _⟩
  have hcs : 0 ≤ (headSpec wsM_in ({ frames := 0, cells := 0, slots := 0, locals := 0 })).room.cells ∧ 0 ≤ (headSpec wsM_in ({ frames := 0, cells := 0, slots := 0, locals := 0 })).room.slots := ⟨Nat.zero_le _, Nat.zero_le _⟩
  have hl := lv_entry ([.long v, .long lo, .long hi]) (n := 6) (Nat.le_of_ble_eq_true rfl)
  rw [lg_entry_eq]
  generalize (lg_sl ([.long v, .long lo, .long hi]) ++ List.replicate (6 - (lg_sl ([.long v, .long lo, .long hi])).length) Slot.unset).toArray = ls at hl ⊢
  have hl : lv_has ls 6 [(0, .long v), (2, .long lo), (4, .long hi)] := hl
  refine lv_lload_n hx hb dM_in_0 rfl (lv_at hl 0 rfl) ?_
  refine lv_lload_n hx hb dM_in_1 rfl (lv_at hl 1 rfl) ?_
  refine rl_cmp_lt (tgt := 17) hx hb dM_in_2 dM_in_3 (by decide) (fun c3 => ?_) (fun c3 => ?_)
  · refine rn_iconst hx hb 0 dM_in_17 (by decide) ?_
    exact W.zret hx hb hr rfl (fun t ht hW => ⟨_, rfl, (by first | exact wi_t c3 c10 | exact wi_1 c3 | exact wi_2 c10), ht⟩) (fun _ h9 => nomatch h9) dM_in_18
  · refine lv_lload_n hx hb dM_in_6 rfl (lv_at hl 0 rfl) ?_
    refine lv_lload hx hb dM_in_7 (lv_at hl 2 rfl) ?_
    refine rl_cmp_gt (tgt := 17) hx hb dM_in_9 dM_in_10 (by decide) (fun c10 => ?_) (fun c10 => ?_)
    · refine rn_iconst hx hb 0 dM_in_17 (by decide) ?_
      exact W.zret hx hb hr rfl (fun t ht hW => ⟨_, rfl, (by first | exact wi_t c3 c10 | exact wi_1 c3 | exact wi_2 c10), ht⟩) (fun _ h9 => nomatch h9) dM_in_18
    · refine rn_iconst hx hb 1 dM_in_13 (by decide) ?_
      refine lv_goto (tgt := 18) hx hb dM_in_14 (by decide) ?_
      exact W.zret hx hb hr rfl (fun t ht hW => ⟨_, rfl, (by first | exact wi_t c3 c10 | exact wi_1 c3 | exact wi_2 c10), ht⟩) (fun _ h9 => nomatch h9) dM_in_18

set_option maxHeartbeats 4000000 in
set_option maxRecDepth 100000 in
theorem ct_M_isPlace (l : Launch) (dC : Nat → ClassId) (dI : Nat → Nat → Nat) (cI cJ cZ : ClassId) (qm : Nat → Nat) (lv mw mh mk : Nat → Nat) (pc mc kc : Nat) (bg en sc wd ht oh bt : Nat → Nat) (co n : Nat) (sh ba : Nat → Bool) (rm nm bs bc bp on wh : Nat → Nat) (cd sl fo : Nat) (x : Int32) (hG : bGp lv mw mh mk pc mc kc) (hB : bP bg en sc wd ht oh bt co n) : Met l yM_isPlace wsM_isPlace ({ frames := 1, cells := 0, slots := 0, locals := 25 }) (PcR (dC, dI) (wM cI cJ cZ qm lv bg en sc wd ht sh oh ba mw mh mk rm nm bs bc bp on wh cd pc n mc kc sl fo) (tyE cI cJ cZ) [.ref (qm 0), .int x]) (vp_Si (fun r => r = bI (inB x pc))) 0 0 (fun _ => False) := by
  refine Met.ofW (cc := cM_isPlace) (maxL := 2) (ret := (some .boolean)) (by decide) rfl ?_
  intro p e s m args below meth c s₁ B hml hv
  obtain ⟨rfl, hP, hK, hE⟩ := hv
  have hx := B.exec
  have hb := B.bytes
  have hr := B.returns
  have hts := atoms_spec (ws := wsM_isPlace) B.pre
  have hg : ∀ w ∈ gw, w.before _ s = true := fun w h => hts w (List.mem_cons_of_mem _ h)
  have hown : s.vm.findClass nM = some m.cls := findClass_of_methodNamed B.named
  have hlocks := B.notSynchronized
  have hR : 1 ≤ (headSpec wsM_isPlace ({ frames := 1, cells := 0, slots := 0, locals := 25 })).room.frames ∧ 25 ≤ (headSpec wsM_isPlace ({ frames := 1, cells := 0, slots := 0, locals := 25 })).room.locals := ⟨Nat.le_refl _, Nat.le_refl _⟩
  have hcs : 0 ≤ (headSpec wsM_isPlace ({ frames := 1, cells := 0, slots := 0, locals := 25 })).room.cells ∧ 0 ≤ (headSpec wsM_isPlace ({ frames := 1, cells := 0, slots := 0, locals := 25 })).room.slots := ⟨Nat.zero_le _, Nat.zero_le _⟩
  have hpc := hG.1
  have hmc := hG.2.1
  have hkc := hG.2.2.1
  have hgi := hG.2.2.2
  have hbi := hB.2.2
  have hn := hB.1
  have hco := hB.2.1
  have hl := lv_entry ([.ref (qm 0), .int x]) (n := 2) (Nat.le_of_ble_eq_true rfl)
  rw [lg_entry_eq]
  generalize (lg_sl ([.ref (qm 0), .int x]) ++ List.replicate (2 - (lg_sl ([.ref (qm 0), .int x])).length) Slot.unset).toArray = ls at hl ⊢
  have hl : lv_has ls 2 [(0, .ref (qm 0)), (1, .int x)] := hl
  refine lv_iload_n hx hb dM_isPlace_0 rfl (lv_at hl 1 rfl) ?_
  refine lv_i2l (v := (x).toInt64) hx hb dM_isPlace_1 rfl ?_
  refine rn_lconst hx hb 0 dM_isPlace_2 rfl ?_
  refine lv_aload_n hx hb dM_isPlace_3 rfl (lv_at hl 0 rfl) ?_
  refine va_get (D := (dC, dI)) (ci := 5) (v := .int (nI pc)) (C := nM) (T := TM) (N := 26) hx hb hg inM hown hK hP 0 rfl rfl 1 (by decide) (hg _ kM_73) (fun _ h9 => h9) rfl dM_isPlace_4 ?_
  refine rn_iconst hx hb 1 dM_isPlace_7 (by decide) ?_
  refine lv_isub hx hb dM_isPlace_8 ?_
  refine lv_i2l (v := (((nI pc) - (nI 1))).toInt64) hx hb dM_isPlace_9 rfl ?_
  refine cpS_i (As := [.long ((x).toInt64), .long (lN 0), .long ((((nI pc) - (nI 1))).toInt64)]) (rest := []) (post := fun r : Int32 => r = bI (wiB ((x).toInt64) (lN 0) ((((nI pc) - (nI 1))).toInt64))) ⟨hx, hb, hml, hown, hts⟩ (ct_M_in l dC dI cI cJ cZ ((x).toInt64) (lN 0) ((((nI pc) - (nI 1))).toInt64) ) (va_cwS 3 hts (gs kM_76 ks_M_in kin_M kc_M_in) rfl rfl rfl (by decide +kernel) ⟨Nat.le_trans (by decide) hR.1, Nat.le_trans (by decide) hR.2⟩) (hP.sub (ws' := []) [] rfl) hK hE rfl hl.1 rfl (Nat.le_of_ble_eq_true rfl) dM_isPlace_10 hcs (fun r hr => ?_)
  subst hr
  refine tp_i (y := bI (inB x pc)) (congrArg bI (tb_eqM (by omega))) ?_
  exact W.zret hx hb hr (bI_nar _) (fun t ht hW => ⟨_, rfl, (rfl), ht⟩) (fun _ h9 => nomatch h9) dM_isPlace_13

set_option maxHeartbeats 4000000 in
set_option maxRecDepth 100000 in
theorem ct_M_isPiece (l : Launch) (dC : Nat → ClassId) (dI : Nat → Nat → Nat) (cI cJ cZ : ClassId) (qm : Nat → Nat) (lv mw mh mk : Nat → Nat) (pc mc kc : Nat) (bg en sc wd ht oh bt : Nat → Nat) (co n : Nat) (sh ba : Nat → Bool) (rm nm bs bc bp on wh : Nat → Nat) (cd sl fo : Nat) (x : Int32) (hG : bGp lv mw mh mk pc mc kc) (hB : bP bg en sc wd ht oh bt co n) : Met l yM_isPiece wsM_isPiece ({ frames := 1, cells := 0, slots := 0, locals := 25 }) (PcR (dC, dI) (wM cI cJ cZ qm lv bg en sc wd ht sh oh ba mw mh mk rm nm bs bc bp on wh cd pc n mc kc sl fo) (tyE cI cJ cZ) [.ref (qm 0), .int x]) (vp_Si (fun r => r = bI (inB x n))) 0 0 (fun _ => False) := by
  refine Met.ofW (cc := cM_isPiece) (maxL := 2) (ret := (some .boolean)) (by decide) rfl ?_
  intro p e s m args below meth c s₁ B hml hv
  obtain ⟨rfl, hP, hK, hE⟩ := hv
  have hx := B.exec
  have hb := B.bytes
  have hr := B.returns
  have hts := atoms_spec (ws := wsM_isPiece) B.pre
  have hg : ∀ w ∈ gw, w.before _ s = true := fun w h => hts w (List.mem_cons_of_mem _ h)
  have hown : s.vm.findClass nM = some m.cls := findClass_of_methodNamed B.named
  have hlocks := B.notSynchronized
  have hR : 1 ≤ (headSpec wsM_isPiece ({ frames := 1, cells := 0, slots := 0, locals := 25 })).room.frames ∧ 25 ≤ (headSpec wsM_isPiece ({ frames := 1, cells := 0, slots := 0, locals := 25 })).room.locals := ⟨Nat.le_refl _, Nat.le_refl _⟩
  have hcs : 0 ≤ (headSpec wsM_isPiece ({ frames := 1, cells := 0, slots := 0, locals := 25 })).room.cells ∧ 0 ≤ (headSpec wsM_isPiece ({ frames := 1, cells := 0, slots := 0, locals := 25 })).room.slots := ⟨Nat.zero_le _, Nat.zero_le _⟩
  have hpc := hG.1
  have hmc := hG.2.1
  have hkc := hG.2.2.1
  have hgi := hG.2.2.2
  have hbi := hB.2.2
  have hn := hB.1
  have hco := hB.2.1
  have hl := lv_entry ([.ref (qm 0), .int x]) (n := 2) (Nat.le_of_ble_eq_true rfl)
  rw [lg_entry_eq]
  generalize (lg_sl ([.ref (qm 0), .int x]) ++ List.replicate (2 - (lg_sl ([.ref (qm 0), .int x])).length) Slot.unset).toArray = ls at hl ⊢
  have hl : lv_has ls 2 [(0, .ref (qm 0)), (1, .int x)] := hl
  refine lv_iload_n hx hb dM_isPiece_0 rfl (lv_at hl 1 rfl) ?_
  refine lv_i2l (v := (x).toInt64) hx hb dM_isPiece_1 rfl ?_
  refine rn_lconst hx hb 0 dM_isPiece_2 rfl ?_
  refine lv_aload_n hx hb dM_isPiece_3 rfl (lv_at hl 0 rfl) ?_
  refine va_get (D := (dC, dI)) (ci := 5) (v := .int (nI n)) (C := nM) (T := TM) (N := 26) hx hb hg inM hown hK hP 0 rfl rfl 3 (by decide) (hg _ kM_80) (fun _ h9 => h9) rfl dM_isPiece_4 ?_
  refine rn_iconst hx hb 1 dM_isPiece_7 (by decide) ?_
  refine lv_isub hx hb dM_isPiece_8 ?_
  refine lv_i2l (v := (((nI n) - (nI 1))).toInt64) hx hb dM_isPiece_9 rfl ?_
  refine cpS_i (As := [.long ((x).toInt64), .long (lN 0), .long ((((nI n) - (nI 1))).toInt64)]) (rest := []) (post := fun r : Int32 => r = bI (wiB ((x).toInt64) (lN 0) ((((nI n) - (nI 1))).toInt64))) ⟨hx, hb, hml, hown, hts⟩ (ct_M_in l dC dI cI cJ cZ ((x).toInt64) (lN 0) ((((nI n) - (nI 1))).toInt64) ) (va_cwS 3 hts (gs kM_76 ks_M_in kin_M kc_M_in) rfl rfl rfl (by decide +kernel) ⟨Nat.le_trans (by decide) hR.1, Nat.le_trans (by decide) hR.2⟩) (hP.sub (ws' := []) [] rfl) hK hE rfl hl.1 rfl (Nat.le_of_ble_eq_true rfl) dM_isPiece_10 hcs (fun r hr => ?_)
  subst hr
  refine tp_i (y := bI (inB x n)) (congrArg bI (tb_eqM (by omega))) ?_
  exact W.zret hx hb hr (bI_nar _) (fun t ht hW => ⟨_, rfl, (rfl), ht⟩) (fun _ h9 => nomatch h9) dM_isPiece_13

set_option maxHeartbeats 4000000 in
set_option maxRecDepth 100000 in
theorem ct_M_isMover (l : Launch) (dC : Nat → ClassId) (dI : Nat → Nat → Nat) (cI cJ cZ : ClassId) (qm : Nat → Nat) (lv mw mh mk : Nat → Nat) (pc mc kc : Nat) (bg en sc wd ht oh bt : Nat → Nat) (co n : Nat) (sh ba : Nat → Bool) (rm nm bs bc bp on wh : Nat → Nat) (cd sl fo : Nat) (x : Int32) (hG : bGp lv mw mh mk pc mc kc) (hB : bP bg en sc wd ht oh bt co n) : Met l yM_isMover wsM_isMover ({ frames := 1, cells := 0, slots := 0, locals := 25 }) (PcR (dC, dI) (wM cI cJ cZ qm lv bg en sc wd ht sh oh ba mw mh mk rm nm bs bc bp on wh cd pc n mc kc sl fo) (tyE cI cJ cZ) [.ref (qm 0), .int x]) (vp_Si (fun r => r = bI (inB x mc))) 0 0 (fun _ => False) := by
  refine Met.ofW (cc := cM_isMover) (maxL := 2) (ret := (some .boolean)) (by decide) rfl ?_
  intro p e s m args below meth c s₁ B hml hv
  obtain ⟨rfl, hP, hK, hE⟩ := hv
  have hx := B.exec
  have hb := B.bytes
  have hr := B.returns
  have hts := atoms_spec (ws := wsM_isMover) B.pre
  have hg : ∀ w ∈ gw, w.before _ s = true := fun w h => hts w (List.mem_cons_of_mem _ h)
  have hown : s.vm.findClass nM = some m.cls := findClass_of_methodNamed B.named
  have hlocks := B.notSynchronized
  have hR : 1 ≤ (headSpec wsM_isMover ({ frames := 1, cells := 0, slots := 0, locals := 25 })).room.frames ∧ 25 ≤ (headSpec wsM_isMover ({ frames := 1, cells := 0, slots := 0, locals := 25 })).room.locals := ⟨Nat.le_refl _, Nat.le_refl _⟩
  have hcs : 0 ≤ (headSpec wsM_isMover ({ frames := 1, cells := 0, slots := 0, locals := 25 })).room.cells ∧ 0 ≤ (headSpec wsM_isMover ({ frames := 1, cells := 0, slots := 0, locals := 25 })).room.slots := ⟨Nat.zero_le _, Nat.zero_le _⟩
  have hpc := hG.1
  have hmc := hG.2.1
  have hkc := hG.2.2.1
  have hgi := hG.2.2.2
  have hbi := hB.2.2
  have hn := hB.1
  have hco := hB.2.1
  have hl := lv_entry ([.ref (qm 0), .int x]) (n := 2) (Nat.le_of_ble_eq_true rfl)
  rw [lg_entry_eq]
  generalize (lg_sl ([.ref (qm 0), .int x]) ++ List.replicate (2 - (lg_sl ([.ref (qm 0), .int x])).length) Slot.unset).toArray = ls at hl ⊢
  have hl : lv_has ls 2 [(0, .ref (qm 0)), (1, .int x)] := hl
  refine lv_iload_n hx hb dM_isMover_0 rfl (lv_at hl 1 rfl) ?_
  refine lv_i2l (v := (x).toInt64) hx hb dM_isMover_1 rfl ?_
  refine rn_lconst hx hb 0 dM_isMover_2 rfl ?_
  refine lv_aload_n hx hb dM_isMover_3 rfl (lv_at hl 0 rfl) ?_
  refine va_get (D := (dC, dI)) (ci := 5) (v := .int (nI mc)) (C := nM) (T := TM) (N := 26) hx hb hg inM hown hK hP 0 rfl rfl 12 (by decide) (hg _ kM_101) (fun _ h9 => h9) rfl dM_isMover_4 ?_
  refine rn_iconst hx hb 1 dM_isMover_7 (by decide) ?_
  refine lv_isub hx hb dM_isMover_8 ?_
  refine lv_i2l (v := (((nI mc) - (nI 1))).toInt64) hx hb dM_isMover_9 rfl ?_
  refine cpS_i (As := [.long ((x).toInt64), .long (lN 0), .long ((((nI mc) - (nI 1))).toInt64)]) (rest := []) (post := fun r : Int32 => r = bI (wiB ((x).toInt64) (lN 0) ((((nI mc) - (nI 1))).toInt64))) ⟨hx, hb, hml, hown, hts⟩ (ct_M_in l dC dI cI cJ cZ ((x).toInt64) (lN 0) ((((nI mc) - (nI 1))).toInt64) ) (va_cwS 3 hts (gs kM_76 ks_M_in kin_M kc_M_in) rfl rfl rfl (by decide +kernel) ⟨Nat.le_trans (by decide) hR.1, Nat.le_trans (by decide) hR.2⟩) (hP.sub (ws' := []) [] rfl) hK hE rfl hl.1 rfl (Nat.le_of_ble_eq_true rfl) dM_isMover_10 hcs (fun r hr => ?_)
  subst hr
  refine tp_i (y := bI (inB x mc)) (congrArg bI (tb_eqM (by omega))) ?_
  exact W.zret hx hb hr (bI_nar _) (fun t ht hW => ⟨_, rfl, (rfl), ht⟩) (fun _ h9 => nomatch h9) dM_isMover_13

set_option maxHeartbeats 4000000 in
set_option maxRecDepth 100000 in
theorem ct_M_thrown (l : Launch) (dC : Nat → ClassId) (dI : Nat → Nat → Nat) (cI cJ cZ : ClassId) (qm : Nat → Nat) (lv mw mh mk : Nat → Nat) (pc mc kc : Nat) (bg en sc wd ht oh bt : Nat → Nat) (co n : Nat) (sh ba : Nat → Bool) (rm nm bs bc bp on wh : Nat → Nat) (cd sl fo : Nat) (hG : bGp lv mw mh mk pc mc kc) (hB : bP bg en sc wd ht oh bt co n) : Met l yM_thrown wsM_thrown ({ frames := 0, cells := 0, slots := 0, locals := 0 }) (PcR (dC, dI) (wM cI cJ cZ qm lv bg en sc wd ht sh oh ba mw mh mk rm nm bs bc bp on wh cd pc n mc kc sl fo) (tyE cI cJ cZ) [.ref (qm 0)]) (vp_Si (fun r => r = nI cd)) 0 0 (fun _ => False) := by
  refine Met.ofW (cc := cM_thrown) (maxL := 1) (ret := (some .int)) (by decide) rfl ?_
  intro p e s m args below meth c s₁ B hml hv
  obtain ⟨rfl, hP, hK, hE⟩ := hv
  have hx := B.exec
  have hb := B.bytes
  have hr := B.returns
  have hts := atoms_spec (ws := wsM_thrown) B.pre
  have hg : ∀ w ∈ gw, w.before _ s = true := fun w h => hts w (List.mem_cons_of_mem _ h)
  have hown : s.vm.findClass nM = some m.cls := findClass_of_methodNamed B.named
  have hlocks := B.notSynchronized
  have hR : 0 ≤ (headSpec wsM_thrown ({ frames := 0, cells := 0, slots := 0, locals := 0 })).room.frames ∧ 0 ≤ (headSpec wsM_thrown ({ frames := 0, cells := 0, slots := 0, locals := 0 })).room.locals := ⟨Nat.le_refl _, Nat.le_refl _⟩
  have hcs : 0 ≤ (headSpec wsM_thrown ({ frames := 0, cells := 0, slots := 0, locals := 0 })).room.cells ∧ 0 ≤ (headSpec wsM_thrown ({ frames := 0, cells := 0, slots := 0, locals := 0 })).room.slots := ⟨Nat.zero_le _, Nat.zero_le _⟩
  have hl := lv_entry ([.ref (qm 0)]) (n := 1) (Nat.le_of_ble_eq_true rfl)
  rw [lg_entry_eq]
  generalize (lg_sl ([.ref (qm 0)]) ++ List.replicate (1 - (lg_sl ([.ref (qm 0)])).length) Slot.unset).toArray = ls at hl ⊢
  have hl : lv_has ls 1 [(0, .ref (qm 0))] := hl
  refine lv_aload_n hx hb dM_thrown_0 rfl (lv_at hl 0 rfl) ?_
  refine va_get (D := (dC, dI)) (ci := 5) (v := .int (nI cd)) (C := nM) (T := TM) (N := 26) hx hb hg inM hown hK hP 0 rfl rfl 0 (by decide) (hg _ kM_69) (fun _ h9 => h9) rfl dM_thrown_1 ?_
  exact W.iret hx hb hr (fun t ht hW => ⟨_, rfl, (rfl), ht⟩) (fun _ h9 => nomatch h9) dM_thrown_4

set_option maxHeartbeats 4000000 in
set_option maxRecDepth 100000 in
theorem ct_M_place (l : Launch) (dC : Nat → ClassId) (dI : Nat → Nat → Nat) (cI cJ cZ : ClassId) (qm : Nat → Nat) (lv mw mh mk : Nat → Nat) (pc mc kc : Nat) (bg en sc wd ht oh bt : Nat → Nat) (co n : Nat) (sh ba : Nat → Bool) (rm nm bs bc bp on wh : Nat → Nat) (cd sl fo : Nat) (x : Int32) (sz : Nat) (hG : bGp lv mw mh mk pc mc kc) (hB : bP bg en sc wd ht oh bt co n) : Met l yM_place wsM_place ({ frames := 1, cells := 0, slots := 0, locals := 25 }) (PcW (dC, dI) (wM cI cJ cZ qm lv bg en sc wd ht sh oh ba mw mh mk rm nm bs bc bp on wh cd pc n mc kc sl fo) (tyE cI cJ cZ) sz [.ref (qm 0), .int x]) (QwI (dC, dI) (nI (if cdPl pc x = 0 then pc else 0)) (wM cI cJ cZ qm (if cdPl pc x = 0 then va_up lv pc (cN x) else lv) bg en sc wd ht sh oh ba mw mh mk rm nm bs bc bp on wh (cdPl pc x) (if cdPl pc x = 0 then pc + 1 else pc) n mc kc sl fo) (tyE cI cJ cZ) (va_A (wM cI cJ cZ qm lv bg en sc wd ht sh oh ba mw mh mk rm nm bs bc bp on wh cd pc n mc kc sl fo) sz)) 0 0 (va_A (wM cI cJ cZ qm lv bg en sc wd ht sh oh ba mw mh mk rm nm bs bc bp on wh cd pc n mc kc sl fo) sz) := by
  refine Met.ofW (cc := cM_place) (maxL := 2) (ret := (some .int)) (by decide) rfl ?_
  intro p e s m args below meth c s₁ B hml hv
  obtain ⟨rfl, hsz, hP, hK, hD0, hE⟩ := hv
  have hx := B.exec
  have hb := B.bytes
  have hr := B.returns
  have hts := atoms_spec (ws := wsM_place) B.pre
  have hg : ∀ w ∈ gw, w.before _ s = true := fun w h => hts w (List.mem_cons_of_mem _ h)
  have hown : s.vm.findClass nM = some m.cls := findClass_of_methodNamed B.named
  have hlocks := B.notSynchronized
  have hR : 1 ≤ (headSpec wsM_place ({ frames := 1, cells := 0, slots := 0, locals := 25 })).room.frames ∧ 25 ≤ (headSpec wsM_place ({ frames := 1, cells := 0, slots := 0, locals := 25 })).room.locals := ⟨Nat.le_refl _, Nat.le_refl _⟩
  have hcs : 0 ≤ (headSpec wsM_place ({ frames := 1, cells := 0, slots := 0, locals := 25 })).room.cells ∧ 0 ≤ (headSpec wsM_place ({ frames := 1, cells := 0, slots := 0, locals := 25 })).room.slots := ⟨Nat.zero_le _, Nat.zero_le _⟩
  subst hsz
  have hD := hD0.self (sz := s.heap.size)
  generalize hAe : va_A (wM cI cJ cZ qm lv bg en sc wd ht sh oh ba mw mh mk rm nm bs bc bp on wh cd pc n mc kc sl fo) s.heap.size = A at hD ⊢
  have hA : ∀ q : Nat, s.heap.size ≤ q → A q := fun q h => by rw [← hAe]; exact Or.inr h
  obtain ⟨H, hH⟩ : ∃ H, H = s.heap := ⟨_, rfl⟩
  have hS : va_S A s.heap H [] := by rw [hH]; exact va_S.rf
  rw [← hH] at hP ⊢
  have hpc := hG.1
  have hmc := hG.2.1
  have hkc := hG.2.2.1
  have hgi := hG.2.2.2
  have hbi := hB.2.2
  have hn := hB.1
  have hco := hB.2.1
  have hl := lv_entry ([.ref (qm 0), .int x]) (n := 2) (Nat.le_of_ble_eq_true rfl)
  rw [lg_entry_eq]
  generalize (lg_sl ([.ref (qm 0), .int x]) ++ List.replicate (2 - (lg_sl ([.ref (qm 0), .int x])).length) Slot.unset).toArray = ls at hl ⊢
  have hl : lv_has ls 2 [(0, .ref (qm 0)), (1, .int x)] := hl
  refine lv_aload_n hx hb dM_place_0 rfl (lv_at hl 0 rfl) ?_
  refine lv_iload_n hx hb dM_place_1 rfl (lv_at hl 1 rfl) ?_
  refine lv_i2l (v := (x).toInt64) hx hb dM_place_2 rfl ?_
  refine rn_lconst hx hb 0 dM_place_3 rfl ?_
  refine lv_ldc2 (v := 9) hx hb hown (hg _ kM_83) dM_place_4 ?_
  refine tp_l (y := lN 9) rfl ?_
  refine cpS_i (As := [.long ((x).toInt64), .long (lN 0), .long (lN 9)]) (rest := [.ref (qm 0)]) (post := fun r : Int32 => r = bI (wiB ((x).toInt64) (lN 0) (lN 9))) ⟨hx, hb, hml, hown, hts⟩ (ct_M_in l dC dI cI cJ cZ ((x).toInt64) (lN 0) (lN 9) ) (va_cwS 3 hts (gs kM_76 ks_M_in kin_M kc_M_in) rfl rfl rfl (by decide +kernel) ⟨Nat.le_trans (by decide) hR.1, Nat.le_trans (by decide) hR.2⟩) (hP.sub (ws' := []) [] rfl) hK hE rfl hl.1 rfl (Nat.le_of_ble_eq_true rfl) dM_place_7 hcs (fun r hr => ?_)
  subst hr
  refine rb_ne (tgt := 17) hx hb dM_place_10 (by decide) (fun c10 => ?_) (fun c10 => ?_)
  · refine lv_aload_n hx hb dM_place_17 rfl (lv_at hl 0 rfl) ?_
    refine va_get (D := (dC, dI)) (ci := 5) (v := .int (nI pc)) (C := nM) (T := TM) (N := 26) hx hb hg inM hown hK hP 0 rfl rfl 1 (by decide) (hg _ kM_73) (fun _ h9 => h9) rfl dM_place_18 ?_
    refine rn_bipush hx hb 20 dM_place_21 (by decide) ?_
    refine rn_icmp_ne (tgt := 30) hx hb dM_place_23 (by decide) (by omega) (by omega) (fun c23 => ?_) (fun c23 => ?_)
    · refine rn_iconst hx hb 0 dM_place_30 (by decide) ?_
      refine va_put (D := (dC, dI)) (ci := 5) (v := .int (nI 0)) (ty := .int) (C := nM) (T := TM) (N := 26) hx hb hg inM tM tM_ok nmM hown hK hP hD hS 0 rfl rfl 0 (by decide) (hg _ kM_69) (fun _ h9 => h9) rfl (by decide +kernel) rfl rfl (Nat.le_of_ble_eq_true rfl) dM_place_31 (fun H locs hP hD hS => ?_)
      have hP : va_P (dC, dI) vwCl (wM cI cJ cZ qm lv bg en sc wd ht sh oh ba mw mh mk rm nm bs bc bp on wh 0 pc n mc kc sl fo) H := hP
      have hD : va_D A (wM cI cJ cZ qm lv bg en sc wd ht sh oh ba mw mh mk rm nm bs bc bp on wh 0 pc n mc kc sl fo) := hD
      refine lv_aload_n hx hb dM_place_34 rfl (lv_at hl 0 rfl) ?_
      refine va_get (D := (dC, dI)) (ci := 5) (v := .int (nI 0)) (C := nM) (T := TM) (N := 26) hx hb hg inM hown hK hP 0 rfl rfl 0 (by decide) (hg _ kM_69) (fun _ h9 => h9) rfl dM_place_35 ?_
      refine lv_if_le (tgt := 43) hx hb dM_place_38 (by decide) (fun c38 => ?_) (fun c38 => absurd c38 (by decide))
      obtain ⟨j, hj1, hj2, ej⟩ := wi_of c10 (by decide) (by decide)
      have e1 : cN x = j := by rw [ej]; exact cN_n (by omega)
      have hl : lv_has ls 2 [(0, .ref (qm 0)), (1, .int (nI j))] := by rw [ej] at hl; exact hl
      refine lv_aload_n hx hb dM_place_43 rfl (lv_at hl 0 rfl) ?_
      refine va_get (D := (dC, dI)) (ci := 5) (v := .ref (qm 1)) (C := nM) (T := TM) (N := 26) hx hb hg inM hown hK hP 0 rfl rfl 2 (by decide) (hg _ kM_7) (fun _ h9 => h9) rfl dM_place_44 ?_
      refine lv_aload_n hx hb dM_place_47 rfl (lv_at hl 0 rfl) ?_
      refine va_get (D := (dC, dI)) (ci := 5) (v := .int (nI pc)) (C := nM) (T := TM) (N := 26) hx hb hg inM hown hK hP 0 rfl rfl 1 (by decide) (hg _ kM_73) (fun _ h9 => h9) rfl dM_place_48 ?_
      refine lv_iload_n hx hb dM_place_51 rfl (lv_at hl 1 rfl) ?_
      refine sa_i (f := lv) (v := j) hx hb hK hP hD hS 1 0 rfl rfl (by omega) (by decide) dM_place_52 (fun H locs hP hD hS => ?_)
      have hP : va_P (dC, dI) vwCl (wM cI cJ cZ qm (va_up lv pc j) bg en sc wd ht sh oh ba mw mh mk rm nm bs bc bp on wh 0 pc n mc kc sl fo) H := hP
      have hD : va_D A (wM cI cJ cZ qm (va_up lv pc j) bg en sc wd ht sh oh ba mw mh mk rm nm bs bc bp on wh 0 pc n mc kc sl fo) := hD
      refine lv_aload_n hx hb dM_place_53 rfl (lv_at hl 0 rfl) ?_
      refine lv_dup hx hb dM_place_54 rfl ?_
      refine va_get (D := (dC, dI)) (ci := 5) (v := .int (nI pc)) (C := nM) (T := TM) (N := 26) hx hb hg inM hown hK hP 0 rfl rfl 1 (by decide) (hg _ kM_73) (fun _ h9 => h9) rfl dM_place_55 ?_
      refine rn_iconst hx hb 1 dM_place_58 (by decide) ?_
      refine rn_iadd hx hb dM_place_59 ?_
      refine va_put (D := (dC, dI)) (ci := 5) (v := .int (nI (pc + 1))) (ty := .int) (C := nM) (T := TM) (N := 26) hx hb hg inM tM tM_ok nmM hown hK hP hD hS 0 rfl rfl 1 (by decide) (hg _ kM_73) (fun _ h9 => h9) rfl (by decide +kernel) rfl rfl (Nat.le_of_ble_eq_true rfl) dM_place_60 (fun H locs hP hD hS => ?_)
      have hP : va_P (dC, dI) vwCl (wM cI cJ cZ qm (va_up lv pc j) bg en sc wd ht sh oh ba mw mh mk rm nm bs bc bp on wh 0 (pc + 1) n mc kc sl fo) H := hP
      have hD : va_D A (wM cI cJ cZ qm (va_up lv pc j) bg en sc wd ht sh oh ba mw mh mk rm nm bs bc bp on wh 0 (pc + 1) n mc kc sl fo) := hD
      refine lv_aload_n hx hb dM_place_63 rfl (lv_at hl 0 rfl) ?_
      refine va_get (D := (dC, dI)) (ci := 5) (v := .int (nI (pc + 1))) (C := nM) (T := TM) (N := 26) hx hb hg inM hown hK hP 0 rfl rfl 1 (by decide) (hg _ kM_73) (fun _ h9 => h9) rfl dM_place_64 ?_
      refine rn_iconst hx hb 1 dM_place_67 (by decide) ?_
      refine rn_isub hx hb dM_place_68 (by omega) ?_
      have hcd : cdPl pc x = 0 := by first | (simp [cdPl, c10, c23]; done) | (simp [cdPl, c10, c23]; omega)
      have hP9 : va_P (dC, dI) vwCl (wM cI cJ cZ qm (if cdPl pc x = 0 then va_up lv pc (cN x) else lv) bg en sc wd ht sh oh ba mw mh mk rm nm bs bc bp on wh (cdPl pc x) (if cdPl pc x = 0 then pc + 1 else pc) n mc kc sl fo) H := by rw [hcd, e1]; exact hP
      have hD9 : va_D A (wM cI cJ cZ qm (if cdPl pc x = 0 then va_up lv pc (cN x) else lv) bg en sc wd ht sh oh ba mw mh mk rm nm bs bc bp on wh (cdPl pc x) (if cdPl pc x = 0 then pc + 1 else pc) n mc kc sl fo) := by rw [hcd, e1]; exact hD
      exact W.iret hx hb hr (fun t ht hW => ⟨⟨_, (), rfl, (by rw [hcd]; exact congrArg nI (show pc + 1 - 1 = pc by omega)), by rw [ht]; exact hP9, va_K.moved hW.alike hK, hD9⟩, hS.F ht⟩) hS.2.2 dM_place_69
    · refine rn_iconst hx hb 2 dM_place_26 (by decide) ?_
      refine lv_goto (tgt := 31) hx hb dM_place_27 (by decide) ?_
      refine va_put (D := (dC, dI)) (ci := 5) (v := .int (nI 2)) (ty := .int) (C := nM) (T := TM) (N := 26) hx hb hg inM tM tM_ok nmM hown hK hP hD hS 0 rfl rfl 0 (by decide) (hg _ kM_69) (fun _ h9 => h9) rfl (by decide +kernel) rfl rfl (Nat.le_of_ble_eq_true rfl) dM_place_31 (fun H locs hP hD hS => ?_)
      have hP : va_P (dC, dI) vwCl (wM cI cJ cZ qm lv bg en sc wd ht sh oh ba mw mh mk rm nm bs bc bp on wh 2 pc n mc kc sl fo) H := hP
      have hD : va_D A (wM cI cJ cZ qm lv bg en sc wd ht sh oh ba mw mh mk rm nm bs bc bp on wh 2 pc n mc kc sl fo) := hD
      refine lv_aload_n hx hb dM_place_34 rfl (lv_at hl 0 rfl) ?_
      refine va_get (D := (dC, dI)) (ci := 5) (v := .int (nI 2)) (C := nM) (T := TM) (N := 26) hx hb hg inM hown hK hP 0 rfl rfl 0 (by decide) (hg _ kM_69) (fun _ h9 => h9) rfl dM_place_35 ?_
      refine lv_if_le (tgt := 43) hx hb dM_place_38 (by decide) (fun c38 => absurd c38 (by decide)) (fun c38 => ?_)
      refine rn_iconst hx hb 0 dM_place_41 (by decide) ?_
      have hcd : cdPl pc x = 2 := by first | (simp [cdPl, c10, c23]; done) | (simp [cdPl, c10, c23]; omega)
      have hP9 : va_P (dC, dI) vwCl (wM cI cJ cZ qm (if cdPl pc x = 0 then va_up lv pc (cN x) else lv) bg en sc wd ht sh oh ba mw mh mk rm nm bs bc bp on wh (cdPl pc x) (if cdPl pc x = 0 then pc + 1 else pc) n mc kc sl fo) H := by rw [hcd]; exact hP
      have hD9 : va_D A (wM cI cJ cZ qm (if cdPl pc x = 0 then va_up lv pc (cN x) else lv) bg en sc wd ht sh oh ba mw mh mk rm nm bs bc bp on wh (cdPl pc x) (if cdPl pc x = 0 then pc + 1 else pc) n mc kc sl fo) := by rw [hcd]; exact hD
      exact W.iret hx hb hr (fun t ht hW => ⟨⟨_, (), rfl, (by rw [hcd]; rfl), by rw [ht]; exact hP9, va_K.moved hW.alike hK, hD9⟩, hS.F ht⟩) hS.2.2 dM_place_42
  · refine rn_iconst hx hb 1 dM_place_13 (by decide) ?_
    refine lv_goto (tgt := 31) hx hb dM_place_14 (by decide) ?_
    refine va_put (D := (dC, dI)) (ci := 5) (v := .int (nI 1)) (ty := .int) (C := nM) (T := TM) (N := 26) hx hb hg inM tM tM_ok nmM hown hK hP hD hS 0 rfl rfl 0 (by decide) (hg _ kM_69) (fun _ h9 => h9) rfl (by decide +kernel) rfl rfl (Nat.le_of_ble_eq_true rfl) dM_place_31 (fun H locs hP hD hS => ?_)
    have hP : va_P (dC, dI) vwCl (wM cI cJ cZ qm lv bg en sc wd ht sh oh ba mw mh mk rm nm bs bc bp on wh 1 pc n mc kc sl fo) H := hP
    have hD : va_D A (wM cI cJ cZ qm lv bg en sc wd ht sh oh ba mw mh mk rm nm bs bc bp on wh 1 pc n mc kc sl fo) := hD
    refine lv_aload_n hx hb dM_place_34 rfl (lv_at hl 0 rfl) ?_
    refine va_get (D := (dC, dI)) (ci := 5) (v := .int (nI 1)) (C := nM) (T := TM) (N := 26) hx hb hg inM hown hK hP 0 rfl rfl 0 (by decide) (hg _ kM_69) (fun _ h9 => h9) rfl dM_place_35 ?_
    refine lv_if_le (tgt := 43) hx hb dM_place_38 (by decide) (fun c38 => absurd c38 (by decide)) (fun c38 => ?_)
    refine rn_iconst hx hb 0 dM_place_41 (by decide) ?_
    have hcd : cdPl pc x = 1 := by first | (simp [cdPl, c10]; done) | (simp [cdPl, c10]; omega)
    have hP9 : va_P (dC, dI) vwCl (wM cI cJ cZ qm (if cdPl pc x = 0 then va_up lv pc (cN x) else lv) bg en sc wd ht sh oh ba mw mh mk rm nm bs bc bp on wh (cdPl pc x) (if cdPl pc x = 0 then pc + 1 else pc) n mc kc sl fo) H := by rw [hcd]; exact hP
    have hD9 : va_D A (wM cI cJ cZ qm (if cdPl pc x = 0 then va_up lv pc (cN x) else lv) bg en sc wd ht sh oh ba mw mh mk rm nm bs bc bp on wh (cdPl pc x) (if cdPl pc x = 0 then pc + 1 else pc) n mc kc sl fo) := by rw [hcd]; exact hD
    exact W.iret hx hb hr (fun t ht hW => ⟨⟨_, (), rfl, (by rw [hcd]; rfl), by rw [ht]; exact hP9, va_K.moved hW.alike hK, hD9⟩, hS.F ht⟩) hS.2.2 dM_place_42

set_option maxHeartbeats 4000000 in
set_option maxRecDepth 100000 in
theorem ct_M_add (l : Launch) (dC : Nat → ClassId) (dI : Nat → Nat → Nat) (cI cJ cZ : ClassId) (qm : Nat → Nat) (lv mw mh mk : Nat → Nat) (pc mc kc : Nat) (bg en sc wd ht oh bt : Nat → Nat) (co n : Nat) (sh ba : Nat → Bool) (rm nm bs bc bp on wh : Nat → Nat) (cd sl fo : Nat) (a b s0 : Nat) (sz : Nat) (hG : bGp lv mw mh mk pc mc kc) (hB : bP bg en sc wd ht oh bt co n) (hn0 : n < 40) : Met l yM_add wsM_add ({ frames := 0, cells := 0, slots := 0, locals := 0 }) (PcW (dC, dI) (wM cI cJ cZ qm lv bg en sc wd ht sh oh ba mw mh mk rm nm bs bc bp on wh cd pc n mc kc sl fo) (tyE cI cJ cZ) sz [.ref (qm 0), .int (nI a), .int (nI b), .long (lN s0)]) (QwI (dC, dI) (nI n) (wM cI cJ cZ qm lv (va_up bg n a) (va_up en n b) (va_up sc n s0) (va_up wd n 2000) (va_up ht n 3000) sh (va_up oh n 16777215) ba mw mh mk rm nm bs bc bp on wh cd pc (n + 1) mc kc sl fo) (tyE cI cJ cZ) (va_A (wM cI cJ cZ qm lv bg en sc wd ht sh oh ba mw mh mk rm nm bs bc bp on wh cd pc n mc kc sl fo) sz)) 0 0 (va_A (wM cI cJ cZ qm lv bg en sc wd ht sh oh ba mw mh mk rm nm bs bc bp on wh cd pc n mc kc sl fo) sz) := by
  refine Met.ofW (cc := cM_add) (maxL := 5) (ret := (some .int)) (by decide) rfl ?_
  intro p e s m args below meth c s₁ B hml hv
  obtain ⟨rfl, hsz, hP, hK, hD0, hE⟩ := hv
  have hx := B.exec
  have hb := B.bytes
  have hr := B.returns
  have hts := atoms_spec (ws := wsM_add) B.pre
  have hg : ∀ w ∈ gw, w.before _ s = true := fun w h => hts w (List.mem_cons_of_mem _ h)
  have hown : s.vm.findClass nM = some m.cls := findClass_of_methodNamed B.named
  have hlocks := B.notSynchronized
  have hR : 0 ≤ (headSpec wsM_add ({ frames := 0, cells := 0, slots := 0, locals := 0 })).room.frames ∧ 0 ≤ (headSpec wsM_add ({ frames := 0, cells := 0, slots := 0, locals := 0 })).room.locals := ⟨Nat.le_refl _, Nat.le_refl _⟩
  have hcs : 0 ≤ (headSpec wsM_add ({ frames := 0, cells := 0, slots := 0, locals := 0 })).room.cells ∧ 0 ≤ (headSpec wsM_add ({ frames := 0, cells := 0, slots := 0, locals := 0 })).room.slots := ⟨Nat.zero_le _, Nat.zero_le _⟩
  subst hsz
  have hD := hD0.self (sz := s.heap.size)
  generalize hAe : va_A (wM cI cJ cZ qm lv bg en sc wd ht sh oh ba mw mh mk rm nm bs bc bp on wh cd pc n mc kc sl fo) s.heap.size = A at hD ⊢
  have hA : ∀ q : Nat, s.heap.size ≤ q → A q := fun q h => by rw [← hAe]; exact Or.inr h
  obtain ⟨H, hH⟩ : ∃ H, H = s.heap := ⟨_, rfl⟩
  have hS : va_S A s.heap H [] := by rw [hH]; exact va_S.rf
  rw [← hH] at hP ⊢
  have hpc := hG.1
  have hmc := hG.2.1
  have hkc := hG.2.2.1
  have hgi := hG.2.2.2
  have hbi := hB.2.2
  have hn := hB.1
  have hco := hB.2.1
  have hl := lv_entry ([.ref (qm 0), .int (nI a), .int (nI b), .long (lN s0)]) (n := 5) (Nat.le_of_ble_eq_true rfl)
  rw [lg_entry_eq]
  generalize (lg_sl ([.ref (qm 0), .int (nI a), .int (nI b), .long (lN s0)]) ++ List.replicate (5 - (lg_sl ([.ref (qm 0), .int (nI a), .int (nI b), .long (lN s0)])).length) Slot.unset).toArray = ls at hl ⊢
  have hl : lv_has ls 5 [(0, .ref (qm 0)), (1, .int (nI a)), (2, .int (nI b)), (3, .long (lN s0))] := hl
  refine lv_aload_n hx hb dM_add_0 rfl (lv_at hl 0 rfl) ?_
  refine va_get (D := (dC, dI)) (ci := 5) (v := .ref (qm 2)) (C := nM) (T := TM) (N := 26) hx hb hg inM hown hK hP 0 rfl rfl 4 (by decide) (hg _ kM_13) (fun _ h9 => h9) rfl dM_add_1 ?_
  refine lv_aload_n hx hb dM_add_4 rfl (lv_at hl 0 rfl) ?_
  refine va_get (D := (dC, dI)) (ci := 5) (v := .int (nI n)) (C := nM) (T := TM) (N := 26) hx hb hg inM hown hK hP 0 rfl rfl 3 (by decide) (hg _ kM_80) (fun _ h9 => h9) rfl dM_add_5 ?_
  refine lv_iload_n hx hb dM_add_8 rfl (lv_at hl 1 rfl) ?_
  refine sa_i (f := bg) (v := a) hx hb hK hP hD hS 2 0 rfl rfl (by omega) (by decide) dM_add_9 (fun H locs hP hD hS => ?_)
  have hP : va_P (dC, dI) vwCl (wM cI cJ cZ qm lv (va_up bg n a) en sc wd ht sh oh ba mw mh mk rm nm bs bc bp on wh cd pc n mc kc sl fo) H := hP
  have hD : va_D A (wM cI cJ cZ qm lv (va_up bg n a) en sc wd ht sh oh ba mw mh mk rm nm bs bc bp on wh cd pc n mc kc sl fo) := hD
  refine lv_aload_n hx hb dM_add_10 rfl (lv_at hl 0 rfl) ?_
  refine va_get (D := (dC, dI)) (ci := 5) (v := .ref (qm 3)) (C := nM) (T := TM) (N := 26) hx hb hg inM hown hK hP 0 rfl rfl 5 (by decide) (hg _ kM_16) (fun _ h9 => h9) rfl dM_add_11 ?_
  refine lv_aload_n hx hb dM_add_14 rfl (lv_at hl 0 rfl) ?_
  refine va_get (D := (dC, dI)) (ci := 5) (v := .int (nI n)) (C := nM) (T := TM) (N := 26) hx hb hg inM hown hK hP 0 rfl rfl 3 (by decide) (hg _ kM_80) (fun _ h9 => h9) rfl dM_add_15 ?_
  refine lv_iload_n hx hb dM_add_18 rfl (lv_at hl 2 rfl) ?_
  refine sa_i (f := en) (v := b) hx hb hK hP hD hS 3 0 rfl rfl (by omega) (by decide) dM_add_19 (fun H locs hP hD hS => ?_)
  have hP : va_P (dC, dI) vwCl (wM cI cJ cZ qm lv (va_up bg n a) (va_up en n b) sc wd ht sh oh ba mw mh mk rm nm bs bc bp on wh cd pc n mc kc sl fo) H := hP
  have hD : va_D A (wM cI cJ cZ qm lv (va_up bg n a) (va_up en n b) sc wd ht sh oh ba mw mh mk rm nm bs bc bp on wh cd pc n mc kc sl fo) := hD
  refine lv_aload_n hx hb dM_add_20 rfl (lv_at hl 0 rfl) ?_
  refine va_get (D := (dC, dI)) (ci := 5) (v := .ref (qm 4)) (C := nM) (T := TM) (N := 26) hx hb hg inM hown hK hP 0 rfl rfl 6 (by decide) (hg _ kM_19) (fun _ h9 => h9) rfl dM_add_21 ?_
  refine lv_aload_n hx hb dM_add_24 rfl (lv_at hl 0 rfl) ?_
  refine va_get (D := (dC, dI)) (ci := 5) (v := .int (nI n)) (C := nM) (T := TM) (N := 26) hx hb hg inM hown hK hP 0 rfl rfl 3 (by decide) (hg _ kM_80) (fun _ h9 => h9) rfl dM_add_25 ?_
  refine lv_lload_n hx hb dM_add_28 rfl (lv_at hl 3 rfl) ?_
  refine sa_l (f := sc) (v := s0) hx hb hK hP hD hS 4 1 rfl rfl (by omega) (by decide) dM_add_29 (fun H locs hP hD hS => ?_)
  have hP : va_P (dC, dI) vwCl (wM cI cJ cZ qm lv (va_up bg n a) (va_up en n b) (va_up sc n s0) wd ht sh oh ba mw mh mk rm nm bs bc bp on wh cd pc n mc kc sl fo) H := hP
  have hD : va_D A (wM cI cJ cZ qm lv (va_up bg n a) (va_up en n b) (va_up sc n s0) wd ht sh oh ba mw mh mk rm nm bs bc bp on wh cd pc n mc kc sl fo) := hD
  refine lv_aload_n hx hb dM_add_30 rfl (lv_at hl 0 rfl) ?_
  refine va_get (D := (dC, dI)) (ci := 5) (v := .ref (qm 5)) (C := nM) (T := TM) (N := 26) hx hb hg inM hown hK hP 0 rfl rfl 7 (by decide) (hg _ kM_23) (fun _ h9 => h9) rfl dM_add_31 ?_
  refine lv_aload_n hx hb dM_add_34 rfl (lv_at hl 0 rfl) ?_
  refine va_get (D := (dC, dI)) (ci := 5) (v := .int (nI n)) (C := nM) (T := TM) (N := 26) hx hb hg inM hown hK hP 0 rfl rfl 3 (by decide) (hg _ kM_80) (fun _ h9 => h9) rfl dM_add_35 ?_
  refine rn_sipush hx hb 2000 dM_add_38 (by decide) ?_
  refine sa_i (f := wd) (v := 2000) hx hb hK hP hD hS 5 0 rfl rfl (by omega) (by decide) dM_add_41 (fun H locs hP hD hS => ?_)
  have hP : va_P (dC, dI) vwCl (wM cI cJ cZ qm lv (va_up bg n a) (va_up en n b) (va_up sc n s0) (va_up wd n 2000) ht sh oh ba mw mh mk rm nm bs bc bp on wh cd pc n mc kc sl fo) H := hP
  have hD : va_D A (wM cI cJ cZ qm lv (va_up bg n a) (va_up en n b) (va_up sc n s0) (va_up wd n 2000) ht sh oh ba mw mh mk rm nm bs bc bp on wh cd pc n mc kc sl fo) := hD
  refine lv_aload_n hx hb dM_add_42 rfl (lv_at hl 0 rfl) ?_
  refine va_get (D := (dC, dI)) (ci := 5) (v := .ref (qm 6)) (C := nM) (T := TM) (N := 26) hx hb hg inM hown hK hP 0 rfl rfl 8 (by decide) (hg _ kM_26) (fun _ h9 => h9) rfl dM_add_43 ?_
  refine lv_aload_n hx hb dM_add_46 rfl (lv_at hl 0 rfl) ?_
  refine va_get (D := (dC, dI)) (ci := 5) (v := .int (nI n)) (C := nM) (T := TM) (N := 26) hx hb hg inM hown hK hP 0 rfl rfl 3 (by decide) (hg _ kM_80) (fun _ h9 => h9) rfl dM_add_47 ?_
  refine rn_sipush hx hb 3000 dM_add_50 (by decide) ?_
  refine sa_i (f := ht) (v := 3000) hx hb hK hP hD hS 6 0 rfl rfl (by omega) (by decide) dM_add_53 (fun H locs hP hD hS => ?_)
  have hP : va_P (dC, dI) vwCl (wM cI cJ cZ qm lv (va_up bg n a) (va_up en n b) (va_up sc n s0) (va_up wd n 2000) (va_up ht n 3000) sh oh ba mw mh mk rm nm bs bc bp on wh cd pc n mc kc sl fo) H := hP
  have hD : va_D A (wM cI cJ cZ qm lv (va_up bg n a) (va_up en n b) (va_up sc n s0) (va_up wd n 2000) (va_up ht n 3000) sh oh ba mw mh mk rm nm bs bc bp on wh cd pc n mc kc sl fo) := hD
  refine lv_aload_n hx hb dM_add_54 rfl (lv_at hl 0 rfl) ?_
  refine va_get (D := (dC, dI)) (ci := 5) (v := .ref (qm 8)) (C := nM) (T := TM) (N := 26) hx hb hg inM hown hK hP 0 rfl rfl 10 (by decide) (hg _ kM_33) (fun _ h9 => h9) rfl dM_add_55 ?_
  refine lv_aload_n hx hb dM_add_58 rfl (lv_at hl 0 rfl) ?_
  refine va_get (D := (dC, dI)) (ci := 5) (v := .int (nI n)) (C := nM) (T := TM) (N := 26) hx hb hg inM hown hK hP 0 rfl rfl 3 (by decide) (hg _ kM_80) (fun _ h9 => h9) rfl dM_add_59 ?_
  refine lv_ldc (v := 16777215) hx hb hown (hg _ kM_85) dM_add_62 ?_
  refine tp_i (y := nI 16777215) rfl ?_
  refine sa_i (f := oh) (v := 16777215) hx hb hK hP hD hS 8 0 rfl rfl (by omega) (by decide) dM_add_64 (fun H locs hP hD hS => ?_)
  have hP : va_P (dC, dI) vwCl (wM cI cJ cZ qm lv (va_up bg n a) (va_up en n b) (va_up sc n s0) (va_up wd n 2000) (va_up ht n 3000) sh (va_up oh n 16777215) ba mw mh mk rm nm bs bc bp on wh cd pc n mc kc sl fo) H := hP
  have hD : va_D A (wM cI cJ cZ qm lv (va_up bg n a) (va_up en n b) (va_up sc n s0) (va_up wd n 2000) (va_up ht n 3000) sh (va_up oh n 16777215) ba mw mh mk rm nm bs bc bp on wh cd pc n mc kc sl fo) := hD
  refine lv_aload_n hx hb dM_add_65 rfl (lv_at hl 0 rfl) ?_
  refine lv_dup hx hb dM_add_66 rfl ?_
  refine va_get (D := (dC, dI)) (ci := 5) (v := .int (nI n)) (C := nM) (T := TM) (N := 26) hx hb hg inM hown hK hP 0 rfl rfl 3 (by decide) (hg _ kM_80) (fun _ h9 => h9) rfl dM_add_67 ?_
  refine rn_iconst hx hb 1 dM_add_70 (by decide) ?_
  refine rn_iadd hx hb dM_add_71 ?_
  refine va_put (D := (dC, dI)) (ci := 5) (v := .int (nI (n + 1))) (ty := .int) (C := nM) (T := TM) (N := 26) hx hb hg inM tM tM_ok nmM hown hK hP hD hS 0 rfl rfl 3 (by decide) (hg _ kM_80) (fun _ h9 => h9) rfl (by decide +kernel) rfl rfl (Nat.le_of_ble_eq_true rfl) dM_add_72 (fun H locs hP hD hS => ?_)
  have hP : va_P (dC, dI) vwCl (wM cI cJ cZ qm lv (va_up bg n a) (va_up en n b) (va_up sc n s0) (va_up wd n 2000) (va_up ht n 3000) sh (va_up oh n 16777215) ba mw mh mk rm nm bs bc bp on wh cd pc (n + 1) mc kc sl fo) H := hP
  have hD : va_D A (wM cI cJ cZ qm lv (va_up bg n a) (va_up en n b) (va_up sc n s0) (va_up wd n 2000) (va_up ht n 3000) sh (va_up oh n 16777215) ba mw mh mk rm nm bs bc bp on wh cd pc (n + 1) mc kc sl fo) := hD
  refine lv_aload_n hx hb dM_add_75 rfl (lv_at hl 0 rfl) ?_
  refine va_get (D := (dC, dI)) (ci := 5) (v := .int (nI (n + 1))) (C := nM) (T := TM) (N := 26) hx hb hg inM hown hK hP 0 rfl rfl 3 (by decide) (hg _ kM_80) (fun _ h9 => h9) rfl dM_add_76 ?_
  refine rn_iconst hx hb 1 dM_add_79 (by decide) ?_
  refine rn_isub hx hb dM_add_80 (by omega) ?_
  have hP9 : va_P (dC, dI) vwCl (wM cI cJ cZ qm lv (va_up bg n a) (va_up en n b) (va_up sc n s0) (va_up wd n 2000) (va_up ht n 3000) sh (va_up oh n 16777215) ba mw mh mk rm nm bs bc bp on wh cd pc (n + 1) mc kc sl fo) H := by exact hP
  have hD9 : va_D A (wM cI cJ cZ qm lv (va_up bg n a) (va_up en n b) (va_up sc n s0) (va_up wd n 2000) (va_up ht n 3000) sh (va_up oh n 16777215) ba mw mh mk rm nm bs bc bp on wh cd pc (n + 1) mc kc sl fo) := by exact hD
  exact W.iret hx hb hr (fun t ht hW => ⟨⟨_, (), rfl, (congrArg nI (by omega)), by rw [ht]; exact hP9, va_K.moved hW.alike hK, hD9⟩, hS.F ht⟩) hS.2.2 dM_add_81

set_option maxHeartbeats 4000000 in
set_option maxRecDepth 100000 in
theorem ct_M_piece (l : Launch) (dC : Nat → ClassId) (dI : Nat → Nat → Nat) (cI cJ cZ : ClassId) (qm : Nat → Nat) (lv mw mh mk : Nat → Nat) (pc mc kc : Nat) (bg en sc wd ht oh bt : Nat → Nat) (co n : Nat) (sh ba : Nat → Bool) (rm nm bs bc bp on wh : Nat → Nat) (cd sl fo : Nat) (x y : Int32) (ln sp : Int64) (sz : Nat) (hG : bGp lv mw mh mk pc mc kc) (hB : bP bg en sc wd ht oh bt co n) : Met l yM_piece wsM_piece ({ frames := 2, cells := 0, slots := 0, locals := 46 }) (PcW (dC, dI) (wM cI cJ cZ qm lv bg en sc wd ht sh oh ba mw mh mk rm nm bs bc bp on wh cd pc n mc kc sl fo) (tyE cI cJ cZ) sz [.ref (qm 0), .int x, .int y, .long ln, .long sp]) (QwI (dC, dI) (nI (if cdPi lv pc n x y ln sp = 0 then n else 0)) (wM cI cJ cZ qm lv (if cdPi lv pc n x y ln sp = 0 then va_up bg n (cN x) else bg) (if cdPi lv pc n x y ln sp = 0 then va_up en n (cN y) else en) (if cdPi lv pc n x y ln sp = 0 then va_up sc n ((cLn ln + cLn sp - 1) / cLn sp) else sc) (if cdPi lv pc n x y ln sp = 0 then va_up wd n 2000 else wd) (if cdPi lv pc n x y ln sp = 0 then va_up ht n 3000 else ht) sh (if cdPi lv pc n x y ln sp = 0 then va_up oh n 16777215 else oh) ba mw mh mk rm nm bs bc bp on wh (cdPi lv pc n x y ln sp) pc (if cdPi lv pc n x y ln sp = 0 then n + 1 else n) mc kc sl fo) (tyE cI cJ cZ) (va_A (wM cI cJ cZ qm lv bg en sc wd ht sh oh ba mw mh mk rm nm bs bc bp on wh cd pc n mc kc sl fo) sz)) 0 0 (va_A (wM cI cJ cZ qm lv bg en sc wd ht sh oh ba mw mh mk rm nm bs bc bp on wh cd pc n mc kc sl fo) sz) := by
  refine Met.ofW (cc := cM_piece) (maxL := 8) (ret := (some .int)) (by decide) rfl ?_
  intro p e s m args below meth c s₁ B hml hv
  obtain ⟨rfl, hsz, hP, hK, hD0, hE⟩ := hv
  have hx := B.exec
  have hb := B.bytes
  have hr := B.returns
  have hts := atoms_spec (ws := wsM_piece) B.pre
  have hg : ∀ w ∈ gw, w.before _ s = true := fun w h => hts w (List.mem_cons_of_mem _ h)
  have hown : s.vm.findClass nM = some m.cls := findClass_of_methodNamed B.named
  have hlocks := B.notSynchronized
  have hR : 2 ≤ (headSpec wsM_piece ({ frames := 2, cells := 0, slots := 0, locals := 46 })).room.frames ∧ 46 ≤ (headSpec wsM_piece ({ frames := 2, cells := 0, slots := 0, locals := 46 })).room.locals := ⟨Nat.le_refl _, Nat.le_refl _⟩
  have hcs : 0 ≤ (headSpec wsM_piece ({ frames := 2, cells := 0, slots := 0, locals := 46 })).room.cells ∧ 0 ≤ (headSpec wsM_piece ({ frames := 2, cells := 0, slots := 0, locals := 46 })).room.slots := ⟨Nat.zero_le _, Nat.zero_le _⟩
  subst hsz
  have hD := hD0.self (sz := s.heap.size)
  generalize hAe : va_A (wM cI cJ cZ qm lv bg en sc wd ht sh oh ba mw mh mk rm nm bs bc bp on wh cd pc n mc kc sl fo) s.heap.size = A at hD ⊢
  have hA : ∀ q : Nat, s.heap.size ≤ q → A q := fun q h => by rw [← hAe]; exact Or.inr h
  obtain ⟨H, hH⟩ : ∃ H, H = s.heap := ⟨_, rfl⟩
  have hS : va_S A s.heap H [] := by rw [hH]; exact va_S.rf
  rw [← hH] at hP ⊢
  have hpc := hG.1
  have hmc := hG.2.1
  have hkc := hG.2.2.1
  have hgi := hG.2.2.2
  have hbi := hB.2.2
  have hn := hB.1
  have hco := hB.2.1
  have hl := lv_entry ([.ref (qm 0), .int x, .int y, .long ln, .long sp]) (n := 8) (Nat.le_of_ble_eq_true rfl)
  rw [lg_entry_eq]
  generalize (lg_sl ([.ref (qm 0), .int x, .int y, .long ln, .long sp]) ++ List.replicate (8 - (lg_sl ([.ref (qm 0), .int x, .int y, .long ln, .long sp])).length) Slot.unset).toArray = ls at hl ⊢
  have hl : lv_has ls 8 [(0, .ref (qm 0)), (1, .int x), (2, .int y), (3, .long ln), (5, .long sp)] := hl
  refine lv_aload_n hx hb dM_piece_0 rfl (lv_at hl 0 rfl) ?_
  refine lv_iload_n hx hb dM_piece_1 rfl (lv_at hl 1 rfl) ?_
  refine cpV_i (b := (qm 0)) (C := nM) (As := [.int x]) (rest := []) (post := fun r : Int32 => r = bI (inB x pc)) ⟨hx, hb, hml, hown, hts⟩ (ct_M_isPlace l dC dI cI cJ cZ qm lv mw mh mk pc mc kc bg en sc wd ht oh bt co n sh ba rm nm bs bc bp on wh cd sl fo x (hG) (hB)) (cwV 1 hts (gv kM_86 ki_M_isPlace ksel_M_isPlace kin_M kc_M_isPlace) rfl rfl rfl (by decide +kernel) ⟨Nat.le_trans (by decide) hR.1, Nat.le_trans (by decide) hR.2⟩) (va_recv hK hP (ci := 5) (q0 := 0) rfl rfl) hP hK hE rfl hl.1 rfl (Nat.le_of_ble_eq_true rfl) dM_piece_2 hcs (fun r hr => ?_)
  subst hr
  refine rb_eq (tgt := 48) hx hb dM_piece_5 (by decide) (fun c5 => ?_) (fun c5 => ?_)
  · refine rn_iconst hx hb 0 dM_piece_48 (by decide) ?_
    refine lv_istore (lv' := [(7, .int (nI 0)), (0, .ref (qm 0)), (1, .int x), (2, .int y), (3, .long ln), (5, .long sp)]) hx hb dM_piece_49 hl (by decide) rfl (fun ls hl => ?_)
    refine lv_iload hx hb dM_piece_51 (lv_at hl 0 rfl) ?_
    refine lv_if_eq (tgt := 78) hx hb dM_piece_53 (by decide) (fun c53 => ?_) (fun c53 => absurd c53 (by decide))
    refine lv_aload_n hx hb dM_piece_78 rfl (lv_at hl 1 rfl) ?_
    refine lv_iload hx hb dM_piece_79 (lv_at hl 0 rfl) ?_
    refine lv_if_ne (tgt := 88) hx hb dM_piece_81 (by decide) (fun c81 => absurd c81 (by decide)) (fun c81 => ?_)
    refine rn_iconst hx hb 1 dM_piece_84 (by decide) ?_
    refine lv_goto (tgt := 113) hx hb dM_piece_85 (by decide) ?_
    refine va_put (D := (dC, dI)) (ci := 5) (v := .int (nI 1)) (ty := .int) (C := nM) (T := TM) (N := 26) hx hb hg inM tM tM_ok nmM hown hK hP hD hS 0 rfl rfl 0 (by decide) (hg _ kM_69) (fun _ h9 => h9) rfl (by decide +kernel) rfl rfl (Nat.le_of_ble_eq_true rfl) dM_piece_113 (fun H locs hP hD hS => ?_)
    have hP : va_P (dC, dI) vwCl (wM cI cJ cZ qm lv bg en sc wd ht sh oh ba mw mh mk rm nm bs bc bp on wh 1 pc n mc kc sl fo) H := hP
    have hD : va_D A (wM cI cJ cZ qm lv bg en sc wd ht sh oh ba mw mh mk rm nm bs bc bp on wh 1 pc n mc kc sl fo) := hD
    refine lv_aload_n hx hb dM_piece_116 rfl (lv_at hl 1 rfl) ?_
    refine va_get (D := (dC, dI)) (ci := 5) (v := .int (nI 1)) (C := nM) (T := TM) (N := 26) hx hb hg inM hown hK hP 0 rfl rfl 0 (by decide) (hg _ kM_69) (fun _ h9 => h9) rfl dM_piece_117 ?_
    refine lv_if_le (tgt := 127) hx hb dM_piece_120 (by decide) (fun c120 => absurd c120 (by decide)) (fun c120 => ?_)
    refine rn_iconst hx hb 0 dM_piece_123 (by decide) ?_
    refine lv_goto (tgt := 142) hx hb dM_piece_124 (by decide) ?_
    have hcd : cdPi lv pc n x y ln sp = 1 := by first | (simp [cdPi, c5]; done) | (simp [cdPi, c5]; omega)
    have hP9 : va_P (dC, dI) vwCl (wM cI cJ cZ qm lv (if cdPi lv pc n x y ln sp = 0 then va_up bg n (cN x) else bg) (if cdPi lv pc n x y ln sp = 0 then va_up en n (cN y) else en) (if cdPi lv pc n x y ln sp = 0 then va_up sc n ((cLn ln + cLn sp - 1) / cLn sp) else sc) (if cdPi lv pc n x y ln sp = 0 then va_up wd n 2000 else wd) (if cdPi lv pc n x y ln sp = 0 then va_up ht n 3000 else ht) sh (if cdPi lv pc n x y ln sp = 0 then va_up oh n 16777215 else oh) ba mw mh mk rm nm bs bc bp on wh (cdPi lv pc n x y ln sp) pc (if cdPi lv pc n x y ln sp = 0 then n + 1 else n) mc kc sl fo) H := by rw [hcd]; exact hP
    have hD9 : va_D A (wM cI cJ cZ qm lv (if cdPi lv pc n x y ln sp = 0 then va_up bg n (cN x) else bg) (if cdPi lv pc n x y ln sp = 0 then va_up en n (cN y) else en) (if cdPi lv pc n x y ln sp = 0 then va_up sc n ((cLn ln + cLn sp - 1) / cLn sp) else sc) (if cdPi lv pc n x y ln sp = 0 then va_up wd n 2000 else wd) (if cdPi lv pc n x y ln sp = 0 then va_up ht n 3000 else ht) sh (if cdPi lv pc n x y ln sp = 0 then va_up oh n 16777215 else oh) ba mw mh mk rm nm bs bc bp on wh (cdPi lv pc n x y ln sp) pc (if cdPi lv pc n x y ln sp = 0 then n + 1 else n) mc kc sl fo) := by rw [hcd]; exact hD
    exact W.iret hx hb hr (fun t ht hW => ⟨⟨_, (), rfl, (by rw [hcd]; rfl), by rw [ht]; exact hP9, va_K.moved hW.alike hK, hD9⟩, hS.F ht⟩) hS.2.2 dM_piece_142
  · refine lv_aload_n hx hb dM_piece_8 rfl (lv_at hl 0 rfl) ?_
    refine lv_iload_n hx hb dM_piece_9 rfl (lv_at hl 2 rfl) ?_
    refine cpV_i (b := (qm 0)) (C := nM) (As := [.int y]) (rest := []) (post := fun r : Int32 => r = bI (inB y pc)) ⟨hx, hb, hml, hown, hts⟩ (ct_M_isPlace l dC dI cI cJ cZ qm lv mw mh mk pc mc kc bg en sc wd ht oh bt co n sh ba rm nm bs bc bp on wh cd sl fo y (hG) (hB)) (cwV 1 hts (gv kM_86 ki_M_isPlace ksel_M_isPlace kin_M kc_M_isPlace) rfl rfl rfl (by decide +kernel) ⟨Nat.le_trans (by decide) hR.1, Nat.le_trans (by decide) hR.2⟩) (va_recv hK hP (ci := 5) (q0 := 0) rfl rfl) hP hK hE rfl hl.1 rfl (Nat.le_of_ble_eq_true rfl) dM_piece_10 hcs (fun r hr => ?_)
    subst hr
    refine rb_eq (tgt := 48) hx hb dM_piece_13 (by decide) (fun c13 => ?_) (fun c13 => ?_)
    · refine rn_iconst hx hb 0 dM_piece_48 (by decide) ?_
      refine lv_istore (lv' := [(7, .int (nI 0)), (0, .ref (qm 0)), (1, .int x), (2, .int y), (3, .long ln), (5, .long sp)]) hx hb dM_piece_49 hl (by decide) rfl (fun ls hl => ?_)
      refine lv_iload hx hb dM_piece_51 (lv_at hl 0 rfl) ?_
      refine lv_if_eq (tgt := 78) hx hb dM_piece_53 (by decide) (fun c53 => ?_) (fun c53 => absurd c53 (by decide))
      refine lv_aload_n hx hb dM_piece_78 rfl (lv_at hl 1 rfl) ?_
      refine lv_iload hx hb dM_piece_79 (lv_at hl 0 rfl) ?_
      refine lv_if_ne (tgt := 88) hx hb dM_piece_81 (by decide) (fun c81 => absurd c81 (by decide)) (fun c81 => ?_)
      refine rn_iconst hx hb 1 dM_piece_84 (by decide) ?_
      refine lv_goto (tgt := 113) hx hb dM_piece_85 (by decide) ?_
      refine va_put (D := (dC, dI)) (ci := 5) (v := .int (nI 1)) (ty := .int) (C := nM) (T := TM) (N := 26) hx hb hg inM tM tM_ok nmM hown hK hP hD hS 0 rfl rfl 0 (by decide) (hg _ kM_69) (fun _ h9 => h9) rfl (by decide +kernel) rfl rfl (Nat.le_of_ble_eq_true rfl) dM_piece_113 (fun H locs hP hD hS => ?_)
      have hP : va_P (dC, dI) vwCl (wM cI cJ cZ qm lv bg en sc wd ht sh oh ba mw mh mk rm nm bs bc bp on wh 1 pc n mc kc sl fo) H := hP
      have hD : va_D A (wM cI cJ cZ qm lv bg en sc wd ht sh oh ba mw mh mk rm nm bs bc bp on wh 1 pc n mc kc sl fo) := hD
      refine lv_aload_n hx hb dM_piece_116 rfl (lv_at hl 1 rfl) ?_
      refine va_get (D := (dC, dI)) (ci := 5) (v := .int (nI 1)) (C := nM) (T := TM) (N := 26) hx hb hg inM hown hK hP 0 rfl rfl 0 (by decide) (hg _ kM_69) (fun _ h9 => h9) rfl dM_piece_117 ?_
      refine lv_if_le (tgt := 127) hx hb dM_piece_120 (by decide) (fun c120 => absurd c120 (by decide)) (fun c120 => ?_)
      refine rn_iconst hx hb 0 dM_piece_123 (by decide) ?_
      refine lv_goto (tgt := 142) hx hb dM_piece_124 (by decide) ?_
      have hcd : cdPi lv pc n x y ln sp = 1 := by first | (simp [cdPi, c5, c13]; done) | (simp [cdPi, c5, c13]; omega)
      have hP9 : va_P (dC, dI) vwCl (wM cI cJ cZ qm lv (if cdPi lv pc n x y ln sp = 0 then va_up bg n (cN x) else bg) (if cdPi lv pc n x y ln sp = 0 then va_up en n (cN y) else en) (if cdPi lv pc n x y ln sp = 0 then va_up sc n ((cLn ln + cLn sp - 1) / cLn sp) else sc) (if cdPi lv pc n x y ln sp = 0 then va_up wd n 2000 else wd) (if cdPi lv pc n x y ln sp = 0 then va_up ht n 3000 else ht) sh (if cdPi lv pc n x y ln sp = 0 then va_up oh n 16777215 else oh) ba mw mh mk rm nm bs bc bp on wh (cdPi lv pc n x y ln sp) pc (if cdPi lv pc n x y ln sp = 0 then n + 1 else n) mc kc sl fo) H := by rw [hcd]; exact hP
      have hD9 : va_D A (wM cI cJ cZ qm lv (if cdPi lv pc n x y ln sp = 0 then va_up bg n (cN x) else bg) (if cdPi lv pc n x y ln sp = 0 then va_up en n (cN y) else en) (if cdPi lv pc n x y ln sp = 0 then va_up sc n ((cLn ln + cLn sp - 1) / cLn sp) else sc) (if cdPi lv pc n x y ln sp = 0 then va_up wd n 2000 else wd) (if cdPi lv pc n x y ln sp = 0 then va_up ht n 3000 else ht) sh (if cdPi lv pc n x y ln sp = 0 then va_up oh n 16777215 else oh) ba mw mh mk rm nm bs bc bp on wh (cdPi lv pc n x y ln sp) pc (if cdPi lv pc n x y ln sp = 0 then n + 1 else n) mc kc sl fo) := by rw [hcd]; exact hD
      exact W.iret hx hb hr (fun t ht hW => ⟨⟨_, (), rfl, (by rw [hcd]; rfl), by rw [ht]; exact hP9, va_K.moved hW.alike hK, hD9⟩, hS.F ht⟩) hS.2.2 dM_piece_142
    · refine lv_iload_n hx hb dM_piece_16 rfl (lv_at hl 1 rfl) ?_
      refine lv_iload_n hx hb dM_piece_17 rfl (lv_at hl 2 rfl) ?_
      refine lv_icmp_eq (tgt := 48) hx hb dM_piece_18 (by decide) (fun c18 => ?_) (fun c18 => ?_)
      · refine rn_iconst hx hb 0 dM_piece_48 (by decide) ?_
        refine lv_istore (lv' := [(7, .int (nI 0)), (0, .ref (qm 0)), (1, .int x), (2, .int y), (3, .long ln), (5, .long sp)]) hx hb dM_piece_49 hl (by decide) rfl (fun ls hl => ?_)
        refine lv_iload hx hb dM_piece_51 (lv_at hl 0 rfl) ?_
        refine lv_if_eq (tgt := 78) hx hb dM_piece_53 (by decide) (fun c53 => ?_) (fun c53 => absurd c53 (by decide))
        refine lv_aload_n hx hb dM_piece_78 rfl (lv_at hl 1 rfl) ?_
        refine lv_iload hx hb dM_piece_79 (lv_at hl 0 rfl) ?_
        refine lv_if_ne (tgt := 88) hx hb dM_piece_81 (by decide) (fun c81 => absurd c81 (by decide)) (fun c81 => ?_)
        refine rn_iconst hx hb 1 dM_piece_84 (by decide) ?_
        refine lv_goto (tgt := 113) hx hb dM_piece_85 (by decide) ?_
        refine va_put (D := (dC, dI)) (ci := 5) (v := .int (nI 1)) (ty := .int) (C := nM) (T := TM) (N := 26) hx hb hg inM tM tM_ok nmM hown hK hP hD hS 0 rfl rfl 0 (by decide) (hg _ kM_69) (fun _ h9 => h9) rfl (by decide +kernel) rfl rfl (Nat.le_of_ble_eq_true rfl) dM_piece_113 (fun H locs hP hD hS => ?_)
        have hP : va_P (dC, dI) vwCl (wM cI cJ cZ qm lv bg en sc wd ht sh oh ba mw mh mk rm nm bs bc bp on wh 1 pc n mc kc sl fo) H := hP
        have hD : va_D A (wM cI cJ cZ qm lv bg en sc wd ht sh oh ba mw mh mk rm nm bs bc bp on wh 1 pc n mc kc sl fo) := hD
        refine lv_aload_n hx hb dM_piece_116 rfl (lv_at hl 1 rfl) ?_
        refine va_get (D := (dC, dI)) (ci := 5) (v := .int (nI 1)) (C := nM) (T := TM) (N := 26) hx hb hg inM hown hK hP 0 rfl rfl 0 (by decide) (hg _ kM_69) (fun _ h9 => h9) rfl dM_piece_117 ?_
        refine lv_if_le (tgt := 127) hx hb dM_piece_120 (by decide) (fun c120 => absurd c120 (by decide)) (fun c120 => ?_)
        refine rn_iconst hx hb 0 dM_piece_123 (by decide) ?_
        refine lv_goto (tgt := 142) hx hb dM_piece_124 (by decide) ?_
        have hcd : cdPi lv pc n x y ln sp = 1 := by first | (simp [cdPi, c5, c13, c18]; done) | (simp [cdPi, c5, c13, c18]; omega)
        have hP9 : va_P (dC, dI) vwCl (wM cI cJ cZ qm lv (if cdPi lv pc n x y ln sp = 0 then va_up bg n (cN x) else bg) (if cdPi lv pc n x y ln sp = 0 then va_up en n (cN y) else en) (if cdPi lv pc n x y ln sp = 0 then va_up sc n ((cLn ln + cLn sp - 1) / cLn sp) else sc) (if cdPi lv pc n x y ln sp = 0 then va_up wd n 2000 else wd) (if cdPi lv pc n x y ln sp = 0 then va_up ht n 3000 else ht) sh (if cdPi lv pc n x y ln sp = 0 then va_up oh n 16777215 else oh) ba mw mh mk rm nm bs bc bp on wh (cdPi lv pc n x y ln sp) pc (if cdPi lv pc n x y ln sp = 0 then n + 1 else n) mc kc sl fo) H := by rw [hcd]; exact hP
        have hD9 : va_D A (wM cI cJ cZ qm lv (if cdPi lv pc n x y ln sp = 0 then va_up bg n (cN x) else bg) (if cdPi lv pc n x y ln sp = 0 then va_up en n (cN y) else en) (if cdPi lv pc n x y ln sp = 0 then va_up sc n ((cLn ln + cLn sp - 1) / cLn sp) else sc) (if cdPi lv pc n x y ln sp = 0 then va_up wd n 2000 else wd) (if cdPi lv pc n x y ln sp = 0 then va_up ht n 3000 else ht) sh (if cdPi lv pc n x y ln sp = 0 then va_up oh n 16777215 else oh) ba mw mh mk rm nm bs bc bp on wh (cdPi lv pc n x y ln sp) pc (if cdPi lv pc n x y ln sp = 0 then n + 1 else n) mc kc sl fo) := by rw [hcd]; exact hD
        exact W.iret hx hb hr (fun t ht hW => ⟨⟨_, (), rfl, (by rw [hcd]; rfl), by rw [ht]; exact hP9, va_K.moved hW.alike hK, hD9⟩, hS.F ht⟩) hS.2.2 dM_piece_142
      · refine lv_lload_n hx hb dM_piece_21 rfl (lv_at hl 3 rfl) ?_
        refine rn_lconst hx hb 1 dM_piece_22 rfl ?_
        refine lv_ldc2 (v := 10000000) hx hb hown (hg _ kM_90) dM_piece_23 ?_
        refine tp_l (y := lN 10000000) rfl ?_
        refine cpS_i (As := [.long ln, .long (lN 1), .long (lN 10000000)]) (rest := []) (post := fun r : Int32 => r = bI (wiB ln (lN 1) (lN 10000000))) ⟨hx, hb, hml, hown, hts⟩ (ct_M_in l dC dI cI cJ cZ ln (lN 1) (lN 10000000) ) (va_cwS 3 hts (gs kM_76 ks_M_in kin_M kc_M_in) rfl rfl rfl (by decide +kernel) ⟨Nat.le_trans (by decide) hR.1, Nat.le_trans (by decide) hR.2⟩) (hP.sub (ws' := []) [] rfl) hK hE rfl hl.1 rfl (Nat.le_of_ble_eq_true rfl) dM_piece_26 hcs (fun r hr => ?_)
        subst hr
        refine rb_eq (tgt := 48) hx hb dM_piece_29 (by decide) (fun c29 => ?_) (fun c29 => ?_)
        · refine rn_iconst hx hb 0 dM_piece_48 (by decide) ?_
          refine lv_istore (lv' := [(7, .int (nI 0)), (0, .ref (qm 0)), (1, .int x), (2, .int y), (3, .long ln), (5, .long sp)]) hx hb dM_piece_49 hl (by decide) rfl (fun ls hl => ?_)
          refine lv_iload hx hb dM_piece_51 (lv_at hl 0 rfl) ?_
          refine lv_if_eq (tgt := 78) hx hb dM_piece_53 (by decide) (fun c53 => ?_) (fun c53 => absurd c53 (by decide))
          refine lv_aload_n hx hb dM_piece_78 rfl (lv_at hl 1 rfl) ?_
          refine lv_iload hx hb dM_piece_79 (lv_at hl 0 rfl) ?_
          refine lv_if_ne (tgt := 88) hx hb dM_piece_81 (by decide) (fun c81 => absurd c81 (by decide)) (fun c81 => ?_)
          refine rn_iconst hx hb 1 dM_piece_84 (by decide) ?_
          refine lv_goto (tgt := 113) hx hb dM_piece_85 (by decide) ?_
          refine va_put (D := (dC, dI)) (ci := 5) (v := .int (nI 1)) (ty := .int) (C := nM) (T := TM) (N := 26) hx hb hg inM tM tM_ok nmM hown hK hP hD hS 0 rfl rfl 0 (by decide) (hg _ kM_69) (fun _ h9 => h9) rfl (by decide +kernel) rfl rfl (Nat.le_of_ble_eq_true rfl) dM_piece_113 (fun H locs hP hD hS => ?_)
          have hP : va_P (dC, dI) vwCl (wM cI cJ cZ qm lv bg en sc wd ht sh oh ba mw mh mk rm nm bs bc bp on wh 1 pc n mc kc sl fo) H := hP
          have hD : va_D A (wM cI cJ cZ qm lv bg en sc wd ht sh oh ba mw mh mk rm nm bs bc bp on wh 1 pc n mc kc sl fo) := hD
          refine lv_aload_n hx hb dM_piece_116 rfl (lv_at hl 1 rfl) ?_
          refine va_get (D := (dC, dI)) (ci := 5) (v := .int (nI 1)) (C := nM) (T := TM) (N := 26) hx hb hg inM hown hK hP 0 rfl rfl 0 (by decide) (hg _ kM_69) (fun _ h9 => h9) rfl dM_piece_117 ?_
          refine lv_if_le (tgt := 127) hx hb dM_piece_120 (by decide) (fun c120 => absurd c120 (by decide)) (fun c120 => ?_)
          refine rn_iconst hx hb 0 dM_piece_123 (by decide) ?_
          refine lv_goto (tgt := 142) hx hb dM_piece_124 (by decide) ?_
          have hcd : cdPi lv pc n x y ln sp = 1 := by first | (simp [cdPi, c5, c13, c18, c29]; done) | (simp [cdPi, c5, c13, c18, c29]; omega)
          have hP9 : va_P (dC, dI) vwCl (wM cI cJ cZ qm lv (if cdPi lv pc n x y ln sp = 0 then va_up bg n (cN x) else bg) (if cdPi lv pc n x y ln sp = 0 then va_up en n (cN y) else en) (if cdPi lv pc n x y ln sp = 0 then va_up sc n ((cLn ln + cLn sp - 1) / cLn sp) else sc) (if cdPi lv pc n x y ln sp = 0 then va_up wd n 2000 else wd) (if cdPi lv pc n x y ln sp = 0 then va_up ht n 3000 else ht) sh (if cdPi lv pc n x y ln sp = 0 then va_up oh n 16777215 else oh) ba mw mh mk rm nm bs bc bp on wh (cdPi lv pc n x y ln sp) pc (if cdPi lv pc n x y ln sp = 0 then n + 1 else n) mc kc sl fo) H := by rw [hcd]; exact hP
          have hD9 : va_D A (wM cI cJ cZ qm lv (if cdPi lv pc n x y ln sp = 0 then va_up bg n (cN x) else bg) (if cdPi lv pc n x y ln sp = 0 then va_up en n (cN y) else en) (if cdPi lv pc n x y ln sp = 0 then va_up sc n ((cLn ln + cLn sp - 1) / cLn sp) else sc) (if cdPi lv pc n x y ln sp = 0 then va_up wd n 2000 else wd) (if cdPi lv pc n x y ln sp = 0 then va_up ht n 3000 else ht) sh (if cdPi lv pc n x y ln sp = 0 then va_up oh n 16777215 else oh) ba mw mh mk rm nm bs bc bp on wh (cdPi lv pc n x y ln sp) pc (if cdPi lv pc n x y ln sp = 0 then n + 1 else n) mc kc sl fo) := by rw [hcd]; exact hD
          exact W.iret hx hb hr (fun t ht hW => ⟨⟨_, (), rfl, (by rw [hcd]; rfl), by rw [ht]; exact hP9, va_K.moved hW.alike hK, hD9⟩, hS.F ht⟩) hS.2.2 dM_piece_142
        · refine lv_lload hx hb dM_piece_32 (lv_at hl 4 rfl) ?_
          refine rn_lconst hx hb 0 dM_piece_34 rfl ?_
          refine lv_ldc2 (v := 10000) hx hb hown (hg _ kM_92) dM_piece_35 ?_
          refine tp_l (y := lN 10000) rfl ?_
          refine cpS_i (As := [.long sp, .long (lN 0), .long (lN 10000)]) (rest := []) (post := fun r : Int32 => r = bI (wiB sp (lN 0) (lN 10000))) ⟨hx, hb, hml, hown, hts⟩ (ct_M_in l dC dI cI cJ cZ sp (lN 0) (lN 10000) ) (va_cwS 3 hts (gs kM_76 ks_M_in kin_M kc_M_in) rfl rfl rfl (by decide +kernel) ⟨Nat.le_trans (by decide) hR.1, Nat.le_trans (by decide) hR.2⟩) (hP.sub (ws' := []) [] rfl) hK hE rfl hl.1 rfl (Nat.le_of_ble_eq_true rfl) dM_piece_38 hcs (fun r hr => ?_)
          subst hr
          refine rb_eq (tgt := 48) hx hb dM_piece_41 (by decide) (fun c41 => ?_) (fun c41 => ?_)
          · refine rn_iconst hx hb 0 dM_piece_48 (by decide) ?_
            refine lv_istore (lv' := [(7, .int (nI 0)), (0, .ref (qm 0)), (1, .int x), (2, .int y), (3, .long ln), (5, .long sp)]) hx hb dM_piece_49 hl (by decide) rfl (fun ls hl => ?_)
            refine lv_iload hx hb dM_piece_51 (lv_at hl 0 rfl) ?_
            refine lv_if_eq (tgt := 78) hx hb dM_piece_53 (by decide) (fun c53 => ?_) (fun c53 => absurd c53 (by decide))
            refine lv_aload_n hx hb dM_piece_78 rfl (lv_at hl 1 rfl) ?_
            refine lv_iload hx hb dM_piece_79 (lv_at hl 0 rfl) ?_
            refine lv_if_ne (tgt := 88) hx hb dM_piece_81 (by decide) (fun c81 => absurd c81 (by decide)) (fun c81 => ?_)
            refine rn_iconst hx hb 1 dM_piece_84 (by decide) ?_
            refine lv_goto (tgt := 113) hx hb dM_piece_85 (by decide) ?_
            refine va_put (D := (dC, dI)) (ci := 5) (v := .int (nI 1)) (ty := .int) (C := nM) (T := TM) (N := 26) hx hb hg inM tM tM_ok nmM hown hK hP hD hS 0 rfl rfl 0 (by decide) (hg _ kM_69) (fun _ h9 => h9) rfl (by decide +kernel) rfl rfl (Nat.le_of_ble_eq_true rfl) dM_piece_113 (fun H locs hP hD hS => ?_)
            have hP : va_P (dC, dI) vwCl (wM cI cJ cZ qm lv bg en sc wd ht sh oh ba mw mh mk rm nm bs bc bp on wh 1 pc n mc kc sl fo) H := hP
            have hD : va_D A (wM cI cJ cZ qm lv bg en sc wd ht sh oh ba mw mh mk rm nm bs bc bp on wh 1 pc n mc kc sl fo) := hD
            refine lv_aload_n hx hb dM_piece_116 rfl (lv_at hl 1 rfl) ?_
            refine va_get (D := (dC, dI)) (ci := 5) (v := .int (nI 1)) (C := nM) (T := TM) (N := 26) hx hb hg inM hown hK hP 0 rfl rfl 0 (by decide) (hg _ kM_69) (fun _ h9 => h9) rfl dM_piece_117 ?_
            refine lv_if_le (tgt := 127) hx hb dM_piece_120 (by decide) (fun c120 => absurd c120 (by decide)) (fun c120 => ?_)
            refine rn_iconst hx hb 0 dM_piece_123 (by decide) ?_
            refine lv_goto (tgt := 142) hx hb dM_piece_124 (by decide) ?_
            have hcd : cdPi lv pc n x y ln sp = 1 := by first | (simp [cdPi, c5, c13, c18, c29, c41]; done) | (simp [cdPi, c5, c13, c18, c29, c41]; omega)
            have hP9 : va_P (dC, dI) vwCl (wM cI cJ cZ qm lv (if cdPi lv pc n x y ln sp = 0 then va_up bg n (cN x) else bg) (if cdPi lv pc n x y ln sp = 0 then va_up en n (cN y) else en) (if cdPi lv pc n x y ln sp = 0 then va_up sc n ((cLn ln + cLn sp - 1) / cLn sp) else sc) (if cdPi lv pc n x y ln sp = 0 then va_up wd n 2000 else wd) (if cdPi lv pc n x y ln sp = 0 then va_up ht n 3000 else ht) sh (if cdPi lv pc n x y ln sp = 0 then va_up oh n 16777215 else oh) ba mw mh mk rm nm bs bc bp on wh (cdPi lv pc n x y ln sp) pc (if cdPi lv pc n x y ln sp = 0 then n + 1 else n) mc kc sl fo) H := by rw [hcd]; exact hP
            have hD9 : va_D A (wM cI cJ cZ qm lv (if cdPi lv pc n x y ln sp = 0 then va_up bg n (cN x) else bg) (if cdPi lv pc n x y ln sp = 0 then va_up en n (cN y) else en) (if cdPi lv pc n x y ln sp = 0 then va_up sc n ((cLn ln + cLn sp - 1) / cLn sp) else sc) (if cdPi lv pc n x y ln sp = 0 then va_up wd n 2000 else wd) (if cdPi lv pc n x y ln sp = 0 then va_up ht n 3000 else ht) sh (if cdPi lv pc n x y ln sp = 0 then va_up oh n 16777215 else oh) ba mw mh mk rm nm bs bc bp on wh (cdPi lv pc n x y ln sp) pc (if cdPi lv pc n x y ln sp = 0 then n + 1 else n) mc kc sl fo) := by rw [hcd]; exact hD
            exact W.iret hx hb hr (fun t ht hW => ⟨⟨_, (), rfl, (by rw [hcd]; rfl), by rw [ht]; exact hP9, va_K.moved hW.alike hK, hD9⟩, hS.F ht⟩) hS.2.2 dM_piece_142
          · refine rn_iconst hx hb 1 dM_piece_44 (by decide) ?_
            refine lv_goto (tgt := 49) hx hb dM_piece_45 (by decide) ?_
            refine lv_istore (lv' := [(7, .int (nI 1)), (0, .ref (qm 0)), (1, .int x), (2, .int y), (3, .long ln), (5, .long sp)]) hx hb dM_piece_49 hl (by decide) rfl (fun ls hl => ?_)
            refine lv_iload hx hb dM_piece_51 (lv_at hl 0 rfl) ?_
            refine lv_if_eq (tgt := 78) hx hb dM_piece_53 (by decide) (fun c53 => absurd c53 (by decide)) (fun c53 => ?_)
            obtain ⟨j, hj, ej⟩ := in_of c5 (by omega)
            obtain ⟨k, hk, ek⟩ := in_of c13 (by omega)
            have e1 : cN x = j := by rw [ej]; exact cN_n (by omega)
            have e2 : cN y = k := by rw [ek]; exact cN_n (by omega)
            have gj := hgi j
            have gk := hgi k
            have hl : lv_has ls 8 [(7, .int (nI 1)), (0, .ref (qm 0)), (1, .int (nI j)), (2, .int (nI k)), (3, .long ln), (5, .long sp)] := by rw [ej, ek] at hl; exact hl
            refine lv_aload_n hx hb dM_piece_56 rfl (lv_at hl 1 rfl) ?_
            refine va_get (D := (dC, dI)) (ci := 5) (v := .ref (qm 1)) (C := nM) (T := TM) (N := 26) hx hb hg inM hown hK hP 0 rfl rfl 2 (by decide) (hg _ kM_7) (fun _ h9 => h9) rfl dM_piece_57 ?_
            refine lv_iload_n hx hb dM_piece_60 rfl (lv_at hl 2 rfl) ?_
            refine ga_i (f := lv) hx hb hK hP 1 0 rfl rfl (by omega) (by decide) dM_piece_61 ?_
            refine lv_aload_n hx hb dM_piece_62 rfl (lv_at hl 1 rfl) ?_
            refine va_get (D := (dC, dI)) (ci := 5) (v := .ref (qm 1)) (C := nM) (T := TM) (N := 26) hx hb hg inM hown hK hP 0 rfl rfl 2 (by decide) (hg _ kM_7) (fun _ h9 => h9) rfl dM_piece_63 ?_
            refine lv_iload_n hx hb dM_piece_66 rfl (lv_at hl 3 rfl) ?_
            refine ga_i (f := lv) hx hb hK hP 1 0 rfl rfl (by omega) (by decide) dM_piece_67 ?_
            refine rn_icmp_ne (tgt := 75) hx hb dM_piece_68 (by decide) (by omega) (by omega) (fun c68 => ?_) (fun c68 => ?_)
            · refine rn_iconst hx hb 0 dM_piece_75 (by decide) ?_
              refine lv_istore (lv' := [(7, .int (nI 0)), (0, .ref (qm 0)), (1, .int (nI j)), (2, .int (nI k)), (3, .long ln), (5, .long sp)]) hx hb dM_piece_76 hl (by decide) rfl (fun ls hl => ?_)
              refine lv_aload_n hx hb dM_piece_78 rfl (lv_at hl 1 rfl) ?_
              refine lv_iload hx hb dM_piece_79 (lv_at hl 0 rfl) ?_
              refine lv_if_ne (tgt := 88) hx hb dM_piece_81 (by decide) (fun c81 => absurd c81 (by decide)) (fun c81 => ?_)
              refine rn_iconst hx hb 1 dM_piece_84 (by decide) ?_
              refine lv_goto (tgt := 113) hx hb dM_piece_85 (by decide) ?_
              refine va_put (D := (dC, dI)) (ci := 5) (v := .int (nI 1)) (ty := .int) (C := nM) (T := TM) (N := 26) hx hb hg inM tM tM_ok nmM hown hK hP hD hS 0 rfl rfl 0 (by decide) (hg _ kM_69) (fun _ h9 => h9) rfl (by decide +kernel) rfl rfl (Nat.le_of_ble_eq_true rfl) dM_piece_113 (fun H locs hP hD hS => ?_)
              have hP : va_P (dC, dI) vwCl (wM cI cJ cZ qm lv bg en sc wd ht sh oh ba mw mh mk rm nm bs bc bp on wh 1 pc n mc kc sl fo) H := hP
              have hD : va_D A (wM cI cJ cZ qm lv bg en sc wd ht sh oh ba mw mh mk rm nm bs bc bp on wh 1 pc n mc kc sl fo) := hD
              refine lv_aload_n hx hb dM_piece_116 rfl (lv_at hl 1 rfl) ?_
              refine va_get (D := (dC, dI)) (ci := 5) (v := .int (nI 1)) (C := nM) (T := TM) (N := 26) hx hb hg inM hown hK hP 0 rfl rfl 0 (by decide) (hg _ kM_69) (fun _ h9 => h9) rfl dM_piece_117 ?_
              refine lv_if_le (tgt := 127) hx hb dM_piece_120 (by decide) (fun c120 => absurd c120 (by decide)) (fun c120 => ?_)
              refine rn_iconst hx hb 0 dM_piece_123 (by decide) ?_
              refine lv_goto (tgt := 142) hx hb dM_piece_124 (by decide) ?_
              have hcd : cdPi lv pc n x y ln sp = 1 := by first | (simp [cdPi, c5, c13, c18, c29, c41, e1, e2, c68]; done) | (simp [cdPi, c5, c13, c18, c29, c41, e1, e2, c68]; omega)
              have hP9 : va_P (dC, dI) vwCl (wM cI cJ cZ qm lv (if cdPi lv pc n x y ln sp = 0 then va_up bg n (cN x) else bg) (if cdPi lv pc n x y ln sp = 0 then va_up en n (cN y) else en) (if cdPi lv pc n x y ln sp = 0 then va_up sc n ((cLn ln + cLn sp - 1) / cLn sp) else sc) (if cdPi lv pc n x y ln sp = 0 then va_up wd n 2000 else wd) (if cdPi lv pc n x y ln sp = 0 then va_up ht n 3000 else ht) sh (if cdPi lv pc n x y ln sp = 0 then va_up oh n 16777215 else oh) ba mw mh mk rm nm bs bc bp on wh (cdPi lv pc n x y ln sp) pc (if cdPi lv pc n x y ln sp = 0 then n + 1 else n) mc kc sl fo) H := by rw [hcd]; exact hP
              have hD9 : va_D A (wM cI cJ cZ qm lv (if cdPi lv pc n x y ln sp = 0 then va_up bg n (cN x) else bg) (if cdPi lv pc n x y ln sp = 0 then va_up en n (cN y) else en) (if cdPi lv pc n x y ln sp = 0 then va_up sc n ((cLn ln + cLn sp - 1) / cLn sp) else sc) (if cdPi lv pc n x y ln sp = 0 then va_up wd n 2000 else wd) (if cdPi lv pc n x y ln sp = 0 then va_up ht n 3000 else ht) sh (if cdPi lv pc n x y ln sp = 0 then va_up oh n 16777215 else oh) ba mw mh mk rm nm bs bc bp on wh (cdPi lv pc n x y ln sp) pc (if cdPi lv pc n x y ln sp = 0 then n + 1 else n) mc kc sl fo) := by rw [hcd]; exact hD
              exact W.iret hx hb hr (fun t ht hW => ⟨⟨_, (), rfl, (by rw [hcd]; rfl), by rw [ht]; exact hP9, va_K.moved hW.alike hK, hD9⟩, hS.F ht⟩) hS.2.2 dM_piece_142
            · refine rn_iconst hx hb 1 dM_piece_71 (by decide) ?_
              refine lv_goto (tgt := 76) hx hb dM_piece_72 (by decide) ?_
              refine lv_istore (lv' := [(7, .int (nI 1)), (0, .ref (qm 0)), (1, .int (nI j)), (2, .int (nI k)), (3, .long ln), (5, .long sp)]) hx hb dM_piece_76 hl (by decide) rfl (fun ls hl => ?_)
              refine lv_aload_n hx hb dM_piece_78 rfl (lv_at hl 1 rfl) ?_
              refine lv_iload hx hb dM_piece_79 (lv_at hl 0 rfl) ?_
              refine lv_if_ne (tgt := 88) hx hb dM_piece_81 (by decide) (fun c81 => ?_) (fun c81 => absurd c81 (by decide))
              refine lv_lload hx hb dM_piece_88 (lv_at hl 5 rfl) ?_
              refine rn_lconst hx hb 0 dM_piece_90 rfl ?_
              refine rl_cmp_ne (tgt := 99) hx hb dM_piece_91 dM_piece_92 (by decide) (fun c92 => ?_) (fun c92 => ?_)
              · refine lv_aload_n hx hb dM_piece_99 rfl (lv_at hl 1 rfl) ?_
                refine va_get (D := (dC, dI)) (ci := 5) (v := .int (nI n)) (C := nM) (T := TM) (N := 26) hx hb hg inM hown hK hP 0 rfl rfl 3 (by decide) (hg _ kM_80) (fun _ h9 => h9) rfl dM_piece_100 ?_
                refine rn_bipush hx hb 40 dM_piece_103 (by decide) ?_
                refine rn_icmp_ne (tgt := 112) hx hb dM_piece_105 (by decide) (by omega) (by omega) (fun c105 => ?_) (fun c105 => ?_)
                · refine rn_iconst hx hb 0 dM_piece_112 (by decide) ?_
                  refine va_put (D := (dC, dI)) (ci := 5) (v := .int (nI 0)) (ty := .int) (C := nM) (T := TM) (N := 26) hx hb hg inM tM tM_ok nmM hown hK hP hD hS 0 rfl rfl 0 (by decide) (hg _ kM_69) (fun _ h9 => h9) rfl (by decide +kernel) rfl rfl (Nat.le_of_ble_eq_true rfl) dM_piece_113 (fun H locs hP hD hS => ?_)
                  have hP : va_P (dC, dI) vwCl (wM cI cJ cZ qm lv bg en sc wd ht sh oh ba mw mh mk rm nm bs bc bp on wh 0 pc n mc kc sl fo) H := hP
                  have hD : va_D A (wM cI cJ cZ qm lv bg en sc wd ht sh oh ba mw mh mk rm nm bs bc bp on wh 0 pc n mc kc sl fo) := hD
                  refine lv_aload_n hx hb dM_piece_116 rfl (lv_at hl 1 rfl) ?_
                  refine va_get (D := (dC, dI)) (ci := 5) (v := .int (nI 0)) (C := nM) (T := TM) (N := 26) hx hb hg inM hown hK hP 0 rfl rfl 0 (by decide) (hg _ kM_69) (fun _ h9 => h9) rfl dM_piece_117 ?_
                  refine lv_if_le (tgt := 127) hx hb dM_piece_120 (by decide) (fun c120 => ?_) (fun c120 => absurd c120 (by decide))
                  obtain ⟨a, ha1, ha2, ea⟩ := wl_of c29 (by decide) (by decide)
                  obtain ⟨b, hb1, hb2, eb⟩ := wl_of c41 (by decide) (by decide)
                  have hb0 : b ≠ 0 := fun q => c92 (by rw [eb, q])
                  have e3 : cLn ln = a := by rw [ea]; exact cL_n (by omega)
                  have e4 : cLn sp = b := by rw [eb]; exact cL_n (by omega)
                  have hl : lv_has ls 8 [(7, .int (nI 1)), (0, .ref (qm 0)), (1, .int (nI j)), (2, .int (nI k)), (3, .long (lN a)), (5, .long (lN b))] := by rw [ea, eb] at hl; exact hl
                  refine lv_aload_n hx hb dM_piece_127 rfl (lv_at hl 1 rfl) ?_
                  refine lv_iload_n hx hb dM_piece_128 rfl (lv_at hl 2 rfl) ?_
                  refine lv_iload_n hx hb dM_piece_129 rfl (lv_at hl 3 rfl) ?_
                  refine lv_lload_n hx hb dM_piece_130 rfl (lv_at hl 4 rfl) ?_
                  refine lv_lload hx hb dM_piece_131 (lv_at hl 5 rfl) ?_
                  refine rn_ladd hx hb dM_piece_133 ?_
                  refine rn_lconst hx hb 1 dM_piece_134 rfl ?_
                  refine rn_lsub hx hb dM_piece_135 (by omega) ?_
                  refine lv_lload hx hb dM_piece_136 (lv_at hl 5 rfl) ?_
                  refine rn_ldiv hx hb dM_piece_138 (by omega) (by omega) (by omega) ?_
                  refine kwV_i (D := (dC, dI)) (r0 := nI n) (b := (qm 0)) (C := nM) (As := [.int (nI j), .int (nI k), .long (lN (((a + b) - 1) / b))]) (rest := []) (wc := (wM cI cJ cZ qm lv bg en sc wd ht sh oh ba mw mh mk rm nm bs bc bp on wh 0 pc n mc kc sl fo)) (wr := []) (w1 := (wM cI cJ cZ qm lv (va_up bg n j) (va_up en n k) (va_up sc n (((a + b) - 1) / b)) (va_up wd n 2000) (va_up ht n 3000) sh (va_up oh n 16777215) ba mw mh mk rm nm bs bc bp on wh 0 pc (n + 1) mc kc sl fo)) (wn := (wM cI cJ cZ qm lv (va_up bg n j) (va_up en n k) (va_up sc n (((a + b) - 1) / b)) (va_up wd n 2000) (va_up ht n 3000) sh (va_up oh n 16777215) ba mw mh mk rm nm bs bc bp on wh 0 pc (n + 1) mc kc sl fo)) ⟨hx, hb, hml, hown, hts⟩ (ct_M_add l dC dI cI cJ cZ qm lv mw mh mk pc mc kc bg en sc wd ht oh bt co n sh ba rm nm bs bc bp on wh 0 sl fo j k (((a + b) - 1) / b) H.size (hG) (hB) (by omega)) (cwV 3 hts (gv kM_94 ki_M_add ksel_M_add kin_M kc_M_add) rfl rfl rfl (by decide +kernel) ⟨Nat.le_trans (by decide) hR.1, Nat.le_trans (by decide) hR.2⟩) (va_recv hK hP (ci := 5) (q0 := 0) rfl rfl) hP hD hK hE hS hA [0, 1, 2, 3, 4, 5, 6, 7, 8, 9, 10, 11, 12, 13, 14, 15, 16, 17, 18, 19] [] [0, 1, 2, 3, 4, 5, 6, 7, 8, 9, 10, 11, 12, 13, 14, 15, 16, 17, 18, 19] rfl (by decide) rfl (by decide) (by decide) rfl (by decide) rfl hl.1 rfl (Nat.le_of_ble_eq_true rfl) dM_piece_139 hcs (fun H locs hP hD hS => ?_)
                  have hcd : cdPi lv pc n x y ln sp = 0 := by first | (simp [cdPi, c5, c13, c18, c29, c41, e1, e2, c68, c92, c105]; done) | (simp [cdPi, c5, c13, c18, c29, c41, e1, e2, c68, c92, c105]; omega)
                  have hP9 : va_P (dC, dI) vwCl (wM cI cJ cZ qm lv (if cdPi lv pc n x y ln sp = 0 then va_up bg n (cN x) else bg) (if cdPi lv pc n x y ln sp = 0 then va_up en n (cN y) else en) (if cdPi lv pc n x y ln sp = 0 then va_up sc n ((cLn ln + cLn sp - 1) / cLn sp) else sc) (if cdPi lv pc n x y ln sp = 0 then va_up wd n 2000 else wd) (if cdPi lv pc n x y ln sp = 0 then va_up ht n 3000 else ht) sh (if cdPi lv pc n x y ln sp = 0 then va_up oh n 16777215 else oh) ba mw mh mk rm nm bs bc bp on wh (cdPi lv pc n x y ln sp) pc (if cdPi lv pc n x y ln sp = 0 then n + 1 else n) mc kc sl fo) H := by rw [hcd, e1, e2, e3, e4]; exact hP
                  have hD9 : va_D A (wM cI cJ cZ qm lv (if cdPi lv pc n x y ln sp = 0 then va_up bg n (cN x) else bg) (if cdPi lv pc n x y ln sp = 0 then va_up en n (cN y) else en) (if cdPi lv pc n x y ln sp = 0 then va_up sc n ((cLn ln + cLn sp - 1) / cLn sp) else sc) (if cdPi lv pc n x y ln sp = 0 then va_up wd n 2000 else wd) (if cdPi lv pc n x y ln sp = 0 then va_up ht n 3000 else ht) sh (if cdPi lv pc n x y ln sp = 0 then va_up oh n 16777215 else oh) ba mw mh mk rm nm bs bc bp on wh (cdPi lv pc n x y ln sp) pc (if cdPi lv pc n x y ln sp = 0 then n + 1 else n) mc kc sl fo) := by rw [hcd, e1, e2, e3, e4]; exact hD
                  exact W.iret hx hb hr (fun t ht hW => ⟨⟨_, (), rfl, (by rw [hcd]; rfl), by rw [ht]; exact hP9, va_K.moved hW.alike hK, hD9⟩, hS.F ht⟩) hS.2.2 dM_piece_142
                · refine rn_iconst hx hb 3 dM_piece_108 (by decide) ?_
                  refine lv_goto (tgt := 113) hx hb dM_piece_109 (by decide) ?_
                  refine va_put (D := (dC, dI)) (ci := 5) (v := .int (nI 3)) (ty := .int) (C := nM) (T := TM) (N := 26) hx hb hg inM tM tM_ok nmM hown hK hP hD hS 0 rfl rfl 0 (by decide) (hg _ kM_69) (fun _ h9 => h9) rfl (by decide +kernel) rfl rfl (Nat.le_of_ble_eq_true rfl) dM_piece_113 (fun H locs hP hD hS => ?_)
                  have hP : va_P (dC, dI) vwCl (wM cI cJ cZ qm lv bg en sc wd ht sh oh ba mw mh mk rm nm bs bc bp on wh 3 pc n mc kc sl fo) H := hP
                  have hD : va_D A (wM cI cJ cZ qm lv bg en sc wd ht sh oh ba mw mh mk rm nm bs bc bp on wh 3 pc n mc kc sl fo) := hD
                  refine lv_aload_n hx hb dM_piece_116 rfl (lv_at hl 1 rfl) ?_
                  refine va_get (D := (dC, dI)) (ci := 5) (v := .int (nI 3)) (C := nM) (T := TM) (N := 26) hx hb hg inM hown hK hP 0 rfl rfl 0 (by decide) (hg _ kM_69) (fun _ h9 => h9) rfl dM_piece_117 ?_
                  refine lv_if_le (tgt := 127) hx hb dM_piece_120 (by decide) (fun c120 => absurd c120 (by decide)) (fun c120 => ?_)
                  refine rn_iconst hx hb 0 dM_piece_123 (by decide) ?_
                  refine lv_goto (tgt := 142) hx hb dM_piece_124 (by decide) ?_
                  have hcd : cdPi lv pc n x y ln sp = 3 := by first | (simp [cdPi, c5, c13, c18, c29, c41, e1, e2, c68, c92, c105]; done) | (simp [cdPi, c5, c13, c18, c29, c41, e1, e2, c68, c92, c105]; omega)
                  have hP9 : va_P (dC, dI) vwCl (wM cI cJ cZ qm lv (if cdPi lv pc n x y ln sp = 0 then va_up bg n (cN x) else bg) (if cdPi lv pc n x y ln sp = 0 then va_up en n (cN y) else en) (if cdPi lv pc n x y ln sp = 0 then va_up sc n ((cLn ln + cLn sp - 1) / cLn sp) else sc) (if cdPi lv pc n x y ln sp = 0 then va_up wd n 2000 else wd) (if cdPi lv pc n x y ln sp = 0 then va_up ht n 3000 else ht) sh (if cdPi lv pc n x y ln sp = 0 then va_up oh n 16777215 else oh) ba mw mh mk rm nm bs bc bp on wh (cdPi lv pc n x y ln sp) pc (if cdPi lv pc n x y ln sp = 0 then n + 1 else n) mc kc sl fo) H := by rw [hcd]; exact hP
                  have hD9 : va_D A (wM cI cJ cZ qm lv (if cdPi lv pc n x y ln sp = 0 then va_up bg n (cN x) else bg) (if cdPi lv pc n x y ln sp = 0 then va_up en n (cN y) else en) (if cdPi lv pc n x y ln sp = 0 then va_up sc n ((cLn ln + cLn sp - 1) / cLn sp) else sc) (if cdPi lv pc n x y ln sp = 0 then va_up wd n 2000 else wd) (if cdPi lv pc n x y ln sp = 0 then va_up ht n 3000 else ht) sh (if cdPi lv pc n x y ln sp = 0 then va_up oh n 16777215 else oh) ba mw mh mk rm nm bs bc bp on wh (cdPi lv pc n x y ln sp) pc (if cdPi lv pc n x y ln sp = 0 then n + 1 else n) mc kc sl fo) := by rw [hcd]; exact hD
                  exact W.iret hx hb hr (fun t ht hW => ⟨⟨_, (), rfl, (by rw [hcd]; rfl), by rw [ht]; exact hP9, va_K.moved hW.alike hK, hD9⟩, hS.F ht⟩) hS.2.2 dM_piece_142
              · refine rn_iconst hx hb 2 dM_piece_95 (by decide) ?_
                refine lv_goto (tgt := 113) hx hb dM_piece_96 (by decide) ?_
                refine va_put (D := (dC, dI)) (ci := 5) (v := .int (nI 2)) (ty := .int) (C := nM) (T := TM) (N := 26) hx hb hg inM tM tM_ok nmM hown hK hP hD hS 0 rfl rfl 0 (by decide) (hg _ kM_69) (fun _ h9 => h9) rfl (by decide +kernel) rfl rfl (Nat.le_of_ble_eq_true rfl) dM_piece_113 (fun H locs hP hD hS => ?_)
                have hP : va_P (dC, dI) vwCl (wM cI cJ cZ qm lv bg en sc wd ht sh oh ba mw mh mk rm nm bs bc bp on wh 2 pc n mc kc sl fo) H := hP
                have hD : va_D A (wM cI cJ cZ qm lv bg en sc wd ht sh oh ba mw mh mk rm nm bs bc bp on wh 2 pc n mc kc sl fo) := hD
                refine lv_aload_n hx hb dM_piece_116 rfl (lv_at hl 1 rfl) ?_
                refine va_get (D := (dC, dI)) (ci := 5) (v := .int (nI 2)) (C := nM) (T := TM) (N := 26) hx hb hg inM hown hK hP 0 rfl rfl 0 (by decide) (hg _ kM_69) (fun _ h9 => h9) rfl dM_piece_117 ?_
                refine lv_if_le (tgt := 127) hx hb dM_piece_120 (by decide) (fun c120 => absurd c120 (by decide)) (fun c120 => ?_)
                refine rn_iconst hx hb 0 dM_piece_123 (by decide) ?_
                refine lv_goto (tgt := 142) hx hb dM_piece_124 (by decide) ?_
                have hcd : cdPi lv pc n x y ln sp = 2 := by rw [cdPi, if_pos ⟨c5, c13, c18, (by rw [e1, e2]; exact c68), c29, c41⟩, if_pos c92]
                have hP9 : va_P (dC, dI) vwCl (wM cI cJ cZ qm lv (if cdPi lv pc n x y ln sp = 0 then va_up bg n (cN x) else bg) (if cdPi lv pc n x y ln sp = 0 then va_up en n (cN y) else en) (if cdPi lv pc n x y ln sp = 0 then va_up sc n ((cLn ln + cLn sp - 1) / cLn sp) else sc) (if cdPi lv pc n x y ln sp = 0 then va_up wd n 2000 else wd) (if cdPi lv pc n x y ln sp = 0 then va_up ht n 3000 else ht) sh (if cdPi lv pc n x y ln sp = 0 then va_up oh n 16777215 else oh) ba mw mh mk rm nm bs bc bp on wh (cdPi lv pc n x y ln sp) pc (if cdPi lv pc n x y ln sp = 0 then n + 1 else n) mc kc sl fo) H := by rw [hcd]; exact hP
                have hD9 : va_D A (wM cI cJ cZ qm lv (if cdPi lv pc n x y ln sp = 0 then va_up bg n (cN x) else bg) (if cdPi lv pc n x y ln sp = 0 then va_up en n (cN y) else en) (if cdPi lv pc n x y ln sp = 0 then va_up sc n ((cLn ln + cLn sp - 1) / cLn sp) else sc) (if cdPi lv pc n x y ln sp = 0 then va_up wd n 2000 else wd) (if cdPi lv pc n x y ln sp = 0 then va_up ht n 3000 else ht) sh (if cdPi lv pc n x y ln sp = 0 then va_up oh n 16777215 else oh) ba mw mh mk rm nm bs bc bp on wh (cdPi lv pc n x y ln sp) pc (if cdPi lv pc n x y ln sp = 0 then n + 1 else n) mc kc sl fo) := by rw [hcd]; exact hD
                exact W.iret hx hb hr (fun t ht hW => ⟨⟨_, (), rfl, (by rw [hcd]; rfl), by rw [ht]; exact hP9, va_K.moved hW.alike hK, hD9⟩, hS.F ht⟩) hS.2.2 dM_piece_142

set_option maxHeartbeats 4000000 in
set_option maxRecDepth 100000 in
theorem ct_M_lift (l : Launch) (dC : Nat → ClassId) (dI : Nat → Nat → Nat) (cI cJ cZ : ClassId) (qm : Nat → Nat) (lv mw mh mk : Nat → Nat) (pc mc kc : Nat) (bg en sc wd ht oh bt : Nat → Nat) (co n : Nat) (sh ba : Nat → Bool) (rm nm bs bc bp on wh : Nat → Nat) (cd sl fo : Nat) (x y : Int32) (se : Int64) (sz : Nat) (hG : bGp lv mw mh mk pc mc kc) (hB : bP bg en sc wd ht oh bt co n) : Met l yM_lift wsM_lift ({ frames := 2, cells := 0, slots := 0, locals := 46 }) (PcW (dC, dI) (wM cI cJ cZ qm lv bg en sc wd ht sh oh ba mw mh mk rm nm bs bc bp on wh cd pc n mc kc sl fo) (tyE cI cJ cZ) sz [.ref (qm 0), .int x, .int y, .long se]) (QwI (dC, dI) (nI (if cdLf lv pc n x y se = 0 then n else 0)) (wM cI cJ cZ qm lv (if cdLf lv pc n x y se = 0 then va_up (va_up bg n (cN x)) (n + 1) (cN y) else bg) (if cdLf lv pc n x y se = 0 then va_up (va_up en n (cN y)) (n + 1) (cN x) else en) (if cdLf lv pc n x y se = 0 then va_up (va_up sc n (cLn se)) (n + 1) (cLn se) else sc) (if cdLf lv pc n x y se = 0 then va_up (va_up wd n 2000) (n + 1) 2000 else wd) (if cdLf lv pc n x y se = 0 then va_up (va_up ht n 3000) (n + 1) 3000 else ht) sh (if cdLf lv pc n x y se = 0 then va_up (va_up oh n 16777215) (n + 1) 16777215 else oh) ba mw mh mk rm nm bs bc bp on wh (cdLf lv pc n x y se) pc (if cdLf lv pc n x y se = 0 then n + 1 + 1 else n) mc kc sl fo) (tyE cI cJ cZ) (va_A (wM cI cJ cZ qm lv bg en sc wd ht sh oh ba mw mh mk rm nm bs bc bp on wh cd pc n mc kc sl fo) sz)) 0 0 (va_A (wM cI cJ cZ qm lv bg en sc wd ht sh oh ba mw mh mk rm nm bs bc bp on wh cd pc n mc kc sl fo) sz) := by
  refine Met.ofW (cc := cM_lift) (maxL := 7) (ret := (some .int)) (by decide) rfl ?_
  intro p e s m args below meth c s₁ B hml hv
  obtain ⟨rfl, hsz, hP, hK, hD0, hE⟩ := hv
  have hx := B.exec
  have hb := B.bytes
  have hr := B.returns
  have hts := atoms_spec (ws := wsM_lift) B.pre
  have hg : ∀ w ∈ gw, w.before _ s = true := fun w h => hts w (List.mem_cons_of_mem _ h)
  have hown : s.vm.findClass nM = some m.cls := findClass_of_methodNamed B.named
  have hlocks := B.notSynchronized
  have hR : 2 ≤ (headSpec wsM_lift ({ frames := 2, cells := 0, slots := 0, locals := 46 })).room.frames ∧ 46 ≤ (headSpec wsM_lift ({ frames := 2, cells := 0, slots := 0, locals := 46 })).room.locals := ⟨Nat.le_refl _, Nat.le_refl _⟩
  have hcs : 0 ≤ (headSpec wsM_lift ({ frames := 2, cells := 0, slots := 0, locals := 46 })).room.cells ∧ 0 ≤ (headSpec wsM_lift ({ frames := 2, cells := 0, slots := 0, locals := 46 })).room.slots := ⟨Nat.zero_le _, Nat.zero_le _⟩
  subst hsz
  have hD := hD0.self (sz := s.heap.size)
  generalize hAe : va_A (wM cI cJ cZ qm lv bg en sc wd ht sh oh ba mw mh mk rm nm bs bc bp on wh cd pc n mc kc sl fo) s.heap.size = A at hD ⊢
  have hA : ∀ q : Nat, s.heap.size ≤ q → A q := fun q h => by rw [← hAe]; exact Or.inr h
  obtain ⟨H, hH⟩ : ∃ H, H = s.heap := ⟨_, rfl⟩
  have hS : va_S A s.heap H [] := by rw [hH]; exact va_S.rf
  rw [← hH] at hP ⊢
  have hpc := hG.1
  have hmc := hG.2.1
  have hkc := hG.2.2.1
  have hgi := hG.2.2.2
  have hbi := hB.2.2
  have hn := hB.1
  have hco := hB.2.1
  have hl := lv_entry ([.ref (qm 0), .int x, .int y, .long se]) (n := 7) (Nat.le_of_ble_eq_true rfl)
  rw [lg_entry_eq]
  generalize (lg_sl ([.ref (qm 0), .int x, .int y, .long se]) ++ List.replicate (7 - (lg_sl ([.ref (qm 0), .int x, .int y, .long se])).length) Slot.unset).toArray = ls at hl ⊢
  have hl : lv_has ls 7 [(0, .ref (qm 0)), (1, .int x), (2, .int y), (3, .long se)] := hl
  refine lv_aload_n hx hb dM_lift_0 rfl (lv_at hl 0 rfl) ?_
  refine lv_iload_n hx hb dM_lift_1 rfl (lv_at hl 1 rfl) ?_
  refine cpV_i (b := (qm 0)) (C := nM) (As := [.int x]) (rest := []) (post := fun r : Int32 => r = bI (inB x pc)) ⟨hx, hb, hml, hown, hts⟩ (ct_M_isPlace l dC dI cI cJ cZ qm lv mw mh mk pc mc kc bg en sc wd ht oh bt co n sh ba rm nm bs bc bp on wh cd sl fo x (hG) (hB)) (cwV 1 hts (gv kM_86 ki_M_isPlace ksel_M_isPlace kin_M kc_M_isPlace) rfl rfl rfl (by decide +kernel) ⟨Nat.le_trans (by decide) hR.1, Nat.le_trans (by decide) hR.2⟩) (va_recv hK hP (ci := 5) (q0 := 0) rfl rfl) hP hK hE rfl hl.1 rfl (Nat.le_of_ble_eq_true rfl) dM_lift_2 hcs (fun r hr => ?_)
  subst hr
  refine rb_eq (tgt := 31) hx hb dM_lift_5 (by decide) (fun c5 => ?_) (fun c5 => ?_)
  · refine rn_iconst hx hb 0 dM_lift_31 (by decide) ?_
    refine lv_istore (lv' := [(5, .int (nI 0)), (0, .ref (qm 0)), (1, .int x), (2, .int y), (3, .long se)]) hx hb dM_lift_32 hl (by decide) rfl (fun ls hl => ?_)
    refine lv_iload hx hb dM_lift_34 (lv_at hl 0 rfl) ?_
    refine lv_if_eq (tgt := 61) hx hb dM_lift_36 (by decide) (fun c36 => ?_) (fun c36 => absurd c36 (by decide))
    refine lv_aload_n hx hb dM_lift_61 rfl (lv_at hl 1 rfl) ?_
    refine lv_iload hx hb dM_lift_62 (lv_at hl 0 rfl) ?_
    refine lv_if_ne (tgt := 71) hx hb dM_lift_64 (by decide) (fun c64 => absurd c64 (by decide)) (fun c64 => ?_)
    refine rn_iconst hx hb 1 dM_lift_67 (by decide) ?_
    refine lv_goto (tgt := 85) hx hb dM_lift_68 (by decide) ?_
    refine va_put (D := (dC, dI)) (ci := 5) (v := .int (nI 1)) (ty := .int) (C := nM) (T := TM) (N := 26) hx hb hg inM tM tM_ok nmM hown hK hP hD hS 0 rfl rfl 0 (by decide) (hg _ kM_69) (fun _ h9 => h9) rfl (by decide +kernel) rfl rfl (Nat.le_of_ble_eq_true rfl) dM_lift_85 (fun H locs hP hD hS => ?_)
    have hP : va_P (dC, dI) vwCl (wM cI cJ cZ qm lv bg en sc wd ht sh oh ba mw mh mk rm nm bs bc bp on wh 1 pc n mc kc sl fo) H := hP
    have hD : va_D A (wM cI cJ cZ qm lv bg en sc wd ht sh oh ba mw mh mk rm nm bs bc bp on wh 1 pc n mc kc sl fo) := hD
    refine lv_aload_n hx hb dM_lift_88 rfl (lv_at hl 1 rfl) ?_
    refine va_get (D := (dC, dI)) (ci := 5) (v := .int (nI 1)) (C := nM) (T := TM) (N := 26) hx hb hg inM hown hK hP 0 rfl rfl 0 (by decide) (hg _ kM_69) (fun _ h9 => h9) rfl dM_lift_89 ?_
    refine lv_if_le (tgt := 97) hx hb dM_lift_92 (by decide) (fun c92 => absurd c92 (by decide)) (fun c92 => ?_)
    refine rn_iconst hx hb 0 dM_lift_95 (by decide) ?_
    have hcd : cdLf lv pc n x y se = 1 := by first | (simp [cdLf, c5]; done) | (simp [cdLf, c5]; omega)
    have hP9 : va_P (dC, dI) vwCl (wM cI cJ cZ qm lv (if cdLf lv pc n x y se = 0 then va_up (va_up bg n (cN x)) (n + 1) (cN y) else bg) (if cdLf lv pc n x y se = 0 then va_up (va_up en n (cN y)) (n + 1) (cN x) else en) (if cdLf lv pc n x y se = 0 then va_up (va_up sc n (cLn se)) (n + 1) (cLn se) else sc) (if cdLf lv pc n x y se = 0 then va_up (va_up wd n 2000) (n + 1) 2000 else wd) (if cdLf lv pc n x y se = 0 then va_up (va_up ht n 3000) (n + 1) 3000 else ht) sh (if cdLf lv pc n x y se = 0 then va_up (va_up oh n 16777215) (n + 1) 16777215 else oh) ba mw mh mk rm nm bs bc bp on wh (cdLf lv pc n x y se) pc (if cdLf lv pc n x y se = 0 then n + 1 + 1 else n) mc kc sl fo) H := by rw [hcd]; exact hP
    have hD9 : va_D A (wM cI cJ cZ qm lv (if cdLf lv pc n x y se = 0 then va_up (va_up bg n (cN x)) (n + 1) (cN y) else bg) (if cdLf lv pc n x y se = 0 then va_up (va_up en n (cN y)) (n + 1) (cN x) else en) (if cdLf lv pc n x y se = 0 then va_up (va_up sc n (cLn se)) (n + 1) (cLn se) else sc) (if cdLf lv pc n x y se = 0 then va_up (va_up wd n 2000) (n + 1) 2000 else wd) (if cdLf lv pc n x y se = 0 then va_up (va_up ht n 3000) (n + 1) 3000 else ht) sh (if cdLf lv pc n x y se = 0 then va_up (va_up oh n 16777215) (n + 1) 16777215 else oh) ba mw mh mk rm nm bs bc bp on wh (cdLf lv pc n x y se) pc (if cdLf lv pc n x y se = 0 then n + 1 + 1 else n) mc kc sl fo) := by rw [hcd]; exact hD
    exact W.iret hx hb hr (fun t ht hW => ⟨⟨_, (), rfl, (by rw [hcd]; rfl), by rw [ht]; exact hP9, va_K.moved hW.alike hK, hD9⟩, hS.F ht⟩) hS.2.2 dM_lift_96
  · refine lv_aload_n hx hb dM_lift_8 rfl (lv_at hl 0 rfl) ?_
    refine lv_iload_n hx hb dM_lift_9 rfl (lv_at hl 2 rfl) ?_
    refine cpV_i (b := (qm 0)) (C := nM) (As := [.int y]) (rest := []) (post := fun r : Int32 => r = bI (inB y pc)) ⟨hx, hb, hml, hown, hts⟩ (ct_M_isPlace l dC dI cI cJ cZ qm lv mw mh mk pc mc kc bg en sc wd ht oh bt co n sh ba rm nm bs bc bp on wh cd sl fo y (hG) (hB)) (cwV 1 hts (gv kM_86 ki_M_isPlace ksel_M_isPlace kin_M kc_M_isPlace) rfl rfl rfl (by decide +kernel) ⟨Nat.le_trans (by decide) hR.1, Nat.le_trans (by decide) hR.2⟩) (va_recv hK hP (ci := 5) (q0 := 0) rfl rfl) hP hK hE rfl hl.1 rfl (Nat.le_of_ble_eq_true rfl) dM_lift_10 hcs (fun r hr => ?_)
    subst hr
    refine rb_eq (tgt := 31) hx hb dM_lift_13 (by decide) (fun c13 => ?_) (fun c13 => ?_)
    · refine rn_iconst hx hb 0 dM_lift_31 (by decide) ?_
      refine lv_istore (lv' := [(5, .int (nI 0)), (0, .ref (qm 0)), (1, .int x), (2, .int y), (3, .long se)]) hx hb dM_lift_32 hl (by decide) rfl (fun ls hl => ?_)
      refine lv_iload hx hb dM_lift_34 (lv_at hl 0 rfl) ?_
      refine lv_if_eq (tgt := 61) hx hb dM_lift_36 (by decide) (fun c36 => ?_) (fun c36 => absurd c36 (by decide))
      refine lv_aload_n hx hb dM_lift_61 rfl (lv_at hl 1 rfl) ?_
      refine lv_iload hx hb dM_lift_62 (lv_at hl 0 rfl) ?_
      refine lv_if_ne (tgt := 71) hx hb dM_lift_64 (by decide) (fun c64 => absurd c64 (by decide)) (fun c64 => ?_)
      refine rn_iconst hx hb 1 dM_lift_67 (by decide) ?_
      refine lv_goto (tgt := 85) hx hb dM_lift_68 (by decide) ?_
      refine va_put (D := (dC, dI)) (ci := 5) (v := .int (nI 1)) (ty := .int) (C := nM) (T := TM) (N := 26) hx hb hg inM tM tM_ok nmM hown hK hP hD hS 0 rfl rfl 0 (by decide) (hg _ kM_69) (fun _ h9 => h9) rfl (by decide +kernel) rfl rfl (Nat.le_of_ble_eq_true rfl) dM_lift_85 (fun H locs hP hD hS => ?_)
      have hP : va_P (dC, dI) vwCl (wM cI cJ cZ qm lv bg en sc wd ht sh oh ba mw mh mk rm nm bs bc bp on wh 1 pc n mc kc sl fo) H := hP
      have hD : va_D A (wM cI cJ cZ qm lv bg en sc wd ht sh oh ba mw mh mk rm nm bs bc bp on wh 1 pc n mc kc sl fo) := hD
      refine lv_aload_n hx hb dM_lift_88 rfl (lv_at hl 1 rfl) ?_
      refine va_get (D := (dC, dI)) (ci := 5) (v := .int (nI 1)) (C := nM) (T := TM) (N := 26) hx hb hg inM hown hK hP 0 rfl rfl 0 (by decide) (hg _ kM_69) (fun _ h9 => h9) rfl dM_lift_89 ?_
      refine lv_if_le (tgt := 97) hx hb dM_lift_92 (by decide) (fun c92 => absurd c92 (by decide)) (fun c92 => ?_)
      refine rn_iconst hx hb 0 dM_lift_95 (by decide) ?_
      have hcd : cdLf lv pc n x y se = 1 := by first | (simp [cdLf, c5, c13]; done) | (simp [cdLf, c5, c13]; omega)
      have hP9 : va_P (dC, dI) vwCl (wM cI cJ cZ qm lv (if cdLf lv pc n x y se = 0 then va_up (va_up bg n (cN x)) (n + 1) (cN y) else bg) (if cdLf lv pc n x y se = 0 then va_up (va_up en n (cN y)) (n + 1) (cN x) else en) (if cdLf lv pc n x y se = 0 then va_up (va_up sc n (cLn se)) (n + 1) (cLn se) else sc) (if cdLf lv pc n x y se = 0 then va_up (va_up wd n 2000) (n + 1) 2000 else wd) (if cdLf lv pc n x y se = 0 then va_up (va_up ht n 3000) (n + 1) 3000 else ht) sh (if cdLf lv pc n x y se = 0 then va_up (va_up oh n 16777215) (n + 1) 16777215 else oh) ba mw mh mk rm nm bs bc bp on wh (cdLf lv pc n x y se) pc (if cdLf lv pc n x y se = 0 then n + 1 + 1 else n) mc kc sl fo) H := by rw [hcd]; exact hP
      have hD9 : va_D A (wM cI cJ cZ qm lv (if cdLf lv pc n x y se = 0 then va_up (va_up bg n (cN x)) (n + 1) (cN y) else bg) (if cdLf lv pc n x y se = 0 then va_up (va_up en n (cN y)) (n + 1) (cN x) else en) (if cdLf lv pc n x y se = 0 then va_up (va_up sc n (cLn se)) (n + 1) (cLn se) else sc) (if cdLf lv pc n x y se = 0 then va_up (va_up wd n 2000) (n + 1) 2000 else wd) (if cdLf lv pc n x y se = 0 then va_up (va_up ht n 3000) (n + 1) 3000 else ht) sh (if cdLf lv pc n x y se = 0 then va_up (va_up oh n 16777215) (n + 1) 16777215 else oh) ba mw mh mk rm nm bs bc bp on wh (cdLf lv pc n x y se) pc (if cdLf lv pc n x y se = 0 then n + 1 + 1 else n) mc kc sl fo) := by rw [hcd]; exact hD
      exact W.iret hx hb hr (fun t ht hW => ⟨⟨_, (), rfl, (by rw [hcd]; rfl), by rw [ht]; exact hP9, va_K.moved hW.alike hK, hD9⟩, hS.F ht⟩) hS.2.2 dM_lift_96
    · refine lv_lload_n hx hb dM_lift_16 rfl (lv_at hl 3 rfl) ?_
      refine rn_lconst hx hb 1 dM_lift_17 rfl ?_
      refine lv_ldc2 (v := 10000) hx hb hown (hg _ kM_92) dM_lift_18 ?_
      refine tp_l (y := lN 10000) rfl ?_
      refine cpS_i (As := [.long se, .long (lN 1), .long (lN 10000)]) (rest := []) (post := fun r : Int32 => r = bI (wiB se (lN 1) (lN 10000))) ⟨hx, hb, hml, hown, hts⟩ (ct_M_in l dC dI cI cJ cZ se (lN 1) (lN 10000) ) (va_cwS 3 hts (gs kM_76 ks_M_in kin_M kc_M_in) rfl rfl rfl (by decide +kernel) ⟨Nat.le_trans (by decide) hR.1, Nat.le_trans (by decide) hR.2⟩) (hP.sub (ws' := []) [] rfl) hK hE rfl hl.1 rfl (Nat.le_of_ble_eq_true rfl) dM_lift_21 hcs (fun r hr => ?_)
      subst hr
      refine rb_eq (tgt := 31) hx hb dM_lift_24 (by decide) (fun c24 => ?_) (fun c24 => ?_)
      · refine rn_iconst hx hb 0 dM_lift_31 (by decide) ?_
        refine lv_istore (lv' := [(5, .int (nI 0)), (0, .ref (qm 0)), (1, .int x), (2, .int y), (3, .long se)]) hx hb dM_lift_32 hl (by decide) rfl (fun ls hl => ?_)
        refine lv_iload hx hb dM_lift_34 (lv_at hl 0 rfl) ?_
        refine lv_if_eq (tgt := 61) hx hb dM_lift_36 (by decide) (fun c36 => ?_) (fun c36 => absurd c36 (by decide))
        refine lv_aload_n hx hb dM_lift_61 rfl (lv_at hl 1 rfl) ?_
        refine lv_iload hx hb dM_lift_62 (lv_at hl 0 rfl) ?_
        refine lv_if_ne (tgt := 71) hx hb dM_lift_64 (by decide) (fun c64 => absurd c64 (by decide)) (fun c64 => ?_)
        refine rn_iconst hx hb 1 dM_lift_67 (by decide) ?_
        refine lv_goto (tgt := 85) hx hb dM_lift_68 (by decide) ?_
        refine va_put (D := (dC, dI)) (ci := 5) (v := .int (nI 1)) (ty := .int) (C := nM) (T := TM) (N := 26) hx hb hg inM tM tM_ok nmM hown hK hP hD hS 0 rfl rfl 0 (by decide) (hg _ kM_69) (fun _ h9 => h9) rfl (by decide +kernel) rfl rfl (Nat.le_of_ble_eq_true rfl) dM_lift_85 (fun H locs hP hD hS => ?_)
        have hP : va_P (dC, dI) vwCl (wM cI cJ cZ qm lv bg en sc wd ht sh oh ba mw mh mk rm nm bs bc bp on wh 1 pc n mc kc sl fo) H := hP
        have hD : va_D A (wM cI cJ cZ qm lv bg en sc wd ht sh oh ba mw mh mk rm nm bs bc bp on wh 1 pc n mc kc sl fo) := hD
        refine lv_aload_n hx hb dM_lift_88 rfl (lv_at hl 1 rfl) ?_
        refine va_get (D := (dC, dI)) (ci := 5) (v := .int (nI 1)) (C := nM) (T := TM) (N := 26) hx hb hg inM hown hK hP 0 rfl rfl 0 (by decide) (hg _ kM_69) (fun _ h9 => h9) rfl dM_lift_89 ?_
        refine lv_if_le (tgt := 97) hx hb dM_lift_92 (by decide) (fun c92 => absurd c92 (by decide)) (fun c92 => ?_)
        refine rn_iconst hx hb 0 dM_lift_95 (by decide) ?_
        have hcd : cdLf lv pc n x y se = 1 := by first | (simp [cdLf, c5, c13, c24]; done) | (simp [cdLf, c5, c13, c24]; omega)
        have hP9 : va_P (dC, dI) vwCl (wM cI cJ cZ qm lv (if cdLf lv pc n x y se = 0 then va_up (va_up bg n (cN x)) (n + 1) (cN y) else bg) (if cdLf lv pc n x y se = 0 then va_up (va_up en n (cN y)) (n + 1) (cN x) else en) (if cdLf lv pc n x y se = 0 then va_up (va_up sc n (cLn se)) (n + 1) (cLn se) else sc) (if cdLf lv pc n x y se = 0 then va_up (va_up wd n 2000) (n + 1) 2000 else wd) (if cdLf lv pc n x y se = 0 then va_up (va_up ht n 3000) (n + 1) 3000 else ht) sh (if cdLf lv pc n x y se = 0 then va_up (va_up oh n 16777215) (n + 1) 16777215 else oh) ba mw mh mk rm nm bs bc bp on wh (cdLf lv pc n x y se) pc (if cdLf lv pc n x y se = 0 then n + 1 + 1 else n) mc kc sl fo) H := by rw [hcd]; exact hP
        have hD9 : va_D A (wM cI cJ cZ qm lv (if cdLf lv pc n x y se = 0 then va_up (va_up bg n (cN x)) (n + 1) (cN y) else bg) (if cdLf lv pc n x y se = 0 then va_up (va_up en n (cN y)) (n + 1) (cN x) else en) (if cdLf lv pc n x y se = 0 then va_up (va_up sc n (cLn se)) (n + 1) (cLn se) else sc) (if cdLf lv pc n x y se = 0 then va_up (va_up wd n 2000) (n + 1) 2000 else wd) (if cdLf lv pc n x y se = 0 then va_up (va_up ht n 3000) (n + 1) 3000 else ht) sh (if cdLf lv pc n x y se = 0 then va_up (va_up oh n 16777215) (n + 1) 16777215 else oh) ba mw mh mk rm nm bs bc bp on wh (cdLf lv pc n x y se) pc (if cdLf lv pc n x y se = 0 then n + 1 + 1 else n) mc kc sl fo) := by rw [hcd]; exact hD
        exact W.iret hx hb hr (fun t ht hW => ⟨⟨_, (), rfl, (by rw [hcd]; rfl), by rw [ht]; exact hP9, va_K.moved hW.alike hK, hD9⟩, hS.F ht⟩) hS.2.2 dM_lift_96
      · refine rn_iconst hx hb 1 dM_lift_27 (by decide) ?_
        refine lv_goto (tgt := 32) hx hb dM_lift_28 (by decide) ?_
        refine lv_istore (lv' := [(5, .int (nI 1)), (0, .ref (qm 0)), (1, .int x), (2, .int y), (3, .long se)]) hx hb dM_lift_32 hl (by decide) rfl (fun ls hl => ?_)
        refine lv_iload hx hb dM_lift_34 (lv_at hl 0 rfl) ?_
        refine lv_if_eq (tgt := 61) hx hb dM_lift_36 (by decide) (fun c36 => absurd c36 (by decide)) (fun c36 => ?_)
        obtain ⟨j, hj, ej⟩ := in_of c5 (by omega)
        obtain ⟨k, hk, ek⟩ := in_of c13 (by omega)
        have e1 : cN x = j := by rw [ej]; exact cN_n (by omega)
        have e2 : cN y = k := by rw [ek]; exact cN_n (by omega)
        have gj := hgi j
        have gk := hgi k
        have hl : lv_has ls 7 [(5, .int (nI 1)), (0, .ref (qm 0)), (1, .int (nI j)), (2, .int (nI k)), (3, .long se)] := by rw [ej, ek] at hl; exact hl
        refine lv_aload_n hx hb dM_lift_39 rfl (lv_at hl 1 rfl) ?_
        refine va_get (D := (dC, dI)) (ci := 5) (v := .ref (qm 1)) (C := nM) (T := TM) (N := 26) hx hb hg inM hown hK hP 0 rfl rfl 2 (by decide) (hg _ kM_7) (fun _ h9 => h9) rfl dM_lift_40 ?_
        refine lv_iload_n hx hb dM_lift_43 rfl (lv_at hl 2 rfl) ?_
        refine ga_i (f := lv) hx hb hK hP 1 0 rfl rfl (by omega) (by decide) dM_lift_44 ?_
        refine lv_aload_n hx hb dM_lift_45 rfl (lv_at hl 1 rfl) ?_
        refine va_get (D := (dC, dI)) (ci := 5) (v := .ref (qm 1)) (C := nM) (T := TM) (N := 26) hx hb hg inM hown hK hP 0 rfl rfl 2 (by decide) (hg _ kM_7) (fun _ h9 => h9) rfl dM_lift_46 ?_
        refine lv_iload_n hx hb dM_lift_49 rfl (lv_at hl 3 rfl) ?_
        refine ga_i (f := lv) hx hb hK hP 1 0 rfl rfl (by omega) (by decide) dM_lift_50 ?_
        refine rn_icmp_eq (tgt := 58) hx hb dM_lift_51 (by decide) (by omega) (by omega) (fun c51 => ?_) (fun c51 => ?_)
        · refine rn_iconst hx hb 0 dM_lift_58 (by decide) ?_
          refine lv_istore (lv' := [(5, .int (nI 0)), (0, .ref (qm 0)), (1, .int (nI j)), (2, .int (nI k)), (3, .long se)]) hx hb dM_lift_59 hl (by decide) rfl (fun ls hl => ?_)
          refine lv_aload_n hx hb dM_lift_61 rfl (lv_at hl 1 rfl) ?_
          refine lv_iload hx hb dM_lift_62 (lv_at hl 0 rfl) ?_
          refine lv_if_ne (tgt := 71) hx hb dM_lift_64 (by decide) (fun c64 => absurd c64 (by decide)) (fun c64 => ?_)
          refine rn_iconst hx hb 1 dM_lift_67 (by decide) ?_
          refine lv_goto (tgt := 85) hx hb dM_lift_68 (by decide) ?_
          refine va_put (D := (dC, dI)) (ci := 5) (v := .int (nI 1)) (ty := .int) (C := nM) (T := TM) (N := 26) hx hb hg inM tM tM_ok nmM hown hK hP hD hS 0 rfl rfl 0 (by decide) (hg _ kM_69) (fun _ h9 => h9) rfl (by decide +kernel) rfl rfl (Nat.le_of_ble_eq_true rfl) dM_lift_85 (fun H locs hP hD hS => ?_)
          have hP : va_P (dC, dI) vwCl (wM cI cJ cZ qm lv bg en sc wd ht sh oh ba mw mh mk rm nm bs bc bp on wh 1 pc n mc kc sl fo) H := hP
          have hD : va_D A (wM cI cJ cZ qm lv bg en sc wd ht sh oh ba mw mh mk rm nm bs bc bp on wh 1 pc n mc kc sl fo) := hD
          refine lv_aload_n hx hb dM_lift_88 rfl (lv_at hl 1 rfl) ?_
          refine va_get (D := (dC, dI)) (ci := 5) (v := .int (nI 1)) (C := nM) (T := TM) (N := 26) hx hb hg inM hown hK hP 0 rfl rfl 0 (by decide) (hg _ kM_69) (fun _ h9 => h9) rfl dM_lift_89 ?_
          refine lv_if_le (tgt := 97) hx hb dM_lift_92 (by decide) (fun c92 => absurd c92 (by decide)) (fun c92 => ?_)
          refine rn_iconst hx hb 0 dM_lift_95 (by decide) ?_
          have hcd : cdLf lv pc n x y se = 1 := by first | (simp [cdLf, c5, c13, c24, e1, e2, c51]; done) | (simp [cdLf, c5, c13, c24, e1, e2, c51]; omega)
          have hP9 : va_P (dC, dI) vwCl (wM cI cJ cZ qm lv (if cdLf lv pc n x y se = 0 then va_up (va_up bg n (cN x)) (n + 1) (cN y) else bg) (if cdLf lv pc n x y se = 0 then va_up (va_up en n (cN y)) (n + 1) (cN x) else en) (if cdLf lv pc n x y se = 0 then va_up (va_up sc n (cLn se)) (n + 1) (cLn se) else sc) (if cdLf lv pc n x y se = 0 then va_up (va_up wd n 2000) (n + 1) 2000 else wd) (if cdLf lv pc n x y se = 0 then va_up (va_up ht n 3000) (n + 1) 3000 else ht) sh (if cdLf lv pc n x y se = 0 then va_up (va_up oh n 16777215) (n + 1) 16777215 else oh) ba mw mh mk rm nm bs bc bp on wh (cdLf lv pc n x y se) pc (if cdLf lv pc n x y se = 0 then n + 1 + 1 else n) mc kc sl fo) H := by rw [hcd]; exact hP
          have hD9 : va_D A (wM cI cJ cZ qm lv (if cdLf lv pc n x y se = 0 then va_up (va_up bg n (cN x)) (n + 1) (cN y) else bg) (if cdLf lv pc n x y se = 0 then va_up (va_up en n (cN y)) (n + 1) (cN x) else en) (if cdLf lv pc n x y se = 0 then va_up (va_up sc n (cLn se)) (n + 1) (cLn se) else sc) (if cdLf lv pc n x y se = 0 then va_up (va_up wd n 2000) (n + 1) 2000 else wd) (if cdLf lv pc n x y se = 0 then va_up (va_up ht n 3000) (n + 1) 3000 else ht) sh (if cdLf lv pc n x y se = 0 then va_up (va_up oh n 16777215) (n + 1) 16777215 else oh) ba mw mh mk rm nm bs bc bp on wh (cdLf lv pc n x y se) pc (if cdLf lv pc n x y se = 0 then n + 1 + 1 else n) mc kc sl fo) := by rw [hcd]; exact hD
          exact W.iret hx hb hr (fun t ht hW => ⟨⟨_, (), rfl, (by rw [hcd]; rfl), by rw [ht]; exact hP9, va_K.moved hW.alike hK, hD9⟩, hS.F ht⟩) hS.2.2 dM_lift_96
        · refine rn_iconst hx hb 1 dM_lift_54 (by decide) ?_
          refine lv_goto (tgt := 59) hx hb dM_lift_55 (by decide) ?_
          refine lv_istore (lv' := [(5, .int (nI 1)), (0, .ref (qm 0)), (1, .int (nI j)), (2, .int (nI k)), (3, .long se)]) hx hb dM_lift_59 hl (by decide) rfl (fun ls hl => ?_)
          refine lv_aload_n hx hb dM_lift_61 rfl (lv_at hl 1 rfl) ?_
          refine lv_iload hx hb dM_lift_62 (lv_at hl 0 rfl) ?_
          refine lv_if_ne (tgt := 71) hx hb dM_lift_64 (by decide) (fun c64 => ?_) (fun c64 => absurd c64 (by decide))
          refine lv_aload_n hx hb dM_lift_71 rfl (lv_at hl 1 rfl) ?_
          refine va_get (D := (dC, dI)) (ci := 5) (v := .int (nI n)) (C := nM) (T := TM) (N := 26) hx hb hg inM hown hK hP 0 rfl rfl 3 (by decide) (hg _ kM_80) (fun _ h9 => h9) rfl dM_lift_72 ?_
          refine rn_bipush hx hb 38 dM_lift_75 (by decide) ?_
          refine rn_icmp_le (tgt := 84) hx hb dM_lift_77 (by decide) (by omega) (by omega) (fun c77 => ?_) (fun c77 => ?_)
          · refine rn_iconst hx hb 0 dM_lift_84 (by decide) ?_
            refine va_put (D := (dC, dI)) (ci := 5) (v := .int (nI 0)) (ty := .int) (C := nM) (T := TM) (N := 26) hx hb hg inM tM tM_ok nmM hown hK hP hD hS 0 rfl rfl 0 (by decide) (hg _ kM_69) (fun _ h9 => h9) rfl (by decide +kernel) rfl rfl (Nat.le_of_ble_eq_true rfl) dM_lift_85 (fun H locs hP hD hS => ?_)
            have hP : va_P (dC, dI) vwCl (wM cI cJ cZ qm lv bg en sc wd ht sh oh ba mw mh mk rm nm bs bc bp on wh 0 pc n mc kc sl fo) H := hP
            have hD : va_D A (wM cI cJ cZ qm lv bg en sc wd ht sh oh ba mw mh mk rm nm bs bc bp on wh 0 pc n mc kc sl fo) := hD
            refine lv_aload_n hx hb dM_lift_88 rfl (lv_at hl 1 rfl) ?_
            refine va_get (D := (dC, dI)) (ci := 5) (v := .int (nI 0)) (C := nM) (T := TM) (N := 26) hx hb hg inM hown hK hP 0 rfl rfl 0 (by decide) (hg _ kM_69) (fun _ h9 => h9) rfl dM_lift_89 ?_
            refine lv_if_le (tgt := 97) hx hb dM_lift_92 (by decide) (fun c92 => ?_) (fun c92 => absurd c92 (by decide))
            obtain ⟨a, ha1, ha2, ea⟩ := wl_of c24 (by decide) (by decide)
            have e3 : cLn se = a := by rw [ea]; exact cL_n (by omega)
            have hl : lv_has ls 7 [(5, .int (nI 1)), (0, .ref (qm 0)), (1, .int (nI j)), (2, .int (nI k)), (3, .long (lN a))] := by rw [ea] at hl; exact hl
            refine lv_aload_n hx hb dM_lift_97 rfl (lv_at hl 1 rfl) ?_
            refine lv_iload_n hx hb dM_lift_98 rfl (lv_at hl 2 rfl) ?_
            refine lv_iload_n hx hb dM_lift_99 rfl (lv_at hl 3 rfl) ?_
            refine lv_lload_n hx hb dM_lift_100 rfl (lv_at hl 4 rfl) ?_
            refine kwV_i (D := (dC, dI)) (r0 := nI n) (b := (qm 0)) (C := nM) (As := [.int (nI j), .int (nI k), .long (lN a)]) (rest := []) (wc := (wM cI cJ cZ qm lv bg en sc wd ht sh oh ba mw mh mk rm nm bs bc bp on wh 0 pc n mc kc sl fo)) (wr := []) (w1 := (wM cI cJ cZ qm lv (va_up bg n j) (va_up en n k) (va_up sc n a) (va_up wd n 2000) (va_up ht n 3000) sh (va_up oh n 16777215) ba mw mh mk rm nm bs bc bp on wh 0 pc (n + 1) mc kc sl fo)) (wn := (wM cI cJ cZ qm lv (va_up bg n j) (va_up en n k) (va_up sc n a) (va_up wd n 2000) (va_up ht n 3000) sh (va_up oh n 16777215) ba mw mh mk rm nm bs bc bp on wh 0 pc (n + 1) mc kc sl fo)) ⟨hx, hb, hml, hown, hts⟩ (ct_M_add l dC dI cI cJ cZ qm lv mw mh mk pc mc kc bg en sc wd ht oh bt co n sh ba rm nm bs bc bp on wh 0 sl fo j k a H.size (hG) (hB) (by omega)) (cwV 3 hts (gv kM_94 ki_M_add ksel_M_add kin_M kc_M_add) rfl rfl rfl (by decide +kernel) ⟨Nat.le_trans (by decide) hR.1, Nat.le_trans (by decide) hR.2⟩) (va_recv hK hP (ci := 5) (q0 := 0) rfl rfl) hP hD hK hE hS hA [0, 1, 2, 3, 4, 5, 6, 7, 8, 9, 10, 11, 12, 13, 14, 15, 16, 17, 18, 19] [] [0, 1, 2, 3, 4, 5, 6, 7, 8, 9, 10, 11, 12, 13, 14, 15, 16, 17, 18, 19] rfl (by decide) rfl (by decide) (by decide) rfl (by decide) rfl hl.1 rfl (Nat.le_of_ble_eq_true rfl) dM_lift_101 hcs (fun H locs hP hD hS => ?_)
            refine lv_istore (lv' := [(6, .int (nI n)), (5, .int (nI 1)), (0, .ref (qm 0)), (1, .int (nI j)), (2, .int (nI k)), (3, .long (lN a))]) hx hb dM_lift_104 hl (by decide) rfl (fun ls hl => ?_)
            refine lv_aload_n hx hb dM_lift_106 rfl (lv_at hl 2 rfl) ?_
            refine lv_iload_n hx hb dM_lift_107 rfl (lv_at hl 4 rfl) ?_
            refine lv_iload_n hx hb dM_lift_108 rfl (lv_at hl 3 rfl) ?_
            refine lv_lload_n hx hb dM_lift_109 rfl (lv_at hl 5 rfl) ?_
            refine kwV_i (D := (dC, dI)) (r0 := nI (n + 1)) (b := (qm 0)) (C := nM) (As := [.int (nI k), .int (nI j), .long (lN a)]) (rest := []) (wc := (wM cI cJ cZ qm lv (va_up bg n j) (va_up en n k) (va_up sc n a) (va_up wd n 2000) (va_up ht n 3000) sh (va_up oh n 16777215) ba mw mh mk rm nm bs bc bp on wh 0 pc (n + 1) mc kc sl fo)) (wr := []) (w1 := (wM cI cJ cZ qm lv (va_up (va_up bg n j) (n + 1) k) (va_up (va_up en n k) (n + 1) j) (va_up (va_up sc n a) (n + 1) a) (va_up (va_up wd n 2000) (n + 1) 2000) (va_up (va_up ht n 3000) (n + 1) 3000) sh (va_up (va_up oh n 16777215) (n + 1) 16777215) ba mw mh mk rm nm bs bc bp on wh 0 pc ((n + 1) + 1) mc kc sl fo)) (wn := (wM cI cJ cZ qm lv (va_up (va_up bg n j) (n + 1) k) (va_up (va_up en n k) (n + 1) j) (va_up (va_up sc n a) (n + 1) a) (va_up (va_up wd n 2000) (n + 1) 2000) (va_up (va_up ht n 3000) (n + 1) 3000) sh (va_up (va_up oh n 16777215) (n + 1) 16777215) ba mw mh mk rm nm bs bc bp on wh 0 pc ((n + 1) + 1) mc kc sl fo)) ⟨hx, hb, hml, hown, hts⟩ (ct_M_add l dC dI cI cJ cZ qm lv mw mh mk pc mc kc (va_up bg n j) (va_up en n k) (va_up sc n a) (va_up wd n 2000) (va_up ht n 3000) (va_up oh n 16777215) bt co (n + 1) sh ba rm nm bs bc bp on wh 0 sl fo k j a H.size (hG) (bP_add hB (by omega) (by omega) (by omega) (by omega)) (by omega)) (cwV 3 hts (gv kM_94 ki_M_add ksel_M_add kin_M kc_M_add) rfl rfl rfl (by decide +kernel) ⟨Nat.le_trans (by decide) hR.1, Nat.le_trans (by decide) hR.2⟩) (va_recv hK hP (ci := 5) (q0 := 0) rfl rfl) hP hD hK hE hS hA [0, 1, 2, 3, 4, 5, 6, 7, 8, 9, 10, 11, 12, 13, 14, 15, 16, 17, 18, 19] [] [0, 1, 2, 3, 4, 5, 6, 7, 8, 9, 10, 11, 12, 13, 14, 15, 16, 17, 18, 19] rfl (by decide) rfl (by decide) (by decide) rfl (by decide) rfl hl.1 rfl (Nat.le_of_ble_eq_true rfl) dM_lift_110 hcs (fun H locs hP hD hS => ?_)
            refine lv_pop hx hb dM_lift_113 rfl ?_
            refine lv_iload hx hb dM_lift_114 (lv_at hl 0 rfl) ?_
            have hcd : cdLf lv pc n x y se = 0 := by first | (simp [cdLf, c5, c13, c24, e1, e2, c51, c77]; done) | (simp [cdLf, c5, c13, c24, e1, e2, c51, c77]; omega)
            have hP9 : va_P (dC, dI) vwCl (wM cI cJ cZ qm lv (if cdLf lv pc n x y se = 0 then va_up (va_up bg n (cN x)) (n + 1) (cN y) else bg) (if cdLf lv pc n x y se = 0 then va_up (va_up en n (cN y)) (n + 1) (cN x) else en) (if cdLf lv pc n x y se = 0 then va_up (va_up sc n (cLn se)) (n + 1) (cLn se) else sc) (if cdLf lv pc n x y se = 0 then va_up (va_up wd n 2000) (n + 1) 2000 else wd) (if cdLf lv pc n x y se = 0 then va_up (va_up ht n 3000) (n + 1) 3000 else ht) sh (if cdLf lv pc n x y se = 0 then va_up (va_up oh n 16777215) (n + 1) 16777215 else oh) ba mw mh mk rm nm bs bc bp on wh (cdLf lv pc n x y se) pc (if cdLf lv pc n x y se = 0 then n + 1 + 1 else n) mc kc sl fo) H := by rw [hcd, e1, e2, e3]; exact hP
            have hD9 : va_D A (wM cI cJ cZ qm lv (if cdLf lv pc n x y se = 0 then va_up (va_up bg n (cN x)) (n + 1) (cN y) else bg) (if cdLf lv pc n x y se = 0 then va_up (va_up en n (cN y)) (n + 1) (cN x) else en) (if cdLf lv pc n x y se = 0 then va_up (va_up sc n (cLn se)) (n + 1) (cLn se) else sc) (if cdLf lv pc n x y se = 0 then va_up (va_up wd n 2000) (n + 1) 2000 else wd) (if cdLf lv pc n x y se = 0 then va_up (va_up ht n 3000) (n + 1) 3000 else ht) sh (if cdLf lv pc n x y se = 0 then va_up (va_up oh n 16777215) (n + 1) 16777215 else oh) ba mw mh mk rm nm bs bc bp on wh (cdLf lv pc n x y se) pc (if cdLf lv pc n x y se = 0 then n + 1 + 1 else n) mc kc sl fo) := by rw [hcd, e1, e2, e3]; exact hD
            exact W.iret hx hb hr (fun t ht hW => ⟨⟨_, (), rfl, (by rw [hcd]; rfl), by rw [ht]; exact hP9, va_K.moved hW.alike hK, hD9⟩, hS.F ht⟩) hS.2.2 dM_lift_116
          · refine rn_iconst hx hb 2 dM_lift_80 (by decide) ?_
            refine lv_goto (tgt := 85) hx hb dM_lift_81 (by decide) ?_
            refine va_put (D := (dC, dI)) (ci := 5) (v := .int (nI 2)) (ty := .int) (C := nM) (T := TM) (N := 26) hx hb hg inM tM tM_ok nmM hown hK hP hD hS 0 rfl rfl 0 (by decide) (hg _ kM_69) (fun _ h9 => h9) rfl (by decide +kernel) rfl rfl (Nat.le_of_ble_eq_true rfl) dM_lift_85 (fun H locs hP hD hS => ?_)
            have hP : va_P (dC, dI) vwCl (wM cI cJ cZ qm lv bg en sc wd ht sh oh ba mw mh mk rm nm bs bc bp on wh 2 pc n mc kc sl fo) H := hP
            have hD : va_D A (wM cI cJ cZ qm lv bg en sc wd ht sh oh ba mw mh mk rm nm bs bc bp on wh 2 pc n mc kc sl fo) := hD
            refine lv_aload_n hx hb dM_lift_88 rfl (lv_at hl 1 rfl) ?_
            refine va_get (D := (dC, dI)) (ci := 5) (v := .int (nI 2)) (C := nM) (T := TM) (N := 26) hx hb hg inM hown hK hP 0 rfl rfl 0 (by decide) (hg _ kM_69) (fun _ h9 => h9) rfl dM_lift_89 ?_
            refine lv_if_le (tgt := 97) hx hb dM_lift_92 (by decide) (fun c92 => absurd c92 (by decide)) (fun c92 => ?_)
            refine rn_iconst hx hb 0 dM_lift_95 (by decide) ?_
            have hcd : cdLf lv pc n x y se = 2 := by first | (simp [cdLf, c5, c13, c24, e1, e2, c51, c77]; done) | (simp [cdLf, c5, c13, c24, e1, e2, c51, c77]; omega)
            have hP9 : va_P (dC, dI) vwCl (wM cI cJ cZ qm lv (if cdLf lv pc n x y se = 0 then va_up (va_up bg n (cN x)) (n + 1) (cN y) else bg) (if cdLf lv pc n x y se = 0 then va_up (va_up en n (cN y)) (n + 1) (cN x) else en) (if cdLf lv pc n x y se = 0 then va_up (va_up sc n (cLn se)) (n + 1) (cLn se) else sc) (if cdLf lv pc n x y se = 0 then va_up (va_up wd n 2000) (n + 1) 2000 else wd) (if cdLf lv pc n x y se = 0 then va_up (va_up ht n 3000) (n + 1) 3000 else ht) sh (if cdLf lv pc n x y se = 0 then va_up (va_up oh n 16777215) (n + 1) 16777215 else oh) ba mw mh mk rm nm bs bc bp on wh (cdLf lv pc n x y se) pc (if cdLf lv pc n x y se = 0 then n + 1 + 1 else n) mc kc sl fo) H := by rw [hcd]; exact hP
            have hD9 : va_D A (wM cI cJ cZ qm lv (if cdLf lv pc n x y se = 0 then va_up (va_up bg n (cN x)) (n + 1) (cN y) else bg) (if cdLf lv pc n x y se = 0 then va_up (va_up en n (cN y)) (n + 1) (cN x) else en) (if cdLf lv pc n x y se = 0 then va_up (va_up sc n (cLn se)) (n + 1) (cLn se) else sc) (if cdLf lv pc n x y se = 0 then va_up (va_up wd n 2000) (n + 1) 2000 else wd) (if cdLf lv pc n x y se = 0 then va_up (va_up ht n 3000) (n + 1) 3000 else ht) sh (if cdLf lv pc n x y se = 0 then va_up (va_up oh n 16777215) (n + 1) 16777215 else oh) ba mw mh mk rm nm bs bc bp on wh (cdLf lv pc n x y se) pc (if cdLf lv pc n x y se = 0 then n + 1 + 1 else n) mc kc sl fo) := by rw [hcd]; exact hD
            exact W.iret hx hb hr (fun t ht hW => ⟨⟨_, (), rfl, (by rw [hcd]; rfl), by rw [ht]; exact hP9, va_K.moved hW.alike hK, hD9⟩, hS.F ht⟩) hS.2.2 dM_lift_96

set_option maxHeartbeats 4000000 in
set_option maxRecDepth 100000 in
theorem ct_M_limit (l : Launch) (dC : Nat → ClassId) (dI : Nat → Nat → Nat) (cI cJ cZ : ClassId) (qm : Nat → Nat) (lv mw mh mk : Nat → Nat) (pc mc kc : Nat) (bg en sc wd ht oh bt : Nat → Nat) (co n : Nat) (sh ba : Nat → Bool) (rm nm bs bc bp on wh : Nat → Nat) (cd sl fo : Nat) (x w : Int32) (h : Int64) (sz : Nat) (hG : bGp lv mw mh mk pc mc kc) (hB : bP bg en sc wd ht oh bt co n) : Met l yM_limit wsM_limit ({ frames := 2, cells := 0, slots := 0, locals := 46 }) (PcW (dC, dI) (wM cI cJ cZ qm lv bg en sc wd ht sh oh ba mw mh mk rm nm bs bc bp on wh cd pc n mc kc sl fo) (tyE cI cJ cZ) sz [.ref (qm 0), .int x, .int w, .long h]) (QwV (dC, dI) (wM cI cJ cZ qm lv bg en sc (if cdLi n x w h = 0 then va_up wd (cN x) (cN w) else wd) (if cdLi n x w h = 0 then va_up ht (cN x) (cLn h) else ht) sh oh ba mw mh mk rm nm bs bc bp on wh (cdLi n x w h) pc n mc kc sl fo) (tyE cI cJ cZ) (va_A (wM cI cJ cZ qm lv bg en sc wd ht sh oh ba mw mh mk rm nm bs bc bp on wh cd pc n mc kc sl fo) sz)) 0 0 (va_A (wM cI cJ cZ qm lv bg en sc wd ht sh oh ba mw mh mk rm nm bs bc bp on wh cd pc n mc kc sl fo) sz) := by
  refine Met.ofW (cc := cM_limit) (maxL := 5) (ret := none) (by decide) rfl ?_
  intro p e s m args below meth c s₁ B hml hv
  obtain ⟨rfl, hsz, hP, hK, hD0, hE⟩ := hv
  have hx := B.exec
  have hb := B.bytes
  have hr := B.returns
  have hts := atoms_spec (ws := wsM_limit) B.pre
  have hg : ∀ w ∈ gw, w.before _ s = true := fun w h => hts w (List.mem_cons_of_mem _ h)
  have hown : s.vm.findClass nM = some m.cls := findClass_of_methodNamed B.named
  have hlocks := B.notSynchronized
  have hR : 2 ≤ (headSpec wsM_limit ({ frames := 2, cells := 0, slots := 0, locals := 46 })).room.frames ∧ 46 ≤ (headSpec wsM_limit ({ frames := 2, cells := 0, slots := 0, locals := 46 })).room.locals := ⟨Nat.le_refl _, Nat.le_refl _⟩
  have hcs : 0 ≤ (headSpec wsM_limit ({ frames := 2, cells := 0, slots := 0, locals := 46 })).room.cells ∧ 0 ≤ (headSpec wsM_limit ({ frames := 2, cells := 0, slots := 0, locals := 46 })).room.slots := ⟨Nat.zero_le _, Nat.zero_le _⟩
  subst hsz
  have hD := hD0.self (sz := s.heap.size)
  generalize hAe : va_A (wM cI cJ cZ qm lv bg en sc wd ht sh oh ba mw mh mk rm nm bs bc bp on wh cd pc n mc kc sl fo) s.heap.size = A at hD ⊢
  have hA : ∀ q : Nat, s.heap.size ≤ q → A q := fun q h => by rw [← hAe]; exact Or.inr h
  obtain ⟨H, hH⟩ : ∃ H, H = s.heap := ⟨_, rfl⟩
  have hS : va_S A s.heap H [] := by rw [hH]; exact va_S.rf
  rw [← hH] at hP ⊢
  have hpc := hG.1
  have hmc := hG.2.1
  have hkc := hG.2.2.1
  have hgi := hG.2.2.2
  have hbi := hB.2.2
  have hn := hB.1
  have hco := hB.2.1
  have hl := lv_entry ([.ref (qm 0), .int x, .int w, .long h]) (n := 5) (Nat.le_of_ble_eq_true rfl)
  rw [lg_entry_eq]
  generalize (lg_sl ([.ref (qm 0), .int x, .int w, .long h]) ++ List.replicate (5 - (lg_sl ([.ref (qm 0), .int x, .int w, .long h])).length) Slot.unset).toArray = ls at hl ⊢
  have hl : lv_has ls 5 [(0, .ref (qm 0)), (1, .int x), (2, .int w), (3, .long h)] := hl
  refine lv_aload_n hx hb dM_limit_0 rfl (lv_at hl 0 rfl) ?_
  refine lv_aload_n hx hb dM_limit_1 rfl (lv_at hl 0 rfl) ?_
  refine lv_iload_n hx hb dM_limit_2 rfl (lv_at hl 1 rfl) ?_
  refine cpV_i (b := (qm 0)) (C := nM) (As := [.int x]) (rest := [.ref (qm 0)]) (post := fun r : Int32 => r = bI (inB x n)) ⟨hx, hb, hml, hown, hts⟩ (ct_M_isPiece l dC dI cI cJ cZ qm lv mw mh mk pc mc kc bg en sc wd ht oh bt co n sh ba rm nm bs bc bp on wh cd sl fo x (hG) (hB)) (cwV 1 hts (gv kM_98 ki_M_isPiece ksel_M_isPiece kin_M kc_M_isPiece) rfl rfl rfl (by decide +kernel) ⟨Nat.le_trans (by decide) hR.1, Nat.le_trans (by decide) hR.2⟩) (va_recv hK hP (ci := 5) (q0 := 0) rfl rfl) hP hK hE rfl hl.1 rfl (Nat.le_of_ble_eq_true rfl) dM_limit_3 hcs (fun r hr => ?_)
  subst hr
  refine rb_eq (tgt := 32) hx hb dM_limit_6 (by decide) (fun c6 => ?_) (fun c6 => ?_)
  · refine rn_iconst hx hb 1 dM_limit_32 (by decide) ?_
    refine lv_goto (tgt := 37) hx hb dM_limit_33 (by decide) ?_
    refine va_put (D := (dC, dI)) (ci := 5) (v := .int (nI 1)) (ty := .int) (C := nM) (T := TM) (N := 26) hx hb hg inM tM tM_ok nmM hown hK hP hD hS 0 rfl rfl 0 (by decide) (hg _ kM_69) (fun _ h9 => h9) rfl (by decide +kernel) rfl rfl (Nat.le_of_ble_eq_true rfl) dM_limit_37 (fun H locs hP hD hS => ?_)
    have hP : va_P (dC, dI) vwCl (wM cI cJ cZ qm lv bg en sc wd ht sh oh ba mw mh mk rm nm bs bc bp on wh 1 pc n mc kc sl fo) H := hP
    have hD : va_D A (wM cI cJ cZ qm lv bg en sc wd ht sh oh ba mw mh mk rm nm bs bc bp on wh 1 pc n mc kc sl fo) := hD
    refine lv_aload_n hx hb dM_limit_40 rfl (lv_at hl 0 rfl) ?_
    refine va_get (D := (dC, dI)) (ci := 5) (v := .int (nI 1)) (C := nM) (T := TM) (N := 26) hx hb hg inM hown hK hP 0 rfl rfl 0 (by decide) (hg _ kM_69) (fun _ h9 => h9) rfl dM_limit_41 ?_
    refine lv_if_le (tgt := 48) hx hb dM_limit_44 (by decide) (fun c44 => absurd c44 (by decide)) (fun c44 => ?_)
    have hcd : cdLi n x w h = 1 := by first | (simp [cdLi, szB, c6]; done) | (simp [cdLi, szB, c6]; omega)
    have hP9 : va_P (dC, dI) vwCl (wM cI cJ cZ qm lv bg en sc (if cdLi n x w h = 0 then va_up wd (cN x) (cN w) else wd) (if cdLi n x w h = 0 then va_up ht (cN x) (cLn h) else ht) sh oh ba mw mh mk rm nm bs bc bp on wh (cdLi n x w h) pc n mc kc sl fo) H := by rw [hcd]; exact hP
    have hD9 : va_D A (wM cI cJ cZ qm lv bg en sc (if cdLi n x w h = 0 then va_up wd (cN x) (cN w) else wd) (if cdLi n x w h = 0 then va_up ht (cN x) (cLn h) else ht) sh oh ba mw mh mk rm nm bs bc bp on wh (cdLi n x w h) pc n mc kc sl fo) := by rw [hcd]; exact hD
    exact W.vret hx hb hr (fun t ht hW => ⟨⟨(), rfl, trivial, by rw [ht]; exact hP9, va_K.moved hW.alike hK, hD9⟩, hS.F ht⟩) hS.2.2 dM_limit_47
  · refine lv_iload_n hx hb dM_limit_9 rfl (lv_at hl 2 rfl) ?_
    refine lv_i2l (v := (w).toInt64) hx hb dM_limit_10 rfl ?_
    refine rn_lconst hx hb 1 dM_limit_11 rfl ?_
    refine lv_ldc2 (v := 10000) hx hb hown (hg _ kM_92) dM_limit_12 ?_
    refine tp_l (y := lN 10000) rfl ?_
    refine cpS_i (As := [.long ((w).toInt64), .long (lN 1), .long (lN 10000)]) (rest := [.ref (qm 0)]) (post := fun r : Int32 => r = bI (wiB ((w).toInt64) (lN 1) (lN 10000))) ⟨hx, hb, hml, hown, hts⟩ (ct_M_in l dC dI cI cJ cZ ((w).toInt64) (lN 1) (lN 10000) ) (va_cwS 3 hts (gs kM_76 ks_M_in kin_M kc_M_in) rfl rfl rfl (by decide +kernel) ⟨Nat.le_trans (by decide) hR.1, Nat.le_trans (by decide) hR.2⟩) (hP.sub (ws' := []) [] rfl) hK hE rfl hl.1 rfl (Nat.le_of_ble_eq_true rfl) dM_limit_15 hcs (fun r hr => ?_)
    subst hr
    refine rb_eq (tgt := 32) hx hb dM_limit_18 (by decide) (fun c18 => ?_) (fun c18 => ?_)
    · refine rn_iconst hx hb 1 dM_limit_32 (by decide) ?_
      refine lv_goto (tgt := 37) hx hb dM_limit_33 (by decide) ?_
      refine va_put (D := (dC, dI)) (ci := 5) (v := .int (nI 1)) (ty := .int) (C := nM) (T := TM) (N := 26) hx hb hg inM tM tM_ok nmM hown hK hP hD hS 0 rfl rfl 0 (by decide) (hg _ kM_69) (fun _ h9 => h9) rfl (by decide +kernel) rfl rfl (Nat.le_of_ble_eq_true rfl) dM_limit_37 (fun H locs hP hD hS => ?_)
      have hP : va_P (dC, dI) vwCl (wM cI cJ cZ qm lv bg en sc wd ht sh oh ba mw mh mk rm nm bs bc bp on wh 1 pc n mc kc sl fo) H := hP
      have hD : va_D A (wM cI cJ cZ qm lv bg en sc wd ht sh oh ba mw mh mk rm nm bs bc bp on wh 1 pc n mc kc sl fo) := hD
      refine lv_aload_n hx hb dM_limit_40 rfl (lv_at hl 0 rfl) ?_
      refine va_get (D := (dC, dI)) (ci := 5) (v := .int (nI 1)) (C := nM) (T := TM) (N := 26) hx hb hg inM hown hK hP 0 rfl rfl 0 (by decide) (hg _ kM_69) (fun _ h9 => h9) rfl dM_limit_41 ?_
      refine lv_if_le (tgt := 48) hx hb dM_limit_44 (by decide) (fun c44 => absurd c44 (by decide)) (fun c44 => ?_)
      have hcd : cdLi n x w h = 1 := by first | (simp [cdLi, szB, c6, c18]; done) | (simp [cdLi, szB, c6, c18]; omega)
      have hP9 : va_P (dC, dI) vwCl (wM cI cJ cZ qm lv bg en sc (if cdLi n x w h = 0 then va_up wd (cN x) (cN w) else wd) (if cdLi n x w h = 0 then va_up ht (cN x) (cLn h) else ht) sh oh ba mw mh mk rm nm bs bc bp on wh (cdLi n x w h) pc n mc kc sl fo) H := by rw [hcd]; exact hP
      have hD9 : va_D A (wM cI cJ cZ qm lv bg en sc (if cdLi n x w h = 0 then va_up wd (cN x) (cN w) else wd) (if cdLi n x w h = 0 then va_up ht (cN x) (cLn h) else ht) sh oh ba mw mh mk rm nm bs bc bp on wh (cdLi n x w h) pc n mc kc sl fo) := by rw [hcd]; exact hD
      exact W.vret hx hb hr (fun t ht hW => ⟨⟨(), rfl, trivial, by rw [ht]; exact hP9, va_K.moved hW.alike hK, hD9⟩, hS.F ht⟩) hS.2.2 dM_limit_47
    · refine lv_lload_n hx hb dM_limit_21 rfl (lv_at hl 3 rfl) ?_
      refine rn_lconst hx hb 1 dM_limit_22 rfl ?_
      refine lv_ldc2 (v := 10000) hx hb hown (hg _ kM_92) dM_limit_23 ?_
      refine tp_l (y := lN 10000) rfl ?_
      refine cpS_i (As := [.long h, .long (lN 1), .long (lN 10000)]) (rest := [.ref (qm 0)]) (post := fun r : Int32 => r = bI (wiB h (lN 1) (lN 10000))) ⟨hx, hb, hml, hown, hts⟩ (ct_M_in l dC dI cI cJ cZ h (lN 1) (lN 10000) ) (va_cwS 3 hts (gs kM_76 ks_M_in kin_M kc_M_in) rfl rfl rfl (by decide +kernel) ⟨Nat.le_trans (by decide) hR.1, Nat.le_trans (by decide) hR.2⟩) (hP.sub (ws' := []) [] rfl) hK hE rfl hl.1 rfl (Nat.le_of_ble_eq_true rfl) dM_limit_26 hcs (fun r hr => ?_)
      subst hr
      refine rb_ne (tgt := 36) hx hb dM_limit_29 (by decide) (fun c29 => ?_) (fun c29 => ?_)
      · refine rn_iconst hx hb 0 dM_limit_36 (by decide) ?_
        refine va_put (D := (dC, dI)) (ci := 5) (v := .int (nI 0)) (ty := .int) (C := nM) (T := TM) (N := 26) hx hb hg inM tM tM_ok nmM hown hK hP hD hS 0 rfl rfl 0 (by decide) (hg _ kM_69) (fun _ h9 => h9) rfl (by decide +kernel) rfl rfl (Nat.le_of_ble_eq_true rfl) dM_limit_37 (fun H locs hP hD hS => ?_)
        have hP : va_P (dC, dI) vwCl (wM cI cJ cZ qm lv bg en sc wd ht sh oh ba mw mh mk rm nm bs bc bp on wh 0 pc n mc kc sl fo) H := hP
        have hD : va_D A (wM cI cJ cZ qm lv bg en sc wd ht sh oh ba mw mh mk rm nm bs bc bp on wh 0 pc n mc kc sl fo) := hD
        refine lv_aload_n hx hb dM_limit_40 rfl (lv_at hl 0 rfl) ?_
        refine va_get (D := (dC, dI)) (ci := 5) (v := .int (nI 0)) (C := nM) (T := TM) (N := 26) hx hb hg inM hown hK hP 0 rfl rfl 0 (by decide) (hg _ kM_69) (fun _ h9 => h9) rfl dM_limit_41 ?_
        refine lv_if_le (tgt := 48) hx hb dM_limit_44 (by decide) (fun c44 => ?_) (fun c44 => absurd c44 (by decide))
        obtain ⟨j, hj, ej⟩ := in_of c6 (by omega)
        obtain ⟨a, ha1, ha2, ea⟩ := wi_of c18 (by decide) (by decide)
        obtain ⟨b, hb1, hb2, eb⟩ := wl_of c29 (by decide) (by decide)
        have e1 : cN x = j := by rw [ej]; exact cN_n (by omega)
        have e2 : cN w = a := by rw [ea]; exact cN_n (by omega)
        have e3 : cLn h = b := by rw [eb]; exact cL_n (by omega)
        have hl : lv_has ls 5 [(0, .ref (qm 0)), (1, .int (nI j)), (2, .int (nI a)), (3, .long (lN b))] := by rw [ej, ea, eb] at hl; exact hl
        refine lv_aload_n hx hb dM_limit_48 rfl (lv_at hl 0 rfl) ?_
        refine va_get (D := (dC, dI)) (ci := 5) (v := .ref (qm 5)) (C := nM) (T := TM) (N := 26) hx hb hg inM hown hK hP 0 rfl rfl 7 (by decide) (hg _ kM_23) (fun _ h9 => h9) rfl dM_limit_49 ?_
        refine lv_iload_n hx hb dM_limit_52 rfl (lv_at hl 1 rfl) ?_
        refine lv_iload_n hx hb dM_limit_53 rfl (lv_at hl 2 rfl) ?_
        refine sa_i (f := wd) (v := a) hx hb hK hP hD hS 5 0 rfl rfl (by omega) (by decide) dM_limit_54 (fun H locs hP hD hS => ?_)
        have hP : va_P (dC, dI) vwCl (wM cI cJ cZ qm lv bg en sc (va_up wd j a) ht sh oh ba mw mh mk rm nm bs bc bp on wh 0 pc n mc kc sl fo) H := hP
        have hD : va_D A (wM cI cJ cZ qm lv bg en sc (va_up wd j a) ht sh oh ba mw mh mk rm nm bs bc bp on wh 0 pc n mc kc sl fo) := hD
        refine lv_aload_n hx hb dM_limit_55 rfl (lv_at hl 0 rfl) ?_
        refine va_get (D := (dC, dI)) (ci := 5) (v := .ref (qm 6)) (C := nM) (T := TM) (N := 26) hx hb hg inM hown hK hP 0 rfl rfl 8 (by decide) (hg _ kM_26) (fun _ h9 => h9) rfl dM_limit_56 ?_
        refine lv_iload_n hx hb dM_limit_59 rfl (lv_at hl 1 rfl) ?_
        refine lv_lload_n hx hb dM_limit_60 rfl (lv_at hl 3 rfl) ?_
        refine rn_l2i hx hb dM_limit_61 ?_
        refine sa_i (f := ht) (v := b) hx hb hK hP hD hS 6 0 rfl rfl (by omega) (by decide) dM_limit_62 (fun H locs hP hD hS => ?_)
        have hP : va_P (dC, dI) vwCl (wM cI cJ cZ qm lv bg en sc (va_up wd j a) (va_up ht j b) sh oh ba mw mh mk rm nm bs bc bp on wh 0 pc n mc kc sl fo) H := hP
        have hD : va_D A (wM cI cJ cZ qm lv bg en sc (va_up wd j a) (va_up ht j b) sh oh ba mw mh mk rm nm bs bc bp on wh 0 pc n mc kc sl fo) := hD
        have hcd : cdLi n x w h = 0 := by first | (simp [cdLi, szB, c6, c18, c29]; done) | (simp [cdLi, szB, c6, c18, c29]; omega)
        have hP9 : va_P (dC, dI) vwCl (wM cI cJ cZ qm lv bg en sc (if cdLi n x w h = 0 then va_up wd (cN x) (cN w) else wd) (if cdLi n x w h = 0 then va_up ht (cN x) (cLn h) else ht) sh oh ba mw mh mk rm nm bs bc bp on wh (cdLi n x w h) pc n mc kc sl fo) H := by rw [hcd, e1, e2, e3]; exact hP
        have hD9 : va_D A (wM cI cJ cZ qm lv bg en sc (if cdLi n x w h = 0 then va_up wd (cN x) (cN w) else wd) (if cdLi n x w h = 0 then va_up ht (cN x) (cLn h) else ht) sh oh ba mw mh mk rm nm bs bc bp on wh (cdLi n x w h) pc n mc kc sl fo) := by rw [hcd, e1, e2, e3]; exact hD
        exact W.vret hx hb hr (fun t ht hW => ⟨⟨(), rfl, trivial, by rw [ht]; exact hP9, va_K.moved hW.alike hK, hD9⟩, hS.F ht⟩) hS.2.2 dM_limit_63
      · refine rn_iconst hx hb 1 dM_limit_32 (by decide) ?_
        refine lv_goto (tgt := 37) hx hb dM_limit_33 (by decide) ?_
        refine va_put (D := (dC, dI)) (ci := 5) (v := .int (nI 1)) (ty := .int) (C := nM) (T := TM) (N := 26) hx hb hg inM tM tM_ok nmM hown hK hP hD hS 0 rfl rfl 0 (by decide) (hg _ kM_69) (fun _ h9 => h9) rfl (by decide +kernel) rfl rfl (Nat.le_of_ble_eq_true rfl) dM_limit_37 (fun H locs hP hD hS => ?_)
        have hP : va_P (dC, dI) vwCl (wM cI cJ cZ qm lv bg en sc wd ht sh oh ba mw mh mk rm nm bs bc bp on wh 1 pc n mc kc sl fo) H := hP
        have hD : va_D A (wM cI cJ cZ qm lv bg en sc wd ht sh oh ba mw mh mk rm nm bs bc bp on wh 1 pc n mc kc sl fo) := hD
        refine lv_aload_n hx hb dM_limit_40 rfl (lv_at hl 0 rfl) ?_
        refine va_get (D := (dC, dI)) (ci := 5) (v := .int (nI 1)) (C := nM) (T := TM) (N := 26) hx hb hg inM hown hK hP 0 rfl rfl 0 (by decide) (hg _ kM_69) (fun _ h9 => h9) rfl dM_limit_41 ?_
        refine lv_if_le (tgt := 48) hx hb dM_limit_44 (by decide) (fun c44 => absurd c44 (by decide)) (fun c44 => ?_)
        have hcd : cdLi n x w h = 1 := by first | (simp [cdLi, szB, c6, c18, c29]; done) | (simp [cdLi, szB, c6, c18, c29]; omega)
        have hP9 : va_P (dC, dI) vwCl (wM cI cJ cZ qm lv bg en sc (if cdLi n x w h = 0 then va_up wd (cN x) (cN w) else wd) (if cdLi n x w h = 0 then va_up ht (cN x) (cLn h) else ht) sh oh ba mw mh mk rm nm bs bc bp on wh (cdLi n x w h) pc n mc kc sl fo) H := by rw [hcd]; exact hP
        have hD9 : va_D A (wM cI cJ cZ qm lv bg en sc (if cdLi n x w h = 0 then va_up wd (cN x) (cN w) else wd) (if cdLi n x w h = 0 then va_up ht (cN x) (cLn h) else ht) sh oh ba mw mh mk rm nm bs bc bp on wh (cdLi n x w h) pc n mc kc sl fo) := by rw [hcd]; exact hD
        exact W.vret hx hb hr (fun t ht hW => ⟨⟨(), rfl, trivial, by rw [ht]; exact hP9, va_K.moved hW.alike hK, hD9⟩, hS.F ht⟩) hS.2.2 dM_limit_47

set_option maxHeartbeats 4000000 in
set_option maxRecDepth 100000 in
theorem lp_M_closed {p : Program} {l : Launch} {e : Env} {R : Room} {s : State} {m : MethodId} {args : Array Value} {below : List Frame} {meth : Method} {c : Code} {cells slots : Nat} {Q : State → Prop} {dC : Nat → ClassId} {dI : Nat → Nat → Nat} {cI cJ cZ : ClassId} {A : Nat → Prop} (qm : Nat → Nat) (lv mw mh mk : Nat → Nat) (pc mc kc : Nat) (bg en sc wd ht oh bt : Nat → Nat) (co n : Nat) (sh ba : Nat → Bool) (rm nm bs bc bp on wh : Nat → Nat) (cd sl fo : Nat) (x : Int32) (on0 : Bool) (hG : bGp lv mw mh mk pc mc kc) (hB : bP bg en sc wd ht oh bt co n)  (hx : p.tables.exec = Jvm.exec) (hb : c.code = cM_closed) (hml : c.maxLocals = 5) (hown : s.vm.findClass nM = some m.cls) (hts : ∀ w ∈ wsM_closed, w.before args s = true) (hK : va_K (dC, dI) vwCl (tyE cI cJ cZ) s) (hE : EV s) (hA : ∀ q : Nat, s.heap.size ≤ q → A q) (hR : 0 ≤ R.frames ∧ 0 ≤ R.locals) (hcs : cells ≤ R.cells ∧ slots ≤ R.slots)
    (kx0 : ∀ (i : Nat) (s9 : Nat) (j : Nat) (h1 : i ≤ n) (hs9 : s9 = cntB (va_up sh j on0) i) (hsb : s9 ≤ i) (c6 : inB x n = true) (e1 : cN x = j) (hj : j < n) (hx0 : n ≤ i) (H : Heap) (locs : List Loc), va_P (dC, dI) vwCl (wM cI cJ cZ qm lv bg en sc wd ht (va_up sh j on0) oh ba mw mh mk rm nm bs bc bp on wh 0 pc n mc kc sl fo) H → va_D A (wM cI cJ cZ qm lv bg en sc wd ht (va_up sh j on0) oh ba mw mh mk rm nm bs bc bp on wh 0 pc n mc kc sl fo) → va_S A s.heap H locs → ∀ ls : Array Slot, lv_has ls 5 [(0, .ref (qm 0)), (1, .int (nI j)), (2, .int (bI on0)), (3, .int (nI s9)), (4, .int (nI i))] →  W p l e R s m args below meth c H locs cells slots Q (F0 m 71 ls []))
    : ∀ (fu : Nat) (i : Nat) (s9 : Nat) (j : Nat) (h1 : i ≤ n) (hs9 : s9 = cntB (va_up sh j on0) i) (hsb : s9 ≤ i) (c6 : inB x n = true) (e1 : cN x = j) (hj : j < n), n - i < fu → ∀ (H : Heap) (locs : List Loc), va_P (dC, dI) vwCl (wM cI cJ cZ qm lv bg en sc wd ht (va_up sh j on0) oh ba mw mh mk rm nm bs bc bp on wh 0 pc n mc kc sl fo) H → va_D A (wM cI cJ cZ qm lv bg en sc wd ht (va_up sh j on0) oh ba mw mh mk rm nm bs bc bp on wh 0 pc n mc kc sl fo) → va_S A s.heap H locs → ∀ ls : Array Slot, lv_has ls 5 [(0, .ref (qm 0)), (1, .int (nI j)), (2, .int (bI on0)), (3, .int (nI s9)), (4, .int (nI i))] →  W p l e R s m args below meth c H locs cells slots Q (F0 m 38 ls []) := by
  have hg : ∀ w ∈ gw, w.before args s = true := fun w h => hts w (List.mem_cons_of_mem _ h)
  have hpc := hG.1
  have hmc := hG.2.1
  have hkc := hG.2.2.1
  have hgi := hG.2.2.2
  have hbi := hB.2.2
  have hn := hB.1
  have hco := hB.2.1
  intro fu
  induction fu with
  | zero => intro i s9 j h1 hs9 hsb c6 e1 hj h0; exact absurd h0 (Nat.not_lt_zero _)
  | succ fu ihL =>
    intro i s9 j h1 hs9 hsb c6 e1 hj hfu H locs hP hD hS ls hl
    refine lv_iload hx hb dM_closed_38 (lv_at hl 4 rfl) ?_
    refine lv_aload_n hx hb dM_closed_40 rfl (lv_at hl 0 rfl) ?_
    refine va_get (D := (dC, dI)) (ci := 5) (v := .int (nI n)) (C := nM) (T := TM) (N := 26) hx hb hg inM hown hK hP 0 rfl rfl 3 (by decide) (hg _ kM_80) (fun _ h9 => h9) rfl dM_closed_41 ?_
    refine rn_icmp_ge (tgt := 71) hx hb dM_closed_44 (by decide) (by omega) (by omega) (fun c44 => ?_) (fun c44 => ?_)
    · exact kx0 i s9 j h1 hs9 hsb c6 e1 hj (by omega) H locs hP hD hS ls (lv_sub hl [0, 1, 2, 3, 4] rfl)
    · refine lv_iload_n hx hb dM_closed_47 rfl (lv_at hl 3 rfl) ?_
      refine lv_aload_n hx hb dM_closed_48 rfl (lv_at hl 0 rfl) ?_
      refine va_get (D := (dC, dI)) (ci := 5) (v := .ref (qm 7)) (C := nM) (T := TM) (N := 26) hx hb hg inM hown hK hP 0 rfl rfl 9 (by decide) (hg _ kM_29) (fun _ h9 => h9) rfl dM_closed_49 ?_
      refine lv_iload hx hb dM_closed_52 (lv_at hl 4 rfl) ?_
      refine ga_b (f := va_up sh j on0) hx hb hK hP 7 2 rfl rfl (by omega) (by decide) dM_closed_54 ?_
      refine rb_eq (tgt := 62) hx hb dM_closed_55 (by decide) (fun c55 => ?_) (fun c55 => ?_)
      · refine rn_iconst hx hb 0 dM_closed_62 (by decide) ?_
        refine rn_iadd hx hb dM_closed_63 ?_
        refine lv_istore_n (lv' := [(3, .int (nI (s9 + 0))), (0, .ref (qm 0)), (1, .int (nI j)), (2, .int (bI on0)), (4, .int (nI i))]) hx hb dM_closed_64 rfl hl (by decide) rfl (fun ls hl => ?_)
        refine rn_iinc (lv' := [(4, .int (nI (i + 1))), (3, .int (nI (s9 + 0))), (0, .ref (qm 0)), (1, .int (nI j)), (2, .int (bI on0))]) hx hb dM_closed_65 hl (k := 4) rfl (by decide) rfl (fun ls hl => ?_)
        refine lv_goto (tgt := 38) hx hb dM_closed_68 (by decide) ?_
        exact ihL (i + 1) (s9 + 0) j (by omega) (by first | exact cnt_t hs9 c55 | exact cnt_f hs9 c55) (by omega) (c6) (e1) (hj) (by omega) H locs hP hD hS ls (lv_sub hl [2, 3, 4, 1, 0] rfl)
      · refine rn_iconst hx hb 1 dM_closed_58 (by decide) ?_
        refine lv_goto (tgt := 63) hx hb dM_closed_59 (by decide) ?_
        refine rn_iadd hx hb dM_closed_63 ?_
        refine lv_istore_n (lv' := [(3, .int (nI (s9 + 1))), (0, .ref (qm 0)), (1, .int (nI j)), (2, .int (bI on0)), (4, .int (nI i))]) hx hb dM_closed_64 rfl hl (by decide) rfl (fun ls hl => ?_)
        refine rn_iinc (lv' := [(4, .int (nI (i + 1))), (3, .int (nI (s9 + 1))), (0, .ref (qm 0)), (1, .int (nI j)), (2, .int (bI on0))]) hx hb dM_closed_65 hl (k := 4) rfl (by decide) rfl (fun ls hl => ?_)
        refine lv_goto (tgt := 38) hx hb dM_closed_68 (by decide) ?_
        exact ihL (i + 1) (s9 + 1) j (by omega) (by first | exact cnt_t hs9 c55 | exact cnt_f hs9 c55) (by omega) (c6) (e1) (hj) (by omega) H locs hP hD hS ls (lv_sub hl [2, 3, 4, 1, 0] rfl)

set_option maxHeartbeats 4000000 in
set_option maxRecDepth 100000 in
theorem ct_M_closed (l : Launch) (dC : Nat → ClassId) (dI : Nat → Nat → Nat) (cI cJ cZ : ClassId) (qm : Nat → Nat) (lv mw mh mk : Nat → Nat) (pc mc kc : Nat) (bg en sc wd ht oh bt : Nat → Nat) (co n : Nat) (sh ba : Nat → Bool) (rm nm bs bc bp on wh : Nat → Nat) (cd sl fo : Nat) (x : Int32) (on0 : Bool) (sz : Nat) (hG : bGp lv mw mh mk pc mc kc) (hB : bP bg en sc wd ht oh bt co n) : Met l yM_closed wsM_closed ({ frames := 2, cells := 0, slots := 0, locals := 46 }) (PcW (dC, dI) (wM cI cJ cZ qm lv bg en sc wd ht sh oh ba mw mh mk rm nm bs bc bp on wh cd pc n mc kc sl fo) (tyE cI cJ cZ) sz [.ref (qm 0), .int x, .int (bI on0)]) (QwI (dC, dI) (nI (if cdCl n x = 0 then cntB (va_up sh (cN x) on0) n else 0)) (wM cI cJ cZ qm lv bg en sc wd ht (if cdCl n x = 0 then va_up sh (cN x) on0 else sh) oh ba mw mh mk rm nm bs bc bp on wh (cdCl n x) pc n mc kc sl fo) (tyE cI cJ cZ) (va_A (wM cI cJ cZ qm lv bg en sc wd ht sh oh ba mw mh mk rm nm bs bc bp on wh cd pc n mc kc sl fo) sz)) 0 0 (va_A (wM cI cJ cZ qm lv bg en sc wd ht sh oh ba mw mh mk rm nm bs bc bp on wh cd pc n mc kc sl fo) sz) := by
  refine Met.ofW (cc := cM_closed) (maxL := 5) (ret := (some .int)) (by decide) rfl ?_
  intro p e s m args below meth c s₁ B hml hv
  obtain ⟨rfl, hsz, hP, hK, hD0, hE⟩ := hv
  have hx := B.exec
  have hb := B.bytes
  have hr := B.returns
  have hts := atoms_spec (ws := wsM_closed) B.pre
  have hg : ∀ w ∈ gw, w.before _ s = true := fun w h => hts w (List.mem_cons_of_mem _ h)
  have hown : s.vm.findClass nM = some m.cls := findClass_of_methodNamed B.named
  have hlocks := B.notSynchronized
  have hR : 2 ≤ (headSpec wsM_closed ({ frames := 2, cells := 0, slots := 0, locals := 46 })).room.frames ∧ 46 ≤ (headSpec wsM_closed ({ frames := 2, cells := 0, slots := 0, locals := 46 })).room.locals := ⟨Nat.le_refl _, Nat.le_refl _⟩
  have hcs : 0 ≤ (headSpec wsM_closed ({ frames := 2, cells := 0, slots := 0, locals := 46 })).room.cells ∧ 0 ≤ (headSpec wsM_closed ({ frames := 2, cells := 0, slots := 0, locals := 46 })).room.slots := ⟨Nat.zero_le _, Nat.zero_le _⟩
  subst hsz
  have hD := hD0.self (sz := s.heap.size)
  generalize hAe : va_A (wM cI cJ cZ qm lv bg en sc wd ht sh oh ba mw mh mk rm nm bs bc bp on wh cd pc n mc kc sl fo) s.heap.size = A at hD ⊢
  have hA : ∀ q : Nat, s.heap.size ≤ q → A q := fun q h => by rw [← hAe]; exact Or.inr h
  obtain ⟨H, hH⟩ : ∃ H, H = s.heap := ⟨_, rfl⟩
  have hS : va_S A s.heap H [] := by rw [hH]; exact va_S.rf
  rw [← hH] at hP ⊢
  have hpc := hG.1
  have hmc := hG.2.1
  have hkc := hG.2.2.1
  have hgi := hG.2.2.2
  have hbi := hB.2.2
  have hn := hB.1
  have hco := hB.2.1
  have hl := lv_entry ([.ref (qm 0), .int x, .int (bI on0)]) (n := 5) (Nat.le_of_ble_eq_true rfl)
  rw [lg_entry_eq]
  generalize (lg_sl ([.ref (qm 0), .int x, .int (bI on0)]) ++ List.replicate (5 - (lg_sl ([.ref (qm 0), .int x, .int (bI on0)])).length) Slot.unset).toArray = ls at hl ⊢
  have hl : lv_has ls 5 [(0, .ref (qm 0)), (1, .int x), (2, .int (bI on0))] := hl
  refine lv_aload_n hx hb dM_closed_0 rfl (lv_at hl 0 rfl) ?_
  refine lv_aload_n hx hb dM_closed_1 rfl (lv_at hl 0 rfl) ?_
  refine lv_iload_n hx hb dM_closed_2 rfl (lv_at hl 1 rfl) ?_
  refine cpV_i (b := (qm 0)) (C := nM) (As := [.int x]) (rest := [.ref (qm 0)]) (post := fun r : Int32 => r = bI (inB x n)) ⟨hx, hb, hml, hown, hts⟩ (ct_M_isPiece l dC dI cI cJ cZ qm lv mw mh mk pc mc kc bg en sc wd ht oh bt co n sh ba rm nm bs bc bp on wh cd sl fo x (hG) (hB)) (cwV 1 hts (gv kM_98 ki_M_isPiece ksel_M_isPiece kin_M kc_M_isPiece) rfl rfl rfl (by decide +kernel) ⟨Nat.le_trans (by decide) hR.1, Nat.le_trans (by decide) hR.2⟩) (va_recv hK hP (ci := 5) (q0 := 0) rfl rfl) hP hK hE rfl hl.1 rfl (Nat.le_of_ble_eq_true rfl) dM_closed_3 hcs (fun r hr => ?_)
  subst hr
  refine rb_eq (tgt := 13) hx hb dM_closed_6 (by decide) (fun c6 => ?_) (fun c6 => ?_)
  · refine rn_iconst hx hb 1 dM_closed_13 (by decide) ?_
    refine va_put (D := (dC, dI)) (ci := 5) (v := .int (nI 1)) (ty := .int) (C := nM) (T := TM) (N := 26) hx hb hg inM tM tM_ok nmM hown hK hP hD hS 0 rfl rfl 0 (by decide) (hg _ kM_69) (fun _ h9 => h9) rfl (by decide +kernel) rfl rfl (Nat.le_of_ble_eq_true rfl) dM_closed_14 (fun H locs hP hD hS => ?_)
    have hP : va_P (dC, dI) vwCl (wM cI cJ cZ qm lv bg en sc wd ht sh oh ba mw mh mk rm nm bs bc bp on wh 1 pc n mc kc sl fo) H := hP
    have hD : va_D A (wM cI cJ cZ qm lv bg en sc wd ht sh oh ba mw mh mk rm nm bs bc bp on wh 1 pc n mc kc sl fo) := hD
    refine lv_aload_n hx hb dM_closed_17 rfl (lv_at hl 0 rfl) ?_
    refine va_get (D := (dC, dI)) (ci := 5) (v := .int (nI 1)) (C := nM) (T := TM) (N := 26) hx hb hg inM hown hK hP 0 rfl rfl 0 (by decide) (hg _ kM_69) (fun _ h9 => h9) rfl dM_closed_18 ?_
    refine lv_if_le (tgt := 26) hx hb dM_closed_21 (by decide) (fun c21 => absurd c21 (by decide)) (fun c21 => ?_)
    refine rn_iconst hx hb 0 dM_closed_24 (by decide) ?_
    have hcd : cdCl n x = 1 := by first | (simp [cdCl, c6]; done) | (simp [cdCl, c6]; omega)
    have hP9 : va_P (dC, dI) vwCl (wM cI cJ cZ qm lv bg en sc wd ht (if cdCl n x = 0 then va_up sh (cN x) on0 else sh) oh ba mw mh mk rm nm bs bc bp on wh (cdCl n x) pc n mc kc sl fo) H := by rw [hcd]; exact hP
    have hD9 : va_D A (wM cI cJ cZ qm lv bg en sc wd ht (if cdCl n x = 0 then va_up sh (cN x) on0 else sh) oh ba mw mh mk rm nm bs bc bp on wh (cdCl n x) pc n mc kc sl fo) := by rw [hcd]; exact hD
    exact W.iret hx hb hr (fun t ht hW => ⟨⟨_, (), rfl, (by rw [hcd]; rfl), by rw [ht]; exact hP9, va_K.moved hW.alike hK, hD9⟩, hS.F ht⟩) hS.2.2 dM_closed_25
  · refine rn_iconst hx hb 0 dM_closed_9 (by decide) ?_
    refine lv_goto (tgt := 14) hx hb dM_closed_10 (by decide) ?_
    refine va_put (D := (dC, dI)) (ci := 5) (v := .int (nI 0)) (ty := .int) (C := nM) (T := TM) (N := 26) hx hb hg inM tM tM_ok nmM hown hK hP hD hS 0 rfl rfl 0 (by decide) (hg _ kM_69) (fun _ h9 => h9) rfl (by decide +kernel) rfl rfl (Nat.le_of_ble_eq_true rfl) dM_closed_14 (fun H locs hP hD hS => ?_)
    have hP : va_P (dC, dI) vwCl (wM cI cJ cZ qm lv bg en sc wd ht sh oh ba mw mh mk rm nm bs bc bp on wh 0 pc n mc kc sl fo) H := hP
    have hD : va_D A (wM cI cJ cZ qm lv bg en sc wd ht sh oh ba mw mh mk rm nm bs bc bp on wh 0 pc n mc kc sl fo) := hD
    refine lv_aload_n hx hb dM_closed_17 rfl (lv_at hl 0 rfl) ?_
    refine va_get (D := (dC, dI)) (ci := 5) (v := .int (nI 0)) (C := nM) (T := TM) (N := 26) hx hb hg inM hown hK hP 0 rfl rfl 0 (by decide) (hg _ kM_69) (fun _ h9 => h9) rfl dM_closed_18 ?_
    refine lv_if_le (tgt := 26) hx hb dM_closed_21 (by decide) (fun c21 => ?_) (fun c21 => absurd c21 (by decide))
    obtain ⟨j, hj, ej⟩ := in_of c6 (by omega)
    have e1 : cN x = j := by rw [ej]; exact cN_n (by omega)
    have hl : lv_has ls 5 [(0, .ref (qm 0)), (1, .int (nI j)), (2, .int (bI on0))] := by rw [ej] at hl; exact hl
    refine lv_aload_n hx hb dM_closed_26 rfl (lv_at hl 0 rfl) ?_
    refine va_get (D := (dC, dI)) (ci := 5) (v := .ref (qm 7)) (C := nM) (T := TM) (N := 26) hx hb hg inM hown hK hP 0 rfl rfl 9 (by decide) (hg _ kM_29) (fun _ h9 => h9) rfl dM_closed_27 ?_
    refine lv_iload_n hx hb dM_closed_30 rfl (lv_at hl 1 rfl) ?_
    refine lv_iload_n hx hb dM_closed_31 rfl (lv_at hl 2 rfl) ?_
    refine sa_b (f := sh) (v := on0) hx hb hK hP hD hS 7 2 rfl rfl (by omega) (by decide) dM_closed_32 (fun H locs hP hD hS => ?_)
    have hP : va_P (dC, dI) vwCl (wM cI cJ cZ qm lv bg en sc wd ht (va_up sh j on0) oh ba mw mh mk rm nm bs bc bp on wh 0 pc n mc kc sl fo) H := hP
    have hD : va_D A (wM cI cJ cZ qm lv bg en sc wd ht (va_up sh j on0) oh ba mw mh mk rm nm bs bc bp on wh 0 pc n mc kc sl fo) := hD
    refine rn_iconst hx hb 0 dM_closed_33 (by decide) ?_
    refine lv_istore_n (lv' := [(3, .int (nI 0)), (0, .ref (qm 0)), (1, .int (nI j)), (2, .int (bI on0))]) hx hb dM_closed_34 rfl hl (by decide) rfl (fun ls hl => ?_)
    refine rn_iconst hx hb 0 dM_closed_35 (by decide) ?_
    refine lv_istore (lv' := [(4, .int (nI 0)), (3, .int (nI 0)), (0, .ref (qm 0)), (1, .int (nI j)), (2, .int (bI on0))]) hx hb dM_closed_36 hl (by decide) rfl (fun ls hl => ?_)
    refine lp_M_closed qm lv mw mh mk pc mc kc bg en sc wd ht oh bt co n sh ba rm nm bs bc bp on wh cd sl fo x on0 hG hB  hx hb hml hown hts hK hE hA (by first | exact hR | exact ⟨Nat.le_trans (by decide) hR.1, Nat.le_trans (by decide) hR.2⟩) hcs (fun i s9 j h1 hs9 hsb c6 e1 hj hx0 H locs hP hD hS ls hl => ?_) ((n - 0) + 1) 0 0 j (by omega) (rfl) (by omega) (c6) (e1) (hj) (by omega) _ _ hP hD hS ls (lv_sub hl [2, 3, 4, 1, 0] rfl)
    refine lv_iload_n hx hb dM_closed_71 rfl (lv_at hl 3 rfl) ?_
    have hcd : cdCl n x = 0 := by simp [cdCl, c6]
    have hP9 : va_P (dC, dI) vwCl (wM cI cJ cZ qm lv bg en sc wd ht (if cdCl n x = 0 then va_up sh (cN x) on0 else sh) oh ba mw mh mk rm nm bs bc bp on wh (cdCl n x) pc n mc kc sl fo) H := by rw [hcd, e1]; exact hP
    have hD9 : va_D A (wM cI cJ cZ qm lv bg en sc wd ht (if cdCl n x = 0 then va_up sh (cN x) on0 else sh) oh ba mw mh mk rm nm bs bc bp on wh (cdCl n x) pc n mc kc sl fo) := by rw [hcd, e1]; exact hD
    exact W.iret hx hb hr (fun t ht hW => ⟨⟨_, (), rfl, (by rw [hcd, e1]; exact congrArg nI (by rw [hs9, show i = n from by omega]; rfl)), by rw [ht]; exact hP9, va_K.moved hW.alike hK, hD9⟩, hS.F ht⟩) hS.2.2 dM_closed_72

set_option maxHeartbeats 4000000 in
set_option maxRecDepth 100000 in
theorem ct_M_turn (l : Launch) (dC : Nat → ClassId) (dI : Nat → Nat → Nat) (cI cJ cZ : ClassId) (qm : Nat → Nat) (lv mw mh mk : Nat → Nat) (pc mc kc : Nat) (bg en sc wd ht oh bt : Nat → Nat) (co n : Nat) (sh ba : Nat → Bool) (rm nm bs bc bp on wh : Nat → Nat) (cd sl fo : Nat) (x y : Int32) (on0 : Bool) (sz : Nat) (hG : bGp lv mw mh mk pc mc kc) (hB : bP bg en sc wd ht oh bt co n) : Met l yM_turn wsM_turn ({ frames := 2, cells := 0, slots := 0, locals := 46 }) (PcW (dC, dI) (wM cI cJ cZ qm lv bg en sc wd ht sh oh ba mw mh mk rm nm bs bc bp on wh cd pc n mc kc sl fo) (tyE cI cJ cZ) sz [.ref (qm 0), .int x, .int y, .int (bI on0)]) (QwI (dC, dI) (nI (if cdTu bg en n x y = 0 then on0.toNat + (va_up ba (40 * cN x + cN y) on0 (40 * cN y + cN x)).toNat else 0)) (wM cI cJ cZ qm lv bg en sc wd ht sh oh (if cdTu bg en n x y = 0 then va_up ba (40 * cN x + cN y) on0 else ba) mw mh mk rm nm bs bc bp on wh (cdTu bg en n x y) pc n mc kc sl fo) (tyE cI cJ cZ) (va_A (wM cI cJ cZ qm lv bg en sc wd ht sh oh ba mw mh mk rm nm bs bc bp on wh cd pc n mc kc sl fo) sz)) 0 0 (va_A (wM cI cJ cZ qm lv bg en sc wd ht sh oh ba mw mh mk rm nm bs bc bp on wh cd pc n mc kc sl fo) sz) := by
  refine Met.ofW (cc := cM_turn) (maxL := 5) (ret := (some .int)) (by decide) rfl ?_
  intro p e s m args below meth c s₁ B hml hv
  obtain ⟨rfl, hsz, hP, hK, hD0, hE⟩ := hv
  have hx := B.exec
  have hb := B.bytes
  have hr := B.returns
  have hts := atoms_spec (ws := wsM_turn) B.pre
  have hg : ∀ w ∈ gw, w.before _ s = true := fun w h => hts w (List.mem_cons_of_mem _ h)
  have hown : s.vm.findClass nM = some m.cls := findClass_of_methodNamed B.named
  have hlocks := B.notSynchronized
  have hR : 2 ≤ (headSpec wsM_turn ({ frames := 2, cells := 0, slots := 0, locals := 46 })).room.frames ∧ 46 ≤ (headSpec wsM_turn ({ frames := 2, cells := 0, slots := 0, locals := 46 })).room.locals := ⟨Nat.le_refl _, Nat.le_refl _⟩
  have hcs : 0 ≤ (headSpec wsM_turn ({ frames := 2, cells := 0, slots := 0, locals := 46 })).room.cells ∧ 0 ≤ (headSpec wsM_turn ({ frames := 2, cells := 0, slots := 0, locals := 46 })).room.slots := ⟨Nat.zero_le _, Nat.zero_le _⟩
  subst hsz
  have hD := hD0.self (sz := s.heap.size)
  generalize hAe : va_A (wM cI cJ cZ qm lv bg en sc wd ht sh oh ba mw mh mk rm nm bs bc bp on wh cd pc n mc kc sl fo) s.heap.size = A at hD ⊢
  have hA : ∀ q : Nat, s.heap.size ≤ q → A q := fun q h => by rw [← hAe]; exact Or.inr h
  obtain ⟨H, hH⟩ : ∃ H, H = s.heap := ⟨_, rfl⟩
  have hS : va_S A s.heap H [] := by rw [hH]; exact va_S.rf
  rw [← hH] at hP ⊢
  have hpc := hG.1
  have hmc := hG.2.1
  have hkc := hG.2.2.1
  have hgi := hG.2.2.2
  have hbi := hB.2.2
  have hn := hB.1
  have hco := hB.2.1
  have hl := lv_entry ([.ref (qm 0), .int x, .int y, .int (bI on0)]) (n := 5) (Nat.le_of_ble_eq_true rfl)
  rw [lg_entry_eq]
  generalize (lg_sl ([.ref (qm 0), .int x, .int y, .int (bI on0)]) ++ List.replicate (5 - (lg_sl ([.ref (qm 0), .int x, .int y, .int (bI on0)])).length) Slot.unset).toArray = ls at hl ⊢
  have hl : lv_has ls 5 [(0, .ref (qm 0)), (1, .int x), (2, .int y), (3, .int (bI on0))] := hl
  refine lv_aload_n hx hb dM_turn_0 rfl (lv_at hl 0 rfl) ?_
  refine lv_iload_n hx hb dM_turn_1 rfl (lv_at hl 1 rfl) ?_
  refine cpV_i (b := (qm 0)) (C := nM) (As := [.int x]) (rest := []) (post := fun r : Int32 => r = bI (inB x n)) ⟨hx, hb, hml, hown, hts⟩ (ct_M_isPiece l dC dI cI cJ cZ qm lv mw mh mk pc mc kc bg en sc wd ht oh bt co n sh ba rm nm bs bc bp on wh cd sl fo x (hG) (hB)) (cwV 1 hts (gv kM_98 ki_M_isPiece ksel_M_isPiece kin_M kc_M_isPiece) rfl rfl rfl (by decide +kernel) ⟨Nat.le_trans (by decide) hR.1, Nat.le_trans (by decide) hR.2⟩) (va_recv hK hP (ci := 5) (q0 := 0) rfl rfl) hP hK hE rfl hl.1 rfl (Nat.le_of_ble_eq_true rfl) dM_turn_2 hcs (fun r hr => ?_)
  subst hr
  refine rb_eq (tgt := 20) hx hb dM_turn_5 (by decide) (fun c5 => ?_) (fun c5 => ?_)
  · refine rn_iconst hx hb 0 dM_turn_20 (by decide) ?_
    refine lv_istore (lv' := [(4, .int (nI 0)), (0, .ref (qm 0)), (1, .int x), (2, .int y), (3, .int (bI on0))]) hx hb dM_turn_21 hl (by decide) rfl (fun ls hl => ?_)
    refine lv_iload hx hb dM_turn_23 (lv_at hl 0 rfl) ?_
    refine lv_if_eq (tgt := 50) hx hb dM_turn_25 (by decide) (fun c25 => ?_) (fun c25 => absurd c25 (by decide))
    refine lv_aload_n hx hb dM_turn_50 rfl (lv_at hl 1 rfl) ?_
    refine lv_iload hx hb dM_turn_51 (lv_at hl 0 rfl) ?_
    refine lv_if_eq (tgt := 60) hx hb dM_turn_53 (by decide) (fun c53 => ?_) (fun c53 => absurd c53 (by decide))
    refine rn_iconst hx hb 1 dM_turn_60 (by decide) ?_
    refine va_put (D := (dC, dI)) (ci := 5) (v := .int (nI 1)) (ty := .int) (C := nM) (T := TM) (N := 26) hx hb hg inM tM tM_ok nmM hown hK hP hD hS 0 rfl rfl 0 (by decide) (hg _ kM_69) (fun _ h9 => h9) rfl (by decide +kernel) rfl rfl (Nat.le_of_ble_eq_true rfl) dM_turn_61 (fun H locs hP hD hS => ?_)
    have hP : va_P (dC, dI) vwCl (wM cI cJ cZ qm lv bg en sc wd ht sh oh ba mw mh mk rm nm bs bc bp on wh 1 pc n mc kc sl fo) H := hP
    have hD : va_D A (wM cI cJ cZ qm lv bg en sc wd ht sh oh ba mw mh mk rm nm bs bc bp on wh 1 pc n mc kc sl fo) := hD
    refine lv_aload_n hx hb dM_turn_64 rfl (lv_at hl 1 rfl) ?_
    refine va_get (D := (dC, dI)) (ci := 5) (v := .int (nI 1)) (C := nM) (T := TM) (N := 26) hx hb hg inM hown hK hP 0 rfl rfl 0 (by decide) (hg _ kM_69) (fun _ h9 => h9) rfl dM_turn_65 ?_
    refine lv_if_le (tgt := 73) hx hb dM_turn_68 (by decide) (fun c68 => absurd c68 (by decide)) (fun c68 => ?_)
    refine rn_iconst hx hb 0 dM_turn_71 (by decide) ?_
    have hcd : cdTu bg en n x y = 1 := by first | (simp [cdTu, c5]; done) | (simp [cdTu, c13]; done) | (rw [cdTu, if_neg (fun q => c40 (by have h9 := q.2.2; rw [e1, e2] at h9; exact h9.symm))])
    have hP9 : va_P (dC, dI) vwCl (wM cI cJ cZ qm lv bg en sc wd ht sh oh (if cdTu bg en n x y = 0 then va_up ba (40 * cN x + cN y) on0 else ba) mw mh mk rm nm bs bc bp on wh (cdTu bg en n x y) pc n mc kc sl fo) H := by rw [hcd]; exact hP
    have hD9 : va_D A (wM cI cJ cZ qm lv bg en sc wd ht sh oh (if cdTu bg en n x y = 0 then va_up ba (40 * cN x + cN y) on0 else ba) mw mh mk rm nm bs bc bp on wh (cdTu bg en n x y) pc n mc kc sl fo) := by rw [hcd]; exact hD
    exact W.iret hx hb hr (fun t ht hW => ⟨⟨_, (), rfl, (by rw [hcd]; rfl), by rw [ht]; exact hP9, va_K.moved hW.alike hK, hD9⟩, hS.F ht⟩) hS.2.2 dM_turn_72
  · refine lv_aload_n hx hb dM_turn_8 rfl (lv_at hl 0 rfl) ?_
    refine lv_iload_n hx hb dM_turn_9 rfl (lv_at hl 2 rfl) ?_
    refine cpV_i (b := (qm 0)) (C := nM) (As := [.int y]) (rest := []) (post := fun r : Int32 => r = bI (inB y n)) ⟨hx, hb, hml, hown, hts⟩ (ct_M_isPiece l dC dI cI cJ cZ qm lv mw mh mk pc mc kc bg en sc wd ht oh bt co n sh ba rm nm bs bc bp on wh cd sl fo y (hG) (hB)) (cwV 1 hts (gv kM_98 ki_M_isPiece ksel_M_isPiece kin_M kc_M_isPiece) rfl rfl rfl (by decide +kernel) ⟨Nat.le_trans (by decide) hR.1, Nat.le_trans (by decide) hR.2⟩) (va_recv hK hP (ci := 5) (q0 := 0) rfl rfl) hP hK hE rfl hl.1 rfl (Nat.le_of_ble_eq_true rfl) dM_turn_10 hcs (fun r hr => ?_)
    subst hr
    refine rb_eq (tgt := 20) hx hb dM_turn_13 (by decide) (fun c13 => ?_) (fun c13 => ?_)
    · refine rn_iconst hx hb 0 dM_turn_20 (by decide) ?_
      refine lv_istore (lv' := [(4, .int (nI 0)), (0, .ref (qm 0)), (1, .int x), (2, .int y), (3, .int (bI on0))]) hx hb dM_turn_21 hl (by decide) rfl (fun ls hl => ?_)
      refine lv_iload hx hb dM_turn_23 (lv_at hl 0 rfl) ?_
      refine lv_if_eq (tgt := 50) hx hb dM_turn_25 (by decide) (fun c25 => ?_) (fun c25 => absurd c25 (by decide))
      refine lv_aload_n hx hb dM_turn_50 rfl (lv_at hl 1 rfl) ?_
      refine lv_iload hx hb dM_turn_51 (lv_at hl 0 rfl) ?_
      refine lv_if_eq (tgt := 60) hx hb dM_turn_53 (by decide) (fun c53 => ?_) (fun c53 => absurd c53 (by decide))
      refine rn_iconst hx hb 1 dM_turn_60 (by decide) ?_
      refine va_put (D := (dC, dI)) (ci := 5) (v := .int (nI 1)) (ty := .int) (C := nM) (T := TM) (N := 26) hx hb hg inM tM tM_ok nmM hown hK hP hD hS 0 rfl rfl 0 (by decide) (hg _ kM_69) (fun _ h9 => h9) rfl (by decide +kernel) rfl rfl (Nat.le_of_ble_eq_true rfl) dM_turn_61 (fun H locs hP hD hS => ?_)
      have hP : va_P (dC, dI) vwCl (wM cI cJ cZ qm lv bg en sc wd ht sh oh ba mw mh mk rm nm bs bc bp on wh 1 pc n mc kc sl fo) H := hP
      have hD : va_D A (wM cI cJ cZ qm lv bg en sc wd ht sh oh ba mw mh mk rm nm bs bc bp on wh 1 pc n mc kc sl fo) := hD
      refine lv_aload_n hx hb dM_turn_64 rfl (lv_at hl 1 rfl) ?_
      refine va_get (D := (dC, dI)) (ci := 5) (v := .int (nI 1)) (C := nM) (T := TM) (N := 26) hx hb hg inM hown hK hP 0 rfl rfl 0 (by decide) (hg _ kM_69) (fun _ h9 => h9) rfl dM_turn_65 ?_
      refine lv_if_le (tgt := 73) hx hb dM_turn_68 (by decide) (fun c68 => absurd c68 (by decide)) (fun c68 => ?_)
      refine rn_iconst hx hb 0 dM_turn_71 (by decide) ?_
      have hcd : cdTu bg en n x y = 1 := by first | (simp [cdTu, c5]; done) | (simp [cdTu, c13]; done) | (rw [cdTu, if_neg (fun q => c40 (by have h9 := q.2.2; rw [e1, e2] at h9; exact h9.symm))])
      have hP9 : va_P (dC, dI) vwCl (wM cI cJ cZ qm lv bg en sc wd ht sh oh (if cdTu bg en n x y = 0 then va_up ba (40 * cN x + cN y) on0 else ba) mw mh mk rm nm bs bc bp on wh (cdTu bg en n x y) pc n mc kc sl fo) H := by rw [hcd]; exact hP
      have hD9 : va_D A (wM cI cJ cZ qm lv bg en sc wd ht sh oh (if cdTu bg en n x y = 0 then va_up ba (40 * cN x + cN y) on0 else ba) mw mh mk rm nm bs bc bp on wh (cdTu bg en n x y) pc n mc kc sl fo) := by rw [hcd]; exact hD
      exact W.iret hx hb hr (fun t ht hW => ⟨⟨_, (), rfl, (by rw [hcd]; rfl), by rw [ht]; exact hP9, va_K.moved hW.alike hK, hD9⟩, hS.F ht⟩) hS.2.2 dM_turn_72
    · refine rn_iconst hx hb 1 dM_turn_16 (by decide) ?_
      refine lv_goto (tgt := 21) hx hb dM_turn_17 (by decide) ?_
      refine lv_istore (lv' := [(4, .int (nI 1)), (0, .ref (qm 0)), (1, .int x), (2, .int y), (3, .int (bI on0))]) hx hb dM_turn_21 hl (by decide) rfl (fun ls hl => ?_)
      refine lv_iload hx hb dM_turn_23 (lv_at hl 0 rfl) ?_
      refine lv_if_eq (tgt := 50) hx hb dM_turn_25 (by decide) (fun c25 => absurd c25 (by decide)) (fun c25 => ?_)
      obtain ⟨j, hj, ej⟩ := in_of c5 (by omega)
      obtain ⟨k, hk, ek⟩ := in_of c13 (by omega)
      have e1 : cN x = j := by rw [ej]; exact cN_n (by omega)
      have e2 : cN y = k := by rw [ek]; exact cN_n (by omega)
      have bj := hbi j
      have bk := hbi k
      have hl : lv_has ls 5 [(4, .int (nI 1)), (0, .ref (qm 0)), (1, .int (nI j)), (2, .int (nI k)), (3, .int (bI on0))] := by rw [ej, ek] at hl; exact hl
      refine lv_aload_n hx hb dM_turn_28 rfl (lv_at hl 1 rfl) ?_
      refine va_get (D := (dC, dI)) (ci := 5) (v := .ref (qm 3)) (C := nM) (T := TM) (N := 26) hx hb hg inM hown hK hP 0 rfl rfl 5 (by decide) (hg _ kM_16) (fun _ h9 => h9) rfl dM_turn_29 ?_
      refine lv_iload_n hx hb dM_turn_32 rfl (lv_at hl 2 rfl) ?_
      refine ga_i (f := en) hx hb hK hP 3 0 rfl rfl (by omega) (by decide) dM_turn_33 ?_
      refine lv_aload_n hx hb dM_turn_34 rfl (lv_at hl 1 rfl) ?_
      refine va_get (D := (dC, dI)) (ci := 5) (v := .ref (qm 2)) (C := nM) (T := TM) (N := 26) hx hb hg inM hown hK hP 0 rfl rfl 4 (by decide) (hg _ kM_13) (fun _ h9 => h9) rfl dM_turn_35 ?_
      refine lv_iload_n hx hb dM_turn_38 rfl (lv_at hl 3 rfl) ?_
      refine ga_i (f := bg) hx hb hK hP 2 0 rfl rfl (by omega) (by decide) dM_turn_39 ?_
      refine rn_icmp_ne (tgt := 47) hx hb dM_turn_40 (by decide) (by omega) (by omega) (fun c40 => ?_) (fun c40 => ?_)
      · refine rn_iconst hx hb 0 dM_turn_47 (by decide) ?_
        refine lv_istore (lv' := [(4, .int (nI 0)), (0, .ref (qm 0)), (1, .int (nI j)), (2, .int (nI k)), (3, .int (bI on0))]) hx hb dM_turn_48 hl (by decide) rfl (fun ls hl => ?_)
        refine lv_aload_n hx hb dM_turn_50 rfl (lv_at hl 1 rfl) ?_
        refine lv_iload hx hb dM_turn_51 (lv_at hl 0 rfl) ?_
        refine lv_if_eq (tgt := 60) hx hb dM_turn_53 (by decide) (fun c53 => ?_) (fun c53 => absurd c53 (by decide))
        refine rn_iconst hx hb 1 dM_turn_60 (by decide) ?_
        refine va_put (D := (dC, dI)) (ci := 5) (v := .int (nI 1)) (ty := .int) (C := nM) (T := TM) (N := 26) hx hb hg inM tM tM_ok nmM hown hK hP hD hS 0 rfl rfl 0 (by decide) (hg _ kM_69) (fun _ h9 => h9) rfl (by decide +kernel) rfl rfl (Nat.le_of_ble_eq_true rfl) dM_turn_61 (fun H locs hP hD hS => ?_)
        have hP : va_P (dC, dI) vwCl (wM cI cJ cZ qm lv bg en sc wd ht sh oh ba mw mh mk rm nm bs bc bp on wh 1 pc n mc kc sl fo) H := hP
        have hD : va_D A (wM cI cJ cZ qm lv bg en sc wd ht sh oh ba mw mh mk rm nm bs bc bp on wh 1 pc n mc kc sl fo) := hD
        refine lv_aload_n hx hb dM_turn_64 rfl (lv_at hl 1 rfl) ?_
        refine va_get (D := (dC, dI)) (ci := 5) (v := .int (nI 1)) (C := nM) (T := TM) (N := 26) hx hb hg inM hown hK hP 0 rfl rfl 0 (by decide) (hg _ kM_69) (fun _ h9 => h9) rfl dM_turn_65 ?_
        refine lv_if_le (tgt := 73) hx hb dM_turn_68 (by decide) (fun c68 => absurd c68 (by decide)) (fun c68 => ?_)
        refine rn_iconst hx hb 0 dM_turn_71 (by decide) ?_
        have hcd : cdTu bg en n x y = 1 := by first | (simp [cdTu, c5]; done) | (simp [cdTu, c13]; done) | (rw [cdTu, if_neg (fun q => c40 (by have h9 := q.2.2; rw [e1, e2] at h9; exact h9.symm))])
        have hP9 : va_P (dC, dI) vwCl (wM cI cJ cZ qm lv bg en sc wd ht sh oh (if cdTu bg en n x y = 0 then va_up ba (40 * cN x + cN y) on0 else ba) mw mh mk rm nm bs bc bp on wh (cdTu bg en n x y) pc n mc kc sl fo) H := by rw [hcd]; exact hP
        have hD9 : va_D A (wM cI cJ cZ qm lv bg en sc wd ht sh oh (if cdTu bg en n x y = 0 then va_up ba (40 * cN x + cN y) on0 else ba) mw mh mk rm nm bs bc bp on wh (cdTu bg en n x y) pc n mc kc sl fo) := by rw [hcd]; exact hD
        exact W.iret hx hb hr (fun t ht hW => ⟨⟨_, (), rfl, (by rw [hcd]; rfl), by rw [ht]; exact hP9, va_K.moved hW.alike hK, hD9⟩, hS.F ht⟩) hS.2.2 dM_turn_72
      · refine rn_iconst hx hb 1 dM_turn_43 (by decide) ?_
        refine lv_goto (tgt := 48) hx hb dM_turn_44 (by decide) ?_
        refine lv_istore (lv' := [(4, .int (nI 1)), (0, .ref (qm 0)), (1, .int (nI j)), (2, .int (nI k)), (3, .int (bI on0))]) hx hb dM_turn_48 hl (by decide) rfl (fun ls hl => ?_)
        refine lv_aload_n hx hb dM_turn_50 rfl (lv_at hl 1 rfl) ?_
        refine lv_iload hx hb dM_turn_51 (lv_at hl 0 rfl) ?_
        refine lv_if_eq (tgt := 60) hx hb dM_turn_53 (by decide) (fun c53 => absurd c53 (by decide)) (fun c53 => ?_)
        refine rn_iconst hx hb 0 dM_turn_56 (by decide) ?_
        refine lv_goto (tgt := 61) hx hb dM_turn_57 (by decide) ?_
        refine va_put (D := (dC, dI)) (ci := 5) (v := .int (nI 0)) (ty := .int) (C := nM) (T := TM) (N := 26) hx hb hg inM tM tM_ok nmM hown hK hP hD hS 0 rfl rfl 0 (by decide) (hg _ kM_69) (fun _ h9 => h9) rfl (by decide +kernel) rfl rfl (Nat.le_of_ble_eq_true rfl) dM_turn_61 (fun H locs hP hD hS => ?_)
        have hP : va_P (dC, dI) vwCl (wM cI cJ cZ qm lv bg en sc wd ht sh oh ba mw mh mk rm nm bs bc bp on wh 0 pc n mc kc sl fo) H := hP
        have hD : va_D A (wM cI cJ cZ qm lv bg en sc wd ht sh oh ba mw mh mk rm nm bs bc bp on wh 0 pc n mc kc sl fo) := hD
        refine lv_aload_n hx hb dM_turn_64 rfl (lv_at hl 1 rfl) ?_
        refine va_get (D := (dC, dI)) (ci := 5) (v := .int (nI 0)) (C := nM) (T := TM) (N := 26) hx hb hg inM hown hK hP 0 rfl rfl 0 (by decide) (hg _ kM_69) (fun _ h9 => h9) rfl dM_turn_65 ?_
        refine lv_if_le (tgt := 73) hx hb dM_turn_68 (by decide) (fun c68 => ?_) (fun c68 => absurd c68 (by decide))
        refine lv_aload_n hx hb dM_turn_73 rfl (lv_at hl 1 rfl) ?_
        refine va_get (D := (dC, dI)) (ci := 5) (v := .ref (qm 9)) (C := nM) (T := TM) (N := 26) hx hb hg inM hown hK hP 0 rfl rfl 11 (by decide) (hg _ kM_36) (fun _ h9 => h9) rfl dM_turn_74 ?_
        refine rn_bipush hx hb 40 dM_turn_77 (by decide) ?_
        refine lv_iload_n hx hb dM_turn_79 rfl (lv_at hl 2 rfl) ?_
        refine rn_imul hx hb dM_turn_80 ?_
        refine lv_iload_n hx hb dM_turn_81 rfl (lv_at hl 3 rfl) ?_
        refine rn_iadd hx hb dM_turn_82 ?_
        refine lv_iload_n hx hb dM_turn_83 rfl (lv_at hl 4 rfl) ?_
        refine sa_b (f := ba) (v := on0) hx hb hK hP hD hS 9 2 rfl rfl (by omega) (by decide) dM_turn_84 (fun H locs hP hD hS => ?_)
        have hP : va_P (dC, dI) vwCl (wM cI cJ cZ qm lv bg en sc wd ht sh oh (va_up ba ((40 * j) + k) on0) mw mh mk rm nm bs bc bp on wh 0 pc n mc kc sl fo) H := hP
        have hD : va_D A (wM cI cJ cZ qm lv bg en sc wd ht sh oh (va_up ba ((40 * j) + k) on0) mw mh mk rm nm bs bc bp on wh 0 pc n mc kc sl fo) := hD
        refine lv_iload_n hx hb dM_turn_85 rfl (lv_at hl 4 rfl) ?_
        refine rb_eq (tgt := 93) hx hb dM_turn_86 (by decide) (fun c86 => ?_) (fun c86 => ?_)
        · refine rn_iconst hx hb 0 dM_turn_93 (by decide) ?_
          refine lv_aload_n hx hb dM_turn_94 rfl (lv_at hl 1 rfl) ?_
          refine va_get (D := (dC, dI)) (ci := 5) (v := .ref (qm 9)) (C := nM) (T := TM) (N := 26) hx hb hg inM hown hK hP 0 rfl rfl 11 (by decide) (hg _ kM_36) (fun _ h9 => h9) rfl dM_turn_95 ?_
          refine rn_bipush hx hb 40 dM_turn_98 (by decide) ?_
          refine lv_iload_n hx hb dM_turn_100 rfl (lv_at hl 3 rfl) ?_
          refine rn_imul hx hb dM_turn_101 ?_
          refine lv_iload_n hx hb dM_turn_102 rfl (lv_at hl 2 rfl) ?_
          refine rn_iadd hx hb dM_turn_103 ?_
          refine ga_b (f := va_up ba ((40 * j) + k) on0) hx hb hK hP 9 2 rfl rfl (by omega) (by decide) dM_turn_104 ?_
          refine rb_eq (tgt := 112) hx hb dM_turn_105 (by decide) (fun c105 => ?_) (fun c105 => ?_)
          · refine rn_iconst hx hb 0 dM_turn_112 (by decide) ?_
            refine rn_iadd hx hb dM_turn_113 ?_
            have hcd : cdTu bg en n x y = 0 := by rw [cdTu, if_pos ⟨c5, c13, by rw [e1, e2]; exact c40.symm⟩]
            have hP9 : va_P (dC, dI) vwCl (wM cI cJ cZ qm lv bg en sc wd ht sh oh (if cdTu bg en n x y = 0 then va_up ba (40 * cN x + cN y) on0 else ba) mw mh mk rm nm bs bc bp on wh (cdTu bg en n x y) pc n mc kc sl fo) H := by rw [hcd, e1, e2]; exact hP
            have hD9 : va_D A (wM cI cJ cZ qm lv bg en sc wd ht sh oh (if cdTu bg en n x y = 0 then va_up ba (40 * cN x + cN y) on0 else ba) mw mh mk rm nm bs bc bp on wh (cdTu bg en n x y) pc n mc kc sl fo) := by rw [hcd, e1, e2]; exact hD
            exact W.iret hx hb hr (fun t ht hW => ⟨⟨_, (), rfl, (by rw [hcd, e1, e2, c105, c86]; rfl), by rw [ht]; exact hP9, va_K.moved hW.alike hK, hD9⟩, hS.F ht⟩) hS.2.2 dM_turn_114
          · refine rn_iconst hx hb 1 dM_turn_108 (by decide) ?_
            refine lv_goto (tgt := 113) hx hb dM_turn_109 (by decide) ?_
            refine rn_iadd hx hb dM_turn_113 ?_
            have hcd : cdTu bg en n x y = 0 := by rw [cdTu, if_pos ⟨c5, c13, by rw [e1, e2]; exact c40.symm⟩]
            have hP9 : va_P (dC, dI) vwCl (wM cI cJ cZ qm lv bg en sc wd ht sh oh (if cdTu bg en n x y = 0 then va_up ba (40 * cN x + cN y) on0 else ba) mw mh mk rm nm bs bc bp on wh (cdTu bg en n x y) pc n mc kc sl fo) H := by rw [hcd, e1, e2]; exact hP
            have hD9 : va_D A (wM cI cJ cZ qm lv bg en sc wd ht sh oh (if cdTu bg en n x y = 0 then va_up ba (40 * cN x + cN y) on0 else ba) mw mh mk rm nm bs bc bp on wh (cdTu bg en n x y) pc n mc kc sl fo) := by rw [hcd, e1, e2]; exact hD
            exact W.iret hx hb hr (fun t ht hW => ⟨⟨_, (), rfl, (by rw [hcd, e1, e2, c105, c86]; rfl), by rw [ht]; exact hP9, va_K.moved hW.alike hK, hD9⟩, hS.F ht⟩) hS.2.2 dM_turn_114
        · refine rn_iconst hx hb 1 dM_turn_89 (by decide) ?_
          refine lv_goto (tgt := 94) hx hb dM_turn_90 (by decide) ?_
          refine lv_aload_n hx hb dM_turn_94 rfl (lv_at hl 1 rfl) ?_
          refine va_get (D := (dC, dI)) (ci := 5) (v := .ref (qm 9)) (C := nM) (T := TM) (N := 26) hx hb hg inM hown hK hP 0 rfl rfl 11 (by decide) (hg _ kM_36) (fun _ h9 => h9) rfl dM_turn_95 ?_
          refine rn_bipush hx hb 40 dM_turn_98 (by decide) ?_
          refine lv_iload_n hx hb dM_turn_100 rfl (lv_at hl 3 rfl) ?_
          refine rn_imul hx hb dM_turn_101 ?_
          refine lv_iload_n hx hb dM_turn_102 rfl (lv_at hl 2 rfl) ?_
          refine rn_iadd hx hb dM_turn_103 ?_
          refine ga_b (f := va_up ba ((40 * j) + k) on0) hx hb hK hP 9 2 rfl rfl (by omega) (by decide) dM_turn_104 ?_
          refine rb_eq (tgt := 112) hx hb dM_turn_105 (by decide) (fun c105 => ?_) (fun c105 => ?_)
          · refine rn_iconst hx hb 0 dM_turn_112 (by decide) ?_
            refine rn_iadd hx hb dM_turn_113 ?_
            have hcd : cdTu bg en n x y = 0 := by rw [cdTu, if_pos ⟨c5, c13, by rw [e1, e2]; exact c40.symm⟩]
            have hP9 : va_P (dC, dI) vwCl (wM cI cJ cZ qm lv bg en sc wd ht sh oh (if cdTu bg en n x y = 0 then va_up ba (40 * cN x + cN y) on0 else ba) mw mh mk rm nm bs bc bp on wh (cdTu bg en n x y) pc n mc kc sl fo) H := by rw [hcd, e1, e2]; exact hP
            have hD9 : va_D A (wM cI cJ cZ qm lv bg en sc wd ht sh oh (if cdTu bg en n x y = 0 then va_up ba (40 * cN x + cN y) on0 else ba) mw mh mk rm nm bs bc bp on wh (cdTu bg en n x y) pc n mc kc sl fo) := by rw [hcd, e1, e2]; exact hD
            exact W.iret hx hb hr (fun t ht hW => ⟨⟨_, (), rfl, (by rw [hcd, e1, e2, c105, c86]; rfl), by rw [ht]; exact hP9, va_K.moved hW.alike hK, hD9⟩, hS.F ht⟩) hS.2.2 dM_turn_114
          · refine rn_iconst hx hb 1 dM_turn_108 (by decide) ?_
            refine lv_goto (tgt := 113) hx hb dM_turn_109 (by decide) ?_
            refine rn_iadd hx hb dM_turn_113 ?_
            have hcd : cdTu bg en n x y = 0 := by rw [cdTu, if_pos ⟨c5, c13, by rw [e1, e2]; exact c40.symm⟩]
            have hP9 : va_P (dC, dI) vwCl (wM cI cJ cZ qm lv bg en sc wd ht sh oh (if cdTu bg en n x y = 0 then va_up ba (40 * cN x + cN y) on0 else ba) mw mh mk rm nm bs bc bp on wh (cdTu bg en n x y) pc n mc kc sl fo) H := by rw [hcd, e1, e2]; exact hP
            have hD9 : va_D A (wM cI cJ cZ qm lv bg en sc wd ht sh oh (if cdTu bg en n x y = 0 then va_up ba (40 * cN x + cN y) on0 else ba) mw mh mk rm nm bs bc bp on wh (cdTu bg en n x y) pc n mc kc sl fo) := by rw [hcd, e1, e2]; exact hD
            exact W.iret hx hb hr (fun t ht hW => ⟨⟨_, (), rfl, (by rw [hcd, e1, e2, c105, c86]; rfl), by rw [ht]; exact hP9, va_K.moved hW.alike hK, hD9⟩, hS.F ht⟩) hS.2.2 dM_turn_114

set_option maxHeartbeats 4000000 in
set_option maxRecDepth 100000 in
theorem lp_M_door {p : Program} {l : Launch} {e : Env} {R : Room} {s : State} {m : MethodId} {args : Array Value} {below : List Frame} {meth : Method} {c : Code} {cells slots : Nat} {Q : State → Prop} {dC : Nat → ClassId} {dI : Nat → Nat → Nat} {cI cJ cZ : ClassId} {A : Nat → Prop} (qm : Nat → Nat) (lv mw mh mk : Nat → Nat) (pc mc kc : Nat) (bg en sc wd ht oh bt : Nat → Nat) (co n : Nat) (sh ba : Nat → Bool) (rm nm bs bc bp on wh : Nat → Nat) (cd sl fo : Nat) (x y : Int32) (on0 : Bool) (hG : bGp lv mw mh mk pc mc kc) (hB : bP bg en sc wd ht oh bt co n)  (hx : p.tables.exec = Jvm.exec) (hb : c.code = cM_door) (hml : c.maxLocals = 6) (hown : s.vm.findClass nM = some m.cls) (hts : ∀ w ∈ wsM_door, w.before args s = true) (hK : va_K (dC, dI) vwCl (tyE cI cJ cZ) s) (hE : EV s) (hA : ∀ q : Nat, s.heap.size ≤ q → A q) (hR : 0 ≤ R.frames ∧ 0 ≤ R.locals) (hcs : cells ≤ R.cells ∧ slots ≤ R.slots)
    (kx0 : ∀ (i : Nat) (s9 : Nat) (j : Nat) (k : Nat) (h1 : i ≤ 24) (hs9 : s9 = pcn (sB (oh j) k on0) i) (hsb : s9 ≤ i) (c6 : inB x n = true) (c18 : wiB y.toInt64 (lN 0) (lN 23) = true) (e1 : cN x = j) (e2 : cN y = k) (hj : j < n) (hk2 : k ≤ 23) (hup : va_up oh j (sB (oh j) k on0) j = sB (oh j) k on0) (hsb2 : sB (oh j) k on0 < 16777216) (hx0 : 24 ≤ i) (H : Heap) (locs : List Loc), va_P (dC, dI) vwCl (wM cI cJ cZ qm lv bg en sc wd ht sh (va_up oh j (sB (oh j) k on0)) ba mw mh mk rm nm bs bc bp on wh 0 pc n mc kc sl fo) H → va_D A (wM cI cJ cZ qm lv bg en sc wd ht sh (va_up oh j (sB (oh j) k on0)) ba mw mh mk rm nm bs bc bp on wh 0 pc n mc kc sl fo) → va_S A s.heap H locs → ∀ ls : Array Slot, lv_has ls 6 [(0, .ref (qm 0)), (1, .int (nI j)), (2, .int (nI k)), (3, .int (bI on0)), (4, .int (nI s9)), (5, .int (nI i))] →  W p l e R s m args below meth c H locs cells slots Q (F0 m 108 ls []))
    : ∀ (fu : Nat) (i : Nat) (s9 : Nat) (j : Nat) (k : Nat) (h1 : i ≤ 24) (hs9 : s9 = pcn (sB (oh j) k on0) i) (hsb : s9 ≤ i) (c6 : inB x n = true) (c18 : wiB y.toInt64 (lN 0) (lN 23) = true) (e1 : cN x = j) (e2 : cN y = k) (hj : j < n) (hk2 : k ≤ 23) (hup : va_up oh j (sB (oh j) k on0) j = sB (oh j) k on0) (hsb2 : sB (oh j) k on0 < 16777216), 24 - i < fu → ∀ (H : Heap) (locs : List Loc), va_P (dC, dI) vwCl (wM cI cJ cZ qm lv bg en sc wd ht sh (va_up oh j (sB (oh j) k on0)) ba mw mh mk rm nm bs bc bp on wh 0 pc n mc kc sl fo) H → va_D A (wM cI cJ cZ qm lv bg en sc wd ht sh (va_up oh j (sB (oh j) k on0)) ba mw mh mk rm nm bs bc bp on wh 0 pc n mc kc sl fo) → va_S A s.heap H locs → ∀ ls : Array Slot, lv_has ls 6 [(0, .ref (qm 0)), (1, .int (nI j)), (2, .int (nI k)), (3, .int (bI on0)), (4, .int (nI s9)), (5, .int (nI i))] →  W p l e R s m args below meth c H locs cells slots Q (F0 m 79 ls []) := by
  have hg : ∀ w ∈ gw, w.before args s = true := fun w h => hts w (List.mem_cons_of_mem _ h)
  have hpc := hG.1
  have hmc := hG.2.1
  have hkc := hG.2.2.1
  have hgi := hG.2.2.2
  have hbi := hB.2.2
  have hn := hB.1
  have hco := hB.2.1
  intro fu
  induction fu with
  | zero => intro i s9 j k h1 hs9 hsb c6 c18 e1 e2 hj hk2 hup hsb2 h0; exact absurd h0 (Nat.not_lt_zero _)
  | succ fu ihL =>
    intro i s9 j k h1 hs9 hsb c6 c18 e1 e2 hj hk2 hup hsb2 hfu H locs hP hD hS ls hl
    refine lv_iload hx hb dM_door_79 (lv_at hl 5 rfl) ?_
    refine rn_bipush hx hb 24 dM_door_81 (by decide) ?_
    refine rn_icmp_ge (tgt := 108) hx hb dM_door_83 (by decide) (by omega) (by omega) (fun c83 => ?_) (fun c83 => ?_)
    · exact kx0 i s9 j k h1 hs9 hsb c6 c18 e1 e2 hj hk2 hup hsb2 (by omega) H locs hP hD hS ls (lv_sub hl [0, 1, 2, 3, 4, 5] rfl)
    · refine lv_iload hx hb dM_door_86 (lv_at hl 4 rfl) ?_
      refine lv_aload_n hx hb dM_door_88 rfl (lv_at hl 0 rfl) ?_
      refine va_get (D := (dC, dI)) (ci := 5) (v := .ref (qm 8)) (C := nM) (T := TM) (N := 26) hx hb hg inM hown hK hP 0 rfl rfl 10 (by decide) (hg _ kM_33) (fun _ h9 => h9) rfl dM_door_89 ?_
      refine lv_iload_n hx hb dM_door_92 rfl (lv_at hl 1 rfl) ?_
      refine ga_i (f := va_up oh j (sB (oh j) k on0)) hx hb hK hP 8 0 rfl rfl (by omega) (by decide) dM_door_93 ?_
      refine tp_i (y := nI (sB (oh j) k on0)) (congrArg nI hup) ?_
      refine lv_iload hx hb dM_door_94 (lv_at hl 5 rfl) ?_
      refine rn_ishr hx hb dM_door_96 (by omega) (by omega) ?_
      refine rn_iconst hx hb 1 dM_door_97 (by decide) ?_
      refine rn_iand1 hx hb dM_door_98 ?_
      refine tp_i (y := nI ((sB (oh j) k on0).testBit i).toNat) (congrArg nI tb_bit) ?_
      refine rn_iadd hx hb dM_door_99 ?_
      refine lv_istore (lv' := [(4, .int (nI (s9 + (((sB (oh j) k on0).testBit i).toNat)))), (0, .ref (qm 0)), (1, .int (nI j)), (2, .int (nI k)), (3, .int (bI on0)), (5, .int (nI i))]) hx hb dM_door_100 hl (by decide) rfl (fun ls hl => ?_)
      refine rn_iinc (lv' := [(5, .int (nI (i + 1))), (4, .int (nI (s9 + (((sB (oh j) k on0).testBit i).toNat)))), (0, .ref (qm 0)), (1, .int (nI j)), (2, .int (nI k)), (3, .int (bI on0))]) hx hb dM_door_102 hl (k := 5) rfl (by decide) rfl (fun ls hl => ?_)
      refine lv_goto (tgt := 79) hx hb dM_door_105 (by decide) ?_
      exact ihL (i + 1) (s9 + (((sB (oh j) k on0).testBit i).toNat)) j k (by omega) (by rw [hs9]; rfl) (by have := Bool.toNat_le ((sB (oh j) k on0).testBit i); omega) (c6) (c18) (e1) (e2) (hj) (hk2) (hup) (hsb2) (by omega) H locs hP hD hS ls (lv_sub hl [2, 3, 4, 5, 1, 0] rfl)

set_option maxHeartbeats 4000000 in
set_option maxRecDepth 100000 in
theorem ct_M_door (l : Launch) (dC : Nat → ClassId) (dI : Nat → Nat → Nat) (cI cJ cZ : ClassId) (qm : Nat → Nat) (lv mw mh mk : Nat → Nat) (pc mc kc : Nat) (bg en sc wd ht oh bt : Nat → Nat) (co n : Nat) (sh ba : Nat → Bool) (rm nm bs bc bp on wh : Nat → Nat) (cd sl fo : Nat) (x y : Int32) (on0 : Bool) (sz : Nat) (hG : bGp lv mw mh mk pc mc kc) (hB : bP bg en sc wd ht oh bt co n) : Met l yM_door wsM_door ({ frames := 2, cells := 0, slots := 0, locals := 46 }) (PcW (dC, dI) (wM cI cJ cZ qm lv bg en sc wd ht sh oh ba mw mh mk rm nm bs bc bp on wh cd pc n mc kc sl fo) (tyE cI cJ cZ) sz [.ref (qm 0), .int x, .int y, .int (bI on0)]) (QwI (dC, dI) (nI (if cdDo n x y = 0 then pcn (sB (oh (cN x)) (cN y) on0) 24 else 0)) (wM cI cJ cZ qm lv bg en sc wd ht sh (if cdDo n x y = 0 then va_up oh (cN x) (sB (oh (cN x)) (cN y) on0) else oh) ba mw mh mk rm nm bs bc bp on wh (cdDo n x y) pc n mc kc sl fo) (tyE cI cJ cZ) (va_A (wM cI cJ cZ qm lv bg en sc wd ht sh oh ba mw mh mk rm nm bs bc bp on wh cd pc n mc kc sl fo) sz)) 0 0 (va_A (wM cI cJ cZ qm lv bg en sc wd ht sh oh ba mw mh mk rm nm bs bc bp on wh cd pc n mc kc sl fo) sz) := by
  refine Met.ofW (cc := cM_door) (maxL := 6) (ret := (some .int)) (by decide) rfl ?_
  intro p e s m args below meth c s₁ B hml hv
  obtain ⟨rfl, hsz, hP, hK, hD0, hE⟩ := hv
  have hx := B.exec
  have hb := B.bytes
  have hr := B.returns
  have hts := atoms_spec (ws := wsM_door) B.pre
  have hg : ∀ w ∈ gw, w.before _ s = true := fun w h => hts w (List.mem_cons_of_mem _ h)
  have hown : s.vm.findClass nM = some m.cls := findClass_of_methodNamed B.named
  have hlocks := B.notSynchronized
  have hR : 2 ≤ (headSpec wsM_door ({ frames := 2, cells := 0, slots := 0, locals := 46 })).room.frames ∧ 46 ≤ (headSpec wsM_door ({ frames := 2, cells := 0, slots := 0, locals := 46 })).room.locals := ⟨Nat.le_refl _, Nat.le_refl _⟩
  have hcs : 0 ≤ (headSpec wsM_door ({ frames := 2, cells := 0, slots := 0, locals := 46 })).room.cells ∧ 0 ≤ (headSpec wsM_door ({ frames := 2, cells := 0, slots := 0, locals := 46 })).room.slots := ⟨Nat.zero_le _, Nat.zero_le _⟩
  subst hsz
  have hD := hD0.self (sz := s.heap.size)
  generalize hAe : va_A (wM cI cJ cZ qm lv bg en sc wd ht sh oh ba mw mh mk rm nm bs bc bp on wh cd pc n mc kc sl fo) s.heap.size = A at hD ⊢
  have hA : ∀ q : Nat, s.heap.size ≤ q → A q := fun q h => by rw [← hAe]; exact Or.inr h
  obtain ⟨H, hH⟩ : ∃ H, H = s.heap := ⟨_, rfl⟩
  have hS : va_S A s.heap H [] := by rw [hH]; exact va_S.rf
  rw [← hH] at hP ⊢
  have hpc := hG.1
  have hmc := hG.2.1
  have hkc := hG.2.2.1
  have hgi := hG.2.2.2
  have hbi := hB.2.2
  have hn := hB.1
  have hco := hB.2.1
  have hl := lv_entry ([.ref (qm 0), .int x, .int y, .int (bI on0)]) (n := 6) (Nat.le_of_ble_eq_true rfl)
  rw [lg_entry_eq]
  generalize (lg_sl ([.ref (qm 0), .int x, .int y, .int (bI on0)]) ++ List.replicate (6 - (lg_sl ([.ref (qm 0), .int x, .int y, .int (bI on0)])).length) Slot.unset).toArray = ls at hl ⊢
  have hl : lv_has ls 6 [(0, .ref (qm 0)), (1, .int x), (2, .int y), (3, .int (bI on0))] := hl
  refine lv_aload_n hx hb dM_door_0 rfl (lv_at hl 0 rfl) ?_
  refine lv_aload_n hx hb dM_door_1 rfl (lv_at hl 0 rfl) ?_
  refine lv_iload_n hx hb dM_door_2 rfl (lv_at hl 1 rfl) ?_
  refine cpV_i (b := (qm 0)) (C := nM) (As := [.int x]) (rest := [.ref (qm 0)]) (post := fun r : Int32 => r = bI (inB x n)) ⟨hx, hb, hml, hown, hts⟩ (ct_M_isPiece l dC dI cI cJ cZ qm lv mw mh mk pc mc kc bg en sc wd ht oh bt co n sh ba rm nm bs bc bp on wh cd sl fo x (hG) (hB)) (cwV 1 hts (gv kM_98 ki_M_isPiece ksel_M_isPiece kin_M kc_M_isPiece) rfl rfl rfl (by decide +kernel) ⟨Nat.le_trans (by decide) hR.1, Nat.le_trans (by decide) hR.2⟩) (va_recv hK hP (ci := 5) (q0 := 0) rfl rfl) hP hK hE rfl hl.1 rfl (Nat.le_of_ble_eq_true rfl) dM_door_3 hcs (fun r hr => ?_)
  subst hr
  refine rb_eq (tgt := 21) hx hb dM_door_6 (by decide) (fun c6 => ?_) (fun c6 => ?_)
  · refine rn_iconst hx hb 1 dM_door_21 (by decide) ?_
    refine lv_goto (tgt := 26) hx hb dM_door_22 (by decide) ?_
    refine va_put (D := (dC, dI)) (ci := 5) (v := .int (nI 1)) (ty := .int) (C := nM) (T := TM) (N := 26) hx hb hg inM tM tM_ok nmM hown hK hP hD hS 0 rfl rfl 0 (by decide) (hg _ kM_69) (fun _ h9 => h9) rfl (by decide +kernel) rfl rfl (Nat.le_of_ble_eq_true rfl) dM_door_26 (fun H locs hP hD hS => ?_)
    have hP : va_P (dC, dI) vwCl (wM cI cJ cZ qm lv bg en sc wd ht sh oh ba mw mh mk rm nm bs bc bp on wh 1 pc n mc kc sl fo) H := hP
    have hD : va_D A (wM cI cJ cZ qm lv bg en sc wd ht sh oh ba mw mh mk rm nm bs bc bp on wh 1 pc n mc kc sl fo) := hD
    refine lv_aload_n hx hb dM_door_29 rfl (lv_at hl 0 rfl) ?_
    refine va_get (D := (dC, dI)) (ci := 5) (v := .int (nI 1)) (C := nM) (T := TM) (N := 26) hx hb hg inM hown hK hP 0 rfl rfl 0 (by decide) (hg _ kM_69) (fun _ h9 => h9) rfl dM_door_30 ?_
    refine lv_if_le (tgt := 38) hx hb dM_door_33 (by decide) (fun c33 => absurd c33 (by decide)) (fun c33 => ?_)
    refine rn_iconst hx hb 0 dM_door_36 (by decide) ?_
    have hcd : cdDo n x y = 1 := by first | (simp [cdDo, c6]; done) | (simp [cdDo, c6]; omega)
    have hP9 : va_P (dC, dI) vwCl (wM cI cJ cZ qm lv bg en sc wd ht sh (if cdDo n x y = 0 then va_up oh (cN x) (sB (oh (cN x)) (cN y) on0) else oh) ba mw mh mk rm nm bs bc bp on wh (cdDo n x y) pc n mc kc sl fo) H := by rw [hcd]; exact hP
    have hD9 : va_D A (wM cI cJ cZ qm lv bg en sc wd ht sh (if cdDo n x y = 0 then va_up oh (cN x) (sB (oh (cN x)) (cN y) on0) else oh) ba mw mh mk rm nm bs bc bp on wh (cdDo n x y) pc n mc kc sl fo) := by rw [hcd]; exact hD
    exact W.iret hx hb hr (fun t ht hW => ⟨⟨_, (), rfl, (by rw [hcd]; rfl), by rw [ht]; exact hP9, va_K.moved hW.alike hK, hD9⟩, hS.F ht⟩) hS.2.2 dM_door_37
  · refine lv_iload_n hx hb dM_door_9 rfl (lv_at hl 2 rfl) ?_
    refine lv_i2l (v := (y).toInt64) hx hb dM_door_10 rfl ?_
    refine rn_lconst hx hb 0 dM_door_11 rfl ?_
    refine lv_ldc2 (v := 23) hx hb hown (hg _ kM_104) dM_door_12 ?_
    refine tp_l (y := lN 23) rfl ?_
    refine cpS_i (As := [.long ((y).toInt64), .long (lN 0), .long (lN 23)]) (rest := [.ref (qm 0)]) (post := fun r : Int32 => r = bI (wiB ((y).toInt64) (lN 0) (lN 23))) ⟨hx, hb, hml, hown, hts⟩ (ct_M_in l dC dI cI cJ cZ ((y).toInt64) (lN 0) (lN 23) ) (va_cwS 3 hts (gs kM_76 ks_M_in kin_M kc_M_in) rfl rfl rfl (by decide +kernel) ⟨Nat.le_trans (by decide) hR.1, Nat.le_trans (by decide) hR.2⟩) (hP.sub (ws' := []) [] rfl) hK hE rfl hl.1 rfl (Nat.le_of_ble_eq_true rfl) dM_door_15 hcs (fun r hr => ?_)
    subst hr
    refine rb_ne (tgt := 25) hx hb dM_door_18 (by decide) (fun c18 => ?_) (fun c18 => ?_)
    · refine rn_iconst hx hb 0 dM_door_25 (by decide) ?_
      refine va_put (D := (dC, dI)) (ci := 5) (v := .int (nI 0)) (ty := .int) (C := nM) (T := TM) (N := 26) hx hb hg inM tM tM_ok nmM hown hK hP hD hS 0 rfl rfl 0 (by decide) (hg _ kM_69) (fun _ h9 => h9) rfl (by decide +kernel) rfl rfl (Nat.le_of_ble_eq_true rfl) dM_door_26 (fun H locs hP hD hS => ?_)
      have hP : va_P (dC, dI) vwCl (wM cI cJ cZ qm lv bg en sc wd ht sh oh ba mw mh mk rm nm bs bc bp on wh 0 pc n mc kc sl fo) H := hP
      have hD : va_D A (wM cI cJ cZ qm lv bg en sc wd ht sh oh ba mw mh mk rm nm bs bc bp on wh 0 pc n mc kc sl fo) := hD
      refine lv_aload_n hx hb dM_door_29 rfl (lv_at hl 0 rfl) ?_
      refine va_get (D := (dC, dI)) (ci := 5) (v := .int (nI 0)) (C := nM) (T := TM) (N := 26) hx hb hg inM hown hK hP 0 rfl rfl 0 (by decide) (hg _ kM_69) (fun _ h9 => h9) rfl dM_door_30 ?_
      refine lv_if_le (tgt := 38) hx hb dM_door_33 (by decide) (fun c33 => ?_) (fun c33 => absurd c33 (by decide))
      obtain ⟨j, hj, ej⟩ := in_of c6 (by omega)
      obtain ⟨k, hk1, hk2, ek⟩ := wi_of c18 (by decide) (by decide)
      have e1 : cN x = j := by rw [ej]; exact cN_n (by omega)
      have e2 : cN y = k := by rw [ek]; exact cN_n (by omega)
      have bj := hbi j
      have hsb2 : sB (oh j) k on0 < 16777216 := sB_lt (w := 24) on0 bj.2.2.2.2.2.1 (by omega)
      have hup : va_up oh j (sB (oh j) k on0) j = sB (oh j) k on0 := by simp [va_up]
      have hl : lv_has ls 6 [(0, .ref (qm 0)), (1, .int (nI j)), (2, .int (nI k)), (3, .int (bI on0))] := by rw [ej, ek] at hl; exact hl
      refine lv_aload_n hx hb dM_door_38 rfl (lv_at hl 0 rfl) ?_
      refine va_get (D := (dC, dI)) (ci := 5) (v := .ref (qm 8)) (C := nM) (T := TM) (N := 26) hx hb hg inM hown hK hP 0 rfl rfl 10 (by decide) (hg _ kM_33) (fun _ h9 => h9) rfl dM_door_39 ?_
      refine lv_iload_n hx hb dM_door_42 rfl (lv_at hl 1 rfl) ?_
      refine lv_iload_n hx hb dM_door_43 rfl (lv_at hl 3 rfl) ?_
      refine rb_eq (tgt := 60) hx hb dM_door_44 (by decide) (fun c44 => ?_) (fun c44 => ?_)
      · refine lv_aload_n hx hb dM_door_60 rfl (lv_at hl 0 rfl) ?_
        refine va_get (D := (dC, dI)) (ci := 5) (v := .ref (qm 8)) (C := nM) (T := TM) (N := 26) hx hb hg inM hown hK hP 0 rfl rfl 10 (by decide) (hg _ kM_33) (fun _ h9 => h9) rfl dM_door_61 ?_
        refine lv_iload_n hx hb dM_door_64 rfl (lv_at hl 1 rfl) ?_
        refine ga_i (f := oh) hx hb hK hP 8 0 rfl rfl (by omega) (by decide) dM_door_65 ?_
        refine rn_iconst hx hb 1 dM_door_66 (by decide) ?_
        refine lv_iload_n hx hb dM_door_67 rfl (lv_at hl 2 rfl) ?_
        refine rn_ishl1 hx hb dM_door_68 (by omega) ?_
        refine lv_iconst (v := -1) hx hb dM_door_69 (by decide) ?_
        refine lv_ixor hx hb dM_door_70 ?_
        refine lv_iand hx hb dM_door_71 ?_
        refine tp_i (y := nI (sB (oh j) k on0)) (by rw [c44]; exact nI_off bj.2.2.2.2.2.1 (by omega)) ?_
        refine sa_i (f := oh) (v := sB (oh j) k on0) hx hb hK hP hD hS 8 0 rfl rfl (by omega) (by decide) dM_door_72 (fun H locs hP hD hS => ?_)
        have hP : va_P (dC, dI) vwCl (wM cI cJ cZ qm lv bg en sc wd ht sh (va_up oh j (sB (oh j) k on0)) ba mw mh mk rm nm bs bc bp on wh 0 pc n mc kc sl fo) H := hP
        have hD : va_D A (wM cI cJ cZ qm lv bg en sc wd ht sh (va_up oh j (sB (oh j) k on0)) ba mw mh mk rm nm bs bc bp on wh 0 pc n mc kc sl fo) := hD
        refine rn_iconst hx hb 0 dM_door_73 (by decide) ?_
        refine lv_istore (lv' := [(4, .int (nI 0)), (0, .ref (qm 0)), (1, .int (nI j)), (2, .int (nI k)), (3, .int (bI on0))]) hx hb dM_door_74 hl (by decide) rfl (fun ls hl => ?_)
        refine rn_iconst hx hb 0 dM_door_76 (by decide) ?_
        refine lv_istore (lv' := [(5, .int (nI 0)), (4, .int (nI 0)), (0, .ref (qm 0)), (1, .int (nI j)), (2, .int (nI k)), (3, .int (bI on0))]) hx hb dM_door_77 hl (by decide) rfl (fun ls hl => ?_)
        refine lp_M_door qm lv mw mh mk pc mc kc bg en sc wd ht oh bt co n sh ba rm nm bs bc bp on wh cd sl fo x y on0 hG hB  hx hb hml hown hts hK hE hA (by first | exact hR | exact ⟨Nat.le_trans (by decide) hR.1, Nat.le_trans (by decide) hR.2⟩) hcs (fun i s9 j k h1 hs9 hsb c6 c18 e1 e2 hj hk2 hup hsb2 hx0 H locs hP hD hS ls hl => ?_) ((24 - 0) + 1) 0 0 j k (by omega) (rfl) (Nat.zero_le _) (c6) (c18) (e1) (e2) (hj) (hk2) (hup) (hsb2) (by omega) _ _ hP hD hS ls (lv_sub hl [2, 3, 4, 5, 1, 0] rfl)
        refine lv_iload hx hb dM_door_108 (lv_at hl 4 rfl) ?_
        have hcd : cdDo n x y = 0 := by simp [cdDo, c6, c18]
        have hP9 : va_P (dC, dI) vwCl (wM cI cJ cZ qm lv bg en sc wd ht sh (if cdDo n x y = 0 then va_up oh (cN x) (sB (oh (cN x)) (cN y) on0) else oh) ba mw mh mk rm nm bs bc bp on wh (cdDo n x y) pc n mc kc sl fo) H := by rw [hcd, e1, e2]; exact hP
        have hD9 : va_D A (wM cI cJ cZ qm lv bg en sc wd ht sh (if cdDo n x y = 0 then va_up oh (cN x) (sB (oh (cN x)) (cN y) on0) else oh) ba mw mh mk rm nm bs bc bp on wh (cdDo n x y) pc n mc kc sl fo) := by rw [hcd, e1, e2]; exact hD
        exact W.iret hx hb hr (fun t ht hW => ⟨⟨_, (), rfl, (by rw [hcd, e1, e2]; exact congrArg nI (by rw [hs9, show i = 24 from by omega]; rfl)), by rw [ht]; exact hP9, va_K.moved hW.alike hK, hD9⟩, hS.F ht⟩) hS.2.2 dM_door_110
      · refine lv_aload_n hx hb dM_door_47 rfl (lv_at hl 0 rfl) ?_
        refine va_get (D := (dC, dI)) (ci := 5) (v := .ref (qm 8)) (C := nM) (T := TM) (N := 26) hx hb hg inM hown hK hP 0 rfl rfl 10 (by decide) (hg _ kM_33) (fun _ h9 => h9) rfl dM_door_48 ?_
        refine lv_iload_n hx hb dM_door_51 rfl (lv_at hl 1 rfl) ?_
        refine ga_i (f := oh) hx hb hK hP 8 0 rfl rfl (by omega) (by decide) dM_door_52 ?_
        refine rn_iconst hx hb 1 dM_door_53 (by decide) ?_
        refine lv_iload_n hx hb dM_door_54 rfl (lv_at hl 2 rfl) ?_
        refine rn_ishl1 hx hb dM_door_55 (by omega) ?_
        refine rn_ior hx hb dM_door_56 ?_
        refine lv_goto (tgt := 72) hx hb dM_door_57 (by decide) ?_
        refine tp_i (y := nI (sB (oh j) k on0)) (congrArg nI (by rw [c44]; rfl)) ?_
        refine sa_i (f := oh) (v := sB (oh j) k on0) hx hb hK hP hD hS 8 0 rfl rfl (by omega) (by decide) dM_door_72 (fun H locs hP hD hS => ?_)
        have hP : va_P (dC, dI) vwCl (wM cI cJ cZ qm lv bg en sc wd ht sh (va_up oh j (sB (oh j) k on0)) ba mw mh mk rm nm bs bc bp on wh 0 pc n mc kc sl fo) H := hP
        have hD : va_D A (wM cI cJ cZ qm lv bg en sc wd ht sh (va_up oh j (sB (oh j) k on0)) ba mw mh mk rm nm bs bc bp on wh 0 pc n mc kc sl fo) := hD
        refine rn_iconst hx hb 0 dM_door_73 (by decide) ?_
        refine lv_istore (lv' := [(4, .int (nI 0)), (0, .ref (qm 0)), (1, .int (nI j)), (2, .int (nI k)), (3, .int (bI on0))]) hx hb dM_door_74 hl (by decide) rfl (fun ls hl => ?_)
        refine rn_iconst hx hb 0 dM_door_76 (by decide) ?_
        refine lv_istore (lv' := [(5, .int (nI 0)), (4, .int (nI 0)), (0, .ref (qm 0)), (1, .int (nI j)), (2, .int (nI k)), (3, .int (bI on0))]) hx hb dM_door_77 hl (by decide) rfl (fun ls hl => ?_)
        refine lp_M_door qm lv mw mh mk pc mc kc bg en sc wd ht oh bt co n sh ba rm nm bs bc bp on wh cd sl fo x y on0 hG hB  hx hb hml hown hts hK hE hA (by first | exact hR | exact ⟨Nat.le_trans (by decide) hR.1, Nat.le_trans (by decide) hR.2⟩) hcs (fun i s9 j k h1 hs9 hsb c6 c18 e1 e2 hj hk2 hup hsb2 hx0 H locs hP hD hS ls hl => ?_) ((24 - 0) + 1) 0 0 j k (by omega) (rfl) (Nat.zero_le _) (c6) (c18) (e1) (e2) (hj) (hk2) (hup) (hsb2) (by omega) _ _ hP hD hS ls (lv_sub hl [2, 3, 4, 5, 1, 0] rfl)
        refine lv_iload hx hb dM_door_108 (lv_at hl 4 rfl) ?_
        have hcd : cdDo n x y = 0 := by simp [cdDo, c6, c18]
        have hP9 : va_P (dC, dI) vwCl (wM cI cJ cZ qm lv bg en sc wd ht sh (if cdDo n x y = 0 then va_up oh (cN x) (sB (oh (cN x)) (cN y) on0) else oh) ba mw mh mk rm nm bs bc bp on wh (cdDo n x y) pc n mc kc sl fo) H := by rw [hcd, e1, e2]; exact hP
        have hD9 : va_D A (wM cI cJ cZ qm lv bg en sc wd ht sh (if cdDo n x y = 0 then va_up oh (cN x) (sB (oh (cN x)) (cN y) on0) else oh) ba mw mh mk rm nm bs bc bp on wh (cdDo n x y) pc n mc kc sl fo) := by rw [hcd, e1, e2]; exact hD
        exact W.iret hx hb hr (fun t ht hW => ⟨⟨_, (), rfl, (by rw [hcd, e1, e2]; exact congrArg nI (by rw [hs9, show i = 24 from by omega]; rfl)), by rw [ht]; exact hP9, va_K.moved hW.alike hK, hD9⟩, hS.F ht⟩) hS.2.2 dM_door_110
    · refine rn_iconst hx hb 1 dM_door_21 (by decide) ?_
      refine lv_goto (tgt := 26) hx hb dM_door_22 (by decide) ?_
      refine va_put (D := (dC, dI)) (ci := 5) (v := .int (nI 1)) (ty := .int) (C := nM) (T := TM) (N := 26) hx hb hg inM tM tM_ok nmM hown hK hP hD hS 0 rfl rfl 0 (by decide) (hg _ kM_69) (fun _ h9 => h9) rfl (by decide +kernel) rfl rfl (Nat.le_of_ble_eq_true rfl) dM_door_26 (fun H locs hP hD hS => ?_)
      have hP : va_P (dC, dI) vwCl (wM cI cJ cZ qm lv bg en sc wd ht sh oh ba mw mh mk rm nm bs bc bp on wh 1 pc n mc kc sl fo) H := hP
      have hD : va_D A (wM cI cJ cZ qm lv bg en sc wd ht sh oh ba mw mh mk rm nm bs bc bp on wh 1 pc n mc kc sl fo) := hD
      refine lv_aload_n hx hb dM_door_29 rfl (lv_at hl 0 rfl) ?_
      refine va_get (D := (dC, dI)) (ci := 5) (v := .int (nI 1)) (C := nM) (T := TM) (N := 26) hx hb hg inM hown hK hP 0 rfl rfl 0 (by decide) (hg _ kM_69) (fun _ h9 => h9) rfl dM_door_30 ?_
      refine lv_if_le (tgt := 38) hx hb dM_door_33 (by decide) (fun c33 => absurd c33 (by decide)) (fun c33 => ?_)
      refine rn_iconst hx hb 0 dM_door_36 (by decide) ?_
      have hcd : cdDo n x y = 1 := by first | (simp [cdDo, c6, c18]; done) | (simp [cdDo, c6, c18]; omega)
      have hP9 : va_P (dC, dI) vwCl (wM cI cJ cZ qm lv bg en sc wd ht sh (if cdDo n x y = 0 then va_up oh (cN x) (sB (oh (cN x)) (cN y) on0) else oh) ba mw mh mk rm nm bs bc bp on wh (cdDo n x y) pc n mc kc sl fo) H := by rw [hcd]; exact hP
      have hD9 : va_D A (wM cI cJ cZ qm lv bg en sc wd ht sh (if cdDo n x y = 0 then va_up oh (cN x) (sB (oh (cN x)) (cN y) on0) else oh) ba mw mh mk rm nm bs bc bp on wh (cdDo n x y) pc n mc kc sl fo) := by rw [hcd]; exact hD
      exact W.iret hx hb hr (fun t ht hW => ⟨⟨_, (), rfl, (by rw [hcd]; rfl), by rw [ht]; exact hP9, va_K.moved hW.alike hK, hD9⟩, hS.F ht⟩) hS.2.2 dM_door_37
