theorem lw_1 {us : Nat → Bool} {fo : Nat → Nat → Bool} {use : Nat → Nat → Nat} {v : Nat → Nat} {p q : Nat} (h : v p = NVm) : lowB us fo use v p q = false := by simp [lowB, h]
theorem lw_2 {us : Nat → Bool} {fo : Nat → Nat → Bool} {use : Nat → Nat → Nat} {v : Nat → Nat} {p q : Nat} (h : fo p q = false) : lowB us fo use v p q = false := by simp [lowB, h]
theorem lw_3 {us : Nat → Bool} {fo : Nat → Nat → Bool} {use : Nat → Nat → Nat} {v : Nat → Nat} {p q : Nat} (h : us q = false) : lowB us fo use v p q = false := by simp [lowB, h]
theorem lw_4 {us : Nat → Bool} {fo : Nat → Nat → Bool} {use : Nat → Nat → Nat} {v : Nat → Nat} {p q : Nat} (h : ¬ use q (v p) < v q) : lowB us fo use v p q = false := by simp [lowB, h]
theorem lw_5 {us : Nat → Bool} {fo : Nat → Nat → Bool} {use : Nat → Nat → Nat} {v : Nat → Nat} {p q : Nat} (h1 : v p ≠ NVm) (h2 : fo p q = true) (h3 : us q = true) (h4 : use q (v p) < v q) : lowB us fo use v p q = true := by simp [lowB, h1, h2, h3, h4]
theorem ls_1 {us : Nat → Bool} {fo : Nat → Nat → Bool} {use : Nat → Nat → Nat} {v : Nat → Nat} {p q : Nat} (h : lowB us fo use v p q = true) : lowS us fo use v p q = va_up v q (use q (v p)) := if_pos h
theorem im_y {us st : Nat → Bool} {use : Nat → Nat → Nat} {t : Nat} {rm v : Nat → Nat} {i : Nat} (hv : v = imL us st use t rm i) (c1 : st i = true) (c2 : us i = true) : va_up v i (use i t) = imL us st use t rm (i + 1) := by simp [imL, ← hv, c1, c2]
theorem im_n1 {us st : Nat → Bool} {use : Nat → Nat → Nat} {t : Nat} {rm v : Nat → Nat} {i : Nat} (hv : v = imL us st use t rm i) (c1 : st i = false) : va_up v i NVm = imL us st use t rm (i + 1) := by simp [imL, ← hv, c1]
theorem im_n2 {us st : Nat → Bool} {use : Nat → Nat → Nat} {t : Nat} {rm v : Nat → Nat} {i : Nat} (hv : v = imL us st use t rm i) (c1 : us i = false) : va_up v i NVm = imL us st use t rm (i + 1) := by simp [imL, ← hv, c1]

set_option maxHeartbeats 4000000 in
set_option maxRecDepth 100000 in
theorem ct_M_lower (l : Launch) (dC : Nat → ClassId) (dI : Nat → Nat → Nat) (cI cJ cZ : ClassId) (qm : Nat → Nat) (lv mw mh mk : Nat → Nat) (pc mc kc : Nat) (bg en sc wd ht oh bt : Nat → Nat) (co n : Nat) (sh ba : Nat → Bool) (rm nm bs bc bp on wh : Nat → Nat) (cd sl fo : Nat) (mo p9 q9 : Nat) (sz : Nat) (hG : bGp lv mw mh mk pc mc kc) (hB : bP bg en sc wd ht oh bt co n) (hsh : ∀ j, j < 40 → sh j = co.testBit j) (hba : ∀ f t, f < 40 → t < 40 → ba (40 * f + t) = (bt f).testBit t) (hmo : mo < 6) (hp40 : p9 < 40) (hq40 : q9 < 40) (hrp : rm p9 = NVm ∨ rm p9 ≤ 500000000) (hrq : rm q9 = NVm ∨ rm q9 ≤ 500000000) : Met l yM_lower wsM_lower ({ frames := 1, cells := 0, slots := 0, locals := 25 }) (PcW (dC, dI) (wM cI cJ cZ qm lv bg en sc wd ht sh oh ba mw mh mk rm nm bs bc bp on wh cd pc n mc kc sl fo) (tyE cI cJ cZ) sz [.ref (qm 0), .int (nI mo), .int (nI p9), .int (nI q9)]) (QwI (dC, dI) (bI (lowB (usB wd ht oh co (mw mo) (mh mo)) (foB bg en bt) (uE oh sc) rm p9 q9)) (wM cI cJ cZ qm lv bg en sc wd ht sh oh ba mw mh mk (lowS (usB wd ht oh co (mw mo) (mh mo)) (foB bg en bt) (uE oh sc) rm p9 q9) nm bs bc bp on wh cd pc n mc kc sl fo) (tyE cI cJ cZ) (va_A (wM cI cJ cZ qm lv bg en sc wd ht sh oh ba mw mh mk rm nm bs bc bp on wh cd pc n mc kc sl fo) sz)) 0 0 (va_A (wM cI cJ cZ qm lv bg en sc wd ht sh oh ba mw mh mk rm nm bs bc bp on wh cd pc n mc kc sl fo) sz) := by
  refine Met.ofW (cc := cM_lower) (maxL := 6) (ret := (some .boolean)) (by decide) rfl ?_
  intro p e s m args below meth c s₁ B hml hv
  obtain ⟨rfl, hsz, hP, hK, hD0, hE⟩ := hv
  have hx := B.exec
  have hb := B.bytes
  have hr := B.returns
  have hts := atoms_spec (ws := wsM_lower) B.pre
  have hg : ∀ w ∈ gw, w.before _ s = true := fun w h => hts w (List.mem_cons_of_mem _ h)
  have hown : s.vm.findClass nM = some m.cls := findClass_of_methodNamed B.named
  have hlocks := B.notSynchronized
  have hR : 1 ≤ (headSpec wsM_lower ({ frames := 1, cells := 0, slots := 0, locals := 25 })).room.frames ∧ 25 ≤ (headSpec wsM_lower ({ frames := 1, cells := 0, slots := 0, locals := 25 })).room.locals := ⟨Nat.le_refl _, Nat.le_refl _⟩
  have hcs : 0 ≤ (headSpec wsM_lower ({ frames := 1, cells := 0, slots := 0, locals := 25 })).room.cells ∧ 0 ≤ (headSpec wsM_lower ({ frames := 1, cells := 0, slots := 0, locals := 25 })).room.slots := ⟨Nat.zero_le _, Nat.zero_le _⟩
  subst hsz
  have hD := hD0.self (sz := s.heap.size)
  generalize hAe : va_A (wM cI cJ cZ qm lv bg en sc wd ht sh oh ba mw mh mk rm nm bs bc bp on wh cd pc n mc kc sl fo) s.heap.size = A at hD ⊢
  have hA : ∀ q : Nat, s.heap.size ≤ q → A q := fun q h => by rw [← hAe]; exact Or.inr h
  obtain ⟨H, hH⟩ : ∃ H, H = s.heap := ⟨_, rfl⟩
  have hS : va_S A s.heap H [] := by rw [hH]; exact va_S.rf
  rw [← hH] at hP ⊢
  have hpc := hG.1
  have hmc := hG.2.1
  have hkc := hG.2.2.1
  have hgi := hG.2.2.2
  have hbi := hB.2.2
  have hn := hB.1
  have hco := hB.2.1
  have hNV : NVm = 18446744073709551615 := rfl
  have hNc : NVc = 1152921504606846976 := rfl
  have nvp := nv_of (v := rm p9) (by omega)
  have nvq := nv_of (v := rm q9) (by omega)
  have bq := hbi q9
  have hl := lv_entry ([.ref (qm 0), .int (nI mo), .int (nI p9), .int (nI q9)]) (n := 6) (Nat.le_of_ble_eq_true rfl)
  rw [lg_entry_eq]
  generalize (lg_sl ([.ref (qm 0), .int (nI mo), .int (nI p9), .int (nI q9)]) ++ List.replicate (6 - (lg_sl ([.ref (qm 0), .int (nI mo), .int (nI p9), .int (nI q9)])).length) Slot.unset).toArray = ls at hl ⊢
  have hl : lv_has ls 6 [(0, .ref (qm 0)), (1, .int (nI mo)), (2, .int (nI p9)), (3, .int (nI q9))] := hl
  refine lv_aload_n hx hb dM_lower_0 rfl (lv_at hl 0 rfl) ?_
  refine va_get (D := (dC, dI)) (ci := 5) (v := .ref (qm 13)) (C := nM) (T := TM) (N := 26) hx hb hg inM hown hK hP 0 rfl rfl 17 (by decide) (hg _ kM_48) (fun _ h9 => h9) rfl dM_lower_1 ?_
  refine lv_iload_n hx hb dM_lower_4 rfl (lv_at hl 2 rfl) ?_
  refine ga_l (f := rm) hx hb hK hP 13 1 rfl rfl (by omega) (by decide) dM_lower_5 ?_
  refine lv_ldc2 (v := -1) hx hb hown (hg _ kM_118) dM_lower_6 ?_
  refine rl_cmp_eq (tgt := 31) hx hb dM_lower_9 dM_lower_10 (by decide) (fun c10 => ?_) (fun c10 => ?_)
  · refine rn_iconst hx hb 0 dM_lower_31 (by decide) ?_
    have hP9 : va_P (dC, dI) vwCl (wM cI cJ cZ qm lv bg en sc wd ht sh oh ba mw mh mk (lowS (usB wd ht oh co (mw mo) (mh mo)) (foB bg en bt) (uE oh sc) rm p9 q9) nm bs bc bp on wh cd pc n mc kc sl fo) H := by first | (rw [st_same (lw_1 (nvp.mp c10))]; exact hP) | (rw [st_same (lw_2 c19)]; exact hP) | (rw [st_same (lw_3 c28)]; exact hP)
    have hD9 : va_D A (wM cI cJ cZ qm lv bg en sc wd ht sh oh ba mw mh mk (lowS (usB wd ht oh co (mw mo) (mh mo)) (foB bg en bt) (uE oh sc) rm p9 q9) nm bs bc bp on wh cd pc n mc kc sl fo) := by first | (rw [st_same (lw_1 (nvp.mp c10))]; exact hD) | (rw [st_same (lw_2 c19)]; exact hD) | (rw [st_same (lw_3 c28)]; exact hD)
    exact W.zret hx hb hr rfl (fun t ht hW => ⟨⟨_, (), rfl, (by first | (rw [lw_1 (nvp.mp c10)]; rfl) | (rw [lw_2 c19]; rfl) | (rw [lw_3 c28]; rfl)), by rw [ht]; exact hP9, va_K.moved hW.alike hK, hD9⟩, hS.F ht⟩) hS.2.2 dM_lower_32
  · have hpf : rm p9 ≠ NVm := fun q => c10 (nvp.mpr q)
    refine lv_aload_n hx hb dM_lower_13 rfl (lv_at hl 0 rfl) ?_
    refine lv_iload_n hx hb dM_lower_14 rfl (lv_at hl 2 rfl) ?_
    refine lv_iload_n hx hb dM_lower_15 rfl (lv_at hl 3 rfl) ?_
    refine cpV_i (b := (qm 0)) (C := nM) (As := [.int (nI p9), .int (nI q9)]) (rest := []) (post := fun r : Int32 => r = bI (foB bg en bt p9 q9)) ⟨hx, hb, hml, hown, hts⟩ (ct_M_follows l dC dI cI cJ cZ qm lv mw mh mk pc mc kc bg en sc wd ht oh bt co n sh ba rm nm bs bc bp on wh cd sl fo p9 q9 (hG) (hB) (by omega) (hp40) (hq40)) (cwV 2 hts (gv kM_124 ki_M_follows ksel_M_follows kin_M kc_M_follows) rfl rfl rfl (by decide +kernel) ⟨Nat.le_trans (by decide) hR.1, Nat.le_trans (by decide) hR.2⟩) (va_recv hK hP (ci := 5) (q0 := 0) rfl rfl) hP hK hE rfl hl.1 rfl (Nat.le_of_ble_eq_true rfl) dM_lower_16 hcs (fun r hr => ?_)
    subst hr
    refine rb_eq (tgt := 31) hx hb dM_lower_19 (by decide) (fun c19 => ?_) (fun c19 => ?_)
    · refine rn_iconst hx hb 0 dM_lower_31 (by decide) ?_
      have hP9 : va_P (dC, dI) vwCl (wM cI cJ cZ qm lv bg en sc wd ht sh oh ba mw mh mk (lowS (usB wd ht oh co (mw mo) (mh mo)) (foB bg en bt) (uE oh sc) rm p9 q9) nm bs bc bp on wh cd pc n mc kc sl fo) H := by first | (rw [st_same (lw_1 (nvp.mp c10))]; exact hP) | (rw [st_same (lw_2 c19)]; exact hP) | (rw [st_same (lw_3 c28)]; exact hP)
      have hD9 : va_D A (wM cI cJ cZ qm lv bg en sc wd ht sh oh ba mw mh mk (lowS (usB wd ht oh co (mw mo) (mh mo)) (foB bg en bt) (uE oh sc) rm p9 q9) nm bs bc bp on wh cd pc n mc kc sl fo) := by first | (rw [st_same (lw_1 (nvp.mp c10))]; exact hD) | (rw [st_same (lw_2 c19)]; exact hD) | (rw [st_same (lw_3 c28)]; exact hD)
      exact W.zret hx hb hr rfl (fun t ht hW => ⟨⟨_, (), rfl, (by first | (rw [lw_1 (nvp.mp c10)]; rfl) | (rw [lw_2 c19]; rfl) | (rw [lw_3 c28]; rfl)), by rw [ht]; exact hP9, va_K.moved hW.alike hK, hD9⟩, hS.F ht⟩) hS.2.2 dM_lower_32
    · refine lv_aload_n hx hb dM_lower_22 rfl (lv_at hl 0 rfl) ?_
      refine lv_iload_n hx hb dM_lower_23 rfl (lv_at hl 1 rfl) ?_
      refine lv_iload_n hx hb dM_lower_24 rfl (lv_at hl 3 rfl) ?_
      refine cpV_i (b := (qm 0)) (C := nM) (As := [.int (nI mo), .int (nI q9)]) (rest := []) (post := fun r : Int32 => r = bI (usB wd ht oh co (mw mo) (mh mo) q9)) ⟨hx, hb, hml, hown, hts⟩ (ct_M_mayUse l dC dI cI cJ cZ qm lv mw mh mk pc mc kc bg en sc wd ht oh bt co n sh ba rm nm bs bc bp on wh cd sl fo mo q9 (hG) (hB) (hsh) (hmo) (hq40)) (cwV 2 hts (gv kM_110 ki_M_mayUse ksel_M_mayUse kin_M kc_M_mayUse) rfl rfl rfl (by decide +kernel) ⟨Nat.le_trans (by decide) hR.1, Nat.le_trans (by decide) hR.2⟩) (va_recv hK hP (ci := 5) (q0 := 0) rfl rfl) hP hK hE rfl hl.1 rfl (Nat.le_of_ble_eq_true rfl) dM_lower_25 hcs (fun r hr => ?_)
      subst hr
      refine rb_ne (tgt := 33) hx hb dM_lower_28 (by decide) (fun c28 => ?_) (fun c28 => ?_)
      · have hoq := us_open c28
        have hub := ew_b (oh q9) (sc q9) (rm p9)
        refine lv_aload_n hx hb dM_lower_33 rfl (lv_at hl 0 rfl) ?_
        refine lv_iload_n hx hb dM_lower_34 rfl (lv_at hl 3 rfl) ?_
        refine lv_aload_n hx hb dM_lower_35 rfl (lv_at hl 0 rfl) ?_
        refine va_get (D := (dC, dI)) (ci := 5) (v := .ref (qm 13)) (C := nM) (T := TM) (N := 26) hx hb hg inM hown hK hP 0 rfl rfl 17 (by decide) (hg _ kM_48) (fun _ h9 => h9) rfl dM_lower_36 ?_
        refine lv_iload_n hx hb dM_lower_39 rfl (lv_at hl 2 rfl) ?_
        refine ga_l (f := rm) hx hb hK hP 13 1 rfl rfl (by omega) (by decide) dM_lower_40 ?_
        refine cpV_l (b := (qm 0)) (C := nM) (As := [.int (nI q9), .long (lN (rm p9))]) (rest := []) (post := fun r : Int64 => r = lN (ew (oh q9) (sc q9) (rm p9))) ⟨hx, hb, hml, hown, hts⟩ (ct_M_use l dC dI cI cJ cZ qm lv mw mh mk pc mc kc bg en sc wd ht oh bt co n sh ba rm nm bs bc bp on wh cd sl fo q9 (rm p9) (hG) (hB) (hq40) (by omega) (by omega)) (cwV 2 hts (gv kM_114 ki_M_use ksel_M_use kin_M kc_M_use) rfl rfl rfl (by decide +kernel) ⟨Nat.le_trans (by decide) hR.1, Nat.le_trans (by decide) hR.2⟩) (va_recv hK hP (ci := 5) (q0 := 0) rfl rfl) hP hK hE rfl hl.1 rfl (Nat.le_of_ble_eq_true rfl) dM_lower_41 hcs (fun r hr => ?_)
        subst hr
        refine lv_lstore (lv' := [(4, .long (lN (ew (oh q9) (sc q9) (rm p9)))), (0, .ref (qm 0)), (1, .int (nI mo)), (2, .int (nI p9)), (3, .int (nI q9))]) hx hb dM_lower_44 hl (by decide) rfl (fun ls hl => ?_)
        refine lv_aload_n hx hb dM_lower_46 rfl (lv_at hl 1 rfl) ?_
        refine va_get (D := (dC, dI)) (ci := 5) (v := .ref (qm 13)) (C := nM) (T := TM) (N := 26) hx hb hg inM hown hK hP 0 rfl rfl 17 (by decide) (hg _ kM_48) (fun _ h9 => h9) rfl dM_lower_47 ?_
        refine lv_iload_n hx hb dM_lower_50 rfl (lv_at hl 4 rfl) ?_
        refine ga_l (f := rm) hx hb hK hP 13 1 rfl rfl (by omega) (by decide) dM_lower_51 ?_
        refine lv_ldc2 (v := -1) hx hb hown (hg _ kM_118) dM_lower_52 ?_
        refine rl_cmp_eq (tgt := 73) hx hb dM_lower_55 dM_lower_56 (by decide) (fun c56 => ?_) (fun c56 => ?_)
        · have hlt : uE oh sc q9 (rm p9) < rm q9 := by have := nvq.mp c56; show ew _ _ _ < _; omega
          have hlo := lw_5 (us := (usB wd ht oh co (mw mo) (mh mo))) (fo := (foB bg en bt)) (use := (uE oh sc)) (v := rm) hpf c19 c28 hlt
          refine lv_aload_n hx hb dM_lower_73 rfl (lv_at hl 1 rfl) ?_
          refine va_get (D := (dC, dI)) (ci := 5) (v := .ref (qm 13)) (C := nM) (T := TM) (N := 26) hx hb hg inM hown hK hP 0 rfl rfl 17 (by decide) (hg _ kM_48) (fun _ h9 => h9) rfl dM_lower_74 ?_
          refine lv_iload_n hx hb dM_lower_77 rfl (lv_at hl 4 rfl) ?_
          refine lv_lload hx hb dM_lower_78 (lv_at hl 0 rfl) ?_
          refine sa_l (f := rm) (v := ew (oh q9) (sc q9) (rm p9)) hx hb hK hP hD hS 13 1 rfl rfl (by omega) (by decide) dM_lower_80 (fun H locs hP hD hS => ?_)
          have hP : va_P (dC, dI) vwCl (wM cI cJ cZ qm lv bg en sc wd ht sh oh ba mw mh mk (va_up rm q9 (ew (oh q9) (sc q9) (rm p9))) nm bs bc bp on wh cd pc n mc kc sl fo) H := hP
          have hD : va_D A (wM cI cJ cZ qm lv bg en sc wd ht sh oh ba mw mh mk (va_up rm q9 (ew (oh q9) (sc q9) (rm p9))) nm bs bc bp on wh cd pc n mc kc sl fo) := hD
          refine rn_iconst hx hb 1 dM_lower_81 (by decide) ?_
          have hP9 : va_P (dC, dI) vwCl (wM cI cJ cZ qm lv bg en sc wd ht sh oh ba mw mh mk (lowS (usB wd ht oh co (mw mo) (mh mo)) (foB bg en bt) (uE oh sc) rm p9 q9) nm bs bc bp on wh cd pc n mc kc sl fo) H := by rw [ls_1 hlo]; exact hP
          have hD9 : va_D A (wM cI cJ cZ qm lv bg en sc wd ht sh oh ba mw mh mk (lowS (usB wd ht oh co (mw mo) (mh mo)) (foB bg en bt) (uE oh sc) rm p9 q9) nm bs bc bp on wh cd pc n mc kc sl fo) := by rw [ls_1 hlo]; exact hD
          exact W.zret hx hb hr rfl (fun t ht hW => ⟨⟨_, (), rfl, (by rw [hlo]; rfl), by rw [ht]; exact hP9, va_K.moved hW.alike hK, hD9⟩, hS.F ht⟩) hS.2.2 dM_lower_82
        · have hqf : rm q9 ≠ NVm := fun q => c56 (nvq.mpr q)
          refine lv_aload_n hx hb dM_lower_59 rfl (lv_at hl 1 rfl) ?_
          refine va_get (D := (dC, dI)) (ci := 5) (v := .ref (qm 13)) (C := nM) (T := TM) (N := 26) hx hb hg inM hown hK hP 0 rfl rfl 17 (by decide) (hg _ kM_48) (fun _ h9 => h9) rfl dM_lower_60 ?_
          refine lv_iload_n hx hb dM_lower_63 rfl (lv_at hl 4 rfl) ?_
          refine ga_l (f := rm) hx hb hK hP 13 1 rfl rfl (by omega) (by decide) dM_lower_64 ?_
          refine lv_lload hx hb dM_lower_65 (lv_at hl 0 rfl) ?_
          refine rn_lcmp_gt (tgt := 73) hx hb dM_lower_67 dM_lower_68 (by decide) (by omega) (by omega) (fun c68 => ?_) (fun c68 => ?_)
          · have hlt : uE oh sc q9 (rm p9) < rm q9 := by exact c68
            have hlo := lw_5 (us := (usB wd ht oh co (mw mo) (mh mo))) (fo := (foB bg en bt)) (use := (uE oh sc)) (v := rm) hpf c19 c28 hlt
            refine lv_aload_n hx hb dM_lower_73 rfl (lv_at hl 1 rfl) ?_
            refine va_get (D := (dC, dI)) (ci := 5) (v := .ref (qm 13)) (C := nM) (T := TM) (N := 26) hx hb hg inM hown hK hP 0 rfl rfl 17 (by decide) (hg _ kM_48) (fun _ h9 => h9) rfl dM_lower_74 ?_
            refine lv_iload_n hx hb dM_lower_77 rfl (lv_at hl 4 rfl) ?_
            refine lv_lload hx hb dM_lower_78 (lv_at hl 0 rfl) ?_
            refine sa_l (f := rm) (v := ew (oh q9) (sc q9) (rm p9)) hx hb hK hP hD hS 13 1 rfl rfl (by omega) (by decide) dM_lower_80 (fun H locs hP hD hS => ?_)
            have hP : va_P (dC, dI) vwCl (wM cI cJ cZ qm lv bg en sc wd ht sh oh ba mw mh mk (va_up rm q9 (ew (oh q9) (sc q9) (rm p9))) nm bs bc bp on wh cd pc n mc kc sl fo) H := hP
            have hD : va_D A (wM cI cJ cZ qm lv bg en sc wd ht sh oh ba mw mh mk (va_up rm q9 (ew (oh q9) (sc q9) (rm p9))) nm bs bc bp on wh cd pc n mc kc sl fo) := hD
            refine rn_iconst hx hb 1 dM_lower_81 (by decide) ?_
            have hP9 : va_P (dC, dI) vwCl (wM cI cJ cZ qm lv bg en sc wd ht sh oh ba mw mh mk (lowS (usB wd ht oh co (mw mo) (mh mo)) (foB bg en bt) (uE oh sc) rm p9 q9) nm bs bc bp on wh cd pc n mc kc sl fo) H := by rw [ls_1 hlo]; exact hP
            have hD9 : va_D A (wM cI cJ cZ qm lv bg en sc wd ht sh oh ba mw mh mk (lowS (usB wd ht oh co (mw mo) (mh mo)) (foB bg en bt) (uE oh sc) rm p9 q9) nm bs bc bp on wh cd pc n mc kc sl fo) := by rw [ls_1 hlo]; exact hD
            exact W.zret hx hb hr rfl (fun t ht hW => ⟨⟨_, (), rfl, (by rw [hlo]; rfl), by rw [ht]; exact hP9, va_K.moved hW.alike hK, hD9⟩, hS.F ht⟩) hS.2.2 dM_lower_82
          · refine rn_iconst hx hb 0 dM_lower_71 (by decide) ?_
            have hP9 : va_P (dC, dI) vwCl (wM cI cJ cZ qm lv bg en sc wd ht sh oh ba mw mh mk (lowS (usB wd ht oh co (mw mo) (mh mo)) (foB bg en bt) (uE oh sc) rm p9 q9) nm bs bc bp on wh cd pc n mc kc sl fo) H := by rw [st_same (lw_4 c68)]; exact hP
            have hD9 : va_D A (wM cI cJ cZ qm lv bg en sc wd ht sh oh ba mw mh mk (lowS (usB wd ht oh co (mw mo) (mh mo)) (foB bg en bt) (uE oh sc) rm p9 q9) nm bs bc bp on wh cd pc n mc kc sl fo) := by rw [st_same (lw_4 c68)]; exact hD
            exact W.zret hx hb hr rfl (fun t ht hW => ⟨⟨_, (), rfl, (by rw [lw_4 c68]; rfl), by rw [ht]; exact hP9, va_K.moved hW.alike hK, hD9⟩, hS.F ht⟩) hS.2.2 dM_lower_72
      · refine rn_iconst hx hb 0 dM_lower_31 (by decide) ?_
        have hP9 : va_P (dC, dI) vwCl (wM cI cJ cZ qm lv bg en sc wd ht sh oh ba mw mh mk (lowS (usB wd ht oh co (mw mo) (mh mo)) (foB bg en bt) (uE oh sc) rm p9 q9) nm bs bc bp on wh cd pc n mc kc sl fo) H := by first | (rw [st_same (lw_1 (nvp.mp c10))]; exact hP) | (rw [st_same (lw_2 c19)]; exact hP) | (rw [st_same (lw_3 c28)]; exact hP)
        have hD9 : va_D A (wM cI cJ cZ qm lv bg en sc wd ht sh oh ba mw mh mk (lowS (usB wd ht oh co (mw mo) (mh mo)) (foB bg en bt) (uE oh sc) rm p9 q9) nm bs bc bp on wh cd pc n mc kc sl fo) := by first | (rw [st_same (lw_1 (nvp.mp c10))]; exact hD) | (rw [st_same (lw_2 c19)]; exact hD) | (rw [st_same (lw_3 c28)]; exact hD)
        exact W.zret hx hb hr rfl (fun t ht hW => ⟨⟨_, (), rfl, (by first | (rw [lw_1 (nvp.mp c10)]; rfl) | (rw [lw_2 c19]; rfl) | (rw [lw_3 c28]; rfl)), by rw [ht]; exact hP9, va_K.moved hW.alike hK, hD9⟩, hS.F ht⟩) hS.2.2 dM_lower_32

set_option maxHeartbeats 4000000 in
set_option maxRecDepth 100000 in
theorem lp_M_reach4 {p : Program} {l : Launch} {e : Env} {R : Room} {s : State} {m : MethodId} {args : Array Value} {below : List Frame} {meth : Method} {c : Code} {cells slots : Nat} {Q : State → Prop} {dC : Nat → ClassId} {dI : Nat → Nat → Nat} {cI cJ cZ : ClassId} {A : Nat → Prop} (qm : Nat → Nat) (lv mw mh mk : Nat → Nat) (pc mc kc : Nat) (bg en sc wd ht oh bt : Nat → Nat) (co n : Nat) (sh ba : Nat → Bool) (rm nm bs bc bp on wh : Nat → Nat) (cd sl fo : Nat) (mo a t : Nat) (hG : bGp lv mw mh mk pc mc kc) (hB : bP bg en sc wd ht oh bt co n) (hsh : ∀ j, j < 40 → sh j = co.testBit j) (hba : ∀ f t, f < 40 → t < 40 → ba (40 * f + t) = (bt f).testBit t) (hsc : ∀ i, i < n → 1 ≤ sc i) (hmo : mo < 6) (ha : a < 20) (ht0 : t ≤ 10000000) (S0 : Nat) (P0 : Nat) (hx : p.tables.exec = Jvm.exec) (hb : c.code = cM_reachAll) (hml : c.maxLocals = 8) (hown : s.vm.findClass nM = some m.cls) (hts : ∀ w ∈ wsM_reachAll, w.before args s = true) (hK : va_K (dC, dI) vwCl (tyE cI cJ cZ) s) (hE : EV s) (hA : ∀ q : Nat, s.heap.size ≤ q → A q) (hR : 2 ≤ R.frames ∧ 50 ≤ R.locals) (hcs : cells ≤ R.cells ∧ slots ≤ R.slots)
    (kx0 : ∀ (q9 : Nat) (p9 : Nat) (b9 : Bool) (v : Nat → Nat) (hq : q9 ≤ n) (hp : p9 < n) (hpe : p9 = P0) (hI : mI n (usB wd ht oh co (mw mo) (mh mo)) (stB bg a) (foB bg en bt) (uE oh sc) t v) (hv0 : ∀ i, n ≤ i → v i = rm i) (hs : sumN v n + b9.toNat ≤ S0) (hfq : b9 = false → (∀ p q, p < p9 → q < n → lowB (usB wd ht oh co (mw mo) (mh mo)) (foB bg en bt) (uE oh sc) v p q = false) ∧ ∀ q, q < q9 → lowB (usB wd ht oh co (mw mo) (mh mo)) (foB bg en bt) (uE oh sc) v p9 q = false) (hx0 : n ≤ q9) (H : Heap) (locs : List Loc), va_P (dC, dI) vwCl (wM cI cJ cZ qm lv bg en sc wd ht sh oh ba mw mh mk v nm bs bc bp on wh cd pc n mc kc sl fo) H → va_D A (wM cI cJ cZ qm lv bg en sc wd ht sh oh ba mw mh mk v nm bs bc bp on wh cd pc n mc kc sl fo) → va_S A s.heap H locs → ∀ ls : Array Slot, lv_has ls 8 [(0, .ref (qm 0)), (1, .int (nI mo)), (2, .int (nI a)), (3, .long (lN t)), (5, .int (bI b9)), (6, .int (nI p9)), (7, .int (nI q9))] →  W p l e R s m args below meth c H locs cells slots Q (F0 m 124 ls []))
    : ∀ (fu : Nat) (q9 : Nat) (p9 : Nat) (b9 : Bool) (v : Nat → Nat) (hq : q9 ≤ n) (hp : p9 < n) (hpe : p9 = P0) (hI : mI n (usB wd ht oh co (mw mo) (mh mo)) (stB bg a) (foB bg en bt) (uE oh sc) t v) (hv0 : ∀ i, n ≤ i → v i = rm i) (hs : sumN v n + b9.toNat ≤ S0) (hfq : b9 = false → (∀ p q, p < p9 → q < n → lowB (usB wd ht oh co (mw mo) (mh mo)) (foB bg en bt) (uE oh sc) v p q = false) ∧ ∀ q, q < q9 → lowB (usB wd ht oh co (mw mo) (mh mo)) (foB bg en bt) (uE oh sc) v p9 q = false), n - q9 < fu → ∀ (H : Heap) (locs : List Loc), va_P (dC, dI) vwCl (wM cI cJ cZ qm lv bg en sc wd ht sh oh ba mw mh mk v nm bs bc bp on wh cd pc n mc kc sl fo) H → va_D A (wM cI cJ cZ qm lv bg en sc wd ht sh oh ba mw mh mk v nm bs bc bp on wh cd pc n mc kc sl fo) → va_S A s.heap H locs → ∀ ls : Array Slot, lv_has ls 8 [(0, .ref (qm 0)), (1, .int (nI mo)), (2, .int (nI a)), (3, .long (lN t)), (5, .int (bI b9)), (6, .int (nI p9)), (7, .int (nI q9))] →  W p l e R s m args below meth c H locs cells slots Q (F0 m 85 ls []) := by
  have hg : ∀ w ∈ gw, w.before args s = true := fun w h => hts w (List.mem_cons_of_mem _ h)
  have hpc := hG.1
  have hmc := hG.2.1
  have hkc := hG.2.2.1
  have hgi := hG.2.2.2
  have hbi := hB.2.2
  have hn := hB.1
  have hco := hB.2.1
  have hNV : NVm = 18446744073709551615 := rfl
  have hNc : NVc = 1152921504606846976 := rfl
  have gm := hgi mo
  have hgt := uE_gt (w := mw mo) (h := mh mo) hB hsc
  have hmo2 := uE_mo (w := mw mo) (h := mh mo) hB
  have hb1 : Bool.toNat true = 1 := rfl
  have hb0 : Bool.toNat false = 0 := rfl
  intro fu
  induction fu with
  | zero => intro q9 p9 b9 v hq hp hpe hI hv0 hs hfq h0; exact absurd h0 (Nat.not_lt_zero _)
  | succ fu ihL =>
    intro q9 p9 b9 v hq hp hpe hI hv0 hs hfq hfu H locs hP hD hS ls hl
    refine lv_iload hx hb dM_reachAll_85 (lv_at hl 6 rfl) ?_
    refine lv_aload_n hx hb dM_reachAll_87 rfl (lv_at hl 0 rfl) ?_
    refine va_get (D := (dC, dI)) (ci := 5) (v := .int (nI n)) (C := nM) (T := TM) (N := 26) hx hb hg inM hown hK hP 0 rfl rfl 3 (by decide) (hg _ kM_80) (fun _ h9 => h9) rfl dM_reachAll_88 ?_
    refine rn_icmp_ge (tgt := 124) hx hb dM_reachAll_91 (by decide) (by omega) (by omega) (fun c91 => ?_) (fun c91 => ?_)
    · exact kx0 q9 p9 b9 v hq hp hpe hI hv0 hs hfq (by omega) H locs hP hD hS ls (lv_sub hl [0, 1, 2, 3, 4, 5, 6] rfl)
    · have hq9 : q9 < n := by omega
      have hrp := mI_b hn ht0 hI hp
      have hrq := mI_b hn ht0 hI hq9
      refine lv_aload_n hx hb dM_reachAll_94 rfl (lv_at hl 0 rfl) ?_
      refine lv_iload_n hx hb dM_reachAll_95 rfl (lv_at hl 1 rfl) ?_
      refine lv_iload hx hb dM_reachAll_96 (lv_at hl 5 rfl) ?_
      refine lv_iload hx hb dM_reachAll_98 (lv_at hl 6 rfl) ?_
      refine kwV_i (D := (dC, dI)) (r0 := bI (lowB (usB wd ht oh co (mw mo) (mh mo)) (foB bg en bt) (uE oh sc) v p9 q9)) (b := (qm 0)) (C := nM) (As := [.int (nI mo), .int (nI p9), .int (nI q9)]) (rest := []) (wc := (wM cI cJ cZ qm lv bg en sc wd ht sh oh ba mw mh mk v nm bs bc bp on wh cd pc n mc kc sl fo)) (wr := []) (w1 := (wM cI cJ cZ qm lv bg en sc wd ht sh oh ba mw mh mk (lowS (usB wd ht oh co (mw mo) (mh mo)) (foB bg en bt) (uE oh sc) v p9 q9) nm bs bc bp on wh cd pc n mc kc sl fo)) (wn := (wM cI cJ cZ qm lv bg en sc wd ht sh oh ba mw mh mk (lowS (usB wd ht oh co (mw mo) (mh mo)) (foB bg en bt) (uE oh sc) v p9 q9) nm bs bc bp on wh cd pc n mc kc sl fo)) ⟨hx, hb, hml, hown, hts⟩ (ct_M_lower l dC dI cI cJ cZ qm lv mw mh mk pc mc kc bg en sc wd ht oh bt co n sh ba v nm bs bc bp on wh cd sl fo mo p9 q9 H.size (hG) (hB) (hsh) (hba) (hmo) (by omega) (by omega) (hrp) (hrq)) (cwV 3 hts (gv kM_120 ki_M_lower ksel_M_lower kin_M kc_M_lower) rfl rfl rfl (by decide +kernel) ⟨Nat.le_trans (by decide) hR.1, Nat.le_trans (by decide) hR.2⟩) (va_recv hK hP (ci := 5) (q0 := 0) rfl rfl) hP hD hK hE hS hA [0, 1, 2, 3, 4, 5, 6, 7, 8, 9, 10, 11, 12, 13, 14, 15, 16, 17, 18, 19] [] [0, 1, 2, 3, 4, 5, 6, 7, 8, 9, 10, 11, 12, 13, 14, 15, 16, 17, 18, 19] rfl (by decide) rfl (by decide) (by decide) rfl (by decide) rfl hl.1 rfl (Nat.le_of_ble_eq_true rfl) dM_reachAll_100 hcs (fun H locs hP hD hS => ?_)
      refine rb_ne (tgt := 111) hx hb dM_reachAll_103 (by decide) (fun c103 => ?_) (fun c103 => ?_)
      · refine rn_iconst hx hb 1 dM_reachAll_111 (by decide) ?_
        refine lv_goto (tgt := 116) hx hb dM_reachAll_112 (by decide) ?_
        refine lv_istore (lv' := [(5, .int (nI 1)), (0, .ref (qm 0)), (1, .int (nI mo)), (2, .int (nI a)), (3, .long (lN t)), (6, .int (nI p9)), (7, .int (nI q9))]) hx hb dM_reachAll_116 hl (by decide) rfl (fun ls hl => ?_)
        refine rn_iinc (lv' := [(7, .int (nI (q9 + 1))), (5, .int (nI 1)), (0, .ref (qm 0)), (1, .int (nI mo)), (2, .int (nI a)), (3, .long (lN t)), (6, .int (nI p9))]) hx hb dM_reachAll_118 hl (k := 6) rfl (by decide) rfl (fun ls hl => ?_)
        refine lv_goto (tgt := 85) hx hb dM_reachAll_121 (by decide) ?_
        exact ihL (q9 + 1) p9 true (lowS (usB wd ht oh co (mw mo) (mh mo)) (foB bg en bt) (uE oh sc) v p9 q9) (by omega) (hp) (hpe) (st_I hn ht0 hgt hmo2 hI hp hq9) (fun i hi => (st_ge hq9 hi).trans (hv0 i hi)) (by first | exact ss_1 hq9 hs c103 | exact ss_2 hs c103 c108 | exact ss_3 hs c103 c108) (by first | exact (fun h => Bool.noConfusion h) | exact sf_3 hfq c103 c108) (by omega) H locs hP hD hS ls (lv_sub hl [2, 3, 4, 5, 1, 6, 0] rfl)
      · refine lv_iload hx hb dM_reachAll_106 (lv_at hl 4 rfl) ?_
        refine rb_eq (tgt := 115) hx hb dM_reachAll_108 (by decide) (fun c108 => ?_) (fun c108 => ?_)
        · refine rn_iconst hx hb 0 dM_reachAll_115 (by decide) ?_
          refine lv_istore (lv' := [(5, .int (nI 0)), (0, .ref (qm 0)), (1, .int (nI mo)), (2, .int (nI a)), (3, .long (lN t)), (6, .int (nI p9)), (7, .int (nI q9))]) hx hb dM_reachAll_116 hl (by decide) rfl (fun ls hl => ?_)
          refine rn_iinc (lv' := [(7, .int (nI (q9 + 1))), (5, .int (nI 0)), (0, .ref (qm 0)), (1, .int (nI mo)), (2, .int (nI a)), (3, .long (lN t)), (6, .int (nI p9))]) hx hb dM_reachAll_118 hl (k := 6) rfl (by decide) rfl (fun ls hl => ?_)
          refine lv_goto (tgt := 85) hx hb dM_reachAll_121 (by decide) ?_
          exact ihL (q9 + 1) p9 false (lowS (usB wd ht oh co (mw mo) (mh mo)) (foB bg en bt) (uE oh sc) v p9 q9) (by omega) (hp) (hpe) (st_I hn ht0 hgt hmo2 hI hp hq9) (fun i hi => (st_ge hq9 hi).trans (hv0 i hi)) (by first | exact ss_1 hq9 hs c103 | exact ss_2 hs c103 c108 | exact ss_3 hs c103 c108) (by first | exact (fun h => Bool.noConfusion h) | exact sf_3 hfq c103 c108) (by omega) H locs hP hD hS ls (lv_sub hl [2, 3, 4, 5, 1, 6, 0] rfl)
        · refine rn_iconst hx hb 1 dM_reachAll_111 (by decide) ?_
          refine lv_goto (tgt := 116) hx hb dM_reachAll_112 (by decide) ?_
          refine lv_istore (lv' := [(5, .int (nI 1)), (0, .ref (qm 0)), (1, .int (nI mo)), (2, .int (nI a)), (3, .long (lN t)), (6, .int (nI p9)), (7, .int (nI q9))]) hx hb dM_reachAll_116 hl (by decide) rfl (fun ls hl => ?_)
          refine rn_iinc (lv' := [(7, .int (nI (q9 + 1))), (5, .int (nI 1)), (0, .ref (qm 0)), (1, .int (nI mo)), (2, .int (nI a)), (3, .long (lN t)), (6, .int (nI p9))]) hx hb dM_reachAll_118 hl (k := 6) rfl (by decide) rfl (fun ls hl => ?_)
          refine lv_goto (tgt := 85) hx hb dM_reachAll_121 (by decide) ?_
          exact ihL (q9 + 1) p9 true (lowS (usB wd ht oh co (mw mo) (mh mo)) (foB bg en bt) (uE oh sc) v p9 q9) (by omega) (hp) (hpe) (st_I hn ht0 hgt hmo2 hI hp hq9) (fun i hi => (st_ge hq9 hi).trans (hv0 i hi)) (by first | exact ss_1 hq9 hs c103 | exact ss_2 hs c103 c108 | exact ss_3 hs c103 c108) (by first | exact (fun h => Bool.noConfusion h) | exact sf_3 hfq c103 c108) (by omega) H locs hP hD hS ls (lv_sub hl [2, 3, 4, 5, 1, 6, 0] rfl)

set_option maxHeartbeats 4000000 in
set_option maxRecDepth 100000 in
theorem lp_M_reach3 {p : Program} {l : Launch} {e : Env} {R : Room} {s : State} {m : MethodId} {args : Array Value} {below : List Frame} {meth : Method} {c : Code} {cells slots : Nat} {Q : State → Prop} {dC : Nat → ClassId} {dI : Nat → Nat → Nat} {cI cJ cZ : ClassId} {A : Nat → Prop} (qm : Nat → Nat) (lv mw mh mk : Nat → Nat) (pc mc kc : Nat) (bg en sc wd ht oh bt : Nat → Nat) (co n : Nat) (sh ba : Nat → Bool) (rm nm bs bc bp on wh : Nat → Nat) (cd sl fo : Nat) (mo a t : Nat) (hG : bGp lv mw mh mk pc mc kc) (hB : bP bg en sc wd ht oh bt co n) (hsh : ∀ j, j < 40 → sh j = co.testBit j) (hba : ∀ f t, f < 40 → t < 40 → ba (40 * f + t) = (bt f).testBit t) (hsc : ∀ i, i < n → 1 ≤ sc i) (hmo : mo < 6) (ha : a < 20) (ht0 : t ≤ 10000000) (S0 : Nat) (hx : p.tables.exec = Jvm.exec) (hb : c.code = cM_reachAll) (hml : c.maxLocals = 8) (hown : s.vm.findClass nM = some m.cls) (hts : ∀ w ∈ wsM_reachAll, w.before args s = true) (hK : va_K (dC, dI) vwCl (tyE cI cJ cZ) s) (hE : EV s) (hA : ∀ q : Nat, s.heap.size ≤ q → A q) (hR : 2 ≤ R.frames ∧ 50 ≤ R.locals) (hcs : cells ≤ R.cells ∧ slots ≤ R.slots)
    (kx0 : ∀ (p9 : Nat) (b9 : Bool) (v : Nat → Nat) (hp : p9 ≤ n) (hI : mI n (usB wd ht oh co (mw mo) (mh mo)) (stB bg a) (foB bg en bt) (uE oh sc) t v) (hv0 : ∀ i, n ≤ i → v i = rm i) (hs : sumN v n + b9.toNat ≤ S0) (hfx : b9 = false → ∀ p q, p < p9 → q < n → lowB (usB wd ht oh co (mw mo) (mh mo)) (foB bg en bt) (uE oh sc) v p q = false) (hx0 : n ≤ p9) (H : Heap) (locs : List Loc), va_P (dC, dI) vwCl (wM cI cJ cZ qm lv bg en sc wd ht sh oh ba mw mh mk v nm bs bc bp on wh cd pc n mc kc sl fo) H → va_D A (wM cI cJ cZ qm lv bg en sc wd ht sh oh ba mw mh mk v nm bs bc bp on wh cd pc n mc kc sl fo) → va_S A s.heap H locs → ∀ ls : Array Slot, lv_has ls 8 [(0, .ref (qm 0)), (1, .int (nI mo)), (2, .int (nI a)), (3, .long (lN t)), (5, .int (bI b9)), (6, .int (nI p9))] →  W p l e R s m args below meth c H locs cells slots Q (F0 m 130 ls []))
    : ∀ (fu : Nat) (p9 : Nat) (b9 : Bool) (v : Nat → Nat) (hp : p9 ≤ n) (hI : mI n (usB wd ht oh co (mw mo) (mh mo)) (stB bg a) (foB bg en bt) (uE oh sc) t v) (hv0 : ∀ i, n ≤ i → v i = rm i) (hs : sumN v n + b9.toNat ≤ S0) (hfx : b9 = false → ∀ p q, p < p9 → q < n → lowB (usB wd ht oh co (mw mo) (mh mo)) (foB bg en bt) (uE oh sc) v p q = false), n - p9 < fu → ∀ (H : Heap) (locs : List Loc), va_P (dC, dI) vwCl (wM cI cJ cZ qm lv bg en sc wd ht sh oh ba mw mh mk v nm bs bc bp on wh cd pc n mc kc sl fo) H → va_D A (wM cI cJ cZ qm lv bg en sc wd ht sh oh ba mw mh mk v nm bs bc bp on wh cd pc n mc kc sl fo) → va_S A s.heap H locs → ∀ ls : Array Slot, lv_has ls 8 [(0, .ref (qm 0)), (1, .int (nI mo)), (2, .int (nI a)), (3, .long (lN t)), (5, .int (bI b9)), (6, .int (nI p9))] →  W p l e R s m args below meth c H locs cells slots Q (F0 m 73 ls []) := by
  have hg : ∀ w ∈ gw, w.before args s = true := fun w h => hts w (List.mem_cons_of_mem _ h)
  have hpc := hG.1
  have hmc := hG.2.1
  have hkc := hG.2.2.1
  have hgi := hG.2.2.2
  have hbi := hB.2.2
  have hn := hB.1
  have hco := hB.2.1
  have hNV : NVm = 18446744073709551615 := rfl
  have hNc : NVc = 1152921504606846976 := rfl
  have gm := hgi mo
  have hgt := uE_gt (w := mw mo) (h := mh mo) hB hsc
  have hmo2 := uE_mo (w := mw mo) (h := mh mo) hB
  have hb1 : Bool.toNat true = 1 := rfl
  have hb0 : Bool.toNat false = 0 := rfl
  intro fu
  induction fu with
  | zero => intro p9 b9 v hp hI hv0 hs hfx h0; exact absurd h0 (Nat.not_lt_zero _)
  | succ fu ihL =>
    intro p9 b9 v hp hI hv0 hs hfx hfu H locs hP hD hS ls hl
    refine lv_iload hx hb dM_reachAll_73 (lv_at hl 5 rfl) ?_
    refine lv_aload_n hx hb dM_reachAll_75 rfl (lv_at hl 0 rfl) ?_
    refine va_get (D := (dC, dI)) (ci := 5) (v := .int (nI n)) (C := nM) (T := TM) (N := 26) hx hb hg inM hown hK hP 0 rfl rfl 3 (by decide) (hg _ kM_80) (fun _ h9 => h9) rfl dM_reachAll_76 ?_
    refine rn_icmp_ge (tgt := 130) hx hb dM_reachAll_79 (by decide) (by omega) (by omega) (fun c79 => ?_) (fun c79 => ?_)
    · exact kx0 p9 b9 v hp hI hv0 hs hfx (by omega) H locs hP hD hS ls (lv_sub hl [0, 1, 2, 3, 4, 5] rfl)
    · refine rn_iconst hx hb 0 dM_reachAll_82 (by decide) ?_
      refine lv_istore (lv' := [(7, .int (nI 0)), (0, .ref (qm 0)), (1, .int (nI mo)), (2, .int (nI a)), (3, .long (lN t)), (5, .int (bI b9)), (6, .int (nI p9))]) hx hb dM_reachAll_83 hl (by decide) rfl (fun ls hl => ?_)
      refine lp_M_reach4 qm lv mw mh mk pc mc kc bg en sc wd ht oh bt co n sh ba rm nm bs bc bp on wh cd sl fo mo a t hG hB hsh hba hsc hmo ha ht0 S0 p9 hx hb hml hown hts hK hE hA (by first | exact hR | exact ⟨Nat.le_trans (by decide) hR.1, Nat.le_trans (by decide) hR.2⟩) hcs (fun q9 p9 b9 v hq hp hpe hI hv0 hs hfq hx0 H locs hP hD hS ls hl => ?_) ((n - 0) + 1) 0 p9 b9 v (Nat.zero_le _) (by omega) (rfl) (hI) (hv0) (hs) (fun h => ⟨hfx h, fun q hq => absurd hq (Nat.not_lt_zero _)⟩) (by omega) _ _ hP hD hS ls (lv_sub hl [1, 2, 3, 4, 5, 6, 0] rfl)
      refine rn_iinc (lv' := [(6, .int (nI (p9 + 1))), (0, .ref (qm 0)), (1, .int (nI mo)), (2, .int (nI a)), (3, .long (lN t)), (5, .int (bI b9)), (7, .int (nI q9))]) hx hb dM_reachAll_124 hl (k := 5) rfl (by decide) rfl (fun ls hl => ?_)
      refine lv_goto (tgt := 73) hx hb dM_reachAll_127 (by decide) ?_
      exact ihL (p9 + 1) b9 v (by omega) (hI) (hv0) (hs) (sf_4 hfq hx0) (by omega) H locs hP hD hS ls (lv_sub hl [1, 2, 3, 4, 5, 0] rfl)

set_option maxHeartbeats 4000000 in
set_option maxRecDepth 100000 in
theorem lp_M_reach2 {p : Program} {l : Launch} {e : Env} {R : Room} {s : State} {m : MethodId} {args : Array Value} {below : List Frame} {meth : Method} {c : Code} {cells slots : Nat} {Q : State → Prop} {dC : Nat → ClassId} {dI : Nat → Nat → Nat} {cI cJ cZ : ClassId} {A : Nat → Prop} (qm : Nat → Nat) (lv mw mh mk : Nat → Nat) (pc mc kc : Nat) (bg en sc wd ht oh bt : Nat → Nat) (co n : Nat) (sh ba : Nat → Bool) (rm nm bs bc bp on wh : Nat → Nat) (cd sl fo : Nat) (mo a t : Nat) (hG : bGp lv mw mh mk pc mc kc) (hB : bP bg en sc wd ht oh bt co n) (hsh : ∀ j, j < 40 → sh j = co.testBit j) (hba : ∀ f t, f < 40 → t < 40 → ba (40 * f + t) = (bt f).testBit t) (hsc : ∀ i, i < n → 1 ≤ sc i) (hmo : mo < 6) (ha : a < 20) (ht0 : t ≤ 10000000)  (hx : p.tables.exec = Jvm.exec) (hb : c.code = cM_reachAll) (hml : c.maxLocals = 8) (hown : s.vm.findClass nM = some m.cls) (hts : ∀ w ∈ wsM_reachAll, w.before args s = true) (hK : va_K (dC, dI) vwCl (tyE cI cJ cZ) s) (hE : EV s) (hA : ∀ q : Nat, s.heap.size ≤ q → A q) (hR : 2 ≤ R.frames ∧ 50 ≤ R.locals) (hcs : cells ≤ R.cells ∧ slots ≤ R.slots)
    (kx0 : ∀ (b9 : Bool) (v : Nat → Nat) (hI : mI n (usB wd ht oh co (mw mo) (mh mo)) (stB bg a) (foB bg en bt) (uE oh sc) t v) (hv0 : ∀ i, n ≤ i → v i = rm i) (hfx : b9 = false → ∀ p q, p < n → q < n → lowB (usB wd ht oh co (mw mo) (mh mo)) (foB bg en bt) (uE oh sc) v p q = false) (hx0 : b9 = false) (H : Heap) (locs : List Loc), va_P (dC, dI) vwCl (wM cI cJ cZ qm lv bg en sc wd ht sh oh ba mw mh mk v nm bs bc bp on wh cd pc n mc kc sl fo) H → va_D A (wM cI cJ cZ qm lv bg en sc wd ht sh oh ba mw mh mk v nm bs bc bp on wh cd pc n mc kc sl fo) → va_S A s.heap H locs → ∀ ls : Array Slot, lv_has ls 8 [(0, .ref (qm 0)), (1, .int (nI mo)), (2, .int (nI a)), (3, .long (lN t)), (5, .int (bI b9))] →  W p l e R s m args below meth c H locs cells slots Q (F0 m 133 ls []))
    : ∀ (fu : Nat) (b9 : Bool) (v : Nat → Nat) (hI : mI n (usB wd ht oh co (mw mo) (mh mo)) (stB bg a) (foB bg en bt) (uE oh sc) t v) (hv0 : ∀ i, n ≤ i → v i = rm i) (hfx : b9 = false → ∀ p q, p < n → q < n → lowB (usB wd ht oh co (mw mo) (mh mo)) (foB bg en bt) (uE oh sc) v p q = false), 2 * sumN v n + b9.toNat < fu → ∀ (H : Heap) (locs : List Loc), va_P (dC, dI) vwCl (wM cI cJ cZ qm lv bg en sc wd ht sh oh ba mw mh mk v nm bs bc bp on wh cd pc n mc kc sl fo) H → va_D A (wM cI cJ cZ qm lv bg en sc wd ht sh oh ba mw mh mk v nm bs bc bp on wh cd pc n mc kc sl fo) → va_S A s.heap H locs → ∀ ls : Array Slot, lv_has ls 8 [(0, .ref (qm 0)), (1, .int (nI mo)), (2, .int (nI a)), (3, .long (lN t)), (5, .int (bI b9))] →  W p l e R s m args below meth c H locs cells slots Q (F0 m 62 ls []) := by
  have hg : ∀ w ∈ gw, w.before args s = true := fun w h => hts w (List.mem_cons_of_mem _ h)
  have hpc := hG.1
  have hmc := hG.2.1
  have hkc := hG.2.2.1
  have hgi := hG.2.2.2
  have hbi := hB.2.2
  have hn := hB.1
  have hco := hB.2.1
  have hNV : NVm = 18446744073709551615 := rfl
  have hNc : NVc = 1152921504606846976 := rfl
  have gm := hgi mo
  have hgt := uE_gt (w := mw mo) (h := mh mo) hB hsc
  have hmo2 := uE_mo (w := mw mo) (h := mh mo) hB
  have hb1 : Bool.toNat true = 1 := rfl
  have hb0 : Bool.toNat false = 0 := rfl
  intro fu
  induction fu with
  | zero => intro b9 v hI hv0 hfx h0; exact absurd h0 (Nat.not_lt_zero _)
  | succ fu ihL =>
    intro b9 v hI hv0 hfx hfu H locs hP hD hS ls hl
    refine lv_iload hx hb dM_reachAll_62 (lv_at hl 4 rfl) ?_
    refine rb_eq (tgt := 133) hx hb dM_reachAll_64 (by decide) (fun c64 => ?_) (fun c64 => ?_)
    · exact kx0 b9 v hI hv0 hfx (c64) H locs hP hD hS ls (lv_sub hl [0, 1, 2, 3, 4] rfl)
    · have hbo : b9.toNat = 1 := by rw [c64]; rfl
      refine rn_iconst hx hb 0 dM_reachAll_67 (by decide) ?_
      refine lv_istore (lv' := [(5, .int (nI 0)), (0, .ref (qm 0)), (1, .int (nI mo)), (2, .int (nI a)), (3, .long (lN t))]) hx hb dM_reachAll_68 hl (by decide) rfl (fun ls hl => ?_)
      refine rn_iconst hx hb 0 dM_reachAll_70 (by decide) ?_
      refine lv_istore (lv' := [(6, .int (nI 0)), (5, .int (nI 0)), (0, .ref (qm 0)), (1, .int (nI mo)), (2, .int (nI a)), (3, .long (lN t))]) hx hb dM_reachAll_71 hl (by decide) rfl (fun ls hl => ?_)
      refine lp_M_reach3 qm lv mw mh mk pc mc kc bg en sc wd ht oh bt co n sh ba rm nm bs bc bp on wh cd sl fo mo a t hG hB hsh hba hsc hmo ha ht0 (sumN v n) hx hb hml hown hts hK hE hA (by first | exact hR | exact ⟨Nat.le_trans (by decide) hR.1, Nat.le_trans (by decide) hR.2⟩) hcs (fun p9 b9 v hp hI hv0 hs hfx hx0 H locs hP hD hS ls hl => ?_) ((n - 0) + 1) 0 false v (Nat.zero_le _) (hI) (hv0) (Nat.le_refl _) (fun _ p q hp => absurd hp (Nat.not_lt_zero _)) (by omega) _ _ hP hD hS ls (lv_sub hl [2, 3, 4, 5, 1, 0] rfl)
      have hbl := Bool.toNat_le b9
      refine lv_goto (tgt := 62) hx hb dM_reachAll_130 (by decide) ?_
      exact ihL b9 v (hI) (hv0) (fun h p q hp => hfx h p q (by omega)) (by omega) H locs hP hD hS ls (lv_sub hl [0, 1, 2, 3, 4] rfl)

set_option maxHeartbeats 4000000 in
set_option maxRecDepth 100000 in
theorem lp_M_reach1 {p : Program} {l : Launch} {e : Env} {R : Room} {s : State} {m : MethodId} {args : Array Value} {below : List Frame} {meth : Method} {c : Code} {cells slots : Nat} {Q : State → Prop} {dC : Nat → ClassId} {dI : Nat → Nat → Nat} {cI cJ cZ : ClassId} {A : Nat → Prop} (qm : Nat → Nat) (lv mw mh mk : Nat → Nat) (pc mc kc : Nat) (bg en sc wd ht oh bt : Nat → Nat) (co n : Nat) (sh ba : Nat → Bool) (rm nm bs bc bp on wh : Nat → Nat) (cd sl fo : Nat) (mo a t : Nat) (hG : bGp lv mw mh mk pc mc kc) (hB : bP bg en sc wd ht oh bt co n) (hsh : ∀ j, j < 40 → sh j = co.testBit j) (hba : ∀ f t, f < 40 → t < 40 → ba (40 * f + t) = (bt f).testBit t) (hsc : ∀ i, i < n → 1 ≤ sc i) (hmo : mo < 6) (ha : a < 20) (ht0 : t ≤ 10000000)  (hx : p.tables.exec = Jvm.exec) (hb : c.code = cM_reachAll) (hml : c.maxLocals = 8) (hown : s.vm.findClass nM = some m.cls) (hts : ∀ w ∈ wsM_reachAll, w.before args s = true) (hK : va_K (dC, dI) vwCl (tyE cI cJ cZ) s) (hE : EV s) (hA : ∀ q : Nat, s.heap.size ≤ q → A q) (hR : 2 ≤ R.frames ∧ 50 ≤ R.locals) (hcs : cells ≤ R.cells ∧ slots ≤ R.slots)
    (kx0 : ∀ (i : Nat) (v : Nat → Nat) (hi : i ≤ n) (hv : v = imL (usB wd ht oh co (mw mo) (mh mo)) (stB bg a) (uE oh sc) t rm i) (hx0 : n ≤ i) (H : Heap) (locs : List Loc), va_P (dC, dI) vwCl (wM cI cJ cZ qm lv bg en sc wd ht sh oh ba mw mh mk v nm bs bc bp on wh cd pc n mc kc sl fo) H → va_D A (wM cI cJ cZ qm lv bg en sc wd ht sh oh ba mw mh mk v nm bs bc bp on wh cd pc n mc kc sl fo) → va_S A s.heap H locs → ∀ ls : Array Slot, lv_has ls 8 [(0, .ref (qm 0)), (1, .int (nI mo)), (2, .int (nI a)), (3, .long (lN t)), (5, .int (nI i))] →  W p l e R s m args below meth c H locs cells slots Q (F0 m 59 ls []))
    : ∀ (fu : Nat) (i : Nat) (v : Nat → Nat) (hi : i ≤ n) (hv : v = imL (usB wd ht oh co (mw mo) (mh mo)) (stB bg a) (uE oh sc) t rm i), n - i < fu → ∀ (H : Heap) (locs : List Loc), va_P (dC, dI) vwCl (wM cI cJ cZ qm lv bg en sc wd ht sh oh ba mw mh mk v nm bs bc bp on wh cd pc n mc kc sl fo) H → va_D A (wM cI cJ cZ qm lv bg en sc wd ht sh oh ba mw mh mk v nm bs bc bp on wh cd pc n mc kc sl fo) → va_S A s.heap H locs → ∀ ls : Array Slot, lv_has ls 8 [(0, .ref (qm 0)), (1, .int (nI mo)), (2, .int (nI a)), (3, .long (lN t)), (5, .int (nI i))] →  W p l e R s m args below meth c H locs cells slots Q (F0 m 3 ls []) := by
  have hg : ∀ w ∈ gw, w.before args s = true := fun w h => hts w (List.mem_cons_of_mem _ h)
  have hpc := hG.1
  have hmc := hG.2.1
  have hkc := hG.2.2.1
  have hgi := hG.2.2.2
  have hbi := hB.2.2
  have hn := hB.1
  have hco := hB.2.1
  have hNV : NVm = 18446744073709551615 := rfl
  have hNc : NVc = 1152921504606846976 := rfl
  have gm := hgi mo
  have hgt := uE_gt (w := mw mo) (h := mh mo) hB hsc
  have hmo2 := uE_mo (w := mw mo) (h := mh mo) hB
  have hb1 : Bool.toNat true = 1 := rfl
  have hb0 : Bool.toNat false = 0 := rfl
  intro fu
  induction fu with
  | zero => intro i v hi hv h0; exact absurd h0 (Nat.not_lt_zero _)
  | succ fu ihL =>
    intro i v hi hv hfu H locs hP hD hS ls hl
    refine lv_iload hx hb dM_reachAll_3 (lv_at hl 4 rfl) ?_
    refine lv_aload_n hx hb dM_reachAll_5 rfl (lv_at hl 0 rfl) ?_
    refine va_get (D := (dC, dI)) (ci := 5) (v := .int (nI n)) (C := nM) (T := TM) (N := 26) hx hb hg inM hown hK hP 0 rfl rfl 3 (by decide) (hg _ kM_80) (fun _ h9 => h9) rfl dM_reachAll_6 ?_
    refine rn_icmp_ge (tgt := 59) hx hb dM_reachAll_9 (by decide) (by omega) (by omega) (fun c9 => ?_) (fun c9 => ?_)
    · exact kx0 i v hi hv (by omega) H locs hP hD hS ls (lv_sub hl [0, 1, 2, 3, 4] rfl)
    · have bi := hbi i
      refine lv_aload_n hx hb dM_reachAll_12 rfl (lv_at hl 0 rfl) ?_
      refine va_get (D := (dC, dI)) (ci := 5) (v := .ref (qm 13)) (C := nM) (T := TM) (N := 26) hx hb hg inM hown hK hP 0 rfl rfl 17 (by decide) (hg _ kM_48) (fun _ h9 => h9) rfl dM_reachAll_13 ?_
      refine lv_iload hx hb dM_reachAll_16 (lv_at hl 4 rfl) ?_
      refine lv_aload_n hx hb dM_reachAll_18 rfl (lv_at hl 0 rfl) ?_
      refine va_get (D := (dC, dI)) (ci := 5) (v := .ref (qm 2)) (C := nM) (T := TM) (N := 26) hx hb hg inM hown hK hP 0 rfl rfl 4 (by decide) (hg _ kM_13) (fun _ h9 => h9) rfl dM_reachAll_19 ?_
      refine lv_iload hx hb dM_reachAll_22 (lv_at hl 4 rfl) ?_
      refine ga_i (f := bg) hx hb hK hP 2 0 rfl rfl (by omega) (by decide) dM_reachAll_24 ?_
      refine lv_iload_n hx hb dM_reachAll_25 rfl (lv_at hl 2 rfl) ?_
      refine rn_icmp_ne (tgt := 49) hx hb dM_reachAll_26 (by decide) (by omega) (by omega) (fun c26 => ?_) (fun c26 => ?_)
      · refine lv_ldc2 (v := -1) hx hb hown (hg _ kM_118) dM_reachAll_49 ?_
        refine tp_l (y := lN NVm) rfl ?_
        refine sa_l (f := v) (v := NVm) hx hb hK hP hD hS 13 1 rfl rfl (by omega) (by decide) dM_reachAll_52 (fun H locs hP hD hS => ?_)
        have hP : va_P (dC, dI) vwCl (wM cI cJ cZ qm lv bg en sc wd ht sh oh ba mw mh mk (va_up v i NVm) nm bs bc bp on wh cd pc n mc kc sl fo) H := hP
        have hD : va_D A (wM cI cJ cZ qm lv bg en sc wd ht sh oh ba mw mh mk (va_up v i NVm) nm bs bc bp on wh cd pc n mc kc sl fo) := hD
        refine rn_iinc (lv' := [(5, .int (nI (i + 1))), (0, .ref (qm 0)), (1, .int (nI mo)), (2, .int (nI a)), (3, .long (lN t))]) hx hb dM_reachAll_53 hl (k := 4) rfl (by decide) rfl (fun ls hl => ?_)
        refine lv_goto (tgt := 3) hx hb dM_reachAll_56 (by decide) ?_
        exact ihL (i + 1) (va_up v i NVm) (by omega) (by first | exact im_y hv (decide_eq_true c26) c36 | exact im_n1 hv (decide_eq_false c26) | exact im_n2 hv c36) (by omega) H locs hP hD hS ls (lv_sub hl [1, 2, 3, 4, 0] rfl)
      · refine lv_aload_n hx hb dM_reachAll_29 rfl (lv_at hl 0 rfl) ?_
        refine lv_iload_n hx hb dM_reachAll_30 rfl (lv_at hl 1 rfl) ?_
        refine lv_iload hx hb dM_reachAll_31 (lv_at hl 4 rfl) ?_
        refine cpV_i (b := (qm 0)) (C := nM) (As := [.int (nI mo), .int (nI i)]) (rest := [.int (nI i), .ref (qm 13)]) (post := fun r : Int32 => r = bI (usB wd ht oh co (mw mo) (mh mo) i)) ⟨hx, hb, hml, hown, hts⟩ (ct_M_mayUse l dC dI cI cJ cZ qm lv mw mh mk pc mc kc bg en sc wd ht oh bt co n sh ba v nm bs bc bp on wh cd sl fo mo i (hG) (hB) (hsh) (hmo) (by omega)) (cwV 2 hts (gv kM_110 ki_M_mayUse ksel_M_mayUse kin_M kc_M_mayUse) rfl rfl rfl (by decide +kernel) ⟨Nat.le_trans (by decide) hR.1, Nat.le_trans (by decide) hR.2⟩) (va_recv hK hP (ci := 5) (q0 := 0) rfl rfl) hP hK hE rfl hl.1 rfl (Nat.le_of_ble_eq_true rfl) dM_reachAll_33 hcs (fun r hr => ?_)
        subst hr
        refine rb_eq (tgt := 49) hx hb dM_reachAll_36 (by decide) (fun c36 => ?_) (fun c36 => ?_)
        · refine lv_ldc2 (v := -1) hx hb hown (hg _ kM_118) dM_reachAll_49 ?_
          refine tp_l (y := lN NVm) rfl ?_
          refine sa_l (f := v) (v := NVm) hx hb hK hP hD hS 13 1 rfl rfl (by omega) (by decide) dM_reachAll_52 (fun H locs hP hD hS => ?_)
          have hP : va_P (dC, dI) vwCl (wM cI cJ cZ qm lv bg en sc wd ht sh oh ba mw mh mk (va_up v i NVm) nm bs bc bp on wh cd pc n mc kc sl fo) H := hP
          have hD : va_D A (wM cI cJ cZ qm lv bg en sc wd ht sh oh ba mw mh mk (va_up v i NVm) nm bs bc bp on wh cd pc n mc kc sl fo) := hD
          refine rn_iinc (lv' := [(5, .int (nI (i + 1))), (0, .ref (qm 0)), (1, .int (nI mo)), (2, .int (nI a)), (3, .long (lN t))]) hx hb dM_reachAll_53 hl (k := 4) rfl (by decide) rfl (fun ls hl => ?_)
          refine lv_goto (tgt := 3) hx hb dM_reachAll_56 (by decide) ?_
          exact ihL (i + 1) (va_up v i NVm) (by omega) (by first | exact im_y hv (decide_eq_true c26) c36 | exact im_n1 hv (decide_eq_false c26) | exact im_n2 hv c36) (by omega) H locs hP hD hS ls (lv_sub hl [1, 2, 3, 4, 0] rfl)
        · have hoi := us_open c36
          refine lv_aload_n hx hb dM_reachAll_39 rfl (lv_at hl 0 rfl) ?_
          refine lv_iload hx hb dM_reachAll_40 (lv_at hl 4 rfl) ?_
          refine lv_lload_n hx hb dM_reachAll_42 rfl (lv_at hl 3 rfl) ?_
          refine cpV_l (b := (qm 0)) (C := nM) (As := [.int (nI i), .long (lN t)]) (rest := [.int (nI i), .ref (qm 13)]) (post := fun r : Int64 => r = lN (ew (oh i) (sc i) t)) ⟨hx, hb, hml, hown, hts⟩ (ct_M_use l dC dI cI cJ cZ qm lv mw mh mk pc mc kc bg en sc wd ht oh bt co n sh ba v nm bs bc bp on wh cd sl fo i t (hG) (hB) (by omega) (by omega) (by omega)) (cwV 2 hts (gv kM_114 ki_M_use ksel_M_use kin_M kc_M_use) rfl rfl rfl (by decide +kernel) ⟨Nat.le_trans (by decide) hR.1, Nat.le_trans (by decide) hR.2⟩) (va_recv hK hP (ci := 5) (q0 := 0) rfl rfl) hP hK hE rfl hl.1 rfl (Nat.le_of_ble_eq_true rfl) dM_reachAll_43 hcs (fun r hr => ?_)
          subst hr
          refine lv_goto (tgt := 52) hx hb dM_reachAll_46 (by decide) ?_
          refine sa_l (f := v) (v := ew (oh i) (sc i) t) hx hb hK hP hD hS 13 1 rfl rfl (by omega) (by decide) dM_reachAll_52 (fun H locs hP hD hS => ?_)
          have hP : va_P (dC, dI) vwCl (wM cI cJ cZ qm lv bg en sc wd ht sh oh ba mw mh mk (va_up v i (ew (oh i) (sc i) t)) nm bs bc bp on wh cd pc n mc kc sl fo) H := hP
          have hD : va_D A (wM cI cJ cZ qm lv bg en sc wd ht sh oh ba mw mh mk (va_up v i (ew (oh i) (sc i) t)) nm bs bc bp on wh cd pc n mc kc sl fo) := hD
          refine rn_iinc (lv' := [(5, .int (nI (i + 1))), (0, .ref (qm 0)), (1, .int (nI mo)), (2, .int (nI a)), (3, .long (lN t))]) hx hb dM_reachAll_53 hl (k := 4) rfl (by decide) rfl (fun ls hl => ?_)
          refine lv_goto (tgt := 3) hx hb dM_reachAll_56 (by decide) ?_
          exact ihL (i + 1) (va_up v i (ew (oh i) (sc i) t)) (by omega) (by first | exact im_y hv (decide_eq_true c26) c36 | exact im_n1 hv (decide_eq_false c26) | exact im_n2 hv c36) (by omega) H locs hP hD hS ls (lv_sub hl [1, 2, 3, 4, 0] rfl)

set_option maxHeartbeats 4000000 in
set_option maxRecDepth 100000 in
theorem ct_M_reachAll (l : Launch) (dC : Nat → ClassId) (dI : Nat → Nat → Nat) (cI cJ cZ : ClassId) (qm : Nat → Nat) (lv mw mh mk : Nat → Nat) (pc mc kc : Nat) (bg en sc wd ht oh bt : Nat → Nat) (co n : Nat) (sh ba : Nat → Bool) (rm nm bs bc bp on wh : Nat → Nat) (cd sl fo : Nat) (mo a t : Nat) (sz : Nat) (hG : bGp lv mw mh mk pc mc kc) (hB : bP bg en sc wd ht oh bt co n) (hsh : ∀ j, j < 40 → sh j = co.testBit j) (hba : ∀ f t, f < 40 → t < 40 → ba (40 * f + t) = (bt f).testBit t) (hsc : ∀ i, i < n → 1 ≤ sc i) (hmo : mo < 6) (ha : a < 20) (ht0 : t ≤ 10000000) : Met l yM_reachAll wsM_reachAll ({ frames := 2, cells := 0, slots := 0, locals := 50 }) (PcW (dC, dI) (wM cI cJ cZ qm lv bg en sc wd ht sh oh ba mw mh mk rm nm bs bc bp on wh cd pc n mc kc sl fo) (tyE cI cJ cZ) sz [.ref (qm 0), .int (nI mo), .int (nI a), .long (lN t)]) (QwV (dC, dI) (wM cI cJ cZ qm lv bg en sc wd ht sh oh ba mw mh mk (rmF n (cR bg en sc wd ht oh bt co n (mw mo) (mh mo) a t) rm) nm bs bc bp on wh cd pc n mc kc sl fo) (tyE cI cJ cZ) (va_A (wM cI cJ cZ qm lv bg en sc wd ht sh oh ba mw mh mk rm nm bs bc bp on wh cd pc n mc kc sl fo) sz)) 0 0 (va_A (wM cI cJ cZ qm lv bg en sc wd ht sh oh ba mw mh mk rm nm bs bc bp on wh cd pc n mc kc sl fo) sz) := by
  refine Met.ofW (cc := cM_reachAll) (maxL := 8) (ret := none) (by decide) rfl ?_
  intro p e s m args below meth c s₁ B hml hv
  obtain ⟨rfl, hsz, hP, hK, hD0, hE⟩ := hv
  have hx := B.exec
  have hb := B.bytes
  have hr := B.returns
  have hts := atoms_spec (ws := wsM_reachAll) B.pre
  have hg : ∀ w ∈ gw, w.before _ s = true := fun w h => hts w (List.mem_cons_of_mem _ h)
  have hown : s.vm.findClass nM = some m.cls := findClass_of_methodNamed B.named
  have hlocks := B.notSynchronized
  have hR : 2 ≤ (headSpec wsM_reachAll ({ frames := 2, cells := 0, slots := 0, locals := 50 })).room.frames ∧ 50 ≤ (headSpec wsM_reachAll ({ frames := 2, cells := 0, slots := 0, locals := 50 })).room.locals := ⟨Nat.le_refl _, Nat.le_refl _⟩
  have hcs : 0 ≤ (headSpec wsM_reachAll ({ frames := 2, cells := 0, slots := 0, locals := 50 })).room.cells ∧ 0 ≤ (headSpec wsM_reachAll ({ frames := 2, cells := 0, slots := 0, locals := 50 })).room.slots := ⟨Nat.zero_le _, Nat.zero_le _⟩
  subst hsz
  have hD := hD0.self (sz := s.heap.size)
  generalize hAe : va_A (wM cI cJ cZ qm lv bg en sc wd ht sh oh ba mw mh mk rm nm bs bc bp on wh cd pc n mc kc sl fo) s.heap.size = A at hD ⊢
  have hA : ∀ q : Nat, s.heap.size ≤ q → A q := fun q h => by rw [← hAe]; exact Or.inr h
  obtain ⟨H, hH⟩ : ∃ H, H = s.heap := ⟨_, rfl⟩
  have hS : va_S A s.heap H [] := by rw [hH]; exact va_S.rf
  rw [← hH] at hP ⊢
  have hpc := hG.1
  have hmc := hG.2.1
  have hkc := hG.2.2.1
  have hgi := hG.2.2.2
  have hbi := hB.2.2
  have hn := hB.1
  have hco := hB.2.1
  have hNV : NVm = 18446744073709551615 := rfl
  have hNc : NVc = 1152921504606846976 := rfl
  have gm := hgi mo
  have hgt := uE_gt (w := mw mo) (h := mh mo) hB hsc
  have hmo2 := uE_mo (w := mw mo) (h := mh mo) hB
  have hb1 : Bool.toNat true = 1 := rfl
  have hb0 : Bool.toNat false = 0 := rfl
  have hl := lv_entry ([.ref (qm 0), .int (nI mo), .int (nI a), .long (lN t)]) (n := 8) (Nat.le_of_ble_eq_true rfl)
  rw [lg_entry_eq]
  generalize (lg_sl ([.ref (qm 0), .int (nI mo), .int (nI a), .long (lN t)]) ++ List.replicate (8 - (lg_sl ([.ref (qm 0), .int (nI mo), .int (nI a), .long (lN t)])).length) Slot.unset).toArray = ls at hl ⊢
  have hl : lv_has ls 8 [(0, .ref (qm 0)), (1, .int (nI mo)), (2, .int (nI a)), (3, .long (lN t))] := hl
  refine rn_iconst hx hb 0 dM_reachAll_0 (by decide) ?_
  refine lv_istore (lv' := [(5, .int (nI 0)), (0, .ref (qm 0)), (1, .int (nI mo)), (2, .int (nI a)), (3, .long (lN t))]) hx hb dM_reachAll_1 hl (by decide) rfl (fun ls hl => ?_)
  refine lp_M_reach1 qm lv mw mh mk pc mc kc bg en sc wd ht oh bt co n sh ba rm nm bs bc bp on wh cd sl fo mo a t hG hB hsh hba hsc hmo ha ht0  hx hb hml hown hts hK hE hA (by first | exact hR | exact ⟨Nat.le_trans (by decide) hR.1, Nat.le_trans (by decide) hR.2⟩) hcs (fun i v hi hv hx0 H locs hP hD hS ls hl => ?_) ((n - 0) + 1) 0 rm (by omega) (rfl) (by omega) _ _ hP hD hS ls (lv_sub hl [1, 2, 3, 4, 0] rfl)
  refine rn_iconst hx hb 1 dM_reachAll_59 (by decide) ?_
  refine lv_istore (lv' := [(5, .int (nI 1)), (0, .ref (qm 0)), (1, .int (nI mo)), (2, .int (nI a)), (3, .long (lN t))]) hx hb dM_reachAll_60 hl (by decide) rfl (fun ls hl => ?_)
  refine lp_M_reach2 qm lv mw mh mk pc mc kc bg en sc wd ht oh bt co n sh ba rm nm bs bc bp on wh cd sl fo mo a t hG hB hsh hba hsc hmo ha ht0  hx hb hml hown hts hK hE hA (by first | exact hR | exact ⟨Nat.le_trans (by decide) hR.1, Nat.le_trans (by decide) hR.2⟩) hcs (fun b9 v hI hv0 hfx hx0 H locs hP hD hS ls hl => ?_) ((2 * sumN v n + true.toNat) + 1) true v (by rw [hv, show i = n from by omega]; exact mI_init ht0 hgt) (fun j hj => by rw [hv, imL_ok, if_neg (by omega)]) (fun h => Bool.noConfusion h) (by omega) _ _ hP hD hS ls (lv_sub hl [1, 2, 3, 4, 0] rfl)
  have hP9 : va_P (dC, dI) vwCl (wM cI cJ cZ qm lv bg en sc wd ht sh oh ba mw mh mk (rmF n (cR bg en sc wd ht oh bt co n (mw mo) (mh mo) a t) rm) nm bs bc bp on wh cd pc n mc kc sl fo) H := by rw [rm_end hB hsc ht0 hI (hfx hx0) hv0]; exact hP
  have hD9 : va_D A (wM cI cJ cZ qm lv bg en sc wd ht sh oh ba mw mh mk (rmF n (cR bg en sc wd ht oh bt co n (mw mo) (mh mo) a t) rm) nm bs bc bp on wh cd pc n mc kc sl fo) := by rw [rm_end hB hsc ht0 hI (hfx hx0) hv0]; exact hD
  exact W.vret hx hb hr (fun t ht hW => ⟨⟨(), rfl, trivial, by rw [ht]; exact hP9, va_K.moved hW.alike hK, hD9⟩, hS.F ht⟩) hS.2.2 dM_reachAll_133

theorem nvc_of {v c : Nat} (h : toC v = c) (q : lN v = -1) (hb : v < 18446744073709551616) : ¬ c < NVc := by
  rw [← h, toC, if_pos ((nv_of hb).mp q)]; exact Nat.lt_irrefl _
theorem fin_of {v c : Nat} (h : toC v = c) (q : c < NVc) : v = c := by
  by_cases e : v = NVm
  · rw [toC, if_pos e] at h; omega
  · rw [toC, if_neg e] at h; exact h
theorem fin_c {v c : Nat} (h : toC v = c) (e : v ≠ NVm) : v = c := by rw [toC, if_neg e] at h; exact h
section LT
variable {en cr : Nat → Nat} {pl i x : Nat} {o : Option Nat}
theorem lt_1 (ho : o = (lpL en cr pl i).1) (c : ¬ en i = pl) : o = (lpL en cr pl (i + 1)).1 := by rw [lpL, if_neg (fun q => c q.1)]; exact ho
theorem lt_2 (ho : o = (lpL en cr pl i).1) (c : ¬ cr i < NVc) : o = (lpL en cr pl (i + 1)).1 := by
  rw [lpL, if_neg (fun q => c (Nat.lt_of_lt_of_le q.2 (lpL_le en cr pl i).1))]; exact ho
theorem lt_3 (ho : o = (lpL en cr pl i).1) (h : o = none) (c1 : en i = pl) (c2 : cr i < NVc) : some i = (lpL en cr pl (i + 1)).1 := by
  have := (lpL_2 en cr pl i).1
  rw [← ho, h] at this
  rw [lpL, if_pos ⟨c1, by rw [this]; exact c2⟩]
theorem lt_4 (ho : o = (lpL en cr pl i).1) (h : o = some x) (c : cr x ≤ cr i) : some x = (lpL en cr pl (i + 1)).1 := by
  have := (lpL_2 en cr pl i).1
  rw [← ho, h] at this
  have h2 : (lpL en cr pl i).2 = cr x := this
  rw [lpL, if_neg (fun q => by rw [h2] at q; omega), ← ho, h]
theorem lt_5 (ho : o = (lpL en cr pl i).1) (h : o = some x) (c1 : en i = pl) (c : ¬ cr x ≤ cr i) : some i = (lpL en cr pl (i + 1)).1 := by
  have := (lpL_2 en cr pl i).1
  rw [← ho, h] at this
  have h2 : (lpL en cr pl i).2 = cr x := this
  rw [lpL, if_pos ⟨c1, by rw [h2]; omega⟩]
end LT

set_option maxHeartbeats 4000000 in
set_option maxRecDepth 100000 in
theorem lp_M_last {p : Program} {l : Launch} {e : Env} {R : Room} {s : State} {m : MethodId} {args : Array Value} {below : List Frame} {meth : Method} {c : Code} {H : Heap} {locs : List Loc} {cells slots : Nat} {Q : State → Prop} {dC : Nat → ClassId} {dI : Nat → Nat → Nat} {cI cJ cZ : ClassId} (qm : Nat → Nat) (lv mw mh mk : Nat → Nat) (pc mc kc : Nat) (bg en sc wd ht oh bt : Nat → Nat) (co n : Nat) (sh ba : Nat → Bool) (rm nm bs bc bp on wh : Nat → Nat) (cd sl fo : Nat) (cr : Nat → Nat) (pl : Nat) (hG : bGp lv mw mh mk pc mc kc) (hB : bP bg en sc wd ht oh bt co n) (hcr : ∀ j, j < n → toC (rm j) = cr j) (hcb : ∀ j, j < n → rm j = NVm ∨ rm j ≤ 500000000) (hpl : pl < 20) (hx : p.tables.exec = Jvm.exec) (hb : c.code = cM_lastTo) (hml : c.maxLocals = 4) (hown : s.vm.findClass nM = some m.cls) (hts : ∀ w ∈ wsM_lastTo, w.before args s = true) (hK : va_K (dC, dI) vwCl (tyE cI cJ cZ) s) (hP : va_P (dC, dI) vwCl (wM cI cJ cZ qm lv bg en sc wd ht sh oh ba mw mh mk rm nm bs bc bp on wh cd pc n mc kc sl fo) H) (hE : EV s) (hR : 0 ≤ R.frames ∧ 0 ≤ R.locals) (hcs : cells ≤ R.cells ∧ slots ≤ R.slots)
    (kx0 : ∀ (i : Nat) (o : Option Nat) (hi : i ≤ n) (ho : o = (lpL en cr pl i).1) (hx0 : n ≤ i) (ls : Array Slot), lv_has ls 4 [(0, .ref (qm 0)), (1, .int (nI pl)), (2, .int (oI o)), (3, .int (nI i))] → W p l e R s m args below meth c H locs cells slots Q (F0 m 64 ls []))
    : ∀ (fu : Nat) (i : Nat) (o : Option Nat) (hi : i ≤ n) (ho : o = (lpL en cr pl i).1), n - i < fu → ∀ ls : Array Slot, lv_has ls 4 [(0, .ref (qm 0)), (1, .int (nI pl)), (2, .int (oI o)), (3, .int (nI i))] → W p l e R s m args below meth c H locs cells slots Q (F0 m 4 ls []) := by
  have hg : ∀ w ∈ gw, w.before args s = true := fun w h => hts w (List.mem_cons_of_mem _ h)
  have hpc := hG.1
  have hmc := hG.2.1
  have hkc := hG.2.2.1
  have hgi := hG.2.2.2
  have hbi := hB.2.2
  have hn := hB.1
  have hco := hB.2.1
  have hNV : NVm = 18446744073709551615 := rfl
  have hNc : NVc = 1152921504606846976 := rfl
  intro fu
  induction fu with
  | zero => intro i o hi ho h0; exact absurd h0 (Nat.not_lt_zero _)
  | succ fu ihL =>
    intro i o hi ho hfu ls hl
    refine lv_iload_n hx hb dM_lastTo_4 rfl (lv_at hl 3 rfl) ?_
    refine lv_aload_n hx hb dM_lastTo_5 rfl (lv_at hl 0 rfl) ?_
    refine va_get (D := (dC, dI)) (ci := 5) (v := .int (nI n)) (C := nM) (T := TM) (N := 26) hx hb hg inM hown hK hP 0 rfl rfl 3 (by decide) (hg _ kM_80) (fun _ h9 => h9) rfl dM_lastTo_6 ?_
    refine rn_icmp_ge (tgt := 64) hx hb dM_lastTo_9 (by decide) (by omega) (by omega) (fun c9 => ?_) (fun c9 => ?_)
    · exact kx0 i o hi ho (by omega) ls (lv_sub hl [0, 1, 2, 3] rfl)
    · have bi := hbi i
      have hri := hcr i (by omega)
      have hrb := hcb i (by omega)
      refine lv_aload_n hx hb dM_lastTo_12 rfl (lv_at hl 0 rfl) ?_
      refine va_get (D := (dC, dI)) (ci := 5) (v := .ref (qm 3)) (C := nM) (T := TM) (N := 26) hx hb hg inM hown hK hP 0 rfl rfl 5 (by decide) (hg _ kM_16) (fun _ h9 => h9) rfl dM_lastTo_13 ?_
      refine lv_iload_n hx hb dM_lastTo_16 rfl (lv_at hl 3 rfl) ?_
      refine ga_i (f := en) hx hb hK hP 3 0 rfl rfl (by omega) (by decide) dM_lastTo_17 ?_
      refine lv_iload_n hx hb dM_lastTo_18 rfl (lv_at hl 1 rfl) ?_
      refine rn_icmp_ne (tgt := 58) hx hb dM_lastTo_19 (by decide) (by omega) (by omega) (fun c19 => ?_) (fun c19 => ?_)
      · refine rn_iinc (lv' := [(3, .int (nI (i + 1))), (0, .ref (qm 0)), (1, .int (nI pl)), (2, .int (oI o))]) hx hb dM_lastTo_58 hl (k := 3) rfl (by decide) rfl (fun ls hl => ?_)
        refine lv_goto (tgt := 4) hx hb dM_lastTo_61 (by decide) ?_
        exact ihL (i + 1) o (by omega) (by first | exact lt_1 ho c19 | exact lt_2 ho hnc | exact lt_3 ho o37 c19 hfi | exact lt_4 ho o37 (by rw [← hxe, ← hie]; exact c53) | exact lt_5 ho o37 c19 (by rw [← hxe, ← hie]; exact c53)) (by omega) ls (lv_sub hl [1, 2, 3, 0] rfl)
      · refine lv_aload_n hx hb dM_lastTo_22 rfl (lv_at hl 0 rfl) ?_
        refine va_get (D := (dC, dI)) (ci := 5) (v := .ref (qm 13)) (C := nM) (T := TM) (N := 26) hx hb hg inM hown hK hP 0 rfl rfl 17 (by decide) (hg _ kM_48) (fun _ h9 => h9) rfl dM_lastTo_23 ?_
        refine lv_iload_n hx hb dM_lastTo_26 rfl (lv_at hl 3 rfl) ?_
        refine ga_l (f := rm) hx hb hK hP 13 1 rfl rfl (by omega) (by decide) dM_lastTo_27 ?_
        refine lv_ldc2 (v := -1) hx hb hown (hg _ kM_118) dM_lastTo_28 ?_
        refine rl_cmp_eq (tgt := 58) hx hb dM_lastTo_31 dM_lastTo_32 (by decide) (fun c32 => ?_) (fun c32 => ?_)
        · have hnc : ¬ cr i < NVc := nvc_of hri c32 (by omega)
          refine rn_iinc (lv' := [(3, .int (nI (i + 1))), (0, .ref (qm 0)), (1, .int (nI pl)), (2, .int (oI o))]) hx hb dM_lastTo_58 hl (k := 3) rfl (by decide) rfl (fun ls hl => ?_)
          refine lv_goto (tgt := 4) hx hb dM_lastTo_61 (by decide) ?_
          exact ihL (i + 1) o (by omega) (by first | exact lt_1 ho c19 | exact lt_2 ho hnc | exact lt_3 ho o37 c19 hfi | exact lt_4 ho o37 (by rw [← hxe, ← hie]; exact c53) | exact lt_5 ho o37 c19 (by rw [← hxe, ← hie]; exact c53)) (by omega) ls (lv_sub hl [1, 2, 3, 0] rfl)
        · have hie : rm i = cr i := fin_c hri (fun q => c32 ((nv_of (by omega)).mpr q))
          have hne : rm i ≠ NVm := fun q => c32 ((nv_of (by omega)).mpr q)
          have hfi : cr i < NVc := by omega
          refine lv_iload_n hx hb dM_lastTo_35 rfl (lv_at hl 2 rfl) ?_
          refine lv_iconst (v := -1) hx hb dM_lastTo_36 (by decide) ?_
          refine ro_eq (tgt := 56) hx hb dM_lastTo_37 (by decide) (fun k hk => by have := ((lpL_2 en cr pl i).2 k (ho.symm.trans hk)).1; omega) (fun o37 => ?_) (fun x37 o37 => ?_)
          · refine lv_iload_n hx hb dM_lastTo_56 rfl (lv_at hl 3 rfl) ?_
            refine lv_istore_n (lv' := [(2, .int (nI i)), (0, .ref (qm 0)), (1, .int (nI pl)), (3, .int (nI i))]) hx hb dM_lastTo_57 rfl hl (by decide) rfl (fun ls hl => ?_)
            refine rn_iinc (lv' := [(3, .int (nI (i + 1))), (2, .int (nI i)), (0, .ref (qm 0)), (1, .int (nI pl))]) hx hb dM_lastTo_58 hl (k := 3) rfl (by decide) rfl (fun ls hl => ?_)
            refine lv_goto (tgt := 4) hx hb dM_lastTo_61 (by decide) ?_
            exact ihL (i + 1) (some i) (by omega) (by first | exact lt_1 ho c19 | exact lt_2 ho hnc | exact lt_3 ho o37 c19 hfi | exact lt_4 ho o37 (by rw [← hxe, ← hie]; exact c53) | exact lt_5 ho o37 c19 (by rw [← hxe, ← hie]; exact c53)) (by omega) ls (lv_sub hl [2, 3, 1, 0] rfl)
          · have hl : lv_has ls 4 [(0, .ref (qm 0)), (1, .int (nI pl)), (2, .int (nI x37)), (3, .int (nI i))] := by rw [o37] at hl; exact hl
            have hx37 := (lpL_2 en cr pl i).2 x37 (ho.symm.trans o37)
            have hxe : rm x37 = cr x37 := fin_of (hcr x37 (by omega)) hx37.2.1
            have hxb := hcb x37 (by omega)
            refine lv_aload_n hx hb dM_lastTo_40 rfl (lv_at hl 0 rfl) ?_
            refine va_get (D := (dC, dI)) (ci := 5) (v := .ref (qm 13)) (C := nM) (T := TM) (N := 26) hx hb hg inM hown hK hP 0 rfl rfl 17 (by decide) (hg _ kM_48) (fun _ h9 => h9) rfl dM_lastTo_41 ?_
            refine lv_iload_n hx hb dM_lastTo_44 rfl (lv_at hl 3 rfl) ?_
            refine ga_l (f := rm) hx hb hK hP 13 1 rfl rfl (by omega) (by decide) dM_lastTo_45 ?_
            refine lv_aload_n hx hb dM_lastTo_46 rfl (lv_at hl 0 rfl) ?_
            refine va_get (D := (dC, dI)) (ci := 5) (v := .ref (qm 13)) (C := nM) (T := TM) (N := 26) hx hb hg inM hown hK hP 0 rfl rfl 17 (by decide) (hg _ kM_48) (fun _ h9 => h9) rfl dM_lastTo_47 ?_
            refine lv_iload_n hx hb dM_lastTo_50 rfl (lv_at hl 2 rfl) ?_
            refine ga_l (f := rm) hx hb hK hP 13 1 rfl rfl (by omega) (by decide) dM_lastTo_51 ?_
            refine rn_lcmp_ge (tgt := 58) hx hb dM_lastTo_52 dM_lastTo_53 (by decide) (by omega) (by omega) (fun c53 => ?_) (fun c53 => ?_)
            · refine rn_iinc (lv' := [(3, .int (nI (i + 1))), (0, .ref (qm 0)), (1, .int (nI pl)), (2, .int (nI x37))]) hx hb dM_lastTo_58 hl (k := 3) rfl (by decide) rfl (fun ls hl => ?_)
              refine lv_goto (tgt := 4) hx hb dM_lastTo_61 (by decide) ?_
              exact ihL (i + 1) (some x37) (by omega) (by first | exact lt_1 ho c19 | exact lt_2 ho hnc | exact lt_3 ho o37 c19 hfi | exact lt_4 ho o37 (by rw [← hxe, ← hie]; exact c53) | exact lt_5 ho o37 c19 (by rw [← hxe, ← hie]; exact c53)) (by omega) ls (lv_sub hl [1, 2, 3, 0] rfl)
            · refine lv_iload_n hx hb dM_lastTo_56 rfl (lv_at hl 3 rfl) ?_
              refine lv_istore_n (lv' := [(2, .int (nI i)), (0, .ref (qm 0)), (1, .int (nI pl)), (3, .int (nI i))]) hx hb dM_lastTo_57 rfl hl (by decide) rfl (fun ls hl => ?_)
              refine rn_iinc (lv' := [(3, .int (nI (i + 1))), (2, .int (nI i)), (0, .ref (qm 0)), (1, .int (nI pl))]) hx hb dM_lastTo_58 hl (k := 3) rfl (by decide) rfl (fun ls hl => ?_)
              refine lv_goto (tgt := 4) hx hb dM_lastTo_61 (by decide) ?_
              exact ihL (i + 1) (some i) (by omega) (by first | exact lt_1 ho c19 | exact lt_2 ho hnc | exact lt_3 ho o37 c19 hfi | exact lt_4 ho o37 (by rw [← hxe, ← hie]; exact c53) | exact lt_5 ho o37 c19 (by rw [← hxe, ← hie]; exact c53)) (by omega) ls (lv_sub hl [2, 3, 1, 0] rfl)

set_option maxHeartbeats 4000000 in
set_option maxRecDepth 100000 in
theorem ct_M_lastTo (l : Launch) (dC : Nat → ClassId) (dI : Nat → Nat → Nat) (cI cJ cZ : ClassId) (qm : Nat → Nat) (lv mw mh mk : Nat → Nat) (pc mc kc : Nat) (bg en sc wd ht oh bt : Nat → Nat) (co n : Nat) (sh ba : Nat → Bool) (rm nm bs bc bp on wh : Nat → Nat) (cd sl fo : Nat) (cr : Nat → Nat) (pl : Nat) (hG : bGp lv mw mh mk pc mc kc) (hB : bP bg en sc wd ht oh bt co n) (hcr : ∀ j, j < n → toC (rm j) = cr j) (hcb : ∀ j, j < n → rm j = NVm ∨ rm j ≤ 500000000) (hpl : pl < 20) : Met l yM_lastTo wsM_lastTo ({ frames := 0, cells := 0, slots := 0, locals := 0 }) (PcR (dC, dI) (wM cI cJ cZ qm lv bg en sc wd ht sh oh ba mw mh mk rm nm bs bc bp on wh cd pc n mc kc sl fo) (tyE cI cJ cZ) [.ref (qm 0), .int (nI pl)]) (vp_Si (fun r => r = oI (lpL en cr pl n).1)) 0 0 (fun _ => False) := by
  refine Met.ofW (cc := cM_lastTo) (maxL := 4) (ret := (some .int)) (by decide) rfl ?_
  intro p e s m args below meth c s₁ B hml hv
  obtain ⟨rfl, hP, hK, hE⟩ := hv
  have hx := B.exec
  have hb := B.bytes
  have hr := B.returns
  have hts := atoms_spec (ws := wsM_lastTo) B.pre
  have hg : ∀ w ∈ gw, w.before _ s = true := fun w h => hts w (List.mem_cons_of_mem _ h)
  have hown : s.vm.findClass nM = some m.cls := findClass_of_methodNamed B.named
  have hlocks := B.notSynchronized
  have hR : 0 ≤ (headSpec wsM_lastTo ({ frames := 0, cells := 0, slots := 0, locals := 0 })).room.frames ∧ 0 ≤ (headSpec wsM_lastTo ({ frames := 0, cells := 0, slots := 0, locals := 0 })).room.locals := ⟨Nat.le_refl _, Nat.le_refl _⟩
  have hcs : 0 ≤ (headSpec wsM_lastTo ({ frames := 0, cells := 0, slots := 0, locals := 0 })).room.cells ∧ 0 ≤ (headSpec wsM_lastTo ({ frames := 0, cells := 0, slots := 0, locals := 0 })).room.slots := ⟨Nat.zero_le _, Nat.zero_le _⟩
  have hpc := hG.1
  have hmc := hG.2.1
  have hkc := hG.2.2.1
  have hgi := hG.2.2.2
  have hbi := hB.2.2
  have hn := hB.1
  have hco := hB.2.1
  have hNV : NVm = 18446744073709551615 := rfl
  have hNc : NVc = 1152921504606846976 := rfl
  have hl := lv_entry ([.ref (qm 0), .int (nI pl)]) (n := 4) (Nat.le_of_ble_eq_true rfl)
  rw [lg_entry_eq]
  generalize (lg_sl ([.ref (qm 0), .int (nI pl)]) ++ List.replicate (4 - (lg_sl ([.ref (qm 0), .int (nI pl)])).length) Slot.unset).toArray = ls at hl ⊢
  have hl : lv_has ls 4 [(0, .ref (qm 0)), (1, .int (nI pl))] := hl
  refine lv_iconst (v := -1) hx hb dM_lastTo_0 (by decide) ?_
  refine lv_istore_n (lv' := [(2, .int (-1)), (0, .ref (qm 0)), (1, .int (nI pl))]) hx hb dM_lastTo_1 rfl hl (by decide) rfl (fun ls hl => ?_)
  refine rn_iconst hx hb 0 dM_lastTo_2 (by decide) ?_
  refine lv_istore_n (lv' := [(3, .int (nI 0)), (2, .int (-1)), (0, .ref (qm 0)), (1, .int (nI pl))]) hx hb dM_lastTo_3 rfl hl (by decide) rfl (fun ls hl => ?_)
  refine lp_M_last qm lv mw mh mk pc mc kc bg en sc wd ht oh bt co n sh ba rm nm bs bc bp on wh cd sl fo cr pl hG hB hcr hcb hpl hx hb hml hown hts hK hP hE (by first | exact hR | exact ⟨Nat.le_trans (by decide) hR.1, Nat.le_trans (by decide) hR.2⟩) hcs (fun i o hi ho hx0 ls hl => ?_) ((n - 0) + 1) 0 none (by omega) (rfl) (by omega) ls (lv_sub hl [2, 3, 1, 0] rfl)
  refine lv_iload_n hx hb dM_lastTo_64 rfl (lv_at hl 2 rfl) ?_
  exact W.iret hx hb hr (fun t ht hW => ⟨_, rfl, (by rw [show n = i from by omega, ← ho]), ht⟩) (fun _ h9 => nomatch h9) dM_lastTo_65

section PBM
variable {bg en sc oh bt rm cr : Nat → Nat} {x i : Nat}
theorem pbM_1 (h : ¬ cr i < NVc) (hx : cr x < NVc) : pbP bg en sc oh bt cr x i = false := pbP_1 (by omega)
theorem pbM_3 (hi : rm i = cr i) (hx : rm x = cr x) (h : ¬ ew (oh x) (sc x) (rm i) = rm x) : pbP bg en sc oh bt cr x i = false := pbP_3 (by rw [← hi, ← hx]; exact h)
theorem pbM_4 (hi : rm i = cr i) (hx : rm x = cr x) (hg : ∀ m, m < ew (oh x) (sc x) m) (h2 : foB bg en bt i x = true) (h : ew (oh x) (sc x) (rm i) = rm x) : pbP bg en sc oh bt cr x i = true := by
  rw [hi, hx] at h
  have := hg (cr i)
  exact pbP_4 (by omega) h2 h
theorem pb_lt {P : Nat → Bool} {n i : Nat} (hf : ffi P i = none) (he : ∃ q, q < n ∧ P q = true) : i < n := by
  obtain ⟨q, hq, hp⟩ := he
  by_cases h : i < n
  · exact h
  · have := (ffi_ok (p := P) i).2 hf q (by omega)
    rw [this] at hp
    exact absurd hp (by decide)
end PBM

set_option maxHeartbeats 4000000 in
set_option maxRecDepth 100000 in
theorem lp_M_before {p : Program} {l : Launch} {e : Env} {R : Room} {s : State} {m : MethodId} {args : Array Value} {below : List Frame} {meth : Method} {c : Code} {H : Heap} {locs : List Loc} {cells slots : Nat} {Q : State → Prop} {dC : Nat → ClassId} {dI : Nat → Nat → Nat} {cI cJ cZ : ClassId} (qm : Nat → Nat) (lv mw mh mk : Nat → Nat) (pc mc kc : Nat) (bg en sc wd ht oh bt : Nat → Nat) (co n : Nat) (sh ba : Nat → Bool) (rm nm bs bc bp on wh : Nat → Nat) (cd sl fo : Nat) (cr : Nat → Nat) (mo x a t : Nat) (hG : bGp lv mw mh mk pc mc kc) (hB : bP bg en sc wd ht oh bt co n) (hba : ∀ f t, f < 40 → t < 40 → ba (40 * f + t) = (bt f).testBit t) (hcr : ∀ j, j < n → toC (rm j) = cr j) (hcb : ∀ j, j < n → rm j = NVm ∨ rm j ≤ 500000000) (hx9 : x < n) (hox : oh x ≠ 0) (hfx : cr x < NVc) (hgx : ∀ m, m < ew (oh x) (sc x) m) (hex : ¬ (bg x = a ∧ ew (oh x) (sc x) t = cr x) → ∃ q, q < n ∧ pbP bg en sc oh bt cr x q = true) (ha : a < 20) (ht0 : t ≤ 10000000) (hx : p.tables.exec = Jvm.exec) (hb : c.code = cM_before) (hml : c.maxLocals = 7) (hown : s.vm.findClass nM = some m.cls) (hts : ∀ w ∈ wsM_before, w.before args s = true) (hK : va_K (dC, dI) vwCl (tyE cI cJ cZ) s) (hP : va_P (dC, dI) vwCl (wM cI cJ cZ qm lv bg en sc wd ht sh oh ba mw mh mk rm nm bs bc bp on wh cd pc n mc kc sl fo) H) (hE : EV s) (hR : 1 ≤ R.frames ∧ 25 ≤ R.locals) (hcs : cells ≤ R.cells ∧ slots ≤ R.slots)
    (kx0 : ∀ (i : Nat) (hne : ¬ (bg x = a ∧ ew (oh x) (sc x) t = cr x)) (hf : ffi (pbP bg en sc oh bt cr x) i = none) (hx0 : i < n) (hx1 : pbP bg en sc oh bt cr x i = true) (ls : Array Slot), lv_has ls 7 [(0, .ref (qm 0)), (1, .int (nI mo)), (2, .int (nI x)), (3, .int (nI a)), (4, .long (lN t)), (6, .int (nI i))] → W p l e R s m args below meth c H locs cells slots Q (F0 m 84 ls []))
    : ∀ (fu : Nat) (i : Nat) (hne : ¬ (bg x = a ∧ ew (oh x) (sc x) t = cr x)) (hf : ffi (pbP bg en sc oh bt cr x) i = none), n - i < fu → ∀ ls : Array Slot, lv_has ls 7 [(0, .ref (qm 0)), (1, .int (nI mo)), (2, .int (nI x)), (3, .int (nI a)), (4, .long (lN t)), (6, .int (nI i))] → W p l e R s m args below meth c H locs cells slots Q (F0 m 32 ls []) := by
  have hg : ∀ w ∈ gw, w.before args s = true := fun w h => hts w (List.mem_cons_of_mem _ h)
  have hpc := hG.1
  have hmc := hG.2.1
  have hkc := hG.2.2.1
  have hgi := hG.2.2.2
  have hbi := hB.2.2
  have hn := hB.1
  have hco := hB.2.1
  have hNV : NVm = 18446744073709551615 := rfl
  have hNc : NVc = 1152921504606846976 := rfl
  have bx := hbi x
  have hxe : rm x = cr x := fin_of (hcr x hx9) hfx
  have hxb := hcb x hx9
  have hw1 := ew_b (oh x) (sc x) t
  intro fu
  induction fu with
  | zero => intro i hne hf h0; exact absurd h0 (Nat.not_lt_zero _)
  | succ fu ihL =>
    intro i hne hf hfu ls hl
    have hi : i < n := pb_lt hf (hex hne)
    have hri := hcr i hi
    have hrb := hcb i hi
    refine lv_aload_n hx hb dM_before_32 rfl (lv_at hl 0 rfl) ?_
    refine va_get (D := (dC, dI)) (ci := 5) (v := .ref (qm 13)) (C := nM) (T := TM) (N := 26) hx hb hg inM hown hK hP 0 rfl rfl 17 (by decide) (hg _ kM_48) (fun _ h9 => h9) rfl dM_before_33 ?_
    refine lv_iload hx hb dM_before_36 (lv_at hl 5 rfl) ?_
    refine ga_l (f := rm) hx hb hK hP 13 1 rfl rfl (by omega) (by decide) dM_before_38 ?_
    refine lv_ldc2 (v := -1) hx hb hown (hg _ kM_118) dM_before_39 ?_
    refine rl_cmp_eq (tgt := 78) hx hb dM_before_42 dM_before_43 (by decide) (fun c43 => ?_) (fun c43 => ?_)
    · have hnc : ¬ cr i < NVc := nvc_of hri c43 (by omega)
      refine rn_iinc (lv' := [(6, .int (nI (i + 1))), (0, .ref (qm 0)), (1, .int (nI mo)), (2, .int (nI x)), (3, .int (nI a)), (4, .long (lN t))]) hx hb dM_before_78 hl (k := 5) rfl (by decide) rfl (fun ls hl => ?_)
      refine lv_goto (tgt := 32) hx hb dM_before_81 (by decide) ?_
      exact ihL (i + 1) (hne) (by first | exact pb_1 hf (pbM_1 hnc hfx) | exact pb_1 hf (pbP_2 c53) | exact pb_1 hf (pbM_3 hie hxe c75)) (by omega) ls (lv_sub hl [1, 2, 3, 4, 5, 0] rfl)
    · have hin : rm i ≠ NVm := fun q => c43 ((nv_of (by omega)).mpr q)
      have hie : rm i = cr i := fin_c hri hin
      have hw2 := ew_b (oh x) (sc x) (rm i)
      refine lv_aload_n hx hb dM_before_46 rfl (lv_at hl 0 rfl) ?_
      refine lv_iload hx hb dM_before_47 (lv_at hl 5 rfl) ?_
      refine lv_iload_n hx hb dM_before_49 rfl (lv_at hl 2 rfl) ?_
      refine cpV_i (b := (qm 0)) (C := nM) (As := [.int (nI i), .int (nI x)]) (rest := []) (post := fun r : Int32 => r = bI (foB bg en bt i x)) ⟨hx, hb, hml, hown, hts⟩ (ct_M_follows l dC dI cI cJ cZ qm lv mw mh mk pc mc kc bg en sc wd ht oh bt co n sh ba rm nm bs bc bp on wh cd sl fo i x (hG) (hB) (by omega) (by omega) (by omega)) (cwV 2 hts (gv kM_124 ki_M_follows ksel_M_follows kin_M kc_M_follows) rfl rfl rfl (by decide +kernel) ⟨Nat.le_trans (by decide) hR.1, Nat.le_trans (by decide) hR.2⟩) (va_recv hK hP (ci := 5) (q0 := 0) rfl rfl) hP hK hE rfl hl.1 rfl (Nat.le_of_ble_eq_true rfl) dM_before_50 hcs (fun r hr => ?_)
      subst hr
      refine rb_eq (tgt := 78) hx hb dM_before_53 (by decide) (fun c53 => ?_) (fun c53 => ?_)
      · refine rn_iinc (lv' := [(6, .int (nI (i + 1))), (0, .ref (qm 0)), (1, .int (nI mo)), (2, .int (nI x)), (3, .int (nI a)), (4, .long (lN t))]) hx hb dM_before_78 hl (k := 5) rfl (by decide) rfl (fun ls hl => ?_)
        refine lv_goto (tgt := 32) hx hb dM_before_81 (by decide) ?_
        exact ihL (i + 1) (hne) (by first | exact pb_1 hf (pbM_1 hnc hfx) | exact pb_1 hf (pbP_2 c53) | exact pb_1 hf (pbM_3 hie hxe c75)) (by omega) ls (lv_sub hl [1, 2, 3, 4, 5, 0] rfl)
      · refine lv_aload_n hx hb dM_before_56 rfl (lv_at hl 0 rfl) ?_
        refine lv_iload_n hx hb dM_before_57 rfl (lv_at hl 2 rfl) ?_
        refine lv_aload_n hx hb dM_before_58 rfl (lv_at hl 0 rfl) ?_
        refine va_get (D := (dC, dI)) (ci := 5) (v := .ref (qm 13)) (C := nM) (T := TM) (N := 26) hx hb hg inM hown hK hP 0 rfl rfl 17 (by decide) (hg _ kM_48) (fun _ h9 => h9) rfl dM_before_59 ?_
        refine lv_iload hx hb dM_before_62 (lv_at hl 5 rfl) ?_
        refine ga_l (f := rm) hx hb hK hP 13 1 rfl rfl (by omega) (by decide) dM_before_64 ?_
        refine cpV_l (b := (qm 0)) (C := nM) (As := [.int (nI x), .long (lN (rm i))]) (rest := []) (post := fun r : Int64 => r = lN (ew (oh x) (sc x) (rm i))) ⟨hx, hb, hml, hown, hts⟩ (ct_M_use l dC dI cI cJ cZ qm lv mw mh mk pc mc kc bg en sc wd ht oh bt co n sh ba rm nm bs bc bp on wh cd sl fo x (rm i) (hG) (hB) (by omega) (hox) (by omega)) (cwV 2 hts (gv kM_114 ki_M_use ksel_M_use kin_M kc_M_use) rfl rfl rfl (by decide +kernel) ⟨Nat.le_trans (by decide) hR.1, Nat.le_trans (by decide) hR.2⟩) (va_recv hK hP (ci := 5) (q0 := 0) rfl rfl) hP hK hE rfl hl.1 rfl (Nat.le_of_ble_eq_true rfl) dM_before_65 hcs (fun r hr => ?_)
        subst hr
        refine lv_aload_n hx hb dM_before_68 rfl (lv_at hl 0 rfl) ?_
        refine va_get (D := (dC, dI)) (ci := 5) (v := .ref (qm 13)) (C := nM) (T := TM) (N := 26) hx hb hg inM hown hK hP 0 rfl rfl 17 (by decide) (hg _ kM_48) (fun _ h9 => h9) rfl dM_before_69 ?_
        refine lv_iload_n hx hb dM_before_72 rfl (lv_at hl 2 rfl) ?_
        refine ga_l (f := rm) hx hb hK hP 13 1 rfl rfl (by omega) (by decide) dM_before_73 ?_
        refine rn_lcmp_eq (tgt := 84) hx hb dM_before_74 dM_before_75 (by decide) (by omega) (by omega) (fun c75 => ?_) (fun c75 => ?_)
        · exact kx0 i hne hf (hi) (pbM_4 hie hxe hgx c53 c75) ls (lv_sub hl [0, 1, 2, 3, 4, 5] rfl)
        · refine rn_iinc (lv' := [(6, .int (nI (i + 1))), (0, .ref (qm 0)), (1, .int (nI mo)), (2, .int (nI x)), (3, .int (nI a)), (4, .long (lN t))]) hx hb dM_before_78 hl (k := 5) rfl (by decide) rfl (fun ls hl => ?_)
          refine lv_goto (tgt := 32) hx hb dM_before_81 (by decide) ?_
          exact ihL (i + 1) (hne) (by first | exact pb_1 hf (pbM_1 hnc hfx) | exact pb_1 hf (pbP_2 c53) | exact pb_1 hf (pbM_3 hie hxe c75)) (by omega) ls (lv_sub hl [1, 2, 3, 4, 5, 0] rfl)

set_option maxHeartbeats 4000000 in
set_option maxRecDepth 100000 in
theorem ct_M_before (l : Launch) (dC : Nat → ClassId) (dI : Nat → Nat → Nat) (cI cJ cZ : ClassId) (qm : Nat → Nat) (lv mw mh mk : Nat → Nat) (pc mc kc : Nat) (bg en sc wd ht oh bt : Nat → Nat) (co n : Nat) (sh ba : Nat → Bool) (rm nm bs bc bp on wh : Nat → Nat) (cd sl fo : Nat) (cr : Nat → Nat) (mo x a t : Nat) (hG : bGp lv mw mh mk pc mc kc) (hB : bP bg en sc wd ht oh bt co n) (hba : ∀ f t, f < 40 → t < 40 → ba (40 * f + t) = (bt f).testBit t) (hcr : ∀ j, j < n → toC (rm j) = cr j) (hcb : ∀ j, j < n → rm j = NVm ∨ rm j ≤ 500000000) (hx9 : x < n) (hox : oh x ≠ 0) (hfx : cr x < NVc) (hgx : ∀ m, m < ew (oh x) (sc x) m) (hex : ¬ (bg x = a ∧ ew (oh x) (sc x) t = cr x) → ∃ q, q < n ∧ pbP bg en sc oh bt cr x q = true) (ha : a < 20) (ht0 : t ≤ 10000000) : Met l yM_before wsM_before ({ frames := 1, cells := 0, slots := 0, locals := 25 }) (PcR (dC, dI) (wM cI cJ cZ qm lv bg en sc wd ht sh oh ba mw mh mk rm nm bs bc bp on wh cd pc n mc kc sl fo) (tyE cI cJ cZ) [.ref (qm 0), .int (nI mo), .int (nI x), .int (nI a), .long (lN t)]) (vp_Si (fun r => r = oI (pbO bg en sc oh bt cr a t n x))) 0 0 (fun _ => False) := by
  refine Met.ofW (cc := cM_before) (maxL := 7) (ret := (some .int)) (by decide) rfl ?_
  intro p e s m args below meth c s₁ B hml hv
  obtain ⟨rfl, hP, hK, hE⟩ := hv
  have hx := B.exec
  have hb := B.bytes
  have hr := B.returns
  have hts := atoms_spec (ws := wsM_before) B.pre
  have hg : ∀ w ∈ gw, w.before _ s = true := fun w h => hts w (List.mem_cons_of_mem _ h)
  have hown : s.vm.findClass nM = some m.cls := findClass_of_methodNamed B.named
  have hlocks := B.notSynchronized
  have hR : 1 ≤ (headSpec wsM_before ({ frames := 1, cells := 0, slots := 0, locals := 25 })).room.frames ∧ 25 ≤ (headSpec wsM_before ({ frames := 1, cells := 0, slots := 0, locals := 25 })).room.locals := ⟨Nat.le_refl _, Nat.le_refl _⟩
  have hcs : 0 ≤ (headSpec wsM_before ({ frames := 1, cells := 0, slots := 0, locals := 25 })).room.cells ∧ 0 ≤ (headSpec wsM_before ({ frames := 1, cells := 0, slots := 0, locals := 25 })).room.slots := ⟨Nat.zero_le _, Nat.zero_le _⟩
  have hpc := hG.1
  have hmc := hG.2.1
  have hkc := hG.2.2.1
  have hgi := hG.2.2.2
  have hbi := hB.2.2
  have hn := hB.1
  have hco := hB.2.1
  have hNV : NVm = 18446744073709551615 := rfl
  have hNc : NVc = 1152921504606846976 := rfl
  have bx := hbi x
  have hxe : rm x = cr x := fin_of (hcr x hx9) hfx
  have hxb := hcb x hx9
  have hw1 := ew_b (oh x) (sc x) t
  have hl := lv_entry ([.ref (qm 0), .int (nI mo), .int (nI x), .int (nI a), .long (lN t)]) (n := 7) (Nat.le_of_ble_eq_true rfl)
  rw [lg_entry_eq]
  generalize (lg_sl ([.ref (qm 0), .int (nI mo), .int (nI x), .int (nI a), .long (lN t)]) ++ List.replicate (7 - (lg_sl ([.ref (qm 0), .int (nI mo), .int (nI x), .int (nI a), .long (lN t)])).length) Slot.unset).toArray = ls at hl ⊢
  have hl : lv_has ls 7 [(0, .ref (qm 0)), (1, .int (nI mo)), (2, .int (nI x)), (3, .int (nI a)), (4, .long (lN t))] := hl
  refine lv_aload_n hx hb dM_before_0 rfl (lv_at hl 0 rfl) ?_
  refine va_get (D := (dC, dI)) (ci := 5) (v := .ref (qm 2)) (C := nM) (T := TM) (N := 26) hx hb hg inM hown hK hP 0 rfl rfl 4 (by decide) (hg _ kM_13) (fun _ h9 => h9) rfl dM_before_1 ?_
  refine lv_iload_n hx hb dM_before_4 rfl (lv_at hl 2 rfl) ?_
  refine ga_i (f := bg) hx hb hK hP 2 0 rfl rfl (by omega) (by decide) dM_before_5 ?_
  refine lv_iload_n hx hb dM_before_6 rfl (lv_at hl 3 rfl) ?_
  refine rn_icmp_ne (tgt := 29) hx hb dM_before_7 (by decide) (by omega) (by omega) (fun c7 => ?_) (fun c7 => ?_)
  · refine rn_iconst hx hb 0 dM_before_29 (by decide) ?_
    refine lv_istore (lv' := [(6, .int (nI 0)), (0, .ref (qm 0)), (1, .int (nI mo)), (2, .int (nI x)), (3, .int (nI a)), (4, .long (lN t))]) hx hb dM_before_30 hl (by decide) rfl (fun ls hl => ?_)
    refine lp_M_before qm lv mw mh mk pc mc kc bg en sc wd ht oh bt co n sh ba rm nm bs bc bp on wh cd sl fo cr mo x a t hG hB hba hcr hcb hx9 hox hfx hgx hex ha ht0 hx hb hml hown hts hK hP hE (by first | exact hR | exact ⟨Nat.le_trans (by decide) hR.1, Nat.le_trans (by decide) hR.2⟩) hcs (fun i hne hf hx0 hx1 ls hl => ?_) ((n - 0) + 1) 0 (by first | exact nn_1 c7 | exact (fun q => c24 (q.2.trans hxe.symm))) (rfl) (by omega) ls (lv_sub hl [1, 2, 3, 4, 5, 0] rfl)
    refine lv_iload hx hb dM_before_84 (lv_at hl 5 rfl) ?_
    exact W.iret hx hb hr (fun t ht hW => ⟨_, rfl, (by show nI i = _; rw [pbO, if_neg hne, ffi_some hf hx1 n hx0]; rfl), ht⟩) (fun _ h9 => nomatch h9) dM_before_86
  · refine lv_aload_n hx hb dM_before_10 rfl (lv_at hl 0 rfl) ?_
    refine lv_iload_n hx hb dM_before_11 rfl (lv_at hl 2 rfl) ?_
    refine lv_lload hx hb dM_before_12 (lv_at hl 4 rfl) ?_
    refine cpV_l (b := (qm 0)) (C := nM) (As := [.int (nI x), .long (lN t)]) (rest := []) (post := fun r : Int64 => r = lN (ew (oh x) (sc x) t)) ⟨hx, hb, hml, hown, hts⟩ (ct_M_use l dC dI cI cJ cZ qm lv mw mh mk pc mc kc bg en sc wd ht oh bt co n sh ba rm nm bs bc bp on wh cd sl fo x t (hG) (hB) (by omega) (hox) (by omega)) (cwV 2 hts (gv kM_114 ki_M_use ksel_M_use kin_M kc_M_use) rfl rfl rfl (by decide +kernel) ⟨Nat.le_trans (by decide) hR.1, Nat.le_trans (by decide) hR.2⟩) (va_recv hK hP (ci := 5) (q0 := 0) rfl rfl) hP hK hE rfl hl.1 rfl (Nat.le_of_ble_eq_true rfl) dM_before_14 hcs (fun r hr => ?_)
    subst hr
    refine lv_aload_n hx hb dM_before_17 rfl (lv_at hl 0 rfl) ?_
    refine va_get (D := (dC, dI)) (ci := 5) (v := .ref (qm 13)) (C := nM) (T := TM) (N := 26) hx hb hg inM hown hK hP 0 rfl rfl 17 (by decide) (hg _ kM_48) (fun _ h9 => h9) rfl dM_before_18 ?_
    refine lv_iload_n hx hb dM_before_21 rfl (lv_at hl 2 rfl) ?_
    refine ga_l (f := rm) hx hb hK hP 13 1 rfl rfl (by omega) (by decide) dM_before_22 ?_
    refine rn_lcmp_ne (tgt := 29) hx hb dM_before_23 dM_before_24 (by decide) (by omega) (by omega) (fun c24 => ?_) (fun c24 => ?_)
    · refine rn_iconst hx hb 0 dM_before_29 (by decide) ?_
      refine lv_istore (lv' := [(6, .int (nI 0)), (0, .ref (qm 0)), (1, .int (nI mo)), (2, .int (nI x)), (3, .int (nI a)), (4, .long (lN t))]) hx hb dM_before_30 hl (by decide) rfl (fun ls hl => ?_)
      refine lp_M_before qm lv mw mh mk pc mc kc bg en sc wd ht oh bt co n sh ba rm nm bs bc bp on wh cd sl fo cr mo x a t hG hB hba hcr hcb hx9 hox hfx hgx hex ha ht0 hx hb hml hown hts hK hP hE (by first | exact hR | exact ⟨Nat.le_trans (by decide) hR.1, Nat.le_trans (by decide) hR.2⟩) hcs (fun i hne hf hx0 hx1 ls hl => ?_) ((n - 0) + 1) 0 (by first | exact nn_1 c7 | exact (fun q => c24 (q.2.trans hxe.symm))) (rfl) (by omega) ls (lv_sub hl [1, 2, 3, 4, 5, 0] rfl)
      refine lv_iload hx hb dM_before_84 (lv_at hl 5 rfl) ?_
      exact W.iret hx hb hr (fun t ht hW => ⟨_, rfl, (by show nI i = _; rw [pbO, if_neg hne, ffi_some hf hx1 n hx0]; rfl), ht⟩) (fun _ h9 => nomatch h9) dM_before_86
    · refine lv_iconst (v := -1) hx hb dM_before_27 (by decide) ?_
      exact W.iret hx hb hr (fun t ht hW => ⟨_, rfl, (congrArg oI (pb_0 c7 (c24.trans hxe))), ht⟩) (fun _ h9 => nomatch h9) dM_before_28

def lsRm (n : Nat) (R : Nat → Nat) (a b : Nat) (rm : Nat → Nat) : Nat → Nat := if a = b then rm else rmF n R rm
theorem rmF_b {bg en sc wd ht oh bt : Nat → Nat} {co n w h a t : Nat} {rm : Nat → Nat} (hB : bP bg en sc wd ht oh bt co n) (hsc : ∀ i, i < n → 1 ≤ sc i) (ht0 : t ≤ 10000000) {j : Nat} (hj : j < n) : rmF n (cR bg en sc wd ht oh bt co n w h a t) rm j = NVm ∨ rmF n (cR bg en sc wd ht oh bt co n w h a t) rm j ≤ 500000000 := by
  rw [rmF, if_pos hj]
  by_cases q : cR bg en sc wd ht oh bt co n w h a t j < NVc
  · right
    rw [if_pos q]
    exact cR_s hB hsc ht0 hj q
  · rw [if_neg q]; exact Or.inl rfl

set_option maxHeartbeats 4000000 in
set_option maxRecDepth 100000 in
theorem ct_M_least (l : Launch) (dC : Nat → ClassId) (dI : Nat → Nat → Nat) (cI cJ cZ : ClassId) (qm : Nat → Nat) (lv mw mh mk : Nat → Nat) (pc mc kc : Nat) (bg en sc wd ht oh bt : Nat → Nat) (co n : Nat) (sh ba : Nat → Bool) (rm nm bs bc bp on wh : Nat → Nat) (cd sl fo : Nat) (mo a b t : Nat) (sz : Nat) (hG : bGp lv mw mh mk pc mc kc) (hB : bP bg en sc wd ht oh bt co n) (hsh : ∀ j, j < 40 → sh j = co.testBit j) (hba : ∀ f t, f < 40 → t < 40 → ba (40 * f + t) = (bt f).testBit t) (hsc : ∀ i, i < n → 1 ≤ sc i) (hmo : mo < 6) (ha : a < 20) (ht0 : t ≤ 10000000) (hb9 : b < 20) : Met l yM_least wsM_least ({ frames := 3, cells := 0, slots := 0, locals := 77 }) (PcW (dC, dI) (wM cI cJ cZ qm lv bg en sc wd ht sh oh ba mw mh mk rm nm bs bc bp on wh cd pc n mc kc sl fo) (tyE cI cJ cZ) sz [.ref (qm 0), .int (nI mo), .int (nI a), .int (nI b), .long (lN t)]) (QwL (dC, dI) ((lsV en (cR bg en sc wd ht oh bt co n (mw mo) (mh mo) a t) n a b t)) (wM cI cJ cZ qm lv bg en sc wd ht sh oh ba mw mh mk (lsRm n (cR bg en sc wd ht oh bt co n (mw mo) (mh mo) a t) a b rm) nm bs bc bp on wh cd pc n mc kc sl fo) (tyE cI cJ cZ) (va_A (wM cI cJ cZ qm lv bg en sc wd ht sh oh ba mw mh mk rm nm bs bc bp on wh cd pc n mc kc sl fo) sz)) 0 0 (va_A (wM cI cJ cZ qm lv bg en sc wd ht sh oh ba mw mh mk rm nm bs bc bp on wh cd pc n mc kc sl fo) sz) := by
  refine Met.ofW (cc := cM_least) (maxL := 7) (ret := (some .long)) (by decide) rfl ?_
  intro p e s m args below meth c s₁ B hml hv
  obtain ⟨rfl, hsz, hP, hK, hD0, hE⟩ := hv
  have hx := B.exec
  have hb := B.bytes
  have hr := B.returns
  have hts := atoms_spec (ws := wsM_least) B.pre
  have hg : ∀ w ∈ gw, w.before _ s = true := fun w h => hts w (List.mem_cons_of_mem _ h)
  have hown : s.vm.findClass nM = some m.cls := findClass_of_methodNamed B.named
  have hlocks := B.notSynchronized
  have hR : 3 ≤ (headSpec wsM_least ({ frames := 3, cells := 0, slots := 0, locals := 77 })).room.frames ∧ 77 ≤ (headSpec wsM_least ({ frames := 3, cells := 0, slots := 0, locals := 77 })).room.locals := ⟨Nat.le_refl _, Nat.le_refl _⟩
  have hcs : 0 ≤ (headSpec wsM_least ({ frames := 3, cells := 0, slots := 0, locals := 77 })).room.cells ∧ 0 ≤ (headSpec wsM_least ({ frames := 3, cells := 0, slots := 0, locals := 77 })).room.slots := ⟨Nat.zero_le _, Nat.zero_le _⟩
  subst hsz
  have hD := hD0.self (sz := s.heap.size)
  generalize hAe : va_A (wM cI cJ cZ qm lv bg en sc wd ht sh oh ba mw mh mk rm nm bs bc bp on wh cd pc n mc kc sl fo) s.heap.size = A at hD ⊢
  have hA : ∀ q : Nat, s.heap.size ≤ q → A q := fun q h => by rw [← hAe]; exact Or.inr h
  obtain ⟨H, hH⟩ : ∃ H, H = s.heap := ⟨_, rfl⟩
  have hS : va_S A s.heap H [] := by rw [hH]; exact va_S.rf
  rw [← hH] at hP ⊢
  have hpc := hG.1
  have hmc := hG.2.1
  have hkc := hG.2.2.1
  have hgi := hG.2.2.2
  have hbi := hB.2.2
  have hn := hB.1
  have hco := hB.2.1
  have hNV : NVm = 18446744073709551615 := rfl
  have hNc : NVc = 1152921504606846976 := rfl
  have hl := lv_entry ([.ref (qm 0), .int (nI mo), .int (nI a), .int (nI b), .long (lN t)]) (n := 7) (Nat.le_of_ble_eq_true rfl)
  rw [lg_entry_eq]
  generalize (lg_sl ([.ref (qm 0), .int (nI mo), .int (nI a), .int (nI b), .long (lN t)]) ++ List.replicate (7 - (lg_sl ([.ref (qm 0), .int (nI mo), .int (nI a), .int (nI b), .long (lN t)])).length) Slot.unset).toArray = ls at hl ⊢
  have hl : lv_has ls 7 [(0, .ref (qm 0)), (1, .int (nI mo)), (2, .int (nI a)), (3, .int (nI b)), (4, .long (lN t))] := hl
  refine lv_iload_n hx hb dM_least_0 rfl (lv_at hl 2 rfl) ?_
  refine lv_iload_n hx hb dM_least_1 rfl (lv_at hl 3 rfl) ?_
  refine rn_icmp_ne (tgt := 7) hx hb dM_least_2 (by decide) (by omega) (by omega) (fun c2 => ?_) (fun c2 => ?_)
  · have hLR : lsRm n (cR bg en sc wd ht oh bt co n (mw mo) (mh mo) a t) a b rm = rmF n (cR bg en sc wd ht oh bt co n (mw mo) (mh mo) a t) rm := if_neg c2
    refine lv_aload_n hx hb dM_least_7 rfl (lv_at hl 0 rfl) ?_
    refine lv_iload_n hx hb dM_least_8 rfl (lv_at hl 1 rfl) ?_
    refine lv_iload_n hx hb dM_least_9 rfl (lv_at hl 2 rfl) ?_
    refine lv_lload hx hb dM_least_10 (lv_at hl 4 rfl) ?_
    refine kwV_v (D := (dC, dI)) (b := (qm 0)) (C := nM) (As := [.int (nI mo), .int (nI a), .long (lN t)]) (rest := []) (wc := (wM cI cJ cZ qm lv bg en sc wd ht sh oh ba mw mh mk rm nm bs bc bp on wh cd pc n mc kc sl fo)) (wr := []) (w1 := (wM cI cJ cZ qm lv bg en sc wd ht sh oh ba mw mh mk (rmF n (cR bg en sc wd ht oh bt co n (mw mo) (mh mo) a t) rm) nm bs bc bp on wh cd pc n mc kc sl fo)) (wn := (wM cI cJ cZ qm lv bg en sc wd ht sh oh ba mw mh mk (rmF n (cR bg en sc wd ht oh bt co n (mw mo) (mh mo) a t) rm) nm bs bc bp on wh cd pc n mc kc sl fo)) ⟨hx, hb, hml, hown, hts⟩ (ct_M_reachAll l dC dI cI cJ cZ qm lv mw mh mk pc mc kc bg en sc wd ht oh bt co n sh ba rm nm bs bc bp on wh cd sl fo mo a t H.size (hG) (hB) (hsh) (hba) (hsc) (hmo) (ha) (ht0)) (cwV 3 hts (gv kM_127 ki_M_reachAll ksel_M_reachAll kin_M kc_M_reachAll) rfl rfl rfl (by decide +kernel) ⟨Nat.le_trans (by decide) hR.1, Nat.le_trans (by decide) hR.2⟩) (va_recv hK hP (ci := 5) (q0 := 0) rfl rfl) hP hD hK hE hS hA [0, 1, 2, 3, 4, 5, 6, 7, 8, 9, 10, 11, 12, 13, 14, 15, 16, 17, 18, 19] [] [0, 1, 2, 3, 4, 5, 6, 7, 8, 9, 10, 11, 12, 13, 14, 15, 16, 17, 18, 19] rfl (by decide) rfl (by decide) (by decide) rfl (by decide) rfl hl.1 rfl (Nat.le_of_ble_eq_true rfl) dM_least_12 hcs (fun H locs hP hD hS => ?_)
    refine lv_aload_n hx hb dM_least_15 rfl (lv_at hl 0 rfl) ?_
    refine lv_iload_n hx hb dM_least_16 rfl (lv_at hl 3 rfl) ?_
    refine cpV_i (b := (qm 0)) (C := nM) (As := [.int (nI b)]) (rest := []) (post := fun r : Int32 => r = oI (lpL en (cR bg en sc wd ht oh bt co n (mw mo) (mh mo) a t) b n).1) ⟨hx, hb, hml, hown, hts⟩ (ct_M_lastTo l dC dI cI cJ cZ qm lv mw mh mk pc mc kc bg en sc wd ht oh bt co n sh ba (rmF n (cR bg en sc wd ht oh bt co n (mw mo) (mh mo) a t) rm) nm bs bc bp on wh cd sl fo (cR bg en sc wd ht oh bt co n (mw mo) (mh mo) a t) b (hG) (hB) (fun j hj => toC_rm hj (cR_b hB hsc ht0 hj)) (fun j hj => rmF_b hB hsc ht0 hj) (hb9)) (cwV 1 hts (gv kM_131 ki_M_lastTo ksel_M_lastTo kin_M kc_M_lastTo) rfl rfl rfl (by decide +kernel) ⟨Nat.le_trans (by decide) hR.1, Nat.le_trans (by decide) hR.2⟩) (va_recv hK hP (ci := 5) (q0 := 0) rfl rfl) hP hK hE rfl hl.1 rfl (Nat.le_of_ble_eq_true rfl) dM_least_17 hcs (fun r hr => ?_)
    subst hr
    refine lv_istore (lv' := [(6, .int (oI ((lpL en (cR bg en sc wd ht oh bt co n (mw mo) (mh mo) a t) b n).1))), (0, .ref (qm 0)), (1, .int (nI mo)), (2, .int (nI a)), (3, .int (nI b)), (4, .long (lN t))]) hx hb dM_least_20 hl (by decide) rfl (fun ls hl => ?_)
    refine lv_iload hx hb dM_least_22 (lv_at hl 0 rfl) ?_
    refine lv_iconst (v := -1) hx hb dM_least_24 (by decide) ?_
    refine ro_ne (tgt := 34) hx hb dM_least_25 (by decide) (fun i hi => by have := ((lpL_2 en _ b n).2 i hi).1; omega) (fun x25 o25 => ?_) (fun o25 => ?_)
    · have hl : lv_has ls 7 [(6, .int (nI x25)), (0, .ref (qm 0)), (1, .int (nI mo)), (2, .int (nI a)), (3, .int (nI b)), (4, .long (lN t))] := by rw [o25] at hl; exact hl
      have hx25 := (lpL_2 en _ b n).2 _ o25
      have hxe : rmF n (cR bg en sc wd ht oh bt co n (mw mo) (mh mo) a t) rm x25 = (cR bg en sc wd ht oh bt co n (mw mo) (mh mo) a t) x25 := fin_of (toC_rm hx25.1 (cR_b hB hsc ht0 hx25.1)) hx25.2.1
      refine lv_aload_n hx hb dM_least_34 rfl (lv_at hl 1 rfl) ?_
      refine va_get (D := (dC, dI)) (ci := 5) (v := .ref (qm 13)) (C := nM) (T := TM) (N := 26) hx hb hg inM hown hK hP 0 rfl rfl 17 (by decide) (hg _ kM_48) (fun _ h9 => h9) rfl dM_least_35 ?_
      refine lv_iload hx hb dM_least_38 (lv_at hl 0 rfl) ?_
      refine ga_l (f := rmF n (cR bg en sc wd ht oh bt co n (mw mo) (mh mo) a t) rm) hx hb hK hP 13 1 rfl rfl (by omega) (by decide) dM_least_40 ?_
      refine lv_lload hx hb dM_least_41 (lv_at hl 5 rfl) ?_
      refine lv_lsub hx hb dM_least_43 ?_
      have hP9 : va_P (dC, dI) vwCl (wM cI cJ cZ qm lv bg en sc wd ht sh oh ba mw mh mk (lsRm n (cR bg en sc wd ht oh bt co n (mw mo) (mh mo) a t) a b rm) nm bs bc bp on wh cd pc n mc kc sl fo) H := by rw [hLR]; exact hP
      have hD9 : va_D A (wM cI cJ cZ qm lv bg en sc wd ht sh oh ba mw mh mk (lsRm n (cR bg en sc wd ht oh bt co n (mw mo) (mh mo) a t) a b rm) nm bs bc bp on wh cd pc n mc kc sl fo) := by rw [hLR]; exact hD
      exact W.lret hx hb hr (fun t ht hW => ⟨⟨_, (), rfl, (by first | (rw [lsV, if_neg c2, o25]; rfl) | (rw [lsV, if_neg c2, o25, hxe]; rfl)), by rw [ht]; exact hP9, va_K.moved hW.alike hK, hD9⟩, hS.F ht⟩) hS.2.2 dM_least_44
    · refine lv_ldc2 (v := -1) hx hb hown (hg _ kM_118) dM_least_28 ?_
      refine lv_goto (tgt := 44) hx hb dM_least_31 (by decide) ?_
      have hP9 : va_P (dC, dI) vwCl (wM cI cJ cZ qm lv bg en sc wd ht sh oh ba mw mh mk (lsRm n (cR bg en sc wd ht oh bt co n (mw mo) (mh mo) a t) a b rm) nm bs bc bp on wh cd pc n mc kc sl fo) H := by rw [hLR]; exact hP
      have hD9 : va_D A (wM cI cJ cZ qm lv bg en sc wd ht sh oh ba mw mh mk (lsRm n (cR bg en sc wd ht oh bt co n (mw mo) (mh mo) a t) a b rm) nm bs bc bp on wh cd pc n mc kc sl fo) := by rw [hLR]; exact hD
      exact W.lret hx hb hr (fun t ht hW => ⟨⟨_, (), rfl, (by first | (rw [lsV, if_neg c2, o25]; rfl) | (rw [lsV, if_neg c2, o25, hxe]; rfl)), by rw [ht]; exact hP9, va_K.moved hW.alike hK, hD9⟩, hS.F ht⟩) hS.2.2 dM_least_44
  · refine rn_lconst hx hb 0 dM_least_5 rfl ?_
    have hP9 : va_P (dC, dI) vwCl (wM cI cJ cZ qm lv bg en sc wd ht sh oh ba mw mh mk (lsRm n (cR bg en sc wd ht oh bt co n (mw mo) (mh mo) a t) a b rm) nm bs bc bp on wh cd pc n mc kc sl fo) H := by rw [show lsRm n (cR bg en sc wd ht oh bt co n (mw mo) (mh mo) a t) a b rm = rm from if_pos c2]; exact hP
    have hD9 : va_D A (wM cI cJ cZ qm lv bg en sc wd ht sh oh ba mw mh mk (lsRm n (cR bg en sc wd ht oh bt co n (mw mo) (mh mo) a t) a b rm) nm bs bc bp on wh cd pc n mc kc sl fo) := by rw [show lsRm n (cR bg en sc wd ht oh bt co n (mw mo) (mh mo) a t) a b rm = rm from if_pos c2]; exact hD
    exact W.lret hx hb hr (fun t ht hW => ⟨⟨_, (), rfl, (by rw [lsV, if_pos c2]), by rw [ht]; exact hP9, va_K.moved hW.alike hK, hD9⟩, hS.F ht⟩) hS.2.2 dM_least_6
