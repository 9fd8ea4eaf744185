section RowsO
variable {p : Program} {l : Launch} {e : Env} {R : Room} {s : State} {m : MethodId} {args : Array Value} {below : List Frame} {meth : Method} {c : Code} {H : Heap} {locs : List Loc} {cells slots : Nat} {Q : State → Prop}
variable {cc : ByteArray} {pc : Nat} {ls : Array Slot} {rest : List Value}
theorem oI_m1 {o : Option Nat} (ho : ∀ i, o = some i → i < 2147483648) : oI o = -1 ↔ o = none := by
  cases o with
  | none => exact ⟨fun _ => rfl, fun _ => rfl⟩
  | some i =>
    refine ⟨fun h => ?_, fun h => by cases h⟩
    have h1 : (nI i).toInt = (i : Int) := nI_toInt (ho i rfl)
    have h2 : nI i = -1 := h
    rw [h2] at h1
    have h3 : (-1 : Int32).toInt = -1 := by decide
    omega
theorem ro_ne (hexec : p.tables.exec = Jvm.exec) (hb : c.code = cc) {o : Option Nat} {off : Int} {tgt : Nat} (hdg : decode cc pc = .ok (.if_icmp .ne off, 3)) (ht : (pc : Int) + off = (tgt : Int)) (ho : ∀ i, o = some i → i < 2147483648)
    (kt : ∀ i, o = some i → W p l e R s m args below meth c H locs cells slots Q (F0 m tgt ls rest)) (kf : o = none → W p l e R s m args below meth c H locs cells slots Q (F0 m (pc + 3) ls rest)) : W p l e R s m args below meth c H locs cells slots Q (F0 m pc ls (.int (-1) :: .int (oI o) :: rest)) := by
  refine lv_icmp_ne hexec hb hdg ht (fun h => ?_) (fun h => kf ((oI_m1 ho).mp h))
  cases o with
  | none => exact absurd rfl h
  | some i => exact kt i rfl
theorem ro_eq (hexec : p.tables.exec = Jvm.exec) (hb : c.code = cc) {o : Option Nat} {off : Int} {tgt : Nat} (hdg : decode cc pc = .ok (.if_icmp .eq off, 3)) (ht : (pc : Int) + off = (tgt : Int)) (ho : ∀ i, o = some i → i < 2147483648)
    (kt : o = none → W p l e R s m args below meth c H locs cells slots Q (F0 m tgt ls rest)) (kf : ∀ i, o = some i → W p l e R s m args below meth c H locs cells slots Q (F0 m (pc + 3) ls rest)) : W p l e R s m args below meth c H locs cells slots Q (F0 m pc ls (.int (-1) :: .int (oI o) :: rest)) := by
  refine lv_icmp_eq hexec hb hdg ht (fun h => kt ((oI_m1 ho).mp h)) (fun h => ?_)
  cases o with
  | none => exact absurd rfl h
  | some i => exact kf i rfl
theorem ix_of {x : Int32} {n : Nat} (h1 : ¬ x < 0) (h2 : ¬ nI n ≤ x) (hn : n < 2147483648) : ∃ j : Nat, j < n ∧ x = nI j := by
  obtain ⟨j, hj, rfl⟩ := nI_of h1
  refine ⟨j, ?_, rfl⟩
  rw [nI_leI (by omega) hj] at h2
  omega
theorem ix_in {x : Int32} {n : Nat} (h : decide (0 ≤ x ∧ x < nI n) = true) (hn : n < 2147483648) : ∃ j : Nat, j < n ∧ x = nI j := by
  have h1 := of_decide_eq_true h
  obtain ⟨j, hj, rfl⟩ := nI_of (x := x) (by rw [Int32.le_iff_toInt_le] at h1; rw [Int32.lt_iff_toInt_lt]; omega)
  rw [nI_ltI hj hn] at h1
  exact ⟨j, h1.2, rfl⟩
end RowsO

def atI (nu : Nat → Nat) (rl : Nat) (x : Int32) : Int32 := if 0 ≤ x ∧ x < nI rl then nI (nu x.toNatClampNeg) else -1
theorem atI_1 {nu : Nat → Nat} {rl : Nat} {x : Int32} (h : x < 0) : -1 = atI nu rl x := by
  rw [atI, if_neg (by rw [Int32.lt_iff_toInt_lt, Int32.toInt_zero] at h; rw [Int32.le_iff_toInt_le, Int32.toInt_zero]; omega)]
theorem atI_2 {nu : Nat → Nat} {rl : Nat} {x : Int32} (h : nI rl ≤ x) : -1 = atI nu rl x := by
  rw [atI, if_neg (by rw [Int32.le_iff_toInt_le] at h; rw [Int32.lt_iff_toInt_lt]; omega)]
theorem atI_3 {nu : Nat → Nat} {rl j : Nat} (hr : rl ≤ 40) (h : j < rl) : nI (nu j) = atI nu rl (nI j) := by
  rw [atI, if_pos ⟨nI_pos' (by omega), nI_lt h (by omega)⟩, nI_clamp (by omega)]

set_option maxHeartbeats 4000000 in
set_option maxRecDepth 100000 in
theorem ct_R_at (l : Launch) (dC : Nat → ClassId) (dI : Nat → Nat → Nat) (cI cJ cZ : ClassId) (qr : Nat → Nat) (nu : Nat → Nat) (rl : Nat) (x : Int32) (hrl : rl ≤ 40) : Met l yR_at wsR_at ({ frames := 0, cells := 0, slots := 0, locals := 0 }) (PcR (dC, dI) (wR cI cJ cZ qr nu rl) (tyE cI cJ cZ) [.ref (qr 0), .int x]) (vp_Si (fun r => r = atI nu rl x)) 0 0 (fun _ => False) := by
  refine Met.ofW (cc := cR_at) (maxL := 2) (ret := (some .int)) (by decide) rfl ?_
  intro p e s m args below meth c s₁ B hml hv
  obtain ⟨rfl, hP, hK, hE⟩ := hv
  have hx := B.exec
  have hb := B.bytes
  have hr := B.returns
  have hts := atoms_spec (ws := wsR_at) B.pre
  have hg : ∀ w ∈ gw, w.before _ s = true := fun w h => hts w (List.mem_cons_of_mem _ h)
  have hown : s.vm.findClass nR = some m.cls := findClass_of_methodNamed B.named
  have hlocks := B.notSynchronized
  have hR : 0 ≤ (headSpec wsR_at ({ frames := 0, cells := 0, slots := 0, locals := 0 })).room.frames ∧ 0 ≤ (headSpec wsR_at ({ frames := 0, cells := 0, slots := 0, locals := 0 })).room.locals := ⟨Nat.le_refl _, Nat.le_refl _⟩
  have hcs : 0 ≤ (headSpec wsR_at ({ frames := 0, cells := 0, slots := 0, locals := 0 })).room.cells ∧ 0 ≤ (headSpec wsR_at ({ frames := 0, cells := 0, slots := 0, locals := 0 })).room.slots := ⟨Nat.zero_le _, Nat.zero_le _⟩
  have hl := lv_entry ([.ref (qr 0), .int x]) (n := 2) (Nat.le_of_ble_eq_true rfl)
  rw [lg_entry_eq]
  generalize (lg_sl ([.ref (qr 0), .int x]) ++ List.replicate (2 - (lg_sl ([.ref (qr 0), .int x])).length) Slot.unset).toArray = ls at hl ⊢
  have hl : lv_has ls 2 [(0, .ref (qr 0)), (1, .int x)] := hl
  refine lv_iload_n hx hb dR_at_0 rfl (lv_at hl 1 rfl) ?_
  refine lv_if_lt (tgt := 21) hx hb dR_at_1 (by decide) (fun c1 => ?_) (fun c1 => ?_)
  · refine lv_iconst (v := -1) hx hb dR_at_21 (by decide) ?_
    exact W.iret hx hb hr (fun t ht hW => ⟨_, rfl, (by first | exact atI_1 c1 | exact atI_2 c9 | exact atI_3 hrl hj), ht⟩) (fun _ h9 => nomatch h9) dR_at_22
  · refine lv_iload_n hx hb dR_at_4 rfl (lv_at hl 1 rfl) ?_
    refine lv_aload_n hx hb dR_at_5 rfl (lv_at hl 0 rfl) ?_
    refine va_get (D := (dC, dI)) (ci := 4) (v := .int (nI rl)) (C := nR) (T := TR) (N := 2) hx hb hg inR hown hK hP 0 rfl rfl 1 (by decide) (hg _ kR_15) (fun _ h9 => h9) rfl dR_at_6 ?_
    refine lv_icmp_ge (tgt := 21) hx hb dR_at_9 (by decide) (fun c9 => ?_) (fun c9 => ?_)
    · refine lv_iconst (v := -1) hx hb dR_at_21 (by decide) ?_
      exact W.iret hx hb hr (fun t ht hW => ⟨_, rfl, (by first | exact atI_1 c1 | exact atI_2 c9 | exact atI_3 hrl hj), ht⟩) (fun _ h9 => nomatch h9) dR_at_22
    · obtain ⟨j, hj, rfl⟩ := ix_of c1 c9 (by omega)
      refine lv_aload_n hx hb dR_at_12 rfl (lv_at hl 0 rfl) ?_
      refine va_get (D := (dC, dI)) (ci := 4) (v := .ref (qr 1)) (C := nR) (T := TR) (N := 2) hx hb hg inR hown hK hP 0 rfl rfl 0 (by decide) (hg _ kR_9) (fun _ h9 => h9) rfl dR_at_13 ?_
      refine lv_iload_n hx hb dR_at_16 rfl (lv_at hl 1 rfl) ?_
      refine ga_i (f := nu) hx hb hK hP 1 0 rfl rfl (by omega) (by decide) dR_at_17 ?_
      refine lv_goto (tgt := 22) hx hb dR_at_18 (by decide) ?_
      exact W.iret hx hb hr (fun t ht hW => ⟨_, rfl, (by first | exact atI_1 c1 | exact atI_2 c9 | exact atI_3 hrl hj), ht⟩) (fun _ h9 => nomatch h9) dR_at_22

set_option maxHeartbeats 4000000 in
set_option maxRecDepth 100000 in
theorem ct_R_clear (l : Launch) (dC : Nat → ClassId) (dI : Nat → Nat → Nat) (cI cJ cZ : ClassId) (qr : Nat → Nat) (nu : Nat → Nat) (rl : Nat) (sz : Nat) (hrl : rl ≤ 40) : Met l yR_clear wsR_clear ({ frames := 0, cells := 0, slots := 0, locals := 0 }) (PcW (dC, dI) (wR cI cJ cZ qr nu rl) (tyE cI cJ cZ) sz [.ref (qr 0)]) (QwV (dC, dI) (wR cI cJ cZ qr nu 0) (tyE cI cJ cZ) (va_A (wR cI cJ cZ qr nu rl) sz)) 0 0 (va_A (wR cI cJ cZ qr nu rl) sz) := by
  refine Met.ofW (cc := cR_clear) (maxL := 1) (ret := none) (by decide) rfl ?_
  intro p e s m args below meth c s₁ B hml hv
  obtain ⟨rfl, hsz, hP, hK, hD0, hE⟩ := hv
  have hx := B.exec
  have hb := B.bytes
  have hr := B.returns
  have hts := atoms_spec (ws := wsR_clear) B.pre
  have hg : ∀ w ∈ gw, w.before _ s = true := fun w h => hts w (List.mem_cons_of_mem _ h)
  have hown : s.vm.findClass nR = some m.cls := findClass_of_methodNamed B.named
  have hlocks := B.notSynchronized
  have hR : 0 ≤ (headSpec wsR_clear ({ frames := 0, cells := 0, slots := 0, locals := 0 })).room.frames ∧ 0 ≤ (headSpec wsR_clear ({ frames := 0, cells := 0, slots := 0, locals := 0 })).room.locals := ⟨Nat.le_refl _, Nat.le_refl _⟩
  have hcs : 0 ≤ (headSpec wsR_clear ({ frames := 0, cells := 0, slots := 0, locals := 0 })).room.cells ∧ 0 ≤ (headSpec wsR_clear ({ frames := 0, cells := 0, slots := 0, locals := 0 })).room.slots := ⟨Nat.zero_le _, Nat.zero_le _⟩
  subst hsz
  have hD := hD0.self (sz := s.heap.size)
  generalize hAe : va_A (wR cI cJ cZ qr nu rl) s.heap.size = A at hD ⊢
  have hA : ∀ q : Nat, s.heap.size ≤ q → A q := fun q h => by rw [← hAe]; exact Or.inr h
  obtain ⟨H, hH⟩ : ∃ H, H = s.heap := ⟨_, rfl⟩
  have hS : va_S A s.heap H [] := by rw [hH]; exact va_S.rf
  rw [← hH] at hP ⊢
  have hl := lv_entry ([.ref (qr 0)]) (n := 1) (Nat.le_of_ble_eq_true rfl)
  rw [lg_entry_eq]
  generalize (lg_sl ([.ref (qr 0)]) ++ List.replicate (1 - (lg_sl ([.ref (qr 0)])).length) Slot.unset).toArray = ls at hl ⊢
  have hl : lv_has ls 1 [(0, .ref (qr 0))] := hl
  refine lv_aload_n hx hb dR_clear_0 rfl (lv_at hl 0 rfl) ?_
  refine rn_iconst hx hb 0 dR_clear_1 (by decide) ?_
  refine va_put (D := (dC, dI)) (ci := 4) (v := .int (nI 0)) (ty := .int) (C := nR) (T := TR) (N := 2) hx hb hg inR tR tR_ok nmR hown hK hP hD hS 0 rfl rfl 1 (by decide) (hg _ kR_15) (fun _ h9 => h9) rfl (by decide +kernel) rfl rfl (Nat.le_of_ble_eq_true rfl) dR_clear_2 (fun H locs hP hD hS => ?_)
  have hP : va_P (dC, dI) vwCl (wR cI cJ cZ qr nu 0) H := hP
  have hD : va_D A (wR cI cJ cZ qr nu 0) := hD
  have hP9 : va_P (dC, dI) vwCl (wR cI cJ cZ qr nu 0) H := by exact hP
  have hD9 : va_D A (wR cI cJ cZ qr nu 0) := by exact hD
  exact W.vret hx hb hr (fun t ht hW => ⟨⟨(), rfl, trivial, by rw [ht]; exact hP9, va_K.moved hW.alike hK, hD9⟩, hS.F ht⟩) hS.2.2 dR_clear_5

def apF (nu : Nat → Nat) (rl x : Nat) : Nat → Nat := if rl < 40 then va_up nu rl x else nu
def apN (rl : Nat) : Nat := if rl < 40 then rl + 1 else rl

set_option maxHeartbeats 4000000 in
set_option maxRecDepth 100000 in
theorem ct_R_append (l : Launch) (dC : Nat → ClassId) (dI : Nat → Nat → Nat) (cI cJ cZ : ClassId) (qr : Nat → Nat) (nu : Nat → Nat) (rl : Nat) (x : Nat) (sz : Nat) (hrl : rl ≤ 40) : Met l yR_append wsR_append ({ frames := 0, cells := 0, slots := 0, locals := 0 }) (PcW (dC, dI) (wR cI cJ cZ qr nu rl) (tyE cI cJ cZ) sz [.ref (qr 0), .int (nI x)]) (QwV (dC, dI) (wR cI cJ cZ qr (apF nu rl x) (apN rl)) (tyE cI cJ cZ) (va_A (wR cI cJ cZ qr nu rl) sz)) 0 0 (va_A (wR cI cJ cZ qr nu rl) sz) := by
  refine Met.ofW (cc := cR_append) (maxL := 2) (ret := none) (by decide) rfl ?_
  intro p e s m args below meth c s₁ B hml hv
  obtain ⟨rfl, hsz, hP, hK, hD0, hE⟩ := hv
  have hx := B.exec
  have hb := B.bytes
  have hr := B.returns
  have hts := atoms_spec (ws := wsR_append) B.pre
  have hg : ∀ w ∈ gw, w.before _ s = true := fun w h => hts w (List.mem_cons_of_mem _ h)
  have hown : s.vm.findClass nR = some m.cls := findClass_of_methodNamed B.named
  have hlocks := B.notSynchronized
  have hR : 0 ≤ (headSpec wsR_append ({ frames := 0, cells := 0, slots := 0, locals := 0 })).room.frames ∧ 0 ≤ (headSpec wsR_append ({ frames := 0, cells := 0, slots := 0, locals := 0 })).room.locals := ⟨Nat.le_refl _, Nat.le_refl _⟩
  have hcs : 0 ≤ (headSpec wsR_append ({ frames := 0, cells := 0, slots := 0, locals := 0 })).room.cells ∧ 0 ≤ (headSpec wsR_append ({ frames := 0, cells := 0, slots := 0, locals := 0 })).room.slots := ⟨Nat.zero_le _, Nat.zero_le _⟩
  subst hsz
  have hD := hD0.self (sz := s.heap.size)
  generalize hAe : va_A (wR cI cJ cZ qr nu rl) s.heap.size = A at hD ⊢
  have hA : ∀ q : Nat, s.heap.size ≤ q → A q := fun q h => by rw [← hAe]; exact Or.inr h
  obtain ⟨H, hH⟩ : ∃ H, H = s.heap := ⟨_, rfl⟩
  have hS : va_S A s.heap H [] := by rw [hH]; exact va_S.rf
  rw [← hH] at hP ⊢
  have hl := lv_entry ([.ref (qr 0), .int (nI x)]) (n := 2) (Nat.le_of_ble_eq_true rfl)
  rw [lg_entry_eq]
  generalize (lg_sl ([.ref (qr 0), .int (nI x)]) ++ List.replicate (2 - (lg_sl ([.ref (qr 0), .int (nI x)])).length) Slot.unset).toArray = ls at hl ⊢
  have hl : lv_has ls 2 [(0, .ref (qr 0)), (1, .int (nI x))] := hl
  refine lv_aload_n hx hb dR_append_0 rfl (lv_at hl 0 rfl) ?_
  refine va_get (D := (dC, dI)) (ci := 4) (v := .int (nI rl)) (C := nR) (T := TR) (N := 2) hx hb hg inR hown hK hP 0 rfl rfl 1 (by decide) (hg _ kR_15) (fun _ h9 => h9) rfl dR_append_1 ?_
  refine rn_bipush hx hb 40 dR_append_4 (by decide) ?_
  refine rn_icmp_ge (tgt := 29) hx hb dR_append_6 (by decide) (by omega) (by omega) (fun c6 => ?_) (fun c6 => ?_)
  · have hP9 : va_P (dC, dI) vwCl (wR cI cJ cZ qr (apF nu rl x) (apN rl)) H := by first | (rw [show apF nu rl x = va_up nu rl x from if_pos (by omega), show apN rl = rl + 1 from if_pos (by omega)]; exact hP) | (rw [show apF nu rl x = nu from if_neg (by omega), show apN rl = rl from if_neg (by omega)]; exact hP)
    have hD9 : va_D A (wR cI cJ cZ qr (apF nu rl x) (apN rl)) := by first | (rw [show apF nu rl x = va_up nu rl x from if_pos (by omega), show apN rl = rl + 1 from if_pos (by omega)]; exact hD) | (rw [show apF nu rl x = nu from if_neg (by omega), show apN rl = rl from if_neg (by omega)]; exact hD)
    exact W.vret hx hb hr (fun t ht hW => ⟨⟨(), rfl, trivial, by rw [ht]; exact hP9, va_K.moved hW.alike hK, hD9⟩, hS.F ht⟩) hS.2.2 dR_append_29
  · refine lv_aload_n hx hb dR_append_9 rfl (lv_at hl 0 rfl) ?_
    refine va_get (D := (dC, dI)) (ci := 4) (v := .ref (qr 1)) (C := nR) (T := TR) (N := 2) hx hb hg inR hown hK hP 0 rfl rfl 0 (by decide) (hg _ kR_9) (fun _ h9 => h9) rfl dR_append_10 ?_
    refine lv_aload_n hx hb dR_append_13 rfl (lv_at hl 0 rfl) ?_
    refine va_get (D := (dC, dI)) (ci := 4) (v := .int (nI rl)) (C := nR) (T := TR) (N := 2) hx hb hg inR hown hK hP 0 rfl rfl 1 (by decide) (hg _ kR_15) (fun _ h9 => h9) rfl dR_append_14 ?_
    refine lv_iload_n hx hb dR_append_17 rfl (lv_at hl 1 rfl) ?_
    refine sa_i (f := nu) (v := x) hx hb hK hP hD hS 1 0 rfl rfl (by omega) (by decide) dR_append_18 (fun H locs hP hD hS => ?_)
    have hP : va_P (dC, dI) vwCl (wR cI cJ cZ qr (va_up nu rl x) rl) H := hP
    have hD : va_D A (wR cI cJ cZ qr (va_up nu rl x) rl) := hD
    refine lv_aload_n hx hb dR_append_19 rfl (lv_at hl 0 rfl) ?_
    refine lv_dup hx hb dR_append_20 rfl ?_
    refine va_get (D := (dC, dI)) (ci := 4) (v := .int (nI rl)) (C := nR) (T := TR) (N := 2) hx hb hg inR hown hK hP 0 rfl rfl 1 (by decide) (hg _ kR_15) (fun _ h9 => h9) rfl dR_append_21 ?_
    refine rn_iconst hx hb 1 dR_append_24 (by decide) ?_
    refine rn_iadd hx hb dR_append_25 ?_
    refine va_put (D := (dC, dI)) (ci := 4) (v := .int (nI (rl + 1))) (ty := .int) (C := nR) (T := TR) (N := 2) hx hb hg inR tR tR_ok nmR hown hK hP hD hS 0 rfl rfl 1 (by decide) (hg _ kR_15) (fun _ h9 => h9) rfl (by decide +kernel) rfl rfl (Nat.le_of_ble_eq_true rfl) dR_append_26 (fun H locs hP hD hS => ?_)
    have hP : va_P (dC, dI) vwCl (wR cI cJ cZ qr (va_up nu rl x) (rl + 1)) H := hP
    have hD : va_D A (wR cI cJ cZ qr (va_up nu rl x) (rl + 1)) := hD
    have hP9 : va_P (dC, dI) vwCl (wR cI cJ cZ qr (apF nu rl x) (apN rl)) H := by first | (rw [show apF nu rl x = va_up nu rl x from if_pos (by omega), show apN rl = rl + 1 from if_pos (by omega)]; exact hP) | (rw [show apF nu rl x = nu from if_neg (by omega), show apN rl = rl from if_neg (by omega)]; exact hP)
    have hD9 : va_D A (wR cI cJ cZ qr (apF nu rl x) (apN rl)) := by first | (rw [show apF nu rl x = va_up nu rl x from if_pos (by omega), show apN rl = rl + 1 from if_pos (by omega)]; exact hD) | (rw [show apF nu rl x = nu from if_neg (by omega), show apN rl = rl from if_neg (by omega)]; exact hD)
    exact W.vret hx hb hr (fun t ht hW => ⟨⟨(), rfl, trivial, by rw [ht]; exact hP9, va_K.moved hW.alike hK, hD9⟩, hS.F ht⟩) hS.2.2 dR_append_29

set_option maxHeartbeats 4000000 in
set_option maxRecDepth 100000 in
theorem ct_P_add (l : Launch) (dC : Nat → ClassId) (dI : Nat → Nat → Nat) (cI cJ cZ : ClassId) (q : Nat → Nat) (bg en sc wd ht oh bt : Nat → Nat) (co n : Nat) (a b s0 : Nat) (sz : Nat) (hB : bP bg en sc wd ht oh bt co n) (hn0 : n < 40) : Met l yP_add wsP_add ({ frames := 0, cells := 0, slots := 0, locals := 0 }) (PcW (dC, dI) (wP cI cJ cZ q bg en sc wd ht oh bt co n) (tyE cI cJ cZ) sz [.ref (q 0), .int (nI a), .int (nI b), .long (lN s0)]) (QwI (dC, dI) (nI n) (wP cI cJ cZ q (va_up bg n a) (va_up en n b) (va_up sc n s0) (va_up wd n 2000) (va_up ht n 3000) (va_up oh n 16777215) bt co (n + 1)) (tyE cI cJ cZ) (va_A (wP cI cJ cZ q bg en sc wd ht oh bt co n) sz)) 0 0 (va_A (wP cI cJ cZ q bg en sc wd ht oh bt co n) sz) := by
  refine Met.ofW (cc := cP_add) (maxL := 5) (ret := (some .int)) (by decide) rfl ?_
  intro p e s m args below meth c s₁ B hml hv
  obtain ⟨rfl, hsz, hP, hK, hD0, hE⟩ := hv
  have hx := B.exec
  have hb := B.bytes
  have hr := B.returns
  have hts := atoms_spec (ws := wsP_add) B.pre
  have hg : ∀ w ∈ gw, w.before _ s = true := fun w h => hts w (List.mem_cons_of_mem _ h)
  have hown : s.vm.findClass nP = some m.cls := findClass_of_methodNamed B.named
  have hlocks := B.notSynchronized
  have hR : 0 ≤ (headSpec wsP_add ({ frames := 0, cells := 0, slots := 0, locals := 0 })).room.frames ∧ 0 ≤ (headSpec wsP_add ({ frames := 0, cells := 0, slots := 0, locals := 0 })).room.locals := ⟨Nat.le_refl _, Nat.le_refl _⟩
  have hcs : 0 ≤ (headSpec wsP_add ({ frames := 0, cells := 0, slots := 0, locals := 0 })).room.cells ∧ 0 ≤ (headSpec wsP_add ({ frames := 0, cells := 0, slots := 0, locals := 0 })).room.slots := ⟨Nat.zero_le _, Nat.zero_le _⟩
  subst hsz
  have hD := hD0.self (sz := s.heap.size)
  generalize hAe : va_A (wP cI cJ cZ q bg en sc wd ht oh bt co n) s.heap.size = A at hD ⊢
  have hA : ∀ q : Nat, s.heap.size ≤ q → A q := fun q h => by rw [← hAe]; exact Or.inr h
  obtain ⟨H, hH⟩ : ∃ H, H = s.heap := ⟨_, rfl⟩
  have hS : va_S A s.heap H [] := by rw [hH]; exact va_S.rf
  rw [← hH] at hP ⊢
  have hl := lv_entry ([.ref (q 0), .int (nI a), .int (nI b), .long (lN s0)]) (n := 5) (Nat.le_of_ble_eq_true rfl)
  rw [lg_entry_eq]
  generalize (lg_sl ([.ref (q 0), .int (nI a), .int (nI b), .long (lN s0)]) ++ List.replicate (5 - (lg_sl ([.ref (q 0), .int (nI a), .int (nI b), .long (lN s0)])).length) Slot.unset).toArray = ls at hl ⊢
  have hl : lv_has ls 5 [(0, .ref (q 0)), (1, .int (nI a)), (2, .int (nI b)), (3, .long (lN s0))] := hl
  refine lv_aload_n hx hb dP_add_0 rfl (lv_at hl 0 rfl) ?_
  refine va_get (D := (dC, dI)) (ci := 1) (v := .int (nI n)) (C := nP) (T := TP) (N := 9) hx hb hg inP hown hK hP 0 rfl rfl 8 (by decide) (hg _ kP_34) (fun _ h9 => h9) rfl dP_add_1 ?_
  refine rn_bipush hx hb 40 dP_add_4 (by decide) ?_
  refine rn_icmp_lt (tgt := 11) hx hb dP_add_6 (by decide) (by omega) (by omega) (fun c6 => ?_) (fun c6 => ?_)
  · refine lv_aload_n hx hb dP_add_11 rfl (lv_at hl 0 rfl) ?_
    refine va_get (D := (dC, dI)) (ci := 1) (v := .ref (q 1)) (C := nP) (T := TP) (N := 9) hx hb hg inP hown hK hP 0 rfl rfl 0 (by decide) (hg _ kP_9) (fun _ h9 => h9) rfl dP_add_12 ?_
    refine lv_aload_n hx hb dP_add_15 rfl (lv_at hl 0 rfl) ?_
    refine va_get (D := (dC, dI)) (ci := 1) (v := .int (nI n)) (C := nP) (T := TP) (N := 9) hx hb hg inP hown hK hP 0 rfl rfl 8 (by decide) (hg _ kP_34) (fun _ h9 => h9) rfl dP_add_16 ?_
    refine lv_iload_n hx hb dP_add_19 rfl (lv_at hl 1 rfl) ?_
    refine sa_i (f := bg) (v := a) hx hb hK hP hD hS 1 0 rfl rfl (by omega) (by decide) dP_add_20 (fun H locs hP hD hS => ?_)
    have hP : va_P (dC, dI) vwCl (wP cI cJ cZ q (va_up bg n a) en sc wd ht oh bt co n) H := hP
    have hD : va_D A (wP cI cJ cZ q (va_up bg n a) en sc wd ht oh bt co n) := hD
    refine lv_aload_n hx hb dP_add_21 rfl (lv_at hl 0 rfl) ?_
    refine va_get (D := (dC, dI)) (ci := 1) (v := .ref (q 2)) (C := nP) (T := TP) (N := 9) hx hb hg inP hown hK hP 0 rfl rfl 1 (by decide) (hg _ kP_15) (fun _ h9 => h9) rfl dP_add_22 ?_
    refine lv_aload_n hx hb dP_add_25 rfl (lv_at hl 0 rfl) ?_
    refine va_get (D := (dC, dI)) (ci := 1) (v := .int (nI n)) (C := nP) (T := TP) (N := 9) hx hb hg inP hown hK hP 0 rfl rfl 8 (by decide) (hg _ kP_34) (fun _ h9 => h9) rfl dP_add_26 ?_
    refine lv_iload_n hx hb dP_add_29 rfl (lv_at hl 2 rfl) ?_
    refine sa_i (f := en) (v := b) hx hb hK hP hD hS 2 0 rfl rfl (by omega) (by decide) dP_add_30 (fun H locs hP hD hS => ?_)
    have hP : va_P (dC, dI) vwCl (wP cI cJ cZ q (va_up bg n a) (va_up en n b) sc wd ht oh bt co n) H := hP
    have hD : va_D A (wP cI cJ cZ q (va_up bg n a) (va_up en n b) sc wd ht oh bt co n) := hD
    refine lv_aload_n hx hb dP_add_31 rfl (lv_at hl 0 rfl) ?_
    refine va_get (D := (dC, dI)) (ci := 1) (v := .ref (q 3)) (C := nP) (T := TP) (N := 9) hx hb hg inP hown hK hP 0 rfl rfl 2 (by decide) (hg _ kP_18) (fun _ h9 => h9) rfl dP_add_32 ?_
    refine lv_aload_n hx hb dP_add_35 rfl (lv_at hl 0 rfl) ?_
    refine va_get (D := (dC, dI)) (ci := 1) (v := .int (nI n)) (C := nP) (T := TP) (N := 9) hx hb hg inP hown hK hP 0 rfl rfl 8 (by decide) (hg _ kP_34) (fun _ h9 => h9) rfl dP_add_36 ?_
    refine lv_lload_n hx hb dP_add_39 rfl (lv_at hl 3 rfl) ?_
    refine sa_l (f := sc) (v := s0) hx hb hK hP hD hS 3 1 rfl rfl (by omega) (by decide) dP_add_40 (fun H locs hP hD hS => ?_)
    have hP : va_P (dC, dI) vwCl (wP cI cJ cZ q (va_up bg n a) (va_up en n b) (va_up sc n s0) wd ht oh bt co n) H := hP
    have hD : va_D A (wP cI cJ cZ q (va_up bg n a) (va_up en n b) (va_up sc n s0) wd ht oh bt co n) := hD
    refine lv_aload_n hx hb dP_add_41 rfl (lv_at hl 0 rfl) ?_
    refine va_get (D := (dC, dI)) (ci := 1) (v := .ref (q 4)) (C := nP) (T := TP) (N := 9) hx hb hg inP hown hK hP 0 rfl rfl 3 (by decide) (hg _ kP_22) (fun _ h9 => h9) rfl dP_add_42 ?_
    refine lv_aload_n hx hb dP_add_45 rfl (lv_at hl 0 rfl) ?_
    refine va_get (D := (dC, dI)) (ci := 1) (v := .int (nI n)) (C := nP) (T := TP) (N := 9) hx hb hg inP hown hK hP 0 rfl rfl 8 (by decide) (hg _ kP_34) (fun _ h9 => h9) rfl dP_add_46 ?_
    refine rn_sipush hx hb 2000 dP_add_49 (by decide) ?_
    refine sa_i (f := wd) (v := 2000) hx hb hK hP hD hS 4 0 rfl rfl (by omega) (by decide) dP_add_52 (fun H locs hP hD hS => ?_)
    have hP : va_P (dC, dI) vwCl (wP cI cJ cZ q (va_up bg n a) (va_up en n b) (va_up sc n s0) (va_up wd n 2000) ht oh bt co n) H := hP
    have hD : va_D A (wP cI cJ cZ q (va_up bg n a) (va_up en n b) (va_up sc n s0) (va_up wd n 2000) ht oh bt co n) := hD
    refine lv_aload_n hx hb dP_add_53 rfl (lv_at hl 0 rfl) ?_
    refine va_get (D := (dC, dI)) (ci := 1) (v := .ref (q 5)) (C := nP) (T := TP) (N := 9) hx hb hg inP hown hK hP 0 rfl rfl 4 (by decide) (hg _ kP_25) (fun _ h9 => h9) rfl dP_add_54 ?_
    refine lv_aload_n hx hb dP_add_57 rfl (lv_at hl 0 rfl) ?_
    refine va_get (D := (dC, dI)) (ci := 1) (v := .int (nI n)) (C := nP) (T := TP) (N := 9) hx hb hg inP hown hK hP 0 rfl rfl 8 (by decide) (hg _ kP_34) (fun _ h9 => h9) rfl dP_add_58 ?_
    refine lv_ldc2 (v := 3000) hx hb hown (hg _ kP_38) dP_add_61 ?_
    refine tp_l (y := lN 3000) rfl ?_
    refine sa_l (f := ht) (v := 3000) hx hb hK hP hD hS 5 1 rfl rfl (by omega) (by decide) dP_add_64 (fun H locs hP hD hS => ?_)
    have hP : va_P (dC, dI) vwCl (wP cI cJ cZ q (va_up bg n a) (va_up en n b) (va_up sc n s0) (va_up wd n 2000) (va_up ht n 3000) oh bt co n) H := hP
    have hD : va_D A (wP cI cJ cZ q (va_up bg n a) (va_up en n b) (va_up sc n s0) (va_up wd n 2000) (va_up ht n 3000) oh bt co n) := hD
    refine lv_aload_n hx hb dP_add_65 rfl (lv_at hl 0 rfl) ?_
    refine va_get (D := (dC, dI)) (ci := 1) (v := .ref (q 6)) (C := nP) (T := TP) (N := 9) hx hb hg inP hown hK hP 0 rfl rfl 5 (by decide) (hg _ kP_28) (fun _ h9 => h9) rfl dP_add_66 ?_
    refine lv_aload_n hx hb dP_add_69 rfl (lv_at hl 0 rfl) ?_
    refine va_get (D := (dC, dI)) (ci := 1) (v := .int (nI n)) (C := nP) (T := TP) (N := 9) hx hb hg inP hown hK hP 0 rfl rfl 8 (by decide) (hg _ kP_34) (fun _ h9 => h9) rfl dP_add_70 ?_
    refine lv_ldc2 (v := 16777215) hx hb hown (hg _ kP_40) dP_add_73 ?_
    refine tp_l (y := lN 16777215) rfl ?_
    refine sa_l (f := oh) (v := 16777215) hx hb hK hP hD hS 6 1 rfl rfl (by omega) (by decide) dP_add_76 (fun H locs hP hD hS => ?_)
    have hP : va_P (dC, dI) vwCl (wP cI cJ cZ q (va_up bg n a) (va_up en n b) (va_up sc n s0) (va_up wd n 2000) (va_up ht n 3000) (va_up oh n 16777215) bt co n) H := hP
    have hD : va_D A (wP cI cJ cZ q (va_up bg n a) (va_up en n b) (va_up sc n s0) (va_up wd n 2000) (va_up ht n 3000) (va_up oh n 16777215) bt co n) := hD
    refine lv_aload_n hx hb dP_add_77 rfl (lv_at hl 0 rfl) ?_
    refine lv_dup hx hb dP_add_78 rfl ?_
    refine va_get (D := (dC, dI)) (ci := 1) (v := .int (nI n)) (C := nP) (T := TP) (N := 9) hx hb hg inP hown hK hP 0 rfl rfl 8 (by decide) (hg _ kP_34) (fun _ h9 => h9) rfl dP_add_79 ?_
    refine rn_iconst hx hb 1 dP_add_82 (by decide) ?_
    refine rn_iadd hx hb dP_add_83 ?_
    refine va_put (D := (dC, dI)) (ci := 1) (v := .int (nI (n + 1))) (ty := .int) (C := nP) (T := TP) (N := 9) hx hb hg inP tP tP_ok nmP hown hK hP hD hS 0 rfl rfl 8 (by decide) (hg _ kP_34) (fun _ h9 => h9) rfl (by decide +kernel) rfl rfl (Nat.le_of_ble_eq_true rfl) dP_add_84 (fun H locs hP hD hS => ?_)
    have hP : va_P (dC, dI) vwCl (wP cI cJ cZ q (va_up bg n a) (va_up en n b) (va_up sc n s0) (va_up wd n 2000) (va_up ht n 3000) (va_up oh n 16777215) bt co (n + 1)) H := hP
    have hD : va_D A (wP cI cJ cZ q (va_up bg n a) (va_up en n b) (va_up sc n s0) (va_up wd n 2000) (va_up ht n 3000) (va_up oh n 16777215) bt co (n + 1)) := hD
    refine lv_aload_n hx hb dP_add_87 rfl (lv_at hl 0 rfl) ?_
    refine va_get (D := (dC, dI)) (ci := 1) (v := .int (nI (n + 1))) (C := nP) (T := TP) (N := 9) hx hb hg inP hown hK hP 0 rfl rfl 8 (by decide) (hg _ kP_34) (fun _ h9 => h9) rfl dP_add_88 ?_
    refine rn_iconst hx hb 1 dP_add_91 (by decide) ?_
    refine rn_isub hx hb dP_add_92 (by omega) ?_
    have hP9 : va_P (dC, dI) vwCl (wP cI cJ cZ q (va_up bg n a) (va_up en n b) (va_up sc n s0) (va_up wd n 2000) (va_up ht n 3000) (va_up oh n 16777215) bt co (n + 1)) H := by exact hP
    have hD9 : va_D A (wP cI cJ cZ q (va_up bg n a) (va_up en n b) (va_up sc n s0) (va_up wd n 2000) (va_up ht n 3000) (va_up oh n 16777215) bt co (n + 1)) := by exact hD
    exact W.iret hx hb hr (fun t ht hW => ⟨⟨_, (), rfl, (congrArg nI (by omega)), by rw [ht]; exact hP9, va_K.moved hW.alike hK, hD9⟩, hS.F ht⟩) hS.2.2 dP_add_93
  · exact absurd hn0 c6

theorem er_n {op : Nat} {re : Nat → Nat} {i le : Nat} {o : Option Nat} (h : (o, le) = erL op re i) (c : op.testBit i = false) : (o, le) = erL op re (i + 1) := by simp [erL, c, ← h]
theorem er_t {op : Nat} {re : Nat → Nat} {i le : Nat} {o : Option Nat} (h : (o, le) = erL op re i) (c : op.testBit i = true) (d : ¬ le ≤ re i) : (some i, re i) = erL op re (i + 1) := by simp [erL, c, ← h, Nat.not_le.mp d]
theorem er_f {op : Nat} {re : Nat → Nat} {i le : Nat} {o : Option Nat} (h : (o, le) = erL op re i) (d : le ≤ re i) : (o, le) = erL op re (i + 1) := by simp [erL, ← h, Nat.not_lt.mpr d]

set_option maxHeartbeats 4000000 in
set_option maxRecDepth 100000 in
theorem lp_L_earliest {p : Program} {l : Launch} {e : Env} {R : Room} {s : State} {m : MethodId} {args : Array Value} {below : List Frame} {meth : Method} {c : Code} {H : Heap} {locs : List Loc} {cells slots : Nat} {Q : State → Prop} {dC : Nat → ClassId} {dI : Nat → Nat → Nat} {cI cJ cZ : ClassId} (ql : Nat → Nat) (re : Nat → Nat) (sa fm : Nat) (q : Nat → Nat) (bg en sc wd ht oh bt : Nat → Nat) (co n : Nat) (op : Nat) (hre : ∀ j, re j ≤ 1152921504606846976) (hB : bP bg en sc wd ht oh bt co n) (hop : op < 4611686018427387904) (hx : p.tables.exec = Jvm.exec) (hb : c.code = cL_earliestOf) (hml : c.maxLocals = 8) (hown : s.vm.findClass nL = some m.cls) (hts : ∀ w ∈ wsL_earliestOf, w.before args s = true) (hK : va_K (dC, dI) vwCl (tyE cI cJ cZ) s) (hP : va_P (dC, dI) vwCl (wL cI cJ cZ ql re sa fm ++ wP cI cJ cZ q bg en sc wd ht oh bt co n) H) (hE : EV s) (hR : 1 ≤ R.frames ∧ 22 ≤ R.locals) (hcs : cells ≤ R.cells ∧ slots ≤ R.slots)
    (kx0 : ∀ (i : Nat) (o : Option Nat) (le : Nat) (hi : i ≤ n) (ho : (o, le) = erL op re i) (hx0 : n ≤ i) (ls : Array Slot), lv_has ls 8 [(0, .ref (ql 0)), (1, .ref (q 0)), (2, .long (lN op)), (4, .int (oI o)), (5, .long (lN le)), (7, .int (nI i))] → W p l e R s m args below meth c H locs cells slots Q (F0 m 61 ls []))
    : ∀ (fu : Nat) (i : Nat) (o : Option Nat) (le : Nat) (hi : i ≤ n) (ho : (o, le) = erL op re i), n - i < fu → ∀ ls : Array Slot, lv_has ls 8 [(0, .ref (ql 0)), (1, .ref (q 0)), (2, .long (lN op)), (4, .int (oI o)), (5, .long (lN le)), (7, .int (nI i))] → W p l e R s m args below meth c H locs cells slots Q (F0 m 11 ls []) := by
  have hg : ∀ w ∈ gw, w.before args s = true := fun w h => hts w (List.mem_cons_of_mem _ h)
  have hn := hB.1
  have hco := hB.2.1
  have hbi := hB.2.2
  intro fu
  induction fu with
  | zero => intro i o le hi ho h0; exact absurd h0 (Nat.not_lt_zero _)
  | succ fu ih =>
    intro i o le hi ho hfu ls hl
    refine lv_iload hx hb dL_earliestOf_11 (lv_at hl 5 rfl) ?_
    refine lv_aload_n hx hb dL_earliestOf_13 rfl (lv_at hl 1 rfl) ?_
    refine va_get (D := (dC, dI)) (ci := 1) (v := .int (nI n)) (C := nP) (T := TP) (N := 9) hx hb hg inP hown hK hP 2 rfl rfl 8 (by decide) (hg _ kL_23) (fun _ h9 => h9) rfl dL_earliestOf_14 ?_
    refine rn_icmp_ge (tgt := 61) hx hb dL_earliestOf_17 (by decide) (by omega) (by omega) (fun c17 => ?_) (fun c17 => ?_)
    · exact kx0 i o le hi ho (by omega) ls (lv_sub hl [0, 1, 2, 3, 4, 5] rfl)
    · have hri := hre i
      have hle : le ≤ 1152921504606846976 := by have := (erL_ok op re i).1; rw [← ho] at this; exact this
      refine lv_lload_n hx hb dL_earliestOf_20 rfl (lv_at hl 2 rfl) ?_
      refine lv_iload hx hb dL_earliestOf_21 (lv_at hl 5 rfl) ?_
      refine cpN_i (As := [.long (lN op), .int (nI i)]) (rest := []) (post := fun r : Int32 => r = bI (op.testBit i)) ⟨hx, hb, hml, hown, hts⟩ (ct_G_hasBit l dC dI cI cJ cZ op i (hop) (by omega)) ⟨va_cnB 2 hts (gi kc_G_hasBit) rfl rfl rfl (hE _ kNL_28) (hg _ kin_G) (by decide +kernel) ⟨Nat.le_trans (by decide) hR.1, Nat.le_trans (by decide) hR.2⟩, hg _ ks_G_hasBit, trivial⟩ (hP.sub (ws' := []) [] rfl) hK hE rfl hl.1 rfl (Nat.le_of_ble_eq_true rfl) dL_earliestOf_23 hcs (fun r hr => ?_)
      subst hr
      refine rb_eq (tgt := 55) hx hb dL_earliestOf_26 (by decide) (fun c26 => ?_) (fun c26 => ?_)
      · refine rn_iinc (lv' := [(7, .int (nI (i + 1))), (0, .ref (ql 0)), (1, .ref (q 0)), (2, .long (lN op)), (4, .int (oI o)), (5, .long (lN le))]) hx hb dL_earliestOf_55 hl (k := 5) rfl (by decide) rfl (fun ls hl => ?_)
        refine lv_goto (tgt := 11) hx hb dL_earliestOf_58 (by decide) ?_
        exact ih (i + 1) o le (by omega) (by first | exact er_n ho c26 | exact er_t ho c26 c39 | exact er_f ho c39) (by omega) ls (lv_sub hl [1, 2, 3, 4, 5, 0] rfl)
      · refine lv_aload_n hx hb dL_earliestOf_29 rfl (lv_at hl 0 rfl) ?_
        refine va_get (D := (dC, dI)) (ci := 2) (v := .ref (ql 1)) (C := nL) (T := TL) (N := 3) hx hb hg inL hown hK hP 0 rfl rfl 0 (by decide) (hg _ kL_9) (fun _ h9 => h9) rfl dL_earliestOf_30 ?_
        refine lv_iload hx hb dL_earliestOf_33 (lv_at hl 5 rfl) ?_
        refine ga_l (f := re) hx hb hK hP 1 1 rfl rfl (by omega) (by decide) dL_earliestOf_35 ?_
        refine lv_lload hx hb dL_earliestOf_36 (lv_at hl 4 rfl) ?_
        refine rn_lcmp_ge (tgt := 55) hx hb dL_earliestOf_38 dL_earliestOf_39 (by decide) (by omega) (by omega) (fun c39 => ?_) (fun c39 => ?_)
        · refine rn_iinc (lv' := [(7, .int (nI (i + 1))), (0, .ref (ql 0)), (1, .ref (q 0)), (2, .long (lN op)), (4, .int (oI o)), (5, .long (lN le))]) hx hb dL_earliestOf_55 hl (k := 5) rfl (by decide) rfl (fun ls hl => ?_)
          refine lv_goto (tgt := 11) hx hb dL_earliestOf_58 (by decide) ?_
          exact ih (i + 1) o le (by omega) (by first | exact er_n ho c26 | exact er_t ho c26 c39 | exact er_f ho c39) (by omega) ls (lv_sub hl [1, 2, 3, 4, 5, 0] rfl)
        · refine lv_iload hx hb dL_earliestOf_42 (lv_at hl 5 rfl) ?_
          refine lv_istore (lv' := [(4, .int (nI i)), (0, .ref (ql 0)), (1, .ref (q 0)), (2, .long (lN op)), (5, .long (lN le)), (7, .int (nI i))]) hx hb dL_earliestOf_44 hl (by decide) rfl (fun ls hl => ?_)
          refine lv_aload_n hx hb dL_earliestOf_46 rfl (lv_at hl 1 rfl) ?_
          refine va_get (D := (dC, dI)) (ci := 2) (v := .ref (ql 1)) (C := nL) (T := TL) (N := 3) hx hb hg inL hown hK hP 0 rfl rfl 0 (by decide) (hg _ kL_9) (fun _ h9 => h9) rfl dL_earliestOf_47 ?_
          refine lv_iload hx hb dL_earliestOf_50 (lv_at hl 5 rfl) ?_
          refine ga_l (f := re) hx hb hK hP 1 1 rfl rfl (by omega) (by decide) dL_earliestOf_52 ?_
          refine lv_lstore (lv' := [(5, .long (lN (re i))), (4, .int (nI i)), (0, .ref (ql 0)), (1, .ref (q 0)), (2, .long (lN op)), (7, .int (nI i))]) hx hb dL_earliestOf_53 hl (by decide) rfl (fun ls hl => ?_)
          refine rn_iinc (lv' := [(7, .int (nI (i + 1))), (5, .long (lN (re i))), (4, .int (nI i)), (0, .ref (ql 0)), (1, .ref (q 0)), (2, .long (lN op))]) hx hb dL_earliestOf_55 hl (k := 5) rfl (by decide) rfl (fun ls hl => ?_)
          refine lv_goto (tgt := 11) hx hb dL_earliestOf_58 (by decide) ?_
          exact ih (i + 1) (some i) (re i) (by omega) (by first | exact er_n ho c26 | exact er_t ho c26 c39 | exact er_f ho c39) (by omega) ls (lv_sub hl [3, 4, 5, 2, 1, 0] rfl)

set_option maxHeartbeats 4000000 in
set_option maxRecDepth 100000 in
theorem ct_L_earliestOf (l : Launch) (dC : Nat → ClassId) (dI : Nat → Nat → Nat) (cI cJ cZ : ClassId) (ql : Nat → Nat) (re : Nat → Nat) (sa fm : Nat) (q : Nat → Nat) (bg en sc wd ht oh bt : Nat → Nat) (co n : Nat) (op : Nat) (hre : ∀ j, re j ≤ 1152921504606846976) (hB : bP bg en sc wd ht oh bt co n) (hop : op < 4611686018427387904) : Met l yL_earliestOf wsL_earliestOf ({ frames := 1, cells := 0, slots := 0, locals := 22 }) (PcR (dC, dI) (wL cI cJ cZ ql re sa fm ++ wP cI cJ cZ q bg en sc wd ht oh bt co n) (tyE cI cJ cZ) [.ref (ql 0), .ref (q 0), .long (lN op)]) (vp_Si (fun r => r = oI (erL op re n).1)) 0 0 (fun _ => False) := by
  refine Met.ofW (cc := cL_earliestOf) (maxL := 8) (ret := (some .int)) (by decide) rfl ?_
  intro p e s m args below meth c s₁ B hml hv
  obtain ⟨rfl, hP, hK, hE⟩ := hv
  have hx := B.exec
  have hb := B.bytes
  have hr := B.returns
  have hts := atoms_spec (ws := wsL_earliestOf) B.pre
  have hg : ∀ w ∈ gw, w.before _ s = true := fun w h => hts w (List.mem_cons_of_mem _ h)
  have hown : s.vm.findClass nL = some m.cls := findClass_of_methodNamed B.named
  have hlocks := B.notSynchronized
  have hR : 1 ≤ (headSpec wsL_earliestOf ({ frames := 1, cells := 0, slots := 0, locals := 22 })).room.frames ∧ 22 ≤ (headSpec wsL_earliestOf ({ frames := 1, cells := 0, slots := 0, locals := 22 })).room.locals := ⟨Nat.le_refl _, Nat.le_refl _⟩
  have hcs : 0 ≤ (headSpec wsL_earliestOf ({ frames := 1, cells := 0, slots := 0, locals := 22 })).room.cells ∧ 0 ≤ (headSpec wsL_earliestOf ({ frames := 1, cells := 0, slots := 0, locals := 22 })).room.slots := ⟨Nat.zero_le _, Nat.zero_le _⟩
  have hn := hB.1
  have hco := hB.2.1
  have hbi := hB.2.2
  have hl := lv_entry ([.ref (ql 0), .ref (q 0), .long (lN op)]) (n := 8) (Nat.le_of_ble_eq_true rfl)
  rw [lg_entry_eq]
  generalize (lg_sl ([.ref (ql 0), .ref (q 0), .long (lN op)]) ++ List.replicate (8 - (lg_sl ([.ref (ql 0), .ref (q 0), .long (lN op)])).length) Slot.unset).toArray = ls at hl ⊢
  have hl : lv_has ls 8 [(0, .ref (ql 0)), (1, .ref (q 0)), (2, .long (lN op))] := hl
  refine lv_iconst (v := -1) hx hb dL_earliestOf_0 (by decide) ?_
  refine lv_istore (lv' := [(4, .int (-1)), (0, .ref (ql 0)), (1, .ref (q 0)), (2, .long (lN op))]) hx hb dL_earliestOf_1 hl (by decide) rfl (fun ls hl => ?_)
  refine lv_ldc2 (v := 1152921504606846976) hx hb hown (hg _ kL_40) dL_earliestOf_3 ?_
  refine tp_l (y := lN 1152921504606846976) rfl ?_
  refine lv_lstore (lv' := [(5, .long (lN 1152921504606846976)), (4, .int (-1)), (0, .ref (ql 0)), (1, .ref (q 0)), (2, .long (lN op))]) hx hb dL_earliestOf_6 hl (by decide) rfl (fun ls hl => ?_)
  refine rn_iconst hx hb 0 dL_earliestOf_8 (by decide) ?_
  refine lv_istore (lv' := [(7, .int (nI 0)), (5, .long (lN 1152921504606846976)), (4, .int (-1)), (0, .ref (ql 0)), (1, .ref (q 0)), (2, .long (lN op))]) hx hb dL_earliestOf_9 hl (by decide) rfl (fun ls hl => ?_)
  refine lp_L_earliest ql re sa fm q bg en sc wd ht oh bt co n op hre hB hop hx hb hml hown hts hK hP hE (by first | exact hR | exact ⟨Nat.le_trans (by decide) hR.1, Nat.le_trans (by decide) hR.2⟩) hcs (fun i o le hi ho hx0 ls hl => ?_) ((n - 0) + 1) 0 none 1152921504606846976 (by omega) (rfl) (by omega) ls (lv_sub hl [3, 4, 5, 2, 1, 0] rfl)
  refine lv_iload hx hb dL_earliestOf_61 (lv_at hl 3 rfl) ?_
  exact W.iret hx hb hr (fun t ht hW => ⟨_, rfl, (by rw [show n = i from by omega, ← ho]), ht⟩) (fun _ h9 => nomatch h9) dL_earliestOf_63
