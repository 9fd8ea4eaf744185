section RowsC
variable {p : Program} {l : Launch} {e : Env} {R : Room} {s : State} {m : MethodId} {args : Array Value} {below : List Frame} {meth : Method} {c : Code} {H : Heap} {locs : List Loc} {cells slots : Nat} {Q : State → Prop}
variable {cc : ByteArray} {pc : Nat} {ls : Array Slot} {rest : List Value} {D : va_G} {cl : List vw_C} {tys : List (ClassId × FieldType)} {ws : va_W} {A : Nat → Prop} {H0 : Heap} {a : Nat}
theorem en_cpy (f g : Nat → Nat) (sp dp n : Nat) : va_cpy (fun j => nI (f j)) (fun j => nI (g j)) sp dp n = fun j => nI (va_cpy f g sp dp n j) := by
  funext j
  unfold va_cpy
  split <;> rfl
theorem rn_acopy (hexec : p.tables.exec = Jvm.exec) (hb : c.code = cc) (hml : c.maxLocals = ls.size) {own : String} {index : Nat} (hown : s.vm.findClass own = some m.cls) (hlink : (Cond.methodLink own index arraycopyName).before args s = true) (hnat : (Cond.native arraycopyName).before args s = true) (hstat : (Cond.static arraycopyName).before args s = true) (hini : (Cond.initialized "java/lang/System").before args s = true)
    (hK : va_K D cl tys s) (hP : va_P D cl ws H) (hD : va_D A ws) (hS : va_S A H0 H locs) (q0 q1 t0 t1 : Nat) {a0 : Nat} {c0 c1 : ClassId} {n0 n1 : Nat} {f g : Nat → Nat} {sp dp n : Nat} (ha0 : ws[q0]? = some (a0, .inl (c0, n0, .inl (fun j => nI (f j))))) (ha1 : ws[q1]? = some (a, .inl (c1, n1, .inl (fun j => nI (g j))))) (ht0 : tys[t0]? = some (c0, .int)) (ht1 : tys[t1]? = some (c1, .int)) (hn0 : n0 < 2 ^ 31) (hn1 : n1 < 2 ^ 31) (h4 : sp + n ≤ n0) (h5 : dp + n ≤ n1)
    (hframes : 1 ≤ R.frames) (hlocals : (rest.map fun v => v.category).sum + (nativeFrameWords "java/lang/System" "arraycopy" 5 + 11) ≤ R.locals) (hdg : decode cc pc = .ok (.invokestatic index, 3))
    (kk : ∀ (H1 : Heap) (locs1 : List Loc), va_P D cl (ws.set q1 (a, .inl (c1, n1, .inl (fun j => nI (va_cpy f g sp dp n j))))) H1 → va_D A (ws.set q1 (a, .inl (c1, n1, .inl (fun j => nI (va_cpy f g sp dp n j))))) → va_S A H0 H1 locs1 → W p l e R s m args below meth c H1 locs1 cells slots Q (F0 m (pc + 3) ls rest)) : W p l e R s m args below meth c H locs cells slots Q (F0 m pc ls (.int (nI n) :: .int (nI dp) :: .ref a :: .int (nI sp) :: .ref a0 :: rest)) := by
  have e1 : (nI sp).toNatClampNeg = sp := nI_clamp (by omega)
  have e2 : (nI dp).toNatClampNeg = dp := nI_clamp (by omega)
  have e3 : (nI n).toNatClampNeg = n := nI_clamp (by omega)
  refine va_copyi hexec hb hml hown hlink hnat hstat hini hK hP hD hS q0 q1 t0 t1 ha0 ha1 ht0 ht1 rfl (nI_pos (by omega)) (nI_pos (by omega)) (nI_pos (by omega)) (by rw [e1, e3]; exact h4) (by rw [e2, e3]; exact h5) (fun i _ => rfl) hframes hlocals hdg ?_
  rw [e1, e2, e3, en_cpy]
  exact kk
end RowsC

def cbB (us : Nat) (bg bt tr : Nat → Nat) (nb pl len : Nat) : Bool := us.testBit nb && (decide (bg nb = pl) && (decide (len = 0) || !(bt (tr (len - 1))).testBit nb))
theorem cb_0 {us : Nat} {bg bt tr : Nat → Nat} {nb pl len : Nat} (h : us.testBit nb = false) : nI 0 = bI (cbB us bg bt tr nb pl len) := by simp [cbB, h, bI]; rfl
theorem cb_1 {us : Nat} {bg bt tr : Nat → Nat} {nb pl len : Nat} (h : ¬ bg nb = pl) : nI 0 = bI (cbB us bg bt tr nb pl len) := by simp [cbB, h, bI]; rfl
theorem n0_of {len : Nat} (hl : len ≤ 5) (h : nI len = 0) : len = 0 := by
  have h2 : nI len = nI 0 := h
  rwa [nI_eq (by omega) (by omega)] at h2
theorem n0_ne {len : Nat} (h : ¬ nI len = 0) : len ≠ 0 := fun q => h (by rw [q]; rfl)
theorem cb_2 {us : Nat} {bg bt tr : Nat → Nat} {nb pl len : Nat} (h1 : us.testBit nb = true) (h2 : bg nb = pl) (h3 : len = 0) : nI 1 = bI (cbB us bg bt tr nb pl len) := by simp [cbB, h1, h2, h3, bI]; rfl
theorem cb_3 {us : Nat} {bg bt tr : Nat → Nat} {nb pl len : Nat} (h1 : us.testBit nb = true) (h2 : bg nb = pl) (h4 : (bt (tr (len - 1))).testBit nb = false) : nI 1 = bI (cbB us bg bt tr nb pl len) := by simp [cbB, h1, h2, h4, bI]; rfl
theorem cb_4 {us : Nat} {bg bt tr : Nat → Nat} {nb pl len : Nat} (h3 : len ≠ 0) (h4 : (bt (tr (len - 1))).testBit nb = true) : nI 0 = bI (cbB us bg bt tr nb pl len) := by simp [cbB, h3, h4, bI]; rfl

set_option maxHeartbeats 4000000 in
set_option maxRecDepth 100000 in
theorem ct_S_canBeNext (l : Launch) (dC : Nat → ClassId) (dI : Nat → Nat → Nat) (cI cJ cZ : ClassId) (qs : Nat → Nat) (tr rp rn rs : Nat → Nat) (rk us gl : Nat) (q : Nat → Nat) (bg en sc wd ht oh bt : Nat → Nat) (co n : Nat) (nb pl len : Nat) (hB : bP bg en sc wd ht oh bt co n) (hnb : nb < 40) (hpl : pl < 20) (hlen : len ≤ 5) (hus : us < 1099511627776) (htr : ∀ j, tr j < 40) : Met l yS_canBeNext wsS_canBeNext ({ frames := 2, cells := 0, slots := 0, locals := 44 }) (PcR (dC, dI) (wS cI cJ cZ qs tr rp rn rs rk us gl ++ wP cI cJ cZ q bg en sc wd ht oh bt co n) (tyE cI cJ cZ) [.ref (qs 0), .ref (q 0), .int (nI nb), .int (nI pl), .int (nI len)]) (vp_Si (fun r => r = bI (cbB us bg bt tr nb pl len))) 0 0 (fun _ => False) := by
  refine Met.ofW (cc := cS_canBeNext) (maxL := 5) (ret := (some .boolean)) (by decide) rfl ?_
  intro p e s m args below meth c s₁ B hml hv
  obtain ⟨rfl, hP, hK, hE⟩ := hv
  have hx := B.exec
  have hb := B.bytes
  have hr := B.returns
  have hts := atoms_spec (ws := wsS_canBeNext) B.pre
  have hg : ∀ w ∈ gw, w.before _ s = true := fun w h => hts w (List.mem_cons_of_mem _ h)
  have hown : s.vm.findClass nS = some m.cls := findClass_of_methodNamed B.named
  have hlocks := B.notSynchronized
  have hR : 2 ≤ (headSpec wsS_canBeNext ({ frames := 2, cells := 0, slots := 0, locals := 44 })).room.frames ∧ 44 ≤ (headSpec wsS_canBeNext ({ frames := 2, cells := 0, slots := 0, locals := 44 })).room.locals := ⟨Nat.le_refl _, Nat.le_refl _⟩
  have hcs : 0 ≤ (headSpec wsS_canBeNext ({ frames := 2, cells := 0, slots := 0, locals := 44 })).room.cells ∧ 0 ≤ (headSpec wsS_canBeNext ({ frames := 2, cells := 0, slots := 0, locals := 44 })).room.slots := ⟨Nat.zero_le _, Nat.zero_le _⟩
  have hn := hB.1
  have hco := hB.2.1
  have hbi := hB.2.2
  have bn := hbi nb
  have htl := htr (len - 1)
  have hl := lv_entry ([.ref (qs 0), .ref (q 0), .int (nI nb), .int (nI pl), .int (nI len)]) (n := 5) (Nat.le_of_ble_eq_true rfl)
  rw [lg_entry_eq]
  generalize (lg_sl ([.ref (qs 0), .ref (q 0), .int (nI nb), .int (nI pl), .int (nI len)]) ++ List.replicate (5 - (lg_sl ([.ref (qs 0), .ref (q 0), .int (nI nb), .int (nI pl), .int (nI len)])).length) Slot.unset).toArray = ls at hl ⊢
  have hl : lv_has ls 5 [(0, .ref (qs 0)), (1, .ref (q 0)), (2, .int (nI nb)), (3, .int (nI pl)), (4, .int (nI len))] := hl
  refine lv_aload_n hx hb dS_canBeNext_0 rfl (lv_at hl 0 rfl) ?_
  refine va_get (D := (dC, dI)) (ci := 3) (v := .long (lN us)) (C := nS) (T := TS) (N := 7) hx hb hg inS hown hK hP 0 rfl rfl 5 (by decide) (hg _ kS_25) (fun _ h9 => h9) rfl dS_canBeNext_1 ?_
  refine lv_iload_n hx hb dS_canBeNext_4 rfl (lv_at hl 2 rfl) ?_
  refine cpN_i (As := [.long (lN us), .int (nI nb)]) (rest := []) (post := fun r : Int32 => r = bI (us.testBit nb)) ⟨hx, hb, hml, hown, hts⟩ (ct_G_hasBit l dC dI cI cJ cZ us nb (by omega) (by omega)) ⟨va_cnB 2 hts (gi kc_G_hasBit) rfl rfl rfl (hE _ kNS_56) (hg _ kin_G) (by decide +kernel) ⟨Nat.le_trans (by decide) hR.1, Nat.le_trans (by decide) hR.2⟩, hg _ ks_G_hasBit, trivial⟩ (hP.sub (ws' := []) [] rfl) hK hE rfl hl.1 rfl (Nat.le_of_ble_eq_true rfl) dS_canBeNext_5 hcs (fun r hr => ?_)
  subst hr
  refine rb_eq (tgt := 47) hx hb dS_canBeNext_8 (by decide) (fun c8 => ?_) (fun c8 => ?_)
  · refine rn_iconst hx hb 0 dS_canBeNext_47 (by decide) ?_
    exact W.zret hx hb hr rfl (fun t ht hW => ⟨_, rfl, (by first | exact cb_0 c8 | exact cb_1 c18 | exact cb_2 c8 c18 (n0_of hlen c23) | exact cb_3 c8 c18 c40 | exact cb_4 hl0 c40), ht⟩) (fun _ h9 => nomatch h9) dS_canBeNext_48
  · refine lv_aload_n hx hb dS_canBeNext_11 rfl (lv_at hl 1 rfl) ?_
    refine va_get (D := (dC, dI)) (ci := 1) (v := .ref (q 1)) (C := nP) (T := TP) (N := 9) hx hb hg inP hown hK hP 5 rfl rfl 0 (by decide) (hg _ kS_75) (fun _ h9 => h9) rfl dS_canBeNext_12 ?_
    refine lv_iload_n hx hb dS_canBeNext_15 rfl (lv_at hl 2 rfl) ?_
    refine ga_i (f := bg) hx hb hK hP 6 0 rfl rfl (by omega) (by decide) dS_canBeNext_16 ?_
    refine lv_iload_n hx hb dS_canBeNext_17 rfl (lv_at hl 3 rfl) ?_
    refine rn_icmp_ne (tgt := 47) hx hb dS_canBeNext_18 (by decide) (by omega) (by omega) (fun c18 => ?_) (fun c18 => ?_)
    · refine rn_iconst hx hb 0 dS_canBeNext_47 (by decide) ?_
      exact W.zret hx hb hr rfl (fun t ht hW => ⟨_, rfl, (by first | exact cb_0 c8 | exact cb_1 c18 | exact cb_2 c8 c18 (n0_of hlen c23) | exact cb_3 c8 c18 c40 | exact cb_4 hl0 c40), ht⟩) (fun _ h9 => nomatch h9) dS_canBeNext_48
    · refine lv_iload hx hb dS_canBeNext_21 (lv_at hl 4 rfl) ?_
      refine lv_if_eq (tgt := 43) hx hb dS_canBeNext_23 (by decide) (fun c23 => ?_) (fun c23 => ?_)
      · refine rn_iconst hx hb 1 dS_canBeNext_43 (by decide) ?_
        refine lv_goto (tgt := 48) hx hb dS_canBeNext_44 (by decide) ?_
        exact W.zret hx hb hr rfl (fun t ht hW => ⟨_, rfl, (by first | exact cb_0 c8 | exact cb_1 c18 | exact cb_2 c8 c18 (n0_of hlen c23) | exact cb_3 c8 c18 c40 | exact cb_4 hl0 c40), ht⟩) (fun _ h9 => nomatch h9) dS_canBeNext_48
      · have hl0 := n0_ne c23
        refine lv_aload_n hx hb dS_canBeNext_26 rfl (lv_at hl 1 rfl) ?_
        refine lv_aload_n hx hb dS_canBeNext_27 rfl (lv_at hl 0 rfl) ?_
        refine va_get (D := (dC, dI)) (ci := 3) (v := .ref (qs 1)) (C := nS) (T := TS) (N := 7) hx hb hg inS hown hK hP 0 rfl rfl 0 (by decide) (hg _ kS_9) (fun _ h9 => h9) rfl dS_canBeNext_28 ?_
        refine lv_iload hx hb dS_canBeNext_31 (lv_at hl 4 rfl) ?_
        refine rn_iconst hx hb 1 dS_canBeNext_33 (by decide) ?_
        refine rn_isub hx hb dS_canBeNext_34 (by omega) ?_
        refine ga_i (f := tr) hx hb hK hP 1 0 rfl rfl (by omega) (by decide) dS_canBeNext_35 ?_
        refine lv_iload_n hx hb dS_canBeNext_36 rfl (lv_at hl 2 rfl) ?_
        refine cpV_i (b := (q 0)) (C := nP) (As := [.int (nI (tr (len - 1))), .int (nI nb)]) (rest := []) (post := fun r : Int32 => r = bI ((bt (tr (len - 1))).testBit nb)) ⟨hx, hb, hml, hown, hts⟩ (ct_P_isBarred l dC dI cI cJ cZ q bg en sc wd ht oh bt co n (tr (len - 1)) nb (hB) (by omega) (hnb)) (cwV 2 hts (gv kS_78 ki_P_isBarred ksel_P_isBarred kin_P kc_P_isBarred) rfl rfl rfl (by decide +kernel) ⟨Nat.le_trans (by decide) hR.1, Nat.le_trans (by decide) hR.2⟩) (va_recv hK hP (ci := 1) (q0 := 5) rfl rfl) (hP.sub (ws' := (wP cI cJ cZ q bg en sc wd ht oh bt co n)) [5, 6, 7, 8, 9, 10, 11, 12] rfl) hK hE rfl hl.1 rfl (Nat.le_of_ble_eq_true rfl) dS_canBeNext_37 hcs (fun r hr => ?_)
        subst hr
        refine rb_ne (tgt := 47) hx hb dS_canBeNext_40 (by decide) (fun c40 => ?_) (fun c40 => ?_)
        · refine rn_iconst hx hb 0 dS_canBeNext_47 (by decide) ?_
          exact W.zret hx hb hr rfl (fun t ht hW => ⟨_, rfl, (by first | exact cb_0 c8 | exact cb_1 c18 | exact cb_2 c8 c18 (n0_of hlen c23) | exact cb_3 c8 c18 c40 | exact cb_4 hl0 c40), ht⟩) (fun _ h9 => nomatch h9) dS_canBeNext_48
        · refine rn_iconst hx hb 1 dS_canBeNext_43 (by decide) ?_
          refine lv_goto (tgt := 48) hx hb dS_canBeNext_44 (by decide) ?_
          exact W.zret hx hb hr rfl (fun t ht hW => ⟨_, rfl, (by first | exact cb_0 c8 | exact cb_1 c18 | exact cb_2 c8 c18 (n0_of hlen c23) | exact cb_3 c8 c18 c40 | exact cb_4 hl0 c40), ht⟩) (fun _ h9 => nomatch h9) dS_canBeNext_48

def rkF (rs : Nat → Nat) (t rk : Nat) : Nat := (ffi (fun r => decide (t < rs r)) rk).getD rk
theorem rkF_le (rs : Nat → Nat) (t rk : Nat) : rkF rs t rk ≤ rk := by
  unfold rkF
  cases h : ffi (fun r => decide (t < rs r)) rk with
  | none => exact Nat.le_refl _
  | some i => have := ((ffi_ok rk).1 i h).1; simp; omega

set_option maxHeartbeats 4000000 in
set_option maxRecDepth 100000 in
theorem lp_S_rank {p : Program} {l : Launch} {e : Env} {R : Room} {s : State} {m : MethodId} {args : Array Value} {below : List Frame} {meth : Method} {c : Code} {H : Heap} {locs : List Loc} {cells slots : Nat} {Q : State → Prop} {dC : Nat → ClassId} {dI : Nat → Nat → Nat} {cI cJ cZ : ClassId} (qs : Nat → Nat) (tr rp rn rs : Nat → Nat) (rk us gl : Nat) (t : Nat) (hrk : rk ≤ 5) (hrs : ∀ j, rs j ≤ 1152921504806846976) (ht0 : t ≤ 1152921504806846976) (hx : p.tables.exec = Jvm.exec) (hb : c.code = cS_rankOf) (hml : c.maxLocals = 4) (hown : s.vm.findClass nS = some m.cls) (hts : ∀ w ∈ wsS_rankOf, w.before args s = true) (hK : va_K (dC, dI) vwCl (tyE cI cJ cZ) s) (hP : va_P (dC, dI) vwCl (wS cI cJ cZ qs tr rp rn rs rk us gl) H) (hE : EV s) (hR : 0 ≤ R.frames ∧ 0 ≤ R.locals) (hcs : cells ≤ R.cells ∧ slots ≤ R.slots)
    (kx0 : ∀ (r0 : Nat) (h1 : r0 ≤ rk) (hf : ffi (fun r => decide (t < rs r)) r0 = none) (hx0 : rkF rs t rk = r0) (ls : Array Slot), lv_has ls 4 [(0, .ref (qs 0)), (1, .long (lN t)), (3, .int (nI r0))] → W p l e R s m args below meth c H locs cells slots Q (F0 m 27 ls []))
    : ∀ (fu : Nat) (r0 : Nat) (h1 : r0 ≤ rk) (hf : ffi (fun r => decide (t < rs r)) r0 = none), rk - r0 < fu → ∀ ls : Array Slot, lv_has ls 4 [(0, .ref (qs 0)), (1, .long (lN t)), (3, .int (nI r0))] → W p l e R s m args below meth c H locs cells slots Q (F0 m 2 ls []) := by
  have hg : ∀ w ∈ gw, w.before args s = true := fun w h => hts w (List.mem_cons_of_mem _ h)
  intro fu
  induction fu with
  | zero => intro r0 h1 hf h0; exact absurd h0 (Nat.not_lt_zero _)
  | succ fu ihL =>
    intro r0 h1 hf hfu ls hl
    refine lv_iload_n hx hb dS_rankOf_2 rfl (lv_at hl 2 rfl) ?_
    refine lv_aload_n hx hb dS_rankOf_3 rfl (lv_at hl 0 rfl) ?_
    refine va_get (D := (dC, dI)) (ci := 3) (v := .int (nI rk)) (C := nS) (T := TS) (N := 7) hx hb hg inS hown hK hP 0 rfl rfl 4 (by decide) (hg _ kS_33) (fun _ h9 => h9) rfl dS_rankOf_4 ?_
    refine rn_icmp_ge (tgt := 27) hx hb dS_rankOf_7 (by decide) (by omega) (by omega) (fun c7 => ?_) (fun c7 => ?_)
    · exact kx0 r0 h1 hf (by first | (rw [rkF, show rk = r0 from by omega, hf]; rfl) | (rw [rkF, ffi_some hf (decide_eq_true c18) rk (by omega)]; rfl)) ls (lv_sub hl [0, 1, 2] rfl)
    · have hr0 := hrs r0
      refine lv_aload_n hx hb dS_rankOf_10 rfl (lv_at hl 0 rfl) ?_
      refine va_get (D := (dC, dI)) (ci := 3) (v := .ref (qs 4)) (C := nS) (T := TS) (N := 7) hx hb hg inS hown hK hP 0 rfl rfl 3 (by decide) (hg _ kS_21) (fun _ h9 => h9) rfl dS_rankOf_11 ?_
      refine lv_iload_n hx hb dS_rankOf_14 rfl (lv_at hl 2 rfl) ?_
      refine ga_l (f := rs) hx hb hK hP 4 1 rfl rfl (by omega) (by decide) dS_rankOf_15 ?_
      refine lv_lload_n hx hb dS_rankOf_16 rfl (lv_at hl 1 rfl) ?_
      refine rn_lcmp_gt (tgt := 27) hx hb dS_rankOf_17 dS_rankOf_18 (by decide) (by omega) (by omega) (fun c18 => ?_) (fun c18 => ?_)
      · exact kx0 r0 h1 hf (by first | (rw [rkF, show rk = r0 from by omega, hf]; rfl) | (rw [rkF, ffi_some hf (decide_eq_true c18) rk (by omega)]; rfl)) ls (lv_sub hl [0, 1, 2] rfl)
      · refine rn_iinc (lv' := [(3, .int (nI (r0 + 1))), (0, .ref (qs 0)), (1, .long (lN t))]) hx hb dS_rankOf_21 hl (k := 2) rfl (by decide) rfl (fun ls hl => ?_)
        refine lv_goto (tgt := 2) hx hb dS_rankOf_24 (by decide) ?_
        exact ihL (r0 + 1) (by omega) (pb_1 hf (decide_eq_false (by omega))) (by omega) ls (lv_sub hl [1, 2, 0] rfl)

set_option maxHeartbeats 4000000 in
set_option maxRecDepth 100000 in
theorem ct_S_rankOf (l : Launch) (dC : Nat → ClassId) (dI : Nat → Nat → Nat) (cI cJ cZ : ClassId) (qs : Nat → Nat) (tr rp rn rs : Nat → Nat) (rk us gl : Nat) (t : Nat) (hrk : rk ≤ 5) (hrs : ∀ j, rs j ≤ 1152921504806846976) (ht0 : t ≤ 1152921504806846976) : Met l yS_rankOf wsS_rankOf ({ frames := 0, cells := 0, slots := 0, locals := 0 }) (PcR (dC, dI) (wS cI cJ cZ qs tr rp rn rs rk us gl) (tyE cI cJ cZ) [.ref (qs 0), .long (lN t)]) (vp_Si (fun r => r = nI (rkF rs t rk))) 0 0 (fun _ => False) := by
  refine Met.ofW (cc := cS_rankOf) (maxL := 4) (ret := (some .int)) (by decide) rfl ?_
  intro p e s m args below meth c s₁ B hml hv
  obtain ⟨rfl, hP, hK, hE⟩ := hv
  have hx := B.exec
  have hb := B.bytes
  have hr := B.returns
  have hts := atoms_spec (ws := wsS_rankOf) B.pre
  have hg : ∀ w ∈ gw, w.before _ s = true := fun w h => hts w (List.mem_cons_of_mem _ h)
  have hown : s.vm.findClass nS = some m.cls := findClass_of_methodNamed B.named
  have hlocks := B.notSynchronized
  have hR : 0 ≤ (headSpec wsS_rankOf ({ frames := 0, cells := 0, slots := 0, locals := 0 })).room.frames ∧ 0 ≤ (headSpec wsS_rankOf ({ frames := 0, cells := 0, slots := 0, locals := 0 })).room.locals := ⟨Nat.le_refl _, Nat.le_refl _⟩
  have hcs : 0 ≤ (headSpec wsS_rankOf ({ frames := 0, cells := 0, slots := 0, locals := 0 })).room.cells ∧ 0 ≤ (headSpec wsS_rankOf ({ frames := 0, cells := 0, slots := 0, locals := 0 })).room.slots := ⟨Nat.zero_le _, Nat.zero_le _⟩
  have hl := lv_entry ([.ref (qs 0), .long (lN t)]) (n := 4) (Nat.le_of_ble_eq_true rfl)
  rw [lg_entry_eq]
  generalize (lg_sl ([.ref (qs 0), .long (lN t)]) ++ List.replicate (4 - (lg_sl ([.ref (qs 0), .long (lN t)])).length) Slot.unset).toArray = ls at hl ⊢
  have hl : lv_has ls 4 [(0, .ref (qs 0)), (1, .long (lN t))] := hl
  refine rn_iconst hx hb 0 dS_rankOf_0 (by decide) ?_
  refine lv_istore_n (lv' := [(3, .int (nI 0)), (0, .ref (qs 0)), (1, .long (lN t))]) hx hb dS_rankOf_1 rfl hl (by decide) rfl (fun ls hl => ?_)
  refine lp_S_rank qs tr rp rn rs rk us gl t hrk hrs ht0 hx hb hml hown hts hK hP hE (by first | exact hR | exact ⟨Nat.le_trans (by decide) hR.1, Nat.le_trans (by decide) hR.2⟩) hcs (fun r0 h1 hf hx0 ls hl => ?_) ((rk - 0) + 1) 0 (by omega) (rfl) (by omega) ls (lv_sub hl [1, 2, 0] rfl)
  refine lv_iload_n hx hb dS_rankOf_27 rfl (lv_at hl 2 rfl) ?_
  exact W.iret hx hb hr (fun t ht hW => ⟨_, rfl, (by rw [hx0]), ht⟩) (fun _ h9 => nomatch h9) dS_rankOf_28

def shF (f : Nat → Nat) (i : Nat) : Nat → Nat := fun j => if i < j ∧ j < 5 then f (j - 1) else f j
def shP (f : Nat → Nat) (i : Nat) : Nat → Nat := fun j => if 5 * i + 5 ≤ j ∧ j < 25 then f (j - 5) else f j
def kpS (rs : Nat → Nat) (t rk : Nat) : Nat → Nat := if rkF rs t rk < 5 then va_up (shF rs (rkF rs t rk)) (rkF rs t rk) t else rs
def kpN (rn rs : Nat → Nat) (t rk len : Nat) : Nat → Nat := if rkF rs t rk < 5 then va_up (shF rn (rkF rs t rk)) (rkF rs t rk) len else rn
def kpP (rp tr rs : Nat → Nat) (t rk len : Nat) : Nat → Nat := if rkF rs t rk < 5 then va_cpy tr (shP rp (rkF rs t rk)) 0 (rkF rs t rk * 5) len else rp
def kpK (rs : Nat → Nat) (t rk : Nat) : Nat := if rkF rs t rk < 5 then min (rk + 1) 5 else rk
theorem sh_0 (f : Nat → Nat) : f = shF f 4 := by
  funext j
  unfold shF
  rw [if_neg (by omega)]
theorem shP_0 (f : Nat → Nat) : f = shP f 4 := by
  funext j
  unfold shP
  rw [if_neg (by omega)]
theorem sh_s {f v : Nat → Nat} {i : Nat} (hv : v = shF f (i + 1)) (hi : i < 4) : va_up v (i + 1) (v (i + 1 - 1)) = shF f i := by
  subst hv
  funext j
  simp only [va_up, shF]
  by_cases h : j = i + 1
  · subst h
    rw [if_pos rfl, if_neg (by omega), if_pos (by omega)]
  · rw [if_neg h]
    by_cases h2 : i + 1 < j ∧ j < 5
    · rw [if_pos h2, if_pos (by omega)]
    · rw [if_neg h2, if_neg (by omega)]
theorem shP_s {f v : Nat → Nat} {i : Nat} (hv : v = shP f (i + 1)) (hi : i < 4) : va_cpy v v ((i + 1 - 1) * 5) ((i + 1) * 5) 5 = shP f i := by
  subst hv
  funext j
  simp only [va_cpy, shP]
  by_cases h : (i + 1) * 5 ≤ j ∧ j < (i + 1) * 5 + 5
  · rw [if_pos h, if_neg (by omega), if_pos (by omega)]
    congr 1; omega
  · rw [if_neg h]
    by_cases h2 : 5 * (i + 1) + 5 ≤ j ∧ j < 25
    · rw [if_pos h2, if_pos (by omega)]
    · rw [if_neg h2, if_neg (by omega)]

set_option maxHeartbeats 4000000 in
set_option maxRecDepth 100000 in
theorem lp_S_keep {p : Program} {l : Launch} {e : Env} {R : Room} {s : State} {m : MethodId} {args : Array Value} {below : List Frame} {meth : Method} {c : Code} {cells slots : Nat} {Q : State → Prop} {dC : Nat → ClassId} {dI : Nat → Nat → Nat} {cI cJ cZ : ClassId} {A : Nat → Prop} (qs : Nat → Nat) (tr rp rn rs : Nat → Nat) (rk us gl : Nat) (len t : Nat) (hrk : rk ≤ 5) (hrs : ∀ j, rs j ≤ 1152921504806846976) (htr : ∀ j, tr j < 40) (hlen : len ≤ 5) (ht0 : t ≤ 1152921504806846976)  (hx : p.tables.exec = Jvm.exec) (hb : c.code = cS_keep) (hml : c.maxLocals = 6) (hown : s.vm.findClass nS = some m.cls) (hts : ∀ w ∈ wsS_keep, w.before args s = true) (hK : va_K (dC, dI) vwCl (tyE cI cJ cZ) s) (hE : EV s) (hA : ∀ q : Nat, s.heap.size ≤ q → A q) (hR : 1 ≤ R.frames ∧ 200 ≤ R.locals) (hcs : cells ≤ R.cells ∧ slots ≤ R.slots)
    (kx0 : ∀ (i : Nat) (v : Nat → Nat) (vn : Nat → Nat) (vp : Nat → Nat) (h1 : rkF rs t rk ≤ i) (h2 : i ≤ 4) (hv : v = shF rs i) (hvn : vn = shF rn i) (hvp : vp = shP rp i) (hx0 : i = rkF rs t rk) (H : Heap) (locs : List Loc), va_P (dC, dI) vwCl (wS cI cJ cZ qs tr vp vn v rk us gl) H → va_D A (wS cI cJ cZ qs tr vp vn v rk us gl) → va_S A s.heap H locs → ∀ ls : Array Slot, lv_has ls 6 [(0, .ref (qs 0)), (1, .int (nI len)), (2, .long (lN t)), (4, .int (nI (rkF rs t rk))), (5, .int (nI i))] →  W p l e R s m args below meth c H locs cells slots Q (F0 m 84 ls []))
    : ∀ (fu : Nat) (i : Nat) (v : Nat → Nat) (vn : Nat → Nat) (vp : Nat → Nat) (h1 : rkF rs t rk ≤ i) (h2 : i ≤ 4) (hv : v = shF rs i) (hvn : vn = shF rn i) (hvp : vp = shP rp i), i < fu → ∀ (H : Heap) (locs : List Loc), va_P (dC, dI) vwCl (wS cI cJ cZ qs tr vp vn v rk us gl) H → va_D A (wS cI cJ cZ qs tr vp vn v rk us gl) → va_S A s.heap H locs → ∀ ls : Array Slot, lv_has ls 6 [(0, .ref (qs 0)), (1, .int (nI len)), (2, .long (lN t)), (4, .int (nI (rkF rs t rk))), (5, .int (nI i))] →  W p l e R s m args below meth c H locs cells slots Q (F0 m 17 ls []) := by
  have hg : ∀ w ∈ gw, w.before args s = true := fun w h => hts w (List.mem_cons_of_mem _ h)
  have hrl := rkF_le rs t rk
  intro fu
  induction fu with
  | zero => intro i v vn vp h1 h2 hv hvn hvp h0; exact absurd h0 (Nat.not_lt_zero _)
  | succ fu ihL =>
    intro i v vn vp h1 h2 hv hvn hvp hfu H locs hP hD hS ls hl
    refine lv_iload hx hb dS_keep_17 (lv_at hl 4 rfl) ?_
    refine lv_iload hx hb dS_keep_19 (lv_at hl 3 rfl) ?_
    refine rn_icmp_le (tgt := 84) hx hb dS_keep_21 (by decide) (by omega) (by omega) (fun c21 => ?_) (fun c21 => ?_)
    · exact kx0 i v vn vp h1 h2 hv hvn hvp (by omega) H locs hP hD hS ls (lv_sub hl [0, 1, 2, 3, 4] rfl)
    · obtain ⟨i, rfl⟩ : ∃ k, i = k + 1 := ⟨i - 1, by omega⟩
      refine lv_aload_n hx hb dS_keep_24 rfl (lv_at hl 0 rfl) ?_
      refine va_get (D := (dC, dI)) (ci := 3) (v := .ref (qs 4)) (C := nS) (T := TS) (N := 7) hx hb hg inS hown hK hP 0 rfl rfl 3 (by decide) (hg _ kS_21) (fun _ h9 => h9) rfl dS_keep_25 ?_
      refine lv_iload hx hb dS_keep_28 (lv_at hl 4 rfl) ?_
      refine lv_aload_n hx hb dS_keep_30 rfl (lv_at hl 0 rfl) ?_
      refine va_get (D := (dC, dI)) (ci := 3) (v := .ref (qs 4)) (C := nS) (T := TS) (N := 7) hx hb hg inS hown hK hP 0 rfl rfl 3 (by decide) (hg _ kS_21) (fun _ h9 => h9) rfl dS_keep_31 ?_
      refine lv_iload hx hb dS_keep_34 (lv_at hl 4 rfl) ?_
      refine rn_iconst hx hb 1 dS_keep_36 (by decide) ?_
      refine rn_isub hx hb dS_keep_37 (by omega) ?_
      refine ga_l (f := v) hx hb hK hP 4 1 rfl rfl (by omega) (by decide) dS_keep_38 ?_
      refine sa_l (f := v) (v := v ((i + 1) - 1)) hx hb hK hP hD hS 4 1 rfl rfl (by omega) (by decide) dS_keep_39 (fun H locs hP hD hS => ?_)
      have hP : va_P (dC, dI) vwCl (wS cI cJ cZ qs tr vp vn (va_up v (i + 1) (v ((i + 1) - 1))) rk us gl) H := hP
      have hD : va_D A (wS cI cJ cZ qs tr vp vn (va_up v (i + 1) (v ((i + 1) - 1))) rk us gl) := hD
      refine lv_aload_n hx hb dS_keep_40 rfl (lv_at hl 0 rfl) ?_
      refine va_get (D := (dC, dI)) (ci := 3) (v := .ref (qs 3)) (C := nS) (T := TS) (N := 7) hx hb hg inS hown hK hP 0 rfl rfl 2 (by decide) (hg _ kS_18) (fun _ h9 => h9) rfl dS_keep_41 ?_
      refine lv_iload hx hb dS_keep_44 (lv_at hl 4 rfl) ?_
      refine lv_aload_n hx hb dS_keep_46 rfl (lv_at hl 0 rfl) ?_
      refine va_get (D := (dC, dI)) (ci := 3) (v := .ref (qs 3)) (C := nS) (T := TS) (N := 7) hx hb hg inS hown hK hP 0 rfl rfl 2 (by decide) (hg _ kS_18) (fun _ h9 => h9) rfl dS_keep_47 ?_
      refine lv_iload hx hb dS_keep_50 (lv_at hl 4 rfl) ?_
      refine rn_iconst hx hb 1 dS_keep_52 (by decide) ?_
      refine rn_isub hx hb dS_keep_53 (by omega) ?_
      refine ga_i (f := vn) hx hb hK hP 3 0 rfl rfl (by omega) (by decide) dS_keep_54 ?_
      refine sa_i (f := vn) (v := vn ((i + 1) - 1)) hx hb hK hP hD hS 3 0 rfl rfl (by omega) (by decide) dS_keep_55 (fun H locs hP hD hS => ?_)
      have hP : va_P (dC, dI) vwCl (wS cI cJ cZ qs tr vp (va_up vn (i + 1) (vn ((i + 1) - 1))) (va_up v (i + 1) (v ((i + 1) - 1))) rk us gl) H := hP
      have hD : va_D A (wS cI cJ cZ qs tr vp (va_up vn (i + 1) (vn ((i + 1) - 1))) (va_up v (i + 1) (v ((i + 1) - 1))) rk us gl) := hD
      refine lv_aload_n hx hb dS_keep_56 rfl (lv_at hl 0 rfl) ?_
      refine va_get (D := (dC, dI)) (ci := 3) (v := .ref (qs 2)) (C := nS) (T := TS) (N := 7) hx hb hg inS hown hK hP 0 rfl rfl 1 (by decide) (hg _ kS_15) (fun _ h9 => h9) rfl dS_keep_57 ?_
      refine lv_iload hx hb dS_keep_60 (lv_at hl 4 rfl) ?_
      refine rn_iconst hx hb 1 dS_keep_62 (by decide) ?_
      refine rn_isub hx hb dS_keep_63 (by omega) ?_
      refine rn_iconst hx hb 5 dS_keep_64 (by decide) ?_
      refine rn_imul hx hb dS_keep_65 ?_
      refine lv_aload_n hx hb dS_keep_66 rfl (lv_at hl 0 rfl) ?_
      refine va_get (D := (dC, dI)) (ci := 3) (v := .ref (qs 2)) (C := nS) (T := TS) (N := 7) hx hb hg inS hown hK hP 0 rfl rfl 1 (by decide) (hg _ kS_15) (fun _ h9 => h9) rfl dS_keep_67 ?_
      refine lv_iload hx hb dS_keep_70 (lv_at hl 4 rfl) ?_
      refine rn_iconst hx hb 5 dS_keep_72 (by decide) ?_
      refine rn_imul hx hb dS_keep_73 ?_
      refine rn_iconst hx hb 5 dS_keep_74 (by decide) ?_
      refine rn_acopy (f := vp) (g := vp) hx hb (hml.trans hl.1.symm) hown (hg _ kS_82) (hg _ kn_acopy) (hg _ ks_acopy) (hg _ kin_System) hK hP hD hS 2 2 0 0 rfl rfl rfl rfl (by decide) (by decide) (by omega) (by omega) (Nat.le_trans (by decide) hR.1) (Nat.le_trans (by decide) hR.2) dS_keep_75 (fun H locs hP hD hS => ?_)
      have hP : va_P (dC, dI) vwCl (wS cI cJ cZ qs tr (va_cpy vp vp (((i + 1) - 1) * 5) ((i + 1) * 5) 5) (va_up vn (i + 1) (vn ((i + 1) - 1))) (va_up v (i + 1) (v ((i + 1) - 1))) rk us gl) H := hP
      have hD : va_D A (wS cI cJ cZ qs tr (va_cpy vp vp (((i + 1) - 1) * 5) ((i + 1) * 5) 5) (va_up vn (i + 1) (vn ((i + 1) - 1))) (va_up v (i + 1) (v ((i + 1) - 1))) rk us gl) := hD
      refine rn_iincm (lv' := [(5, .int (nI i)), (0, .ref (qs 0)), (1, .int (nI len)), (2, .long (lN t)), (4, .int (nI (rkF rs t rk)))]) hx hb dS_keep_78 hl (k := 4) rfl (by decide) rfl (fun ls hl => ?_)
      refine lv_goto (tgt := 17) hx hb dS_keep_81 (by decide) ?_
      exact ihL i (va_up v (i + 1) (v ((i + 1) - 1))) (va_up vn (i + 1) (vn ((i + 1) - 1))) (va_cpy vp vp (((i + 1) - 1) * 5) ((i + 1) * 5) 5) (by omega) (by omega) (sh_s hv (by omega)) (sh_s hvn (by omega)) (shP_s hvp (by omega)) (by omega) H locs hP hD hS ls (lv_sub hl [1, 2, 3, 4, 0] rfl)

set_option maxHeartbeats 4000000 in
set_option maxRecDepth 100000 in
theorem ct_S_keep (l : Launch) (dC : Nat → ClassId) (dI : Nat → Nat → Nat) (cI cJ cZ : ClassId) (qs : Nat → Nat) (tr rp rn rs : Nat → Nat) (rk us gl : Nat) (len t : Nat) (sz : Nat) (hrk : rk ≤ 5) (hrs : ∀ j, rs j ≤ 1152921504806846976) (htr : ∀ j, tr j < 40) (hlen : len ≤ 5) (ht0 : t ≤ 1152921504806846976) : Met l yS_keep wsS_keep ({ frames := 1, cells := 0, slots := 0, locals := 200 }) (PcW (dC, dI) (wS cI cJ cZ qs tr rp rn rs rk us gl) (tyE cI cJ cZ) sz [.ref (qs 0), .int (nI len), .long (lN t)]) (QwV (dC, dI) (wS cI cJ cZ qs tr (kpP rp tr rs t rk len) (kpN rn rs t rk len) (kpS rs t rk) (kpK rs t rk) us gl) (tyE cI cJ cZ) (va_A (wS cI cJ cZ qs tr rp rn rs rk us gl) sz)) 0 0 (va_A (wS cI cJ cZ qs tr rp rn rs rk us gl) sz) := by
  refine Met.ofW (cc := cS_keep) (maxL := 6) (ret := none) (by decide) rfl ?_
  intro p e s m args below meth c s₁ B hml hv
  obtain ⟨rfl, hsz, hP, hK, hD0, hE⟩ := hv
  have hx := B.exec
  have hb := B.bytes
  have hr := B.returns
  have hts := atoms_spec (ws := wsS_keep) B.pre
  have hg : ∀ w ∈ gw, w.before _ s = true := fun w h => hts w (List.mem_cons_of_mem _ h)
  have hown : s.vm.findClass nS = some m.cls := findClass_of_methodNamed B.named
  have hlocks := B.notSynchronized
  have hR : 1 ≤ (headSpec wsS_keep ({ frames := 1, cells := 0, slots := 0, locals := 200 })).room.frames ∧ 200 ≤ (headSpec wsS_keep ({ frames := 1, cells := 0, slots := 0, locals := 200 })).room.locals := ⟨Nat.le_refl _, Nat.le_refl _⟩
  have hcs : 0 ≤ (headSpec wsS_keep ({ frames := 1, cells := 0, slots := 0, locals := 200 })).room.cells ∧ 0 ≤ (headSpec wsS_keep ({ frames := 1, cells := 0, slots := 0, locals := 200 })).room.slots := ⟨Nat.zero_le _, Nat.zero_le _⟩
  subst hsz
  have hD := hD0.self (sz := s.heap.size)
  generalize hAe : va_A (wS cI cJ cZ qs tr rp rn rs rk us gl) s.heap.size = A at hD ⊢
  have hA : ∀ q : Nat, s.heap.size ≤ q → A q := fun q h => by rw [← hAe]; exact Or.inr h
  obtain ⟨H, hH⟩ : ∃ H, H = s.heap := ⟨_, rfl⟩
  have hS : va_S A s.heap H [] := by rw [hH]; exact va_S.rf
  rw [← hH] at hP ⊢
  have hrl := rkF_le rs t rk
  have hl := lv_entry ([.ref (qs 0), .int (nI len), .long (lN t)]) (n := 6) (Nat.le_of_ble_eq_true rfl)
  rw [lg_entry_eq]
  generalize (lg_sl ([.ref (qs 0), .int (nI len), .long (lN t)]) ++ List.replicate (6 - (lg_sl ([.ref (qs 0), .int (nI len), .long (lN t)])).length) Slot.unset).toArray = ls at hl ⊢
  have hl : lv_has ls 6 [(0, .ref (qs 0)), (1, .int (nI len)), (2, .long (lN t))] := hl
  refine lv_aload_n hx hb dS_keep_0 rfl (lv_at hl 0 rfl) ?_
  refine lv_lload_n hx hb dS_keep_1 rfl (lv_at hl 2 rfl) ?_
  refine cpV_i (b := (qs 0)) (C := nS) (As := [.long (lN t)]) (rest := []) (post := fun r : Int32 => r = nI (rkF rs t rk)) ⟨hx, hb, hml, hown, hts⟩ (ct_S_rankOf l dC dI cI cJ cZ qs tr rp rn rs rk us gl t (hrk) (hrs) (ht0)) (cwV 1 hts (gv kS_71 ki_S_rankOf ksel_S_rankOf kin_S kc_S_rankOf) rfl rfl rfl (by decide +kernel) ⟨Nat.le_trans (by decide) hR.1, Nat.le_trans (by decide) hR.2⟩) (va_recv hK hP (ci := 3) (q0 := 0) rfl rfl) hP hK hE rfl hl.1 rfl (Nat.le_of_ble_eq_true rfl) dS_keep_2 hcs (fun r hr => ?_)
  subst hr
  refine lv_istore (lv' := [(4, .int (nI (rkF rs t rk))), (0, .ref (qs 0)), (1, .int (nI len)), (2, .long (lN t))]) hx hb dS_keep_5 hl (by decide) rfl (fun ls hl => ?_)
  refine lv_iload hx hb dS_keep_7 (lv_at hl 0 rfl) ?_
  refine rn_iconst hx hb 5 dS_keep_9 (by decide) ?_
  refine rn_icmp_lt (tgt := 14) hx hb dS_keep_10 (by decide) (by omega) (by omega) (fun c10 => ?_) (fun c10 => ?_)
  · refine rn_iconst hx hb 4 dS_keep_14 (by decide) ?_
    refine lv_istore (lv' := [(5, .int (nI 4)), (4, .int (nI (rkF rs t rk))), (0, .ref (qs 0)), (1, .int (nI len)), (2, .long (lN t))]) hx hb dS_keep_15 hl (by decide) rfl (fun ls hl => ?_)
    refine lp_S_keep qs tr rp rn rs rk us gl len t hrk hrs htr hlen ht0  hx hb hml hown hts hK hE hA (by first | exact hR | exact ⟨Nat.le_trans (by decide) hR.1, Nat.le_trans (by decide) hR.2⟩) hcs (fun i v vn vp h1 h2 hv hvn hvp hx0 H locs hP hD hS ls hl => ?_) (4 + 1) 4 rs rn rp (by omega) (by omega) (sh_0 rs) (sh_0 rn) (shP_0 rp) (by omega) _ _ hP hD hS ls (lv_sub hl [2, 3, 4, 1, 0] rfl)
    subst hx0
    refine lv_aload_n hx hb dS_keep_84 rfl (lv_at hl 0 rfl) ?_
    refine va_get (D := (dC, dI)) (ci := 3) (v := .ref (qs 4)) (C := nS) (T := TS) (N := 7) hx hb hg inS hown hK hP 0 rfl rfl 3 (by decide) (hg _ kS_21) (fun _ h9 => h9) rfl dS_keep_85 ?_
    refine lv_iload hx hb dS_keep_88 (lv_at hl 3 rfl) ?_
    refine lv_lload_n hx hb dS_keep_90 rfl (lv_at hl 2 rfl) ?_
    refine sa_l (f := v) (v := t) hx hb hK hP hD hS 4 1 rfl rfl (by omega) (by decide) dS_keep_91 (fun H locs hP hD hS => ?_)
    have hP : va_P (dC, dI) vwCl (wS cI cJ cZ qs tr vp vn (va_up v (rkF rs t rk) t) rk us gl) H := hP
    have hD : va_D A (wS cI cJ cZ qs tr vp vn (va_up v (rkF rs t rk) t) rk us gl) := hD
    refine lv_aload_n hx hb dS_keep_92 rfl (lv_at hl 0 rfl) ?_
    refine va_get (D := (dC, dI)) (ci := 3) (v := .ref (qs 3)) (C := nS) (T := TS) (N := 7) hx hb hg inS hown hK hP 0 rfl rfl 2 (by decide) (hg _ kS_18) (fun _ h9 => h9) rfl dS_keep_93 ?_
    refine lv_iload hx hb dS_keep_96 (lv_at hl 3 rfl) ?_
    refine lv_iload_n hx hb dS_keep_98 rfl (lv_at hl 1 rfl) ?_
    refine sa_i (f := vn) (v := len) hx hb hK hP hD hS 3 0 rfl rfl (by omega) (by decide) dS_keep_99 (fun H locs hP hD hS => ?_)
    have hP : va_P (dC, dI) vwCl (wS cI cJ cZ qs tr vp (va_up vn (rkF rs t rk) len) (va_up v (rkF rs t rk) t) rk us gl) H := hP
    have hD : va_D A (wS cI cJ cZ qs tr vp (va_up vn (rkF rs t rk) len) (va_up v (rkF rs t rk) t) rk us gl) := hD
    refine lv_aload_n hx hb dS_keep_100 rfl (lv_at hl 0 rfl) ?_
    refine va_get (D := (dC, dI)) (ci := 3) (v := .ref (qs 1)) (C := nS) (T := TS) (N := 7) hx hb hg inS hown hK hP 0 rfl rfl 0 (by decide) (hg _ kS_9) (fun _ h9 => h9) rfl dS_keep_101 ?_
    refine rn_iconst hx hb 0 dS_keep_104 (by decide) ?_
    refine lv_aload_n hx hb dS_keep_105 rfl (lv_at hl 0 rfl) ?_
    refine va_get (D := (dC, dI)) (ci := 3) (v := .ref (qs 2)) (C := nS) (T := TS) (N := 7) hx hb hg inS hown hK hP 0 rfl rfl 1 (by decide) (hg _ kS_15) (fun _ h9 => h9) rfl dS_keep_106 ?_
    refine lv_iload hx hb dS_keep_109 (lv_at hl 3 rfl) ?_
    refine rn_iconst hx hb 5 dS_keep_111 (by decide) ?_
    refine rn_imul hx hb dS_keep_112 ?_
    refine lv_iload_n hx hb dS_keep_113 rfl (lv_at hl 1 rfl) ?_
    refine rn_acopy (f := tr) (g := vp) hx hb (hml.trans hl.1.symm) hown (hg _ kS_82) (hg _ kn_acopy) (hg _ ks_acopy) (hg _ kin_System) hK hP hD hS 1 2 0 0 rfl rfl rfl rfl (by decide) (by decide) (by omega) (by omega) (Nat.le_trans (by decide) hR.1) (Nat.le_trans (by decide) hR.2) dS_keep_114 (fun H locs hP hD hS => ?_)
    have hP : va_P (dC, dI) vwCl (wS cI cJ cZ qs tr (va_cpy tr vp 0 ((rkF rs t rk) * 5) len) (va_up vn (rkF rs t rk) len) (va_up v (rkF rs t rk) t) rk us gl) H := hP
    have hD : va_D A (wS cI cJ cZ qs tr (va_cpy tr vp 0 ((rkF rs t rk) * 5) len) (va_up vn (rkF rs t rk) len) (va_up v (rkF rs t rk) t) rk us gl) := hD
    refine lv_aload_n hx hb dS_keep_117 rfl (lv_at hl 0 rfl) ?_
    refine lv_aload_n hx hb dS_keep_118 rfl (lv_at hl 0 rfl) ?_
    refine va_get (D := (dC, dI)) (ci := 3) (v := .int (nI rk)) (C := nS) (T := TS) (N := 7) hx hb hg inS hown hK hP 0 rfl rfl 4 (by decide) (hg _ kS_33) (fun _ h9 => h9) rfl dS_keep_119 ?_
    refine rn_iconst hx hb 1 dS_keep_122 (by decide) ?_
    refine rn_iadd hx hb dS_keep_123 ?_
    refine rn_iconst hx hb 5 dS_keep_124 (by decide) ?_
    refine cpS_i (As := [.int (nI (rk + 1)), .int (nI 5)]) (rest := [.ref (qs 0)]) (post := fun r : Int32 => r = nI (min (rk + 1) 5)) ⟨hx, hb, hml, hown, hts⟩ (ct_JM_min_I l dC dI cI cJ cZ (rk + 1) 5 (by omega) (by omega)) (va_cwS 2 hts (gs kS_88 ks_JM_min_I kin_JM kc_JM_min_I) rfl rfl rfl (by decide +kernel) ⟨Nat.le_trans (by decide) hR.1, Nat.le_trans (by decide) hR.2⟩) (hP.sub (ws' := []) [] rfl) hK hE rfl hl.1 rfl (Nat.le_of_ble_eq_true rfl) dS_keep_125 hcs (fun r hr => ?_)
    subst hr
    refine va_put (D := (dC, dI)) (ci := 3) (v := .int (nI (min (rk + 1) 5))) (ty := .int) (C := nS) (T := TS) (N := 7) hx hb hg inS tS tS_ok nmS hown hK hP hD hS 0 rfl rfl 4 (by decide) (hg _ kS_33) (fun _ h9 => h9) rfl (by decide +kernel) rfl rfl (Nat.le_of_ble_eq_true rfl) dS_keep_128 (fun H locs hP hD hS => ?_)
    have hP : va_P (dC, dI) vwCl (wS cI cJ cZ qs tr (va_cpy tr vp 0 ((rkF rs t rk) * 5) len) (va_up vn (rkF rs t rk) len) (va_up v (rkF rs t rk) t) (min (rk + 1) 5) us gl) H := hP
    have hD : va_D A (wS cI cJ cZ qs tr (va_cpy tr vp 0 ((rkF rs t rk) * 5) len) (va_up vn (rkF rs t rk) len) (va_up v (rkF rs t rk) t) (min (rk + 1) 5) us gl) := hD
    have hP9 : va_P (dC, dI) vwCl (wS cI cJ cZ qs tr (kpP rp tr rs t rk len) (kpN rn rs t rk len) (kpS rs t rk) (kpK rs t rk) us gl) H := by rw [show kpS rs t rk = va_up (shF rs (rkF rs t rk)) (rkF rs t rk) t from if_pos (by omega), show kpN rn rs t rk len = va_up (shF rn (rkF rs t rk)) (rkF rs t rk) len from if_pos (by omega), show kpP rp tr rs t rk len = va_cpy tr (shP rp (rkF rs t rk)) 0 (rkF rs t rk * 5) len from if_pos (by omega), show kpK rs t rk = min (rk + 1) 5 from if_pos (by omega), ← hv, ← hvn, ← hvp]; exact hP
    have hD9 : va_D A (wS cI cJ cZ qs tr (kpP rp tr rs t rk len) (kpN rn rs t rk len) (kpS rs t rk) (kpK rs t rk) us gl) := by rw [show kpS rs t rk = va_up (shF rs (rkF rs t rk)) (rkF rs t rk) t from if_pos (by omega), show kpN rn rs t rk len = va_up (shF rn (rkF rs t rk)) (rkF rs t rk) len from if_pos (by omega), show kpP rp tr rs t rk len = va_cpy tr (shP rp (rkF rs t rk)) 0 (rkF rs t rk * 5) len from if_pos (by omega), show kpK rs t rk = min (rk + 1) 5 from if_pos (by omega), ← hv, ← hvn, ← hvp]; exact hD
    exact W.vret hx hb hr (fun t ht hW => ⟨⟨(), rfl, trivial, by rw [ht]; exact hP9, va_K.moved hW.alike hK, hD9⟩, hS.F ht⟩) hS.2.2 dS_keep_131
  · have hP9 : va_P (dC, dI) vwCl (wS cI cJ cZ qs tr (kpP rp tr rs t rk len) (kpN rn rs t rk len) (kpS rs t rk) (kpK rs t rk) us gl) H := by rw [show kpS rs t rk = rs from if_neg (by omega), show kpN rn rs t rk len = rn from if_neg (by omega), show kpP rp tr rs t rk len = rp from if_neg (by omega), show kpK rs t rk = rk from if_neg (by omega)]; exact hP
    have hD9 : va_D A (wS cI cJ cZ qs tr (kpP rp tr rs t rk len) (kpN rn rs t rk len) (kpS rs t rk) (kpK rs t rk) us gl) := by rw [show kpS rs t rk = rs from if_neg (by omega), show kpN rn rs t rk len = rn from if_neg (by omega), show kpP rp tr rs t rk len = rp from if_neg (by omega), show kpK rs t rk = rk from if_neg (by omega)]; exact hD
    exact W.vret hx hb hr (fun t ht hW => ⟨⟨(), rfl, trivial, by rw [ht]; exact hP9, va_K.moved hW.alike hK, hD9⟩, hS.F ht⟩) hS.2.2 dS_keep_13

def wwF (rp : Nat → Nat) (n0 : Nat) (nu : Nat → Nat) (rl : Nat) : Nat → (Nat → Nat) × Nat
  | 0 => (nu, rl)
  | k + 1 => (apF (wwF rp n0 nu rl k).1 (wwF rp n0 nu rl k).2 (rp (n0 * 5 + k)), apN (wwF rp n0 nu rl k).2)
theorem wwF_le {rp : Nat → Nat} {n0 : Nat} {nu : Nat → Nat} {rl : Nat} (h : rl ≤ 40) : ∀ k, (wwF rp n0 nu rl k).2 ≤ 40 := by
  intro k
  induction k with
  | zero => exact h
  | succ k ih => exact (apN_le ih).1

theorem ww_s {rp : Nat → Nat} {n0 i rv : Nat} {nu v : Nat → Nat} {rl : Nat} (h : (v, rv) = wwF rp n0 nu rl i) : (apF v rv (rp (n0 * 5 + i)), apN rv) = wwF rp n0 nu rl (i + 1) := by
  show _ = (apF (wwF rp n0 nu rl i).1 (wwF rp n0 nu rl i).2 (rp (n0 * 5 + i)), apN (wwF rp n0 nu rl i).2)
  rw [← h]
set_option maxHeartbeats 4000000 in
set_option maxRecDepth 100000 in
theorem lp_S_write {p : Program} {l : Launch} {e : Env} {R : Room} {s : State} {m : MethodId} {args : Array Value} {below : List Frame} {meth : Method} {c : Code} {cells slots : Nat} {Q : State → Prop} {dC : Nat → ClassId} {dI : Nat → Nat → Nat} {cI cJ cZ : ClassId} {A : Nat → Prop} (qs : Nat → Nat) (tr rp rn rs : Nat → Nat) (rk us gl : Nat) (qr : Nat → Nat) (nu : Nat → Nat) (rl : Nat) (n0 : Nat) (hrl : rl ≤ 40) (hn0 : n0 < 5) (hrn : rn n0 ≤ 5)  (hx : p.tables.exec = Jvm.exec) (hb : c.code = cS_writeWay) (hml : c.maxLocals = 4) (hown : s.vm.findClass nS = some m.cls) (hts : ∀ w ∈ wsS_writeWay, w.before args s = true) (hK : va_K (dC, dI) vwCl (tyE cI cJ cZ) s) (hE : EV s) (hA : ∀ q : Nat, s.heap.size ≤ q → A q) (hR : 1 ≤ R.frames ∧ 21 ≤ R.locals) (hcs : cells ≤ R.cells ∧ slots ≤ R.slots)
    (kx0 : ∀ (i : Nat) (v : Nat → Nat) (rv : Nat) (h1 : i ≤ rn n0) (hw : (v, rv) = wwF rp n0 nu rl i) (hrv : rv ≤ 40) (hx0 : rn n0 ≤ i) (H : Heap) (locs : List Loc), va_P (dC, dI) vwCl (wS cI cJ cZ qs tr rp rn rs rk us gl ++ wR cI cJ cZ qr v rv) H → va_D A (wS cI cJ cZ qs tr rp rn rs rk us gl ++ wR cI cJ cZ qr v rv) → va_S A s.heap H locs → ∀ ls : Array Slot, lv_has ls 4 [(0, .ref (qs 0)), (1, .int (nI n0)), (2, .ref (qr 0)), (3, .int (nI i))] →  W p l e R s m args below meth c H locs cells slots Q (F0 m 32 ls []))
    : ∀ (fu : Nat) (i : Nat) (v : Nat → Nat) (rv : Nat) (h1 : i ≤ rn n0) (hw : (v, rv) = wwF rp n0 nu rl i) (hrv : rv ≤ 40), rn n0 - i < fu → ∀ (H : Heap) (locs : List Loc), va_P (dC, dI) vwCl (wS cI cJ cZ qs tr rp rn rs rk us gl ++ wR cI cJ cZ qr v rv) H → va_D A (wS cI cJ cZ qs tr rp rn rs rk us gl ++ wR cI cJ cZ qr v rv) → va_S A s.heap H locs → ∀ ls : Array Slot, lv_has ls 4 [(0, .ref (qs 0)), (1, .int (nI n0)), (2, .ref (qr 0)), (3, .int (nI i))] →  W p l e R s m args below meth c H locs cells slots Q (F0 m 2 ls []) := by
  have hg : ∀ w ∈ gw, w.before args s = true := fun w h => hts w (List.mem_cons_of_mem _ h)
  intro fu
  induction fu with
  | zero => intro i v rv h1 hw hrv h0; exact absurd h0 (Nat.not_lt_zero _)
  | succ fu ihL =>
    intro i v rv h1 hw hrv hfu H locs hP hD hS ls hl
    refine lv_iload_n hx hb dS_writeWay_2 rfl (lv_at hl 3 rfl) ?_
    refine lv_aload_n hx hb dS_writeWay_3 rfl (lv_at hl 0 rfl) ?_
    refine va_get (D := (dC, dI)) (ci := 3) (v := .ref (qs 3)) (C := nS) (T := TS) (N := 7) hx hb hg inS hown hK hP 0 rfl rfl 2 (by decide) (hg _ kS_18) (fun _ h9 => h9) rfl dS_writeWay_4 ?_
    refine lv_iload_n hx hb dS_writeWay_7 rfl (lv_at hl 1 rfl) ?_
    refine ga_i (f := rn) hx hb hK hP 3 0 rfl rfl (by omega) (by decide) dS_writeWay_8 ?_
    refine rn_icmp_ge (tgt := 32) hx hb dS_writeWay_9 (by decide) (by omega) (by omega) (fun c9 => ?_) (fun c9 => ?_)
    · exact kx0 i v rv h1 hw hrv (by omega) H locs hP hD hS ls (lv_sub hl [0, 1, 2, 3] rfl)
    · refine lv_aload_n hx hb dS_writeWay_12 rfl (lv_at hl 2 rfl) ?_
      refine lv_aload_n hx hb dS_writeWay_13 rfl (lv_at hl 0 rfl) ?_
      refine va_get (D := (dC, dI)) (ci := 3) (v := .ref (qs 2)) (C := nS) (T := TS) (N := 7) hx hb hg inS hown hK hP 0 rfl rfl 1 (by decide) (hg _ kS_15) (fun _ h9 => h9) rfl dS_writeWay_14 ?_
      refine lv_iload_n hx hb dS_writeWay_17 rfl (lv_at hl 1 rfl) ?_
      refine rn_iconst hx hb 5 dS_writeWay_18 (by decide) ?_
      refine rn_imul hx hb dS_writeWay_19 ?_
      refine lv_iload_n hx hb dS_writeWay_20 rfl (lv_at hl 3 rfl) ?_
      refine rn_iadd hx hb dS_writeWay_21 ?_
      refine ga_i (f := rp) hx hb hK hP 2 0 rfl rfl (by omega) (by decide) dS_writeWay_22 ?_
      refine kwV_v (D := (dC, dI)) (b := (qr 0)) (C := nR) (As := [.int (nI (rp ((n0 * 5) + i)))]) (rest := []) (wc := (wR cI cJ cZ qr v rv)) (wr := (wS cI cJ cZ qs tr rp rn rs rk us gl)) (w1 := (wR cI cJ cZ qr (apF v rv (rp ((n0 * 5) + i))) (apN rv))) (wn := (wS cI cJ cZ qs tr rp rn rs rk us gl ++ wR cI cJ cZ qr (apF v rv (rp ((n0 * 5) + i))) (apN rv))) ⟨hx, hb, hml, hown, hts⟩ (ct_R_append l dC dI cI cJ cZ qr v rv (rp ((n0 * 5) + i)) H.size (hrv)) (cwV 1 hts (gv kS_94 ki_R_append ksel_R_append kin_R kc_R_append) rfl rfl rfl (by decide +kernel) ⟨Nat.le_trans (by decide) hR.1, Nat.le_trans (by decide) hR.2⟩) (va_recv hK hP (ci := 4) (q0 := 5) rfl rfl) hP hD hK hE hS hA [5, 6] [0, 1, 2, 3, 4] [0, 1, 2, 3, 4, 5, 6] rfl (by decide) rfl (by decide) (by decide) rfl (by decide) rfl hl.1 rfl (Nat.le_of_ble_eq_true rfl) dS_writeWay_23 hcs (fun H locs hP hD hS => ?_)
      refine rn_iinc (lv' := [(3, .int (nI (i + 1))), (0, .ref (qs 0)), (1, .int (nI n0)), (2, .ref (qr 0))]) hx hb dS_writeWay_26 hl (k := 3) rfl (by decide) rfl (fun ls hl => ?_)
      refine lv_goto (tgt := 2) hx hb dS_writeWay_29 (by decide) ?_
      exact ihL (i + 1) (apF v rv (rp ((n0 * 5) + i))) (apN rv) (by omega) (ww_s hw) ((apN_le hrv).1) (by omega) H locs hP hD hS ls (lv_sub hl [1, 2, 3, 0] rfl)

set_option maxHeartbeats 4000000 in
set_option maxRecDepth 100000 in
theorem ct_S_writeWay (l : Launch) (dC : Nat → ClassId) (dI : Nat → Nat → Nat) (cI cJ cZ : ClassId) (qs : Nat → Nat) (tr rp rn rs : Nat → Nat) (rk us gl : Nat) (qr : Nat → Nat) (nu : Nat → Nat) (rl : Nat) (n0 : Nat) (sz : Nat) (hrl : rl ≤ 40) (hn0 : n0 < 5) (hrn : rn n0 ≤ 5) : Met l yS_writeWay wsS_writeWay ({ frames := 1, cells := 0, slots := 0, locals := 21 }) (PcW (dC, dI) (wS cI cJ cZ qs tr rp rn rs rk us gl ++ wR cI cJ cZ qr nu rl) (tyE cI cJ cZ) sz [.ref (qs 0), .int (nI n0), .ref (qr 0)]) (QwV (dC, dI) (wS cI cJ cZ qs tr rp rn rs rk us gl ++ wR cI cJ cZ qr ((wwF rp n0 nu rl (rn n0)).1) ((wwF rp n0 nu rl (rn n0)).2)) (tyE cI cJ cZ) (va_A (wS cI cJ cZ qs tr rp rn rs rk us gl ++ wR cI cJ cZ qr nu rl) sz)) 0 0 (va_A (wS cI cJ cZ qs tr rp rn rs rk us gl ++ wR cI cJ cZ qr nu rl) sz) := by
  refine Met.ofW (cc := cS_writeWay) (maxL := 4) (ret := none) (by decide) rfl ?_
  intro p e s m args below meth c s₁ B hml hv
  obtain ⟨rfl, hsz, hP, hK, hD0, hE⟩ := hv
  have hx := B.exec
  have hb := B.bytes
  have hr := B.returns
  have hts := atoms_spec (ws := wsS_writeWay) B.pre
  have hg : ∀ w ∈ gw, w.before _ s = true := fun w h => hts w (List.mem_cons_of_mem _ h)
  have hown : s.vm.findClass nS = some m.cls := findClass_of_methodNamed B.named
  have hlocks := B.notSynchronized
  have hR : 1 ≤ (headSpec wsS_writeWay ({ frames := 1, cells := 0, slots := 0, locals := 21 })).room.frames ∧ 21 ≤ (headSpec wsS_writeWay ({ frames := 1, cells := 0, slots := 0, locals := 21 })).room.locals := ⟨Nat.le_refl _, Nat.le_refl _⟩
  have hcs : 0 ≤ (headSpec wsS_writeWay ({ frames := 1, cells := 0, slots := 0, locals := 21 })).room.cells ∧ 0 ≤ (headSpec wsS_writeWay ({ frames := 1, cells := 0, slots := 0, locals := 21 })).room.slots := ⟨Nat.zero_le _, Nat.zero_le _⟩
  subst hsz
  have hD := hD0.self (sz := s.heap.size)
  generalize hAe : va_A (wS cI cJ cZ qs tr rp rn rs rk us gl ++ wR cI cJ cZ qr nu rl) s.heap.size = A at hD ⊢
  have hA : ∀ q : Nat, s.heap.size ≤ q → A q := fun q h => by rw [← hAe]; exact Or.inr h
  obtain ⟨H, hH⟩ : ∃ H, H = s.heap := ⟨_, rfl⟩
  have hS : va_S A s.heap H [] := by rw [hH]; exact va_S.rf
  rw [← hH] at hP ⊢
  have hl := lv_entry ([.ref (qs 0), .int (nI n0), .ref (qr 0)]) (n := 4) (Nat.le_of_ble_eq_true rfl)
  rw [lg_entry_eq]
  generalize (lg_sl ([.ref (qs 0), .int (nI n0), .ref (qr 0)]) ++ List.replicate (4 - (lg_sl ([.ref (qs 0), .int (nI n0), .ref (qr 0)])).length) Slot.unset).toArray = ls at hl ⊢
  have hl : lv_has ls 4 [(0, .ref (qs 0)), (1, .int (nI n0)), (2, .ref (qr 0))] := hl
  refine rn_iconst hx hb 0 dS_writeWay_0 (by decide) ?_
  refine lv_istore_n (lv' := [(3, .int (nI 0)), (0, .ref (qs 0)), (1, .int (nI n0)), (2, .ref (qr 0))]) hx hb dS_writeWay_1 rfl hl (by decide) rfl (fun ls hl => ?_)
  refine lp_S_write qs tr rp rn rs rk us gl qr nu rl n0 hrl hn0 hrn  hx hb hml hown hts hK hE hA (by first | exact hR | exact ⟨Nat.le_trans (by decide) hR.1, Nat.le_trans (by decide) hR.2⟩) hcs (fun i v rv h1 hw hrv hx0 H locs hP hD hS ls hl => ?_) ((rn n0 - 0) + 1) 0 nu rl (by omega) (rfl) (hrl) (by omega) _ _ hP hD hS ls (lv_sub hl [1, 2, 3, 0] rfl)
  have hP9 : va_P (dC, dI) vwCl (wS cI cJ cZ qs tr rp rn rs rk us gl ++ wR cI cJ cZ qr ((wwF rp n0 nu rl (rn n0)).1) ((wwF rp n0 nu rl (rn n0)).2)) H := by rw [show rn n0 = i from by omega, ← hw]; exact hP
  have hD9 : va_D A (wS cI cJ cZ qs tr rp rn rs rk us gl ++ wR cI cJ cZ qr ((wwF rp n0 nu rl (rn n0)).1) ((wwF rp n0 nu rl (rn n0)).2)) := by rw [show rn n0 = i from by omega, ← hw]; exact hD
  exact W.vret hx hb hr (fun t ht hW => ⟨⟨(), rfl, trivial, by rw [ht]; exact hP9, va_K.moved hW.alike hK, hD9⟩, hS.F ht⟩) hS.2.2 dS_writeWay_32
