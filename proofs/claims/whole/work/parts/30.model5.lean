theorem sn_0 {en : Nat → Nat} {a pl : Nat} (h : pl = a) : true = snB en a (pre (fun _ => 0) 0) pl := by simp [snB, h]
section SN
variable {en on : Nat → Nat} {a pl k : Nat} {b : Bool}
theorem sn_i1 (h : pl = a) : true = snB en a (pre on 0) pl := by simp [snB, h]
theorem sn_i2 (h : ¬ pl = a) : false = snB en a (pre on 0) pl := by simp [snB, h, pre]
theorem sn_t1 (hb : b = snB en a (pre on k) pl) (c : b = true) : true = snB en a (pre on (k + 1)) pl := by
  show true = snB en a (on k :: pre on k) pl
  rw [sn_c, ← hb, c]; rfl
theorem sn_t2 (c : en (on k) = pl) : true = snB en a (pre on (k + 1)) pl := by
  show true = snB en a (on k :: pre on k) pl
  rw [sn_c, decide_eq_true c, Bool.or_true]
theorem sn_f (hb : b = snB en a (pre on k) pl) (c : b = false) (d : ¬ en (on k) = pl) : false = snB en a (pre on (k + 1)) pl := by
  show false = snB en a (on k :: pre on k) pl
  rw [sn_c, ← hb, c, decide_eq_false d]; rfl
end SN

set_option maxHeartbeats 4000000 in
set_option maxRecDepth 100000 in
theorem lp_M_seen {p : Program} {l : Launch} {e : Env} {R : Room} {s : State} {m : MethodId} {args : Array Value} {below : List Frame} {meth : Method} {c : Code} {H : Heap} {locs : List Loc} {cells slots : Nat} {Q : State → Prop} {dC : Nat → ClassId} {dI : Nat → Nat → Nat} {cI cJ cZ : ClassId} (qm : Nat → Nat) (lv mw mh mk : Nat → Nat) (pc mc kc : Nat) (bg en sc wd ht oh bt : Nat → Nat) (co n : Nat) (sh ba : Nat → Bool) (rm nm bs bc bp on wh : Nat → Nat) (cd sl fo : Nat) (a d pl : Nat) (hG : bGp lv mw mh mk pc mc kc) (hB : bP bg en sc wd ht oh bt co n) (hon : ∀ k, k < d → on k < 40) (ha : a < 20) (hd5 : d ≤ 5) (hpl : pl < 20) (hx : p.tables.exec = Jvm.exec) (hb : c.code = cM_seen) (hml : c.maxLocals = 6) (hown : s.vm.findClass nM = some m.cls) (hts : ∀ w ∈ wsM_seen, w.before args s = true) (hK : va_K (dC, dI) vwCl (tyE cI cJ cZ) s) (hP : va_P (dC, dI) vwCl (wM cI cJ cZ qm lv bg en sc wd ht sh oh ba mw mh mk rm nm bs bc bp on wh cd pc n mc kc sl fo) H) (hE : EV s) (hR : 0 ≤ R.frames ∧ 0 ≤ R.locals) (hcs : cells ≤ R.cells ∧ slots ≤ R.slots)
    (kx0 : ∀ (i : Nat) (b9 : Bool) (h1 : i ≤ d) (hb9 : b9 = snB en a (pre on i) pl) (hx0 : d ≤ i) (ls : Array Slot), lv_has ls 6 [(0, .ref (qm 0)), (1, .int (nI a)), (2, .int (nI d)), (3, .int (nI pl)), (4, .int (bI b9)), (5, .int (nI i))] → W p l e R s m args below meth c H locs cells slots Q (F0 m 55 ls []))
    : ∀ (fu : Nat) (i : Nat) (b9 : Bool) (h1 : i ≤ d) (hb9 : b9 = snB en a (pre on i) pl), d - i < fu → ∀ ls : Array Slot, lv_has ls 6 [(0, .ref (qm 0)), (1, .int (nI a)), (2, .int (nI d)), (3, .int (nI pl)), (4, .int (bI b9)), (5, .int (nI i))] → W p l e R s m args below meth c H locs cells slots Q (F0 m 15 ls []) := by
  have hg : ∀ w ∈ gw, w.before args s = true := fun w h => hts w (List.mem_cons_of_mem _ h)
  have hpc := hG.1
  have hmc := hG.2.1
  have hkc := hG.2.2.1
  have hgi := hG.2.2.2
  have hbi := hB.2.2
  have hn := hB.1
  have hco := hB.2.1
  intro fu
  induction fu with
  | zero => intro i b9 h1 hb9 h0; exact absurd h0 (Nat.not_lt_zero _)
  | succ fu ihL =>
    intro i b9 h1 hb9 hfu ls hl
    refine lv_iload hx hb dM_seen_15 (lv_at hl 5 rfl) ?_
    refine lv_iload_n hx hb dM_seen_17 rfl (lv_at hl 2 rfl) ?_
    refine rn_icmp_ge (tgt := 55) hx hb dM_seen_18 (by decide) (by omega) (by omega) (fun c18 => ?_) (fun c18 => ?_)
    · exact kx0 i b9 h1 hb9 (by omega) ls (lv_sub hl [0, 1, 2, 3, 4, 5] rfl)
    · refine lv_iload hx hb dM_seen_21 (lv_at hl 4 rfl) ?_
      refine rb_ne (tgt := 42) hx hb dM_seen_23 (by decide) (fun c23 => ?_) (fun c23 => ?_)
      · refine rn_iconst hx hb 1 dM_seen_42 (by decide) ?_
        refine lv_goto (tgt := 47) hx hb dM_seen_43 (by decide) ?_
        refine lv_istore (lv' := [(4, .int (nI 1)), (0, .ref (qm 0)), (1, .int (nI a)), (2, .int (nI d)), (3, .int (nI pl)), (5, .int (nI i))]) hx hb dM_seen_47 hl (by decide) rfl (fun ls hl => ?_)
        refine rn_iinc (lv' := [(5, .int (nI (i + 1))), (4, .int (nI 1)), (0, .ref (qm 0)), (1, .int (nI a)), (2, .int (nI d)), (3, .int (nI pl))]) hx hb dM_seen_49 hl (k := 5) rfl (by decide) rfl (fun ls hl => ?_)
        refine lv_goto (tgt := 15) hx hb dM_seen_52 (by decide) ?_
        exact ihL (i + 1) true (by omega) (by first | exact sn_t1 hb9 c23 | exact sn_t2 c39 | exact sn_f hb9 c23 c39) (by omega) ls (lv_sub hl [2, 3, 4, 5, 1, 0] rfl)
      · have hoi := hon i (by omega)
        have bo := hbi (on i)
        refine lv_aload_n hx hb dM_seen_26 rfl (lv_at hl 0 rfl) ?_
        refine va_get (D := (dC, dI)) (ci := 5) (v := .ref (qm 3)) (C := nM) (T := TM) (N := 26) hx hb hg inM hown hK hP 0 rfl rfl 5 (by decide) (hg _ kM_16) (fun _ h9 => h9) rfl dM_seen_27 ?_
        refine lv_aload_n hx hb dM_seen_30 rfl (lv_at hl 0 rfl) ?_
        refine va_get (D := (dC, dI)) (ci := 5) (v := .ref (qm 18)) (C := nM) (T := TM) (N := 26) hx hb hg inM hown hK hP 0 rfl rfl 24 (by decide) (hg _ kM_63) (fun _ h9 => h9) rfl dM_seen_31 ?_
        refine lv_iload hx hb dM_seen_34 (lv_at hl 5 rfl) ?_
        refine ga_i (f := on) hx hb hK hP 18 0 rfl rfl (by omega) (by decide) dM_seen_36 ?_
        refine ga_i (f := en) hx hb hK hP 3 0 rfl rfl (by omega) (by decide) dM_seen_37 ?_
        refine lv_iload_n hx hb dM_seen_38 rfl (lv_at hl 3 rfl) ?_
        refine rn_icmp_ne (tgt := 46) hx hb dM_seen_39 (by decide) (by omega) (by omega) (fun c39 => ?_) (fun c39 => ?_)
        · refine rn_iconst hx hb 0 dM_seen_46 (by decide) ?_
          refine lv_istore (lv' := [(4, .int (nI 0)), (0, .ref (qm 0)), (1, .int (nI a)), (2, .int (nI d)), (3, .int (nI pl)), (5, .int (nI i))]) hx hb dM_seen_47 hl (by decide) rfl (fun ls hl => ?_)
          refine rn_iinc (lv' := [(5, .int (nI (i + 1))), (4, .int (nI 0)), (0, .ref (qm 0)), (1, .int (nI a)), (2, .int (nI d)), (3, .int (nI pl))]) hx hb dM_seen_49 hl (k := 5) rfl (by decide) rfl (fun ls hl => ?_)
          refine lv_goto (tgt := 15) hx hb dM_seen_52 (by decide) ?_
          exact ihL (i + 1) false (by omega) (by first | exact sn_t1 hb9 c23 | exact sn_t2 c39 | exact sn_f hb9 c23 c39) (by omega) ls (lv_sub hl [2, 3, 4, 5, 1, 0] rfl)
        · refine rn_iconst hx hb 1 dM_seen_42 (by decide) ?_
          refine lv_goto (tgt := 47) hx hb dM_seen_43 (by decide) ?_
          refine lv_istore (lv' := [(4, .int (nI 1)), (0, .ref (qm 0)), (1, .int (nI a)), (2, .int (nI d)), (3, .int (nI pl)), (5, .int (nI i))]) hx hb dM_seen_47 hl (by decide) rfl (fun ls hl => ?_)
          refine rn_iinc (lv' := [(5, .int (nI (i + 1))), (4, .int (nI 1)), (0, .ref (qm 0)), (1, .int (nI a)), (2, .int (nI d)), (3, .int (nI pl))]) hx hb dM_seen_49 hl (k := 5) rfl (by decide) rfl (fun ls hl => ?_)
          refine lv_goto (tgt := 15) hx hb dM_seen_52 (by decide) ?_
          exact ihL (i + 1) true (by omega) (by first | exact sn_t1 hb9 c23 | exact sn_t2 c39 | exact sn_f hb9 c23 c39) (by omega) ls (lv_sub hl [2, 3, 4, 5, 1, 0] rfl)

set_option maxHeartbeats 4000000 in
set_option maxRecDepth 100000 in
theorem ct_M_seen (l : Launch) (dC : Nat → ClassId) (dI : Nat → Nat → Nat) (cI cJ cZ : ClassId) (qm : Nat → Nat) (lv mw mh mk : Nat → Nat) (pc mc kc : Nat) (bg en sc wd ht oh bt : Nat → Nat) (co n : Nat) (sh ba : Nat → Bool) (rm nm bs bc bp on wh : Nat → Nat) (cd sl fo : Nat) (a d pl : Nat) (hG : bGp lv mw mh mk pc mc kc) (hB : bP bg en sc wd ht oh bt co n) (hon : ∀ k, k < d → on k < 40) (ha : a < 20) (hd5 : d ≤ 5) (hpl : pl < 20) : Met l yM_seen wsM_seen ({ frames := 0, cells := 0, slots := 0, locals := 0 }) (PcR (dC, dI) (wM cI cJ cZ qm lv bg en sc wd ht sh oh ba mw mh mk rm nm bs bc bp on wh cd pc n mc kc sl fo) (tyE cI cJ cZ) [.ref (qm 0), .int (nI a), .int (nI d), .int (nI pl)]) (vp_Si (fun r => r = bI (snB en a (pre on d) pl))) 0 0 (fun _ => False) := by
  refine Met.ofW (cc := cM_seen) (maxL := 6) (ret := (some .boolean)) (by decide) rfl ?_
  intro p e s m args below meth c s₁ B hml hv
  obtain ⟨rfl, hP, hK, hE⟩ := hv
  have hx := B.exec
  have hb := B.bytes
  have hr := B.returns
  have hts := atoms_spec (ws := wsM_seen) B.pre
  have hg : ∀ w ∈ gw, w.before _ s = true := fun w h => hts w (List.mem_cons_of_mem _ h)
  have hown : s.vm.findClass nM = some m.cls := findClass_of_methodNamed B.named
  have hlocks := B.notSynchronized
  have hR : 0 ≤ (headSpec wsM_seen ({ frames := 0, cells := 0, slots := 0, locals := 0 })).room.frames ∧ 0 ≤ (headSpec wsM_seen ({ frames := 0, cells := 0, slots := 0, locals := 0 })).room.locals := ⟨Nat.le_refl _, Nat.le_refl _⟩
  have hcs : 0 ≤ (headSpec wsM_seen ({ frames := 0, cells := 0, slots := 0, locals := 0 })).room.cells ∧ 0 ≤ (headSpec wsM_seen ({ frames := 0, cells := 0, slots := 0, locals := 0 })).room.slots := ⟨Nat.zero_le _, Nat.zero_le _⟩
  have hpc := hG.1
  have hmc := hG.2.1
  have hkc := hG.2.2.1
  have hgi := hG.2.2.2
  have hbi := hB.2.2
  have hn := hB.1
  have hco := hB.2.1
  have hl := lv_entry ([.ref (qm 0), .int (nI a), .int (nI d), .int (nI pl)]) (n := 6) (Nat.le_of_ble_eq_true rfl)
  rw [lg_entry_eq]
  generalize (lg_sl ([.ref (qm 0), .int (nI a), .int (nI d), .int (nI pl)]) ++ List.replicate (6 - (lg_sl ([.ref (qm 0), .int (nI a), .int (nI d), .int (nI pl)])).length) Slot.unset).toArray = ls at hl ⊢
  have hl : lv_has ls 6 [(0, .ref (qm 0)), (1, .int (nI a)), (2, .int (nI d)), (3, .int (nI pl))] := hl
  refine lv_iload_n hx hb dM_seen_0 rfl (lv_at hl 3 rfl) ?_
  refine lv_iload_n hx hb dM_seen_1 rfl (lv_at hl 1 rfl) ?_
  refine rn_icmp_ne (tgt := 9) hx hb dM_seen_2 (by decide) (by omega) (by omega) (fun c2 => ?_) (fun c2 => ?_)
  · refine rn_iconst hx hb 0 dM_seen_9 (by decide) ?_
    refine lv_istore (lv' := [(4, .int (nI 0)), (0, .ref (qm 0)), (1, .int (nI a)), (2, .int (nI d)), (3, .int (nI pl))]) hx hb dM_seen_10 hl (by decide) rfl (fun ls hl => ?_)
    refine rn_iconst hx hb 0 dM_seen_12 (by decide) ?_
    refine lv_istore (lv' := [(5, .int (nI 0)), (4, .int (nI 0)), (0, .ref (qm 0)), (1, .int (nI a)), (2, .int (nI d)), (3, .int (nI pl))]) hx hb dM_seen_13 hl (by decide) rfl (fun ls hl => ?_)
    refine lp_M_seen qm lv mw mh mk pc mc kc bg en sc wd ht oh bt co n sh ba rm nm bs bc bp on wh cd sl fo a d pl hG hB hon ha hd5 hpl hx hb hml hown hts hK hP hE (by first | exact hR | exact ⟨Nat.le_trans (by decide) hR.1, Nat.le_trans (by decide) hR.2⟩) hcs (fun i b9 h1 hb9 hx0 ls hl => ?_) ((d - 0) + 1) 0 false (by omega) (by first | exact sn_i1 c2 | exact sn_i2 c2) (by omega) ls (lv_sub hl [2, 3, 4, 5, 1, 0] rfl)
    refine lv_iload hx hb dM_seen_55 (lv_at hl 4 rfl) ?_
    exact W.zret hx hb hr (bI_nar _) (fun t ht hW => ⟨_, rfl, (by rw [show d = i from by omega, ← hb9]), ht⟩) (fun _ h9 => nomatch h9) dM_seen_57
  · refine rn_iconst hx hb 1 dM_seen_5 (by decide) ?_
    refine lv_goto (tgt := 10) hx hb dM_seen_6 (by decide) ?_
    refine lv_istore (lv' := [(4, .int (nI 1)), (0, .ref (qm 0)), (1, .int (nI a)), (2, .int (nI d)), (3, .int (nI pl))]) hx hb dM_seen_10 hl (by decide) rfl (fun ls hl => ?_)
    refine rn_iconst hx hb 0 dM_seen_12 (by decide) ?_
    refine lv_istore (lv' := [(5, .int (nI 0)), (4, .int (nI 1)), (0, .ref (qm 0)), (1, .int (nI a)), (2, .int (nI d)), (3, .int (nI pl))]) hx hb dM_seen_13 hl (by decide) rfl (fun ls hl => ?_)
    refine lp_M_seen qm lv mw mh mk pc mc kc bg en sc wd ht oh bt co n sh ba rm nm bs bc bp on wh cd sl fo a d pl hG hB hon ha hd5 hpl hx hb hml hown hts hK hP hE (by first | exact hR | exact ⟨Nat.le_trans (by decide) hR.1, Nat.le_trans (by decide) hR.2⟩) hcs (fun i b9 h1 hb9 hx0 ls hl => ?_) ((d - 0) + 1) 0 true (by omega) (by first | exact sn_i1 c2 | exact sn_i2 c2) (by omega) ls (lv_sub hl [2, 3, 4, 5, 1, 0] rfl)
    refine lv_iload hx hb dM_seen_55 (lv_at hl 4 rfl) ?_
    exact W.zret hx hb hr (bI_nar _) (fun t ht hW => ⟨_, rfl, (by rw [show d = i from by omega, ← hb9]), ht⟩) (fun _ h9 => nomatch h9) dM_seen_57

section OKW
variable {us : Nat → Bool} {bg en bt on : Nat → Nat} {a d i : Nat}
theorem plc_s (h : d ≠ 0) : plc en a (pre on d) = en (on (d - 1)) := by
  obtain ⟨d, rfl⟩ : ∃ k, d = k + 1 := ⟨d - 1, by omega⟩
  rfl
theorem brB_s (h : d ≠ 0) : brB bt (pre on d) i = (bt (on (d - 1))).testBit i := by
  obtain ⟨d, rfl⟩ : ∃ k, d = k + 1 := ⟨d - 1, by omega⟩
  rfl
theorem ok_1 (h : ¬ bg i = plc en a (pre on d)) : nI 0 = bI (okW us bg en bt a (pre on d) i) := by simp [okW, h, bI]; rfl
theorem ok_2 (h : us i = false) : nI 0 = bI (okW us bg en bt a (pre on d) i) := by simp [okW, h, bI]; rfl
theorem ok_3 (h : snB en a (pre on d) (en i) = true) : nI 0 = bI (okW us bg en bt a (pre on d) i) := by simp [okW, h, bI]; rfl
theorem ok_4 (h0 : d ≠ 0) (h : (bt (on (d - 1))).testBit i = true) : nI 0 = bI (okW us bg en bt a (pre on d) i) := by
  rw [okW, brB_s h0, h]; simp [bI]; rfl
theorem ok_5 (h1 : bg i = plc en a (pre on d)) (h2 : us i = true) (h3 : snB en a (pre on d) (en i) = false) (h0 : d ≠ 0) (h : (bt (on (d - 1))).testBit i = false) : nI 1 = bI (okW us bg en bt a (pre on d) i) := by
  rw [okW, brB_s h0, h, h2, h3, decide_eq_true h1]; rfl
theorem ok_6 (h1 : bg i = plc en a (pre on d)) (h2 : us i = true) (h3 : snB en a (pre on d) (en i) = false) (h0 : d = 0) : nI 1 = bI (okW us bg en bt a (pre on d) i) := by
  subst h0
  rw [okW, h2, h3, decide_eq_true h1]; rfl
end OKW

set_option maxHeartbeats 4000000 in
set_option maxRecDepth 100000 in
theorem ct_M_mayGo (l : Launch) (dC : Nat → ClassId) (dI : Nat → Nat → Nat) (cI cJ cZ : ClassId) (qm : Nat → Nat) (lv mw mh mk : Nat → Nat) (pc mc kc : Nat) (bg en sc wd ht oh bt : Nat → Nat) (co n : Nat) (sh ba : Nat → Bool) (rm nm bs bc bp on wh : Nat → Nat) (cd sl fo : Nat) (a d i : Nat) (hG : bGp lv mw mh mk pc mc kc) (hB : bP bg en sc wd ht oh bt co n) (hsh : ∀ j, j < 40 → sh j = co.testBit j) (hba : ∀ f t, f < 40 → t < 40 → ba (40 * f + t) = (bt f).testBit t) (hon : ∀ k, k < d → on k < 40) (ha : a < 20) (hd4 : d ≤ 4) (hi40 : i < 40) (hm6 : 0 < mc) : Met l yM_mayGo wsM_mayGo ({ frames := 1, cells := 0, slots := 0, locals := 25 }) (PcR (dC, dI) (wM cI cJ cZ qm lv bg en sc wd ht sh oh ba mw mh mk rm nm bs bc bp on wh cd pc n mc kc sl fo) (tyE cI cJ cZ) [.ref (qm 0), .int (nI a), .int (nI d), .int (nI i)]) (vp_Si (fun r => r = bI (okW (usB wd ht oh co (mw 0) (mh 0)) bg en bt a (pre on d) i))) 0 0 (fun _ => False) := by
  refine Met.ofW (cc := cM_mayGo) (maxL := 5) (ret := (some .boolean)) (by decide) rfl ?_
  intro p e s m args below meth c s₁ B hml hv
  obtain ⟨rfl, hP, hK, hE⟩ := hv
  have hx := B.exec
  have hb := B.bytes
  have hr := B.returns
  have hts := atoms_spec (ws := wsM_mayGo) B.pre
  have hg : ∀ w ∈ gw, w.before _ s = true := fun w h => hts w (List.mem_cons_of_mem _ h)
  have hown : s.vm.findClass nM = some m.cls := findClass_of_methodNamed B.named
  have hlocks := B.notSynchronized
  have hR : 1 ≤ (headSpec wsM_mayGo ({ frames := 1, cells := 0, slots := 0, locals := 25 })).room.frames ∧ 25 ≤ (headSpec wsM_mayGo ({ frames := 1, cells := 0, slots := 0, locals := 25 })).room.locals := ⟨Nat.le_refl _, Nat.le_refl _⟩
  have hcs : 0 ≤ (headSpec wsM_mayGo ({ frames := 1, cells := 0, slots := 0, locals := 25 })).room.cells ∧ 0 ≤ (headSpec wsM_mayGo ({ frames := 1, cells := 0, slots := 0, locals := 25 })).room.slots := ⟨Nat.zero_le _, Nat.zero_le _⟩
  have hpc := hG.1
  have hmc := hG.2.1
  have hkc := hG.2.2.1
  have hgi := hG.2.2.2
  have hbi := hB.2.2
  have hn := hB.1
  have hco := hB.2.1
  have bi := hbi i
  have hpl : plc en a (pre on d) < 20 := by cases d with | zero => exact ha | succ d => exact (hbi (on d)).2.1
  have hl := lv_entry ([.ref (qm 0), .int (nI a), .int (nI d), .int (nI i)]) (n := 5) (Nat.le_of_ble_eq_true rfl)
  rw [lg_entry_eq]
  generalize (lg_sl ([.ref (qm 0), .int (nI a), .int (nI d), .int (nI i)]) ++ List.replicate (5 - (lg_sl ([.ref (qm 0), .int (nI a), .int (nI d), .int (nI i)])).length) Slot.unset).toArray = ls at hl ⊢
  have hl : lv_has ls 5 [(0, .ref (qm 0)), (1, .int (nI a)), (2, .int (nI d)), (3, .int (nI i))] := hl
  refine lv_iload_n hx hb dM_mayGo_0 rfl (lv_at hl 2 rfl) ?_
  refine lv_if_ne (tgt := 8) hx hb dM_mayGo_1 (by decide) (fun c1 => ?_) (fun c1 => ?_)
  · have hd0 := n0_ne c1
    have ho1 := hon (d - 1) (by omega)
    refine lv_aload_n hx hb dM_mayGo_8 rfl (lv_at hl 0 rfl) ?_
    refine va_get (D := (dC, dI)) (ci := 5) (v := .ref (qm 3)) (C := nM) (T := TM) (N := 26) hx hb hg inM hown hK hP 0 rfl rfl 5 (by decide) (hg _ kM_16) (fun _ h9 => h9) rfl dM_mayGo_9 ?_
    refine lv_aload_n hx hb dM_mayGo_12 rfl (lv_at hl 0 rfl) ?_
    refine va_get (D := (dC, dI)) (ci := 5) (v := .ref (qm 18)) (C := nM) (T := TM) (N := 26) hx hb hg inM hown hK hP 0 rfl rfl 24 (by decide) (hg _ kM_63) (fun _ h9 => h9) rfl dM_mayGo_13 ?_
    refine lv_iload_n hx hb dM_mayGo_16 rfl (lv_at hl 2 rfl) ?_
    refine rn_iconst hx hb 1 dM_mayGo_17 (by decide) ?_
    refine rn_isub hx hb dM_mayGo_18 (by omega) ?_
    refine ga_i (f := on) hx hb hK hP 18 0 rfl rfl (by omega) (by decide) dM_mayGo_19 ?_
    refine ga_i (f := en) hx hb hK hP 3 0 rfl rfl (by omega) (by decide) dM_mayGo_20 ?_
    refine lv_istore (lv' := [(4, .int (nI (en (on (d - 1))))), (0, .ref (qm 0)), (1, .int (nI a)), (2, .int (nI d)), (3, .int (nI i))]) hx hb dM_mayGo_21 hl (by decide) rfl (fun ls hl => ?_)
    have hl : lv_has ls 5 [(4, .int (nI (plc en a (pre on d)))), (0, .ref (qm 0)), (1, .int (nI a)), (2, .int (nI d)), (3, .int (nI i))] := by rw [plc_s hd0]; exact hl
    refine lv_aload_n hx hb dM_mayGo_23 rfl (lv_at hl 1 rfl) ?_
    refine va_get (D := (dC, dI)) (ci := 5) (v := .ref (qm 2)) (C := nM) (T := TM) (N := 26) hx hb hg inM hown hK hP 0 rfl rfl 4 (by decide) (hg _ kM_13) (fun _ h9 => h9) rfl dM_mayGo_24 ?_
    refine lv_iload_n hx hb dM_mayGo_27 rfl (lv_at hl 4 rfl) ?_
    refine ga_i (f := bg) hx hb hK hP 2 0 rfl rfl (by omega) (by decide) dM_mayGo_28 ?_
    refine lv_iload hx hb dM_mayGo_29 (lv_at hl 0 rfl) ?_
    refine rn_icmp_ne (tgt := 58) hx hb dM_mayGo_31 (by decide) (by omega) (by omega) (fun c31 => ?_) (fun c31 => ?_)
    · refine rn_iconst hx hb 0 dM_mayGo_58 (by decide) ?_
      exact W.zret hx hb hr rfl (fun t ht hW => ⟨_, rfl, (by first | exact ok_1 c31 | exact ok_2 c40 | exact ok_3 c55 | exact ok_4 (n0_ne c61) ((hba _ i ho1 hi40).symm.trans c82) | exact ok_5 c31 c40 c55 (n0_ne c61) ((hba _ i ho1 hi40).symm.trans c82) | exact ok_6 c31 c40 c55 hd0), ht⟩) (fun _ h9 => nomatch h9) dM_mayGo_59
    · refine lv_aload_n hx hb dM_mayGo_34 rfl (lv_at hl 1 rfl) ?_
      refine rn_iconst hx hb 0 dM_mayGo_35 (by decide) ?_
      refine lv_iload_n hx hb dM_mayGo_36 rfl (lv_at hl 4 rfl) ?_
      refine cpV_i (b := (qm 0)) (C := nM) (As := [.int (nI 0), .int (nI i)]) (rest := []) (post := fun r : Int32 => r = bI (usB wd ht oh co (mw 0) (mh 0) i)) ⟨hx, hb, hml, hown, hts⟩ (ct_M_mayUse l dC dI cI cJ cZ qm lv mw mh mk pc mc kc bg en sc wd ht oh bt co n sh ba rm nm bs bc bp on wh cd sl fo 0 i (hG) (hB) (hsh) (by omega) (hi40)) (cwV 2 hts (gv kM_110 ki_M_mayUse ksel_M_mayUse kin_M kc_M_mayUse) rfl rfl rfl (by decide +kernel) ⟨Nat.le_trans (by decide) hR.1, Nat.le_trans (by decide) hR.2⟩) (va_recv hK hP (ci := 5) (q0 := 0) rfl rfl) hP hK hE rfl hl.1 rfl (Nat.le_of_ble_eq_true rfl) dM_mayGo_37 hcs (fun r hr => ?_)
      subst hr
      refine rb_eq (tgt := 58) hx hb dM_mayGo_40 (by decide) (fun c40 => ?_) (fun c40 => ?_)
      · refine rn_iconst hx hb 0 dM_mayGo_58 (by decide) ?_
        exact W.zret hx hb hr rfl (fun t ht hW => ⟨_, rfl, (by first | exact ok_1 c31 | exact ok_2 c40 | exact ok_3 c55 | exact ok_4 (n0_ne c61) ((hba _ i ho1 hi40).symm.trans c82) | exact ok_5 c31 c40 c55 (n0_ne c61) ((hba _ i ho1 hi40).symm.trans c82) | exact ok_6 c31 c40 c55 hd0), ht⟩) (fun _ h9 => nomatch h9) dM_mayGo_59
      · refine lv_aload_n hx hb dM_mayGo_43 rfl (lv_at hl 1 rfl) ?_
        refine lv_iload_n hx hb dM_mayGo_44 rfl (lv_at hl 2 rfl) ?_
        refine lv_iload_n hx hb dM_mayGo_45 rfl (lv_at hl 3 rfl) ?_
        refine lv_aload_n hx hb dM_mayGo_46 rfl (lv_at hl 1 rfl) ?_
        refine va_get (D := (dC, dI)) (ci := 5) (v := .ref (qm 3)) (C := nM) (T := TM) (N := 26) hx hb hg inM hown hK hP 0 rfl rfl 5 (by decide) (hg _ kM_16) (fun _ h9 => h9) rfl dM_mayGo_47 ?_
        refine lv_iload_n hx hb dM_mayGo_50 rfl (lv_at hl 4 rfl) ?_
        refine ga_i (f := en) hx hb hK hP 3 0 rfl rfl (by omega) (by decide) dM_mayGo_51 ?_
        refine cpV_i (b := (qm 0)) (C := nM) (As := [.int (nI a), .int (nI d), .int (nI (en i))]) (rest := []) (post := fun r : Int32 => r = bI (snB en a (pre on d) (en i))) ⟨hx, hb, hml, hown, hts⟩ (ct_M_seen l dC dI cI cJ cZ qm lv mw mh mk pc mc kc bg en sc wd ht oh bt co n sh ba rm nm bs bc bp on wh cd sl fo a d (en i) (hG) (hB) (hon) (ha) (by omega) (by omega)) (cwV 3 hts (gv kM_152 ki_M_seen ksel_M_seen kin_M kc_M_seen) rfl rfl rfl (by decide +kernel) ⟨Nat.le_trans (by decide) hR.1, Nat.le_trans (by decide) hR.2⟩) (va_recv hK hP (ci := 5) (q0 := 0) rfl rfl) hP hK hE rfl hl.1 rfl (Nat.le_of_ble_eq_true rfl) dM_mayGo_52 hcs (fun r hr => ?_)
        subst hr
        refine rb_eq (tgt := 60) hx hb dM_mayGo_55 (by decide) (fun c55 => ?_) (fun c55 => ?_)
        · refine lv_iload_n hx hb dM_mayGo_60 rfl (lv_at hl 3 rfl) ?_
          refine lv_if_eq (tgt := 85) hx hb dM_mayGo_61 (by decide) (fun c61 => ?_) (fun c61 => ?_)
          · exact absurd c61 c1
          · refine lv_aload_n hx hb dM_mayGo_64 rfl (lv_at hl 1 rfl) ?_
            refine va_get (D := (dC, dI)) (ci := 5) (v := .ref (qm 9)) (C := nM) (T := TM) (N := 26) hx hb hg inM hown hK hP 0 rfl rfl 11 (by decide) (hg _ kM_36) (fun _ h9 => h9) rfl dM_mayGo_65 ?_
            refine rn_bipush hx hb 40 dM_mayGo_68 (by decide) ?_
            refine lv_aload_n hx hb dM_mayGo_70 rfl (lv_at hl 1 rfl) ?_
            refine va_get (D := (dC, dI)) (ci := 5) (v := .ref (qm 18)) (C := nM) (T := TM) (N := 26) hx hb hg inM hown hK hP 0 rfl rfl 24 (by decide) (hg _ kM_63) (fun _ h9 => h9) rfl dM_mayGo_71 ?_
            refine lv_iload_n hx hb dM_mayGo_74 rfl (lv_at hl 3 rfl) ?_
            refine rn_iconst hx hb 1 dM_mayGo_75 (by decide) ?_
            refine rn_isub hx hb dM_mayGo_76 (by omega) ?_
            refine ga_i (f := on) hx hb hK hP 18 0 rfl rfl (by omega) (by decide) dM_mayGo_77 ?_
            refine rn_imul hx hb dM_mayGo_78 ?_
            refine lv_iload_n hx hb dM_mayGo_79 rfl (lv_at hl 4 rfl) ?_
            refine rn_iadd hx hb dM_mayGo_80 ?_
            refine ga_b (f := ba) hx hb hK hP 9 2 rfl rfl (by omega) (by decide) dM_mayGo_81 ?_
            refine rb_ne (tgt := 89) hx hb dM_mayGo_82 (by decide) (fun c82 => ?_) (fun c82 => ?_)
            · refine rn_iconst hx hb 0 dM_mayGo_89 (by decide) ?_
              exact W.zret hx hb hr rfl (fun t ht hW => ⟨_, rfl, (by first | exact ok_1 c31 | exact ok_2 c40 | exact ok_3 c55 | exact ok_4 (n0_ne c61) ((hba _ i ho1 hi40).symm.trans c82) | exact ok_5 c31 c40 c55 (n0_ne c61) ((hba _ i ho1 hi40).symm.trans c82) | exact ok_6 c31 c40 c55 hd0), ht⟩) (fun _ h9 => nomatch h9) dM_mayGo_90
            · refine rn_iconst hx hb 1 dM_mayGo_85 (by decide) ?_
              refine lv_goto (tgt := 90) hx hb dM_mayGo_86 (by decide) ?_
              exact W.zret hx hb hr rfl (fun t ht hW => ⟨_, rfl, (by first | exact ok_1 c31 | exact ok_2 c40 | exact ok_3 c55 | exact ok_4 (n0_ne c61) ((hba _ i ho1 hi40).symm.trans c82) | exact ok_5 c31 c40 c55 (n0_ne c61) ((hba _ i ho1 hi40).symm.trans c82) | exact ok_6 c31 c40 c55 hd0), ht⟩) (fun _ h9 => nomatch h9) dM_mayGo_90
        · refine rn_iconst hx hb 0 dM_mayGo_58 (by decide) ?_
          exact W.zret hx hb hr rfl (fun t ht hW => ⟨_, rfl, (by first | exact ok_1 c31 | exact ok_2 c40 | exact ok_3 c55 | exact ok_4 (n0_ne c61) ((hba _ i ho1 hi40).symm.trans c82) | exact ok_5 c31 c40 c55 (n0_ne c61) ((hba _ i ho1 hi40).symm.trans c82) | exact ok_6 c31 c40 c55 hd0), ht⟩) (fun _ h9 => nomatch h9) dM_mayGo_59
  · have hd0 := n0_of6 (by omega) c1
    refine lv_iload_n hx hb dM_mayGo_4 rfl (lv_at hl 1 rfl) ?_
    refine lv_goto (tgt := 21) hx hb dM_mayGo_5 (by decide) ?_
    refine lv_istore (lv' := [(4, .int (nI a)), (0, .ref (qm 0)), (1, .int (nI a)), (2, .int (nI d)), (3, .int (nI i))]) hx hb dM_mayGo_21 hl (by decide) rfl (fun ls hl => ?_)
    have hpz : plc en a (pre on d) = a := by rw [hd0]; rfl
    have hl : lv_has ls 5 [(4, .int (nI (plc en a (pre on d)))), (0, .ref (qm 0)), (1, .int (nI a)), (2, .int (nI d)), (3, .int (nI i))] := by rw [hpz]; exact hl
    refine lv_aload_n hx hb dM_mayGo_23 rfl (lv_at hl 1 rfl) ?_
    refine va_get (D := (dC, dI)) (ci := 5) (v := .ref (qm 2)) (C := nM) (T := TM) (N := 26) hx hb hg inM hown hK hP 0 rfl rfl 4 (by decide) (hg _ kM_13) (fun _ h9 => h9) rfl dM_mayGo_24 ?_
    refine lv_iload_n hx hb dM_mayGo_27 rfl (lv_at hl 4 rfl) ?_
    refine ga_i (f := bg) hx hb hK hP 2 0 rfl rfl (by omega) (by decide) dM_mayGo_28 ?_
    refine lv_iload hx hb dM_mayGo_29 (lv_at hl 0 rfl) ?_
    refine rn_icmp_ne (tgt := 58) hx hb dM_mayGo_31 (by decide) (by omega) (by omega) (fun c31 => ?_) (fun c31 => ?_)
    · refine rn_iconst hx hb 0 dM_mayGo_58 (by decide) ?_
      exact W.zret hx hb hr rfl (fun t ht hW => ⟨_, rfl, (by first | exact ok_1 c31 | exact ok_2 c40 | exact ok_3 c55 | exact ok_4 (n0_ne c61) ((hba _ i ho1 hi40).symm.trans c82) | exact ok_5 c31 c40 c55 (n0_ne c61) ((hba _ i ho1 hi40).symm.trans c82) | exact ok_6 c31 c40 c55 hd0), ht⟩) (fun _ h9 => nomatch h9) dM_mayGo_59
    · refine lv_aload_n hx hb dM_mayGo_34 rfl (lv_at hl 1 rfl) ?_
      refine rn_iconst hx hb 0 dM_mayGo_35 (by decide) ?_
      refine lv_iload_n hx hb dM_mayGo_36 rfl (lv_at hl 4 rfl) ?_
      refine cpV_i (b := (qm 0)) (C := nM) (As := [.int (nI 0), .int (nI i)]) (rest := []) (post := fun r : Int32 => r = bI (usB wd ht oh co (mw 0) (mh 0) i)) ⟨hx, hb, hml, hown, hts⟩ (ct_M_mayUse l dC dI cI cJ cZ qm lv mw mh mk pc mc kc bg en sc wd ht oh bt co n sh ba rm nm bs bc bp on wh cd sl fo 0 i (hG) (hB) (hsh) (by omega) (hi40)) (cwV 2 hts (gv kM_110 ki_M_mayUse ksel_M_mayUse kin_M kc_M_mayUse) rfl rfl rfl (by decide +kernel) ⟨Nat.le_trans (by decide) hR.1, Nat.le_trans (by decide) hR.2⟩) (va_recv hK hP (ci := 5) (q0 := 0) rfl rfl) hP hK hE rfl hl.1 rfl (Nat.le_of_ble_eq_true rfl) dM_mayGo_37 hcs (fun r hr => ?_)
      subst hr
      refine rb_eq (tgt := 58) hx hb dM_mayGo_40 (by decide) (fun c40 => ?_) (fun c40 => ?_)
      · refine rn_iconst hx hb 0 dM_mayGo_58 (by decide) ?_
        exact W.zret hx hb hr rfl (fun t ht hW => ⟨_, rfl, (by first | exact ok_1 c31 | exact ok_2 c40 | exact ok_3 c55 | exact ok_4 (n0_ne c61) ((hba _ i ho1 hi40).symm.trans c82) | exact ok_5 c31 c40 c55 (n0_ne c61) ((hba _ i ho1 hi40).symm.trans c82) | exact ok_6 c31 c40 c55 hd0), ht⟩) (fun _ h9 => nomatch h9) dM_mayGo_59
      · refine lv_aload_n hx hb dM_mayGo_43 rfl (lv_at hl 1 rfl) ?_
        refine lv_iload_n hx hb dM_mayGo_44 rfl (lv_at hl 2 rfl) ?_
        refine lv_iload_n hx hb dM_mayGo_45 rfl (lv_at hl 3 rfl) ?_
        refine lv_aload_n hx hb dM_mayGo_46 rfl (lv_at hl 1 rfl) ?_
        refine va_get (D := (dC, dI)) (ci := 5) (v := .ref (qm 3)) (C := nM) (T := TM) (N := 26) hx hb hg inM hown hK hP 0 rfl rfl 5 (by decide) (hg _ kM_16) (fun _ h9 => h9) rfl dM_mayGo_47 ?_
        refine lv_iload_n hx hb dM_mayGo_50 rfl (lv_at hl 4 rfl) ?_
        refine ga_i (f := en) hx hb hK hP 3 0 rfl rfl (by omega) (by decide) dM_mayGo_51 ?_
        refine cpV_i (b := (qm 0)) (C := nM) (As := [.int (nI a), .int (nI d), .int (nI (en i))]) (rest := []) (post := fun r : Int32 => r = bI (snB en a (pre on d) (en i))) ⟨hx, hb, hml, hown, hts⟩ (ct_M_seen l dC dI cI cJ cZ qm lv mw mh mk pc mc kc bg en sc wd ht oh bt co n sh ba rm nm bs bc bp on wh cd sl fo a d (en i) (hG) (hB) (hon) (ha) (by omega) (by omega)) (cwV 3 hts (gv kM_152 ki_M_seen ksel_M_seen kin_M kc_M_seen) rfl rfl rfl (by decide +kernel) ⟨Nat.le_trans (by decide) hR.1, Nat.le_trans (by decide) hR.2⟩) (va_recv hK hP (ci := 5) (q0 := 0) rfl rfl) hP hK hE rfl hl.1 rfl (Nat.le_of_ble_eq_true rfl) dM_mayGo_52 hcs (fun r hr => ?_)
        subst hr
        refine rb_eq (tgt := 60) hx hb dM_mayGo_55 (by decide) (fun c55 => ?_) (fun c55 => ?_)
        · refine lv_iload_n hx hb dM_mayGo_60 rfl (lv_at hl 3 rfl) ?_
          refine lv_if_eq (tgt := 85) hx hb dM_mayGo_61 (by decide) (fun c61 => ?_) (fun c61 => ?_)
          · refine rn_iconst hx hb 1 dM_mayGo_85 (by decide) ?_
            refine lv_goto (tgt := 90) hx hb dM_mayGo_86 (by decide) ?_
            exact W.zret hx hb hr rfl (fun t ht hW => ⟨_, rfl, (by first | exact ok_1 c31 | exact ok_2 c40 | exact ok_3 c55 | exact ok_4 (n0_ne c61) ((hba _ i ho1 hi40).symm.trans c82) | exact ok_5 c31 c40 c55 (n0_ne c61) ((hba _ i ho1 hi40).symm.trans c82) | exact ok_6 c31 c40 c55 hd0), ht⟩) (fun _ h9 => nomatch h9) dM_mayGo_90
          · exact absurd (by rw [hd0]; rfl) c61
        · refine rn_iconst hx hb 0 dM_mayGo_58 (by decide) ?_
          exact W.zret hx hb hr rfl (fun t ht hW => ⟨_, rfl, (by first | exact ok_1 c31 | exact ok_2 c40 | exact ok_3 c55 | exact ok_4 (n0_ne c61) ((hba _ i ho1 hi40).symm.trans c82) | exact ok_5 c31 c40 c55 (n0_ne c61) ((hba _ i ho1 hi40).symm.trans c82) | exact ok_6 c31 c40 c55 hd0), ht⟩) (fun _ h9 => nomatch h9) dM_mayGo_59

theorem lxb_1 {on bp : Nat → Nat} {len c k i : Nat} (h : ∃ i, i < len ∧ i < c ∧ (∀ j, j < i → on j = bp (5 * k + j)) ∧ bp (5 * k + i) < on i) (ha : ∀ j, j < i → on j = bp (5 * k + j)) (hn : ¬ on i = bp (5 * k + i)) : bp (5 * k + i) < on i := by
  obtain ⟨i', h1, h2, h3, h4⟩ := h
  rcases Nat.lt_trichotomy i i' with q | q | q
  · exact absurd (h3 i q) hn
  · subst q; exact h4
  · have := ha i' q
    omega
theorem lxb_2 {on bp : Nat → Nat} {len c k i : Nat} (h : ∃ i, i < len ∧ i < c ∧ (∀ j, j < i → on j = bp (5 * k + j)) ∧ bp (5 * k + i) < on i) (ha : ∀ j, j < i → on j = bp (5 * k + j)) (hx : len ≤ i ∨ c ≤ i) : False := by
  obtain ⟨i', h1, h2, h3, h4⟩ := h
  have := ha i' (by omega)
  omega
theorem ag_s {on bp : Nat → Nat} {k i : Nat} (ha : ∀ j, j < i → on j = bp (5 * k + j)) (c : on i = bp (5 * k + i)) : ∀ j, j < i + 1 → on j = bp (5 * k + j) := by
  intro j hj
  by_cases e : j = i
  · subst e; exact c
  · exact ha j (by omega)

set_option maxHeartbeats 4000000 in
set_option maxRecDepth 100000 in
theorem lp_M_better {p : Program} {l : Launch} {e : Env} {R : Room} {s : State} {m : MethodId} {args : Array Value} {below : List Frame} {meth : Method} {c : Code} {H : Heap} {locs : List Loc} {cells slots : Nat} {Q : State → Prop} {dC : Nat → ClassId} {dI : Nat → Nat → Nat} {cI cJ cZ : ClassId} (qm : Nat → Nat) (lv mw mh mk : Nat → Nat) (pc mc kc : Nat) (bg en sc wd ht oh bt : Nat → Nat) (co n : Nat) (sh ba : Nat → Bool) (rm nm bs bc bp on wh : Nat → Nat) (cd sl fo : Nat) (len k : Nat) (hG : bGp lv mw mh mk pc mc kc) (hB : bP bg en sc wd ht oh bt co n) (hbp : ∀ j, bp j < 40) (hbc : ∀ j, bc j ≤ 5) (hbs : ∀ j, bs j ≤ 60000000) (hol : ∀ j, j < len → on j < 40) (hl5 : len ≤ 5) (hk5 : k < 5) (hwl : wh len ≤ 60000000) (hlx : ∃ i, i < len ∧ i < bc k ∧ (∀ j, j < i → on j = bp (5 * k + j)) ∧ bp (5 * k + i) < on i) (hx : p.tables.exec = Jvm.exec) (hb : c.code = cM_isBetter) (hml : c.maxLocals = 4) (hown : s.vm.findClass nM = some m.cls) (hts : ∀ w ∈ wsM_isBetter, w.before args s = true) (hK : va_K (dC, dI) vwCl (tyE cI cJ cZ) s) (hP : va_P (dC, dI) vwCl (wM cI cJ cZ qm lv bg en sc wd ht sh oh ba mw mh mk rm nm bs bc bp on wh cd pc n mc kc sl fo) H) (hE : EV s) (hR : 0 ≤ R.frames ∧ 0 ≤ R.locals) (hcs : cells ≤ R.cells ∧ slots ≤ R.slots)
    (kx0 : ∀ (i : Nat) (h1 : i ≤ len) (hq : wh len = bs k) (hag : ∀ j, j < i → on j = bp (5 * k + j)) (hx0 : len ≤ i ∨ bc k ≤ i) (ls : Array Slot), lv_has ls 4 [(0, .ref (qm 0)), (1, .int (nI len)), (2, .int (nI k)), (3, .int (nI i))] → W p l e R s m args below meth c H locs cells slots Q (F0 m 105 ls []))
    (kx1 : ∀ (i : Nat) (h1 : i ≤ len) (hq : wh len = bs k) (hag : ∀ j, j < i → on j = bp (5 * k + j)) (hx1 : i < len) (hx2 : ¬ on i = bp (5 * k + i)) (ls : Array Slot), lv_has ls 4 [(0, .ref (qm 0)), (1, .int (nI len)), (2, .int (nI k)), (3, .int (nI i))] → W p l e R s m args below meth c H locs cells slots Q (F0 m 74 ls []))
    : ∀ (fu : Nat) (i : Nat) (h1 : i ≤ len) (hq : wh len = bs k) (hag : ∀ j, j < i → on j = bp (5 * k + j)), len - i < fu → ∀ ls : Array Slot, lv_has ls 4 [(0, .ref (qm 0)), (1, .int (nI len)), (2, .int (nI k)), (3, .int (nI i))] → W p l e R s m args below meth c H locs cells slots Q (F0 m 40 ls []) := by
  have hg : ∀ w ∈ gw, w.before args s = true := fun w h => hts w (List.mem_cons_of_mem _ h)
  have hpc := hG.1
  have hmc := hG.2.1
  have hkc := hG.2.2.1
  have hgi := hG.2.2.2
  have hbi := hB.2.2
  have hn := hB.1
  have hco := hB.2.1
  have hbk := hbs k
  have hck := hbc k
  intro fu
  induction fu with
  | zero => intro i h1 hq hag h0; exact absurd h0 (Nat.not_lt_zero _)
  | succ fu ihL =>
    intro i h1 hq hag hfu ls hl
    refine lv_iload_n hx hb dM_isBetter_40 rfl (lv_at hl 3 rfl) ?_
    refine lv_iload_n hx hb dM_isBetter_41 rfl (lv_at hl 1 rfl) ?_
    refine rn_icmp_ge (tgt := 105) hx hb dM_isBetter_42 (by decide) (by omega) (by omega) (fun c42 => ?_) (fun c42 => ?_)
    · exact kx0 i h1 hq hag (by omega) ls (lv_sub hl [0, 1, 2, 3] rfl)
    · refine lv_iload_n hx hb dM_isBetter_45 rfl (lv_at hl 3 rfl) ?_
      refine lv_aload_n hx hb dM_isBetter_46 rfl (lv_at hl 0 rfl) ?_
      refine va_get (D := (dC, dI)) (ci := 5) (v := .ref (qm 16)) (C := nM) (T := TM) (N := 26) hx hb hg inM hown hK hP 0 rfl rfl 21 (by decide) (hg _ kM_57) (fun _ h9 => h9) rfl dM_isBetter_47 ?_
      refine lv_iload_n hx hb dM_isBetter_50 rfl (lv_at hl 2 rfl) ?_
      refine ga_i (f := bc) hx hb hK hP 16 0 rfl rfl (by omega) (by decide) dM_isBetter_51 ?_
      refine rn_icmp_ge (tgt := 105) hx hb dM_isBetter_52 (by decide) (by omega) (by omega) (fun c52 => ?_) (fun c52 => ?_)
      · exact kx0 i h1 hq hag (by omega) ls (lv_sub hl [0, 1, 2, 3] rfl)
      · have hoi := hol i (by omega)
        have hbi9 := hbp (5 * k + i)
        refine lv_aload_n hx hb dM_isBetter_55 rfl (lv_at hl 0 rfl) ?_
        refine va_get (D := (dC, dI)) (ci := 5) (v := .ref (qm 18)) (C := nM) (T := TM) (N := 26) hx hb hg inM hown hK hP 0 rfl rfl 24 (by decide) (hg _ kM_63) (fun _ h9 => h9) rfl dM_isBetter_56 ?_
        refine lv_iload_n hx hb dM_isBetter_59 rfl (lv_at hl 3 rfl) ?_
        refine ga_i (f := on) hx hb hK hP 18 0 rfl rfl (by omega) (by decide) dM_isBetter_60 ?_
        refine lv_aload_n hx hb dM_isBetter_61 rfl (lv_at hl 0 rfl) ?_
        refine va_get (D := (dC, dI)) (ci := 5) (v := .ref (qm 17)) (C := nM) (T := TM) (N := 26) hx hb hg inM hown hK hP 0 rfl rfl 22 (by decide) (hg _ kM_60) (fun _ h9 => h9) rfl dM_isBetter_62 ?_
        refine rn_iconst hx hb 5 dM_isBetter_65 (by decide) ?_
        refine lv_iload_n hx hb dM_isBetter_66 rfl (lv_at hl 2 rfl) ?_
        refine rn_imul hx hb dM_isBetter_67 ?_
        refine lv_iload_n hx hb dM_isBetter_68 rfl (lv_at hl 3 rfl) ?_
        refine rn_iadd hx hb dM_isBetter_69 ?_
        refine ga_i (f := bp) hx hb hK hP 17 0 rfl rfl (by omega) (by decide) dM_isBetter_70 ?_
        refine rn_icmp_eq (tgt := 99) hx hb dM_isBetter_71 (by decide) (by omega) (by omega) (fun c71 => ?_) (fun c71 => ?_)
        · refine rn_iinc (lv' := [(3, .int (nI (i + 1))), (0, .ref (qm 0)), (1, .int (nI len)), (2, .int (nI k))]) hx hb dM_isBetter_99 hl (k := 3) rfl (by decide) rfl (fun ls hl => ?_)
          refine lv_goto (tgt := 40) hx hb dM_isBetter_102 (by decide) ?_
          exact ihL (i + 1) (by omega) (hq) (ag_s hag c71) (by omega) ls (lv_sub hl [1, 2, 3, 0] rfl)
        · exact kx1 i h1 hq hag (by omega) (c71) ls (lv_sub hl [0, 1, 2, 3] rfl)

set_option maxHeartbeats 4000000 in
set_option maxRecDepth 100000 in
theorem ct_M_isBetter (l : Launch) (dC : Nat → ClassId) (dI : Nat → Nat → Nat) (cI cJ cZ : ClassId) (qm : Nat → Nat) (lv mw mh mk : Nat → Nat) (pc mc kc : Nat) (bg en sc wd ht oh bt : Nat → Nat) (co n : Nat) (sh ba : Nat → Bool) (rm nm bs bc bp on wh : Nat → Nat) (cd sl fo : Nat) (len k : Nat) (hG : bGp lv mw mh mk pc mc kc) (hB : bP bg en sc wd ht oh bt co n) (hbp : ∀ j, bp j < 40) (hbc : ∀ j, bc j ≤ 5) (hbs : ∀ j, bs j ≤ 60000000) (hol : ∀ j, j < len → on j < 40) (hl5 : len ≤ 5) (hk5 : k < 5) (hwl : wh len ≤ 60000000) (hlx : ∃ i, i < len ∧ i < bc k ∧ (∀ j, j < i → on j = bp (5 * k + j)) ∧ bp (5 * k + i) < on i) : Met l yM_isBetter wsM_isBetter ({ frames := 0, cells := 0, slots := 0, locals := 0 }) (PcR (dC, dI) (wM cI cJ cZ qm lv bg en sc wd ht sh oh ba mw mh mk rm nm bs bc bp on wh cd pc n mc kc sl fo) (tyE cI cJ cZ) [.ref (qm 0), .int (nI len), .int (nI k)]) (vp_Si (fun r => r = bI (decide (wh len < bs k)))) 0 0 (fun _ => False) := by
  refine Met.ofW (cc := cM_isBetter) (maxL := 4) (ret := (some .boolean)) (by decide) rfl ?_
  intro p e s m args below meth c s₁ B hml hv
  obtain ⟨rfl, hP, hK, hE⟩ := hv
  have hx := B.exec
  have hb := B.bytes
  have hr := B.returns
  have hts := atoms_spec (ws := wsM_isBetter) B.pre
  have hg : ∀ w ∈ gw, w.before _ s = true := fun w h => hts w (List.mem_cons_of_mem _ h)
  have hown : s.vm.findClass nM = some m.cls := findClass_of_methodNamed B.named
  have hlocks := B.notSynchronized
  have hR : 0 ≤ (headSpec wsM_isBetter ({ frames := 0, cells := 0, slots := 0, locals := 0 })).room.frames ∧ 0 ≤ (headSpec wsM_isBetter ({ frames := 0, cells := 0, slots := 0, locals := 0 })).room.locals := ⟨Nat.le_refl _, Nat.le_refl _⟩
  have hcs : 0 ≤ (headSpec wsM_isBetter ({ frames := 0, cells := 0, slots := 0, locals := 0 })).room.cells ∧ 0 ≤ (headSpec wsM_isBetter ({ frames := 0, cells := 0, slots := 0, locals := 0 })).room.slots := ⟨Nat.zero_le _, Nat.zero_le _⟩
  have hpc := hG.1
  have hmc := hG.2.1
  have hkc := hG.2.2.1
  have hgi := hG.2.2.2
  have hbi := hB.2.2
  have hn := hB.1
  have hco := hB.2.1
  have hbk := hbs k
  have hck := hbc k
  have hl := lv_entry ([.ref (qm 0), .int (nI len), .int (nI k)]) (n := 4) (Nat.le_of_ble_eq_true rfl)
  rw [lg_entry_eq]
  generalize (lg_sl ([.ref (qm 0), .int (nI len), .int (nI k)]) ++ List.replicate (4 - (lg_sl ([.ref (qm 0), .int (nI len), .int (nI k)])).length) Slot.unset).toArray = ls at hl ⊢
  have hl : lv_has ls 4 [(0, .ref (qm 0)), (1, .int (nI len)), (2, .int (nI k))] := hl
  refine lv_aload_n hx hb dM_isBetter_0 rfl (lv_at hl 0 rfl) ?_
  refine va_get (D := (dC, dI)) (ci := 5) (v := .ref (qm 19)) (C := nM) (T := TM) (N := 26) hx hb hg inM hown hK hP 0 rfl rfl 25 (by decide) (hg _ kM_66) (fun _ h9 => h9) rfl dM_isBetter_1 ?_
  refine lv_iload_n hx hb dM_isBetter_4 rfl (lv_at hl 1 rfl) ?_
  refine ga_l (f := wh) hx hb hK hP 19 1 rfl rfl (by omega) (by decide) dM_isBetter_5 ?_
  refine lv_aload_n hx hb dM_isBetter_6 rfl (lv_at hl 0 rfl) ?_
  refine va_get (D := (dC, dI)) (ci := 5) (v := .ref (qm 15)) (C := nM) (T := TM) (N := 26) hx hb hg inM hown hK hP 0 rfl rfl 20 (by decide) (hg _ kM_54) (fun _ h9 => h9) rfl dM_isBetter_7 ?_
  refine lv_iload_n hx hb dM_isBetter_10 rfl (lv_at hl 2 rfl) ?_
  refine ga_l (f := bs) hx hb hK hP 15 1 rfl rfl (by omega) (by decide) dM_isBetter_11 ?_
  refine rn_lcmp_eq (tgt := 38) hx hb dM_isBetter_12 dM_isBetter_13 (by decide) (by omega) (by omega) (fun c13 => ?_) (fun c13 => ?_)
  · refine rn_iconst hx hb 0 dM_isBetter_38 (by decide) ?_
    refine lv_istore_n (lv' := [(3, .int (nI 0)), (0, .ref (qm 0)), (1, .int (nI len)), (2, .int (nI k))]) hx hb dM_isBetter_39 rfl hl (by decide) rfl (fun ls hl => ?_)
    refine lp_M_better qm lv mw mh mk pc mc kc bg en sc wd ht oh bt co n sh ba rm nm bs bc bp on wh cd sl fo len k hG hB hbp hbc hbs hol hl5 hk5 hwl hlx hx hb hml hown hts hK hP hE (by first | exact hR | exact ⟨Nat.le_trans (by decide) hR.1, Nat.le_trans (by decide) hR.2⟩) hcs (fun i h1 hq hag hx0 ls hl => ?_) (fun i h1 hq hag hx1 hx2 ls hl => ?_) ((len - 0) + 1) 0 (by omega) (c13) (fun j hj => absurd hj (Nat.not_lt_zero _)) (by omega) ls (lv_sub hl [1, 2, 3, 0] rfl)
    · exact absurd (lxb_2 hlx hag hx0) id
    · have hoi := hol i hx1
      have hbi9 := hbp (5 * k + i)
      have hlt := lxb_1 hlx hag hx2
      refine lv_aload_n hx hb dM_isBetter_74 rfl (lv_at hl 0 rfl) ?_
      refine va_get (D := (dC, dI)) (ci := 5) (v := .ref (qm 18)) (C := nM) (T := TM) (N := 26) hx hb hg inM hown hK hP 0 rfl rfl 24 (by decide) (hg _ kM_63) (fun _ h9 => h9) rfl dM_isBetter_75 ?_
      refine lv_iload_n hx hb dM_isBetter_78 rfl (lv_at hl 3 rfl) ?_
      refine ga_i (f := on) hx hb hK hP 18 0 rfl rfl (by omega) (by decide) dM_isBetter_79 ?_
      refine lv_aload_n hx hb dM_isBetter_80 rfl (lv_at hl 0 rfl) ?_
      refine va_get (D := (dC, dI)) (ci := 5) (v := .ref (qm 17)) (C := nM) (T := TM) (N := 26) hx hb hg inM hown hK hP 0 rfl rfl 22 (by decide) (hg _ kM_60) (fun _ h9 => h9) rfl dM_isBetter_81 ?_
      refine rn_iconst hx hb 5 dM_isBetter_84 (by decide) ?_
      refine lv_iload_n hx hb dM_isBetter_85 rfl (lv_at hl 2 rfl) ?_
      refine rn_imul hx hb dM_isBetter_86 ?_
      refine lv_iload_n hx hb dM_isBetter_87 rfl (lv_at hl 3 rfl) ?_
      refine rn_iadd hx hb dM_isBetter_88 ?_
      refine ga_i (f := bp) hx hb hK hP 17 0 rfl rfl (by omega) (by decide) dM_isBetter_89 ?_
      refine rn_icmp_ge (tgt := 97) hx hb dM_isBetter_90 (by decide) (by omega) (by omega) (fun c90 => ?_) (fun c90 => ?_)
      · refine rn_iconst hx hb 0 dM_isBetter_97 (by decide) ?_
        exact W.zret hx hb hr rfl (fun t ht hW => ⟨_, rfl, (by first | (rw [decide_eq_true (show wh len < bs k by omega)]; rfl) | (rw [decide_eq_false (show ¬ wh len < bs k by omega)]; rfl)), ht⟩) (fun _ h9 => nomatch h9) dM_isBetter_98
      · exact absurd hlt (by omega)
  · refine lv_aload_n hx hb dM_isBetter_16 rfl (lv_at hl 0 rfl) ?_
    refine va_get (D := (dC, dI)) (ci := 5) (v := .ref (qm 19)) (C := nM) (T := TM) (N := 26) hx hb hg inM hown hK hP 0 rfl rfl 25 (by decide) (hg _ kM_66) (fun _ h9 => h9) rfl dM_isBetter_17 ?_
    refine lv_iload_n hx hb dM_isBetter_20 rfl (lv_at hl 1 rfl) ?_
    refine ga_l (f := wh) hx hb hK hP 19 1 rfl rfl (by omega) (by decide) dM_isBetter_21 ?_
    refine lv_aload_n hx hb dM_isBetter_22 rfl (lv_at hl 0 rfl) ?_
    refine va_get (D := (dC, dI)) (ci := 5) (v := .ref (qm 15)) (C := nM) (T := TM) (N := 26) hx hb hg inM hown hK hP 0 rfl rfl 20 (by decide) (hg _ kM_54) (fun _ h9 => h9) rfl dM_isBetter_23 ?_
    refine lv_iload_n hx hb dM_isBetter_26 rfl (lv_at hl 2 rfl) ?_
    refine ga_l (f := bs) hx hb hK hP 15 1 rfl rfl (by omega) (by decide) dM_isBetter_27 ?_
    refine rn_lcmp_ge (tgt := 36) hx hb dM_isBetter_28 dM_isBetter_29 (by decide) (by omega) (by omega) (fun c29 => ?_) (fun c29 => ?_)
    · refine rn_iconst hx hb 0 dM_isBetter_36 (by decide) ?_
      exact W.zret hx hb hr rfl (fun t ht hW => ⟨_, rfl, (by first | (rw [decide_eq_true (show wh len < bs k by omega)]; rfl) | (rw [decide_eq_false (show ¬ wh len < bs k by omega)]; rfl)), ht⟩) (fun _ h9 => nomatch h9) dM_isBetter_37
    · refine rn_iconst hx hb 1 dM_isBetter_32 (by decide) ?_
      refine lv_goto (tgt := 37) hx hb dM_isBetter_33 (by decide) ?_
      exact W.zret hx hb hr rfl (fun t ht hW => ⟨_, rfl, (by first | (rw [decide_eq_true (show wh len < bs k by omega)]; rfl) | (rw [decide_eq_false (show ¬ wh len < bs k by omega)]; rfl)), ht⟩) (fun _ h9 => nomatch h9) dM_isBetter_37

section MSH
variable {f v : Nat → Nat} {k c i : Nat}
theorem msh_0 (h : i + 1 = c) : f = msh f i c := by
  funext j
  unfold msh
  rw [if_neg (by omega)]
theorem mshP_0 (h : i + 1 = c) : f = mshP f i c := by
  funext j
  unfold mshP
  rw [if_neg (by omega)]
theorem msh_s (hv : v = msh f (i + 1) c) (hi : i + 1 < c) : va_up v (i + 1) (v (i + 1 - 1)) = msh f i c := by
  subst hv
  funext j
  by_cases e : j = i + 1
  · subst e
    rw [va_up_self]
    unfold msh
    rw [if_neg (by omega), if_pos (by omega)]
  · rw [va_up_ne _ _ e]
    unfold msh
    by_cases q : i + 1 < j ∧ j < c
    · rw [if_pos q, if_pos (by omega)]
    · rw [if_neg q, if_neg (by omega)]
def mid (f : Nat → Nat) (i x : Nat) : Nat → Nat := fun j => if 5 * i ≤ j ∧ j < 5 * i + x then f (j - 5) else f j
theorem mid_0 : f = mid f i 0 := by
  funext j
  unfold mid
  rw [if_neg (by omega)]
theorem mid_s {x : Nat} (hv : v = mid f (i + 1) x) (hx : x < 5) : va_up v (5 * (i + 1) + x) (v (5 * (i + 1 - 1) + x)) = mid f (i + 1) (x + 1) := by
  subst hv
  funext j
  by_cases e : j = 5 * (i + 1) + x
  · subst e
    rw [va_up_self]
    unfold mid
    rw [if_neg (by omega), if_pos (by omega)]
    congr 1; omega
  · rw [va_up_ne _ _ e]
    unfold mid
    by_cases q : 5 * (i + 1) ≤ j ∧ j < 5 * (i + 1) + x
    · rw [if_pos q, if_pos (by omega)]
    · rw [if_neg q, if_neg (by omega)]
theorem mid_e {g : Nat → Nat} {x : Nat} (hv : v = mid g (i + 1) x) (hx : x = 5) (hg : g = mshP f (i + 1) c) (hi : i + 1 < c) : v = mshP f i c := by
  subst hv
  subst hg
  subst hx
  funext j
  unfold mid mshP
  by_cases q : 5 * (i + 1) ≤ j ∧ j < 5 * (i + 1) + 5
  · rw [if_pos q, if_neg (by omega), if_pos (by omega)]
  · rw [if_neg q]
    by_cases q2 : 5 * (i + 1) + 5 ≤ j ∧ j < 5 * c
    · rw [if_pos q2, if_pos (by omega)]
    · rw [if_neg q2, if_neg (by omega)]
def cpP (tr g : Nat → Nat) (k x : Nat) : Nat → Nat := fun j => if 5 * k ≤ j ∧ j < 5 * k + x then tr (j - 5 * k) else g j
theorem cpP_0 {tr g : Nat → Nat} : g = cpP tr g k 0 := by
  funext j
  unfold cpP
  rw [if_neg (by omega)]
theorem cpP_s {tr g : Nat → Nat} {x : Nat} (hv : v = cpP tr g k x) : va_up v (5 * k + x) (tr x) = cpP tr g k (x + 1) := by
  subst hv
  funext j
  by_cases e : j = 5 * k + x
  · subst e
    rw [va_up_self]
    unfold cpP
    rw [if_pos (by omega)]
    congr 1; omega
  · rw [va_up_ne _ _ e]
    unfold cpP
    by_cases q : 5 * k ≤ j ∧ j < 5 * k + x
    · rw [if_pos q, if_pos (by omega)]
    · rw [if_neg q, if_neg (by omega)]
end MSH
theorem k0_of {k : Nat} (hk : k ≤ 5) (h : nI k ≤ 0) : k = 0 := by
  rw [Int32.le_iff_toInt_le, nI_toInt (by omega), Int32.toInt_zero] at h
  omega
theorem kp_of {k : Nat} (h : ¬ nI k ≤ 0) : k ≠ 0 := fun q => h (by rw [q]; decide)

theorem kg_s {bs : Nat → Nat} {t k fo : Nat} (h : ∀ r, k + 1 ≤ r → r < fo → t < bs r) (c : decide (t < bs k) = true) : ∀ r, k ≤ r → r < fo → t < bs r := by
  intro r h1 h2
  by_cases e : r = k
  · subst e; exact of_decide_eq_true c
  · exact h r (by omega) h2
theorem kg_e {bs : Nat → Nat} {t k fo : Nat} (hk : k ≤ fo) (h : ∀ r, k ≤ r → r < fo → t < bs r) (hs : ∀ i j, i ≤ j → j < fo → bs i ≤ bs j) (hx : k = 0 ∨ ¬ t < bs (k - 1)) : rkF bs t fo = k := by
  refine rkF_eq hk (fun r hr => ?_) (fun q => h k (Nat.le_refl _) q)
  rcases hx with hx | hx
  · omega
  · have := hs r (k - 1) (by omega) (by omega)
    omega

set_option maxHeartbeats 4000000 in
set_option maxRecDepth 100000 in
theorem lp_M_keep4 {p : Program} {l : Launch} {e : Env} {R : Room} {s : State} {m : MethodId} {args : Array Value} {below : List Frame} {meth : Method} {c : Code} {cells slots : Nat} {Q : State → Prop} {dC : Nat → ClassId} {dI : Nat → Nat → Nat} {cI cJ cZ : ClassId} {A : Nat → Prop} (qm : Nat → Nat) (lv mw mh mk : Nat → Nat) (pc mc kc : Nat) (bg en sc wd ht oh bt : Nat → Nat) (co n : Nat) (sh ba : Nat → Bool) (rm nm bs bc bp on wh : Nat → Nat) (cd sl fo : Nat) (len : Nat) (hG : bGp lv mw mh mk pc mc kc) (hB : bP bg en sc wd ht oh bt co n) (hbp : ∀ j, bp j < 40) (hbc : ∀ j, bc j ≤ 5) (hbs : ∀ j, bs j ≤ 60000000) (hol : ∀ j, j < len → on j < 40) (hl1 : 1 ≤ len) (hl5 : len ≤ 5) (hwl : wh len ≤ 60000000) (hfo : fo ≤ 5) (hsrt : ∀ i j, i ≤ j → j < fo → bs i ≤ bs j) (hlxa : ∀ r, r < fo → ∃ i, i < len ∧ i < bc r ∧ (∀ j, j < i → on j = bp (5 * r + j)) ∧ bp (5 * r + i) < on i) (k : Nat) (hx : p.tables.exec = Jvm.exec) (hb : c.code = cM_keep) (hml : c.maxLocals = 5) (hown : s.vm.findClass nM = some m.cls) (hts : ∀ w ∈ wsM_keep, w.before args s = true) (hK : va_K (dC, dI) vwCl (tyE cI cJ cZ) s) (hE : EV s) (hA : ∀ q : Nat, s.heap.size ≤ q → A q) (hR : 0 ≤ R.frames ∧ 0 ≤ R.locals) (hcs : cells ≤ R.cells ∧ slots ≤ R.slots)
    (kx0 : ∀ (x9 : Nat) (w9 : Nat → Nat) (hrk : rkF bs (wh len) fo = k) (hk5 : k < 5) (hkf : k ≤ fo) (hx5 : x9 ≤ len) (hw9 : w9 = cpP on (mshP bp k (min (fo + 1) 5)) k x9) (hx0 : x9 = len) (H : Heap) (locs : List Loc), va_P (dC, dI) vwCl (wM cI cJ cZ qm lv bg en sc wd ht sh oh ba mw mh mk rm nm (va_up (msh bs k (min (fo + 1) 5)) k (wh len)) (va_up (msh bc k (min (fo + 1) 5)) k len) w9 on wh cd pc n mc kc sl (min (fo + 1) 5)) H → va_D A (wM cI cJ cZ qm lv bg en sc wd ht sh oh ba mw mh mk rm nm (va_up (msh bs k (min (fo + 1) 5)) k (wh len)) (va_up (msh bc k (min (fo + 1) 5)) k len) w9 on wh cd pc n mc kc sl (min (fo + 1) 5)) → va_S A s.heap H locs → ∀ ls : Array Slot, lv_has ls 5 [(0, .ref (qm 0)), (1, .int (nI len)), (2, .int (nI k)), (3, .int (nI x9))] →  W p l e R s m args below meth c H locs cells slots Q (F0 m 187 ls []))
    : ∀ (fu : Nat) (x9 : Nat) (w9 : Nat → Nat) (hrk : rkF bs (wh len) fo = k) (hk5 : k < 5) (hkf : k ≤ fo) (hx5 : x9 ≤ len) (hw9 : w9 = cpP on (mshP bp k (min (fo + 1) 5)) k x9), len - x9 < fu → ∀ (H : Heap) (locs : List Loc), va_P (dC, dI) vwCl (wM cI cJ cZ qm lv bg en sc wd ht sh oh ba mw mh mk rm nm (va_up (msh bs k (min (fo + 1) 5)) k (wh len)) (va_up (msh bc k (min (fo + 1) 5)) k len) w9 on wh cd pc n mc kc sl (min (fo + 1) 5)) H → va_D A (wM cI cJ cZ qm lv bg en sc wd ht sh oh ba mw mh mk rm nm (va_up (msh bs k (min (fo + 1) 5)) k (wh len)) (va_up (msh bc k (min (fo + 1) 5)) k len) w9 on wh cd pc n mc kc sl (min (fo + 1) 5)) → va_S A s.heap H locs → ∀ ls : Array Slot, lv_has ls 5 [(0, .ref (qm 0)), (1, .int (nI len)), (2, .int (nI k)), (3, .int (nI x9))] →  W p l e R s m args below meth c H locs cells slots Q (F0 m 160 ls []) := by
  have hg : ∀ w ∈ gw, w.before args s = true := fun w h => hts w (List.mem_cons_of_mem _ h)
  have hpc := hG.1
  have hmc := hG.2.1
  have hkc := hG.2.2.1
  have hgi := hG.2.2.2
  have hbi := hB.2.2
  have hn := hB.1
  have hco := hB.2.1
  intro fu
  induction fu with
  | zero => intro x9 w9 hrk hk5 hkf hx5 hw9 h0; exact absurd h0 (Nat.not_lt_zero _)
  | succ fu ihL =>
    intro x9 w9 hrk hk5 hkf hx5 hw9 hfu H locs hP hD hS ls hl
    refine lv_iload_n hx hb dM_keep_160 rfl (lv_at hl 3 rfl) ?_
    refine lv_iload_n hx hb dM_keep_161 rfl (lv_at hl 1 rfl) ?_
    refine rn_icmp_ge (tgt := 187) hx hb dM_keep_162 (by decide) (by omega) (by omega) (fun c162 => ?_) (fun c162 => ?_)
    · exact kx0 x9 w9 hrk hk5 hkf hx5 hw9 (by omega) H locs hP hD hS ls (lv_sub hl [0, 1, 2, 3] rfl)
    · refine lv_aload_n hx hb dM_keep_165 rfl (lv_at hl 0 rfl) ?_
      refine va_get (D := (dC, dI)) (ci := 5) (v := .ref (qm 17)) (C := nM) (T := TM) (N := 26) hx hb hg inM hown hK hP 0 rfl rfl 22 (by decide) (hg _ kM_60) (fun _ h9 => h9) rfl dM_keep_166 ?_
      refine rn_iconst hx hb 5 dM_keep_169 (by decide) ?_
      refine lv_iload_n hx hb dM_keep_170 rfl (lv_at hl 2 rfl) ?_
      refine rn_imul hx hb dM_keep_171 ?_
      refine lv_iload_n hx hb dM_keep_172 rfl (lv_at hl 3 rfl) ?_
      refine rn_iadd hx hb dM_keep_173 ?_
      refine lv_aload_n hx hb dM_keep_174 rfl (lv_at hl 0 rfl) ?_
      refine va_get (D := (dC, dI)) (ci := 5) (v := .ref (qm 18)) (C := nM) (T := TM) (N := 26) hx hb hg inM hown hK hP 0 rfl rfl 24 (by decide) (hg _ kM_63) (fun _ h9 => h9) rfl dM_keep_175 ?_
      refine lv_iload_n hx hb dM_keep_178 rfl (lv_at hl 3 rfl) ?_
      refine ga_i (f := on) hx hb hK hP 18 0 rfl rfl (by omega) (by decide) dM_keep_179 ?_
      refine sa_i (f := w9) (v := on x9) hx hb hK hP hD hS 17 0 rfl rfl (by omega) (by decide) dM_keep_180 (fun H locs hP hD hS => ?_)
      have hP : va_P (dC, dI) vwCl (wM cI cJ cZ qm lv bg en sc wd ht sh oh ba mw mh mk rm nm (va_up (msh bs k (min (fo + 1) 5)) k (wh len)) (va_up (msh bc k (min (fo + 1) 5)) k len) (va_up w9 ((5 * k) + x9) (on x9)) on wh cd pc n mc kc sl (min (fo + 1) 5)) H := hP
      have hD : va_D A (wM cI cJ cZ qm lv bg en sc wd ht sh oh ba mw mh mk rm nm (va_up (msh bs k (min (fo + 1) 5)) k (wh len)) (va_up (msh bc k (min (fo + 1) 5)) k len) (va_up w9 ((5 * k) + x9) (on x9)) on wh cd pc n mc kc sl (min (fo + 1) 5)) := hD
      refine rn_iinc (lv' := [(3, .int (nI (x9 + 1))), (0, .ref (qm 0)), (1, .int (nI len)), (2, .int (nI k))]) hx hb dM_keep_181 hl (k := 3) rfl (by decide) rfl (fun ls hl => ?_)
      refine lv_goto (tgt := 160) hx hb dM_keep_184 (by decide) ?_
      exact ihL (x9 + 1) (va_up w9 ((5 * k) + x9) (on x9)) (hrk) (hk5) (hkf) (by omega) (cpP_s hw9) (by omega) H locs hP hD hS ls (lv_sub hl [1, 2, 3, 0] rfl)

set_option maxHeartbeats 4000000 in
set_option maxRecDepth 100000 in
theorem lp_M_keep3 {p : Program} {l : Launch} {e : Env} {R : Room} {s : State} {m : MethodId} {args : Array Value} {below : List Frame} {meth : Method} {c : Code} {cells slots : Nat} {Q : State → Prop} {dC : Nat → ClassId} {dI : Nat → Nat → Nat} {cI cJ cZ : ClassId} {A : Nat → Prop} (qm : Nat → Nat) (lv mw mh mk : Nat → Nat) (pc mc kc : Nat) (bg en sc wd ht oh bt : Nat → Nat) (co n : Nat) (sh ba : Nat → Bool) (rm nm bs bc bp on wh : Nat → Nat) (cd sl fo : Nat) (len : Nat) (hG : bGp lv mw mh mk pc mc kc) (hB : bP bg en sc wd ht oh bt co n) (hbp : ∀ j, bp j < 40) (hbc : ∀ j, bc j ≤ 5) (hbs : ∀ j, bs j ≤ 60000000) (hol : ∀ j, j < len → on j < 40) (hl1 : 1 ≤ len) (hl5 : len ≤ 5) (hwl : wh len ≤ 60000000) (hfo : fo ≤ 5) (hsrt : ∀ i j, i ≤ j → j < fo → bs i ≤ bs j) (hlxa : ∀ r, r < fo → ∃ i, i < len ∧ i < bc r ∧ (∀ j, j < i → on j = bp (5 * r + j)) ∧ bp (5 * r + i) < on i) (k : Nat) (i : Nat) (v : Nat → Nat) (vn : Nat → Nat) (vp : Nat → Nat) (hx : p.tables.exec = Jvm.exec) (hb : c.code = cM_keep) (hml : c.maxLocals = 5) (hown : s.vm.findClass nM = some m.cls) (hts : ∀ w ∈ wsM_keep, w.before args s = true) (hK : va_K (dC, dI) vwCl (tyE cI cJ cZ) s) (hE : EV s) (hA : ∀ q : Nat, s.heap.size ≤ q → A q) (hR : 0 ≤ R.frames ∧ 0 ≤ R.locals) (hcs : cells ≤ R.cells ∧ slots ≤ R.slots)
    (kx0 : ∀ (x9 : Nat) (w9 : Nat → Nat) (hx5 : x9 ≤ 5) (hw9 : w9 = mid vp (i + 1) x9) (hk5 : k < 5) (hic : i + 1 < min (fo + 1) 5) (hx0 : x9 = 5) (H : Heap) (locs : List Loc), va_P (dC, dI) vwCl (wM cI cJ cZ qm lv bg en sc wd ht sh oh ba mw mh mk rm nm (va_up v (i + 1) (v (i + 1 - 1))) (va_up vn (i + 1) (vn (i + 1 - 1))) w9 on wh cd pc n mc kc sl (min (fo + 1) 5)) H → va_D A (wM cI cJ cZ qm lv bg en sc wd ht sh oh ba mw mh mk rm nm (va_up v (i + 1) (v (i + 1 - 1))) (va_up vn (i + 1) (vn (i + 1 - 1))) w9 on wh cd pc n mc kc sl (min (fo + 1) 5)) → va_S A s.heap H locs → ∀ ls : Array Slot, lv_has ls 5 [(0, .ref (qm 0)), (1, .int (nI len)), (2, .int (nI k)), (3, .int (nI (i + 1))), (4, .int (nI x9))] →  W p l e R s m args below meth c H locs cells slots Q (F0 m 133 ls []))
    : ∀ (fu : Nat) (x9 : Nat) (w9 : Nat → Nat) (hx5 : x9 ≤ 5) (hw9 : w9 = mid vp (i + 1) x9) (hk5 : k < 5) (hic : i + 1 < min (fo + 1) 5), 5 - x9 < fu → ∀ (H : Heap) (locs : List Loc), va_P (dC, dI) vwCl (wM cI cJ cZ qm lv bg en sc wd ht sh oh ba mw mh mk rm nm (va_up v (i + 1) (v (i + 1 - 1))) (va_up vn (i + 1) (vn (i + 1 - 1))) w9 on wh cd pc n mc kc sl (min (fo + 1) 5)) H → va_D A (wM cI cJ cZ qm lv bg en sc wd ht sh oh ba mw mh mk rm nm (va_up v (i + 1) (v (i + 1 - 1))) (va_up vn (i + 1) (vn (i + 1 - 1))) w9 on wh cd pc n mc kc sl (min (fo + 1) 5)) → va_S A s.heap H locs → ∀ ls : Array Slot, lv_has ls 5 [(0, .ref (qm 0)), (1, .int (nI len)), (2, .int (nI k)), (3, .int (nI (i + 1))), (4, .int (nI x9))] →  W p l e R s m args below meth c H locs cells slots Q (F0 m 97 ls []) := by
  have hg : ∀ w ∈ gw, w.before args s = true := fun w h => hts w (List.mem_cons_of_mem _ h)
  have hpc := hG.1
  have hmc := hG.2.1
  have hkc := hG.2.2.1
  have hgi := hG.2.2.2
  have hbi := hB.2.2
  have hn := hB.1
  have hco := hB.2.1
  intro fu
  induction fu with
  | zero => intro x9 w9 hx5 hw9 hk5 hic h0; exact absurd h0 (Nat.not_lt_zero _)
  | succ fu ihL =>
    intro x9 w9 hx5 hw9 hk5 hic hfu H locs hP hD hS ls hl
    refine lv_iload hx hb dM_keep_97 (lv_at hl 4 rfl) ?_
    refine rn_iconst hx hb 5 dM_keep_99 (by decide) ?_
    refine rn_icmp_ge (tgt := 133) hx hb dM_keep_100 (by decide) (by omega) (by omega) (fun c100 => ?_) (fun c100 => ?_)
    · exact kx0 x9 w9 hx5 hw9 hk5 hic (by omega) H locs hP hD hS ls (lv_sub hl [0, 1, 2, 3, 4] rfl)
    · refine lv_aload_n hx hb dM_keep_103 rfl (lv_at hl 0 rfl) ?_
      refine va_get (D := (dC, dI)) (ci := 5) (v := .ref (qm 17)) (C := nM) (T := TM) (N := 26) hx hb hg inM hown hK hP 0 rfl rfl 22 (by decide) (hg _ kM_60) (fun _ h9 => h9) rfl dM_keep_104 ?_
      refine rn_iconst hx hb 5 dM_keep_107 (by decide) ?_
      refine lv_iload_n hx hb dM_keep_108 rfl (lv_at hl 3 rfl) ?_
      refine rn_imul hx hb dM_keep_109 ?_
      refine lv_iload hx hb dM_keep_110 (lv_at hl 4 rfl) ?_
      refine rn_iadd hx hb dM_keep_112 ?_
      refine lv_aload_n hx hb dM_keep_113 rfl (lv_at hl 0 rfl) ?_
      refine va_get (D := (dC, dI)) (ci := 5) (v := .ref (qm 17)) (C := nM) (T := TM) (N := 26) hx hb hg inM hown hK hP 0 rfl rfl 22 (by decide) (hg _ kM_60) (fun _ h9 => h9) rfl dM_keep_114 ?_
      refine rn_iconst hx hb 5 dM_keep_117 (by decide) ?_
      refine lv_iload_n hx hb dM_keep_118 rfl (lv_at hl 3 rfl) ?_
      refine rn_iconst hx hb 1 dM_keep_119 (by decide) ?_
      refine rn_isub hx hb dM_keep_120 (by omega) ?_
      refine rn_imul hx hb dM_keep_121 ?_
      refine lv_iload hx hb dM_keep_122 (lv_at hl 4 rfl) ?_
      refine rn_iadd hx hb dM_keep_124 ?_
      refine ga_i (f := w9) hx hb hK hP 17 0 rfl rfl (by omega) (by decide) dM_keep_125 ?_
      refine sa_i (f := w9) (v := w9 ((5 * ((i + 1) - 1)) + x9)) hx hb hK hP hD hS 17 0 rfl rfl (by omega) (by decide) dM_keep_126 (fun H locs hP hD hS => ?_)
      have hP : va_P (dC, dI) vwCl (wM cI cJ cZ qm lv bg en sc wd ht sh oh ba mw mh mk rm nm (va_up v (i + 1) (v (i + 1 - 1))) (va_up vn (i + 1) (vn (i + 1 - 1))) (va_up w9 ((5 * (i + 1)) + x9) (w9 ((5 * ((i + 1) - 1)) + x9))) on wh cd pc n mc kc sl (min (fo + 1) 5)) H := hP
      have hD : va_D A (wM cI cJ cZ qm lv bg en sc wd ht sh oh ba mw mh mk rm nm (va_up v (i + 1) (v (i + 1 - 1))) (va_up vn (i + 1) (vn (i + 1 - 1))) (va_up w9 ((5 * (i + 1)) + x9) (w9 ((5 * ((i + 1) - 1)) + x9))) on wh cd pc n mc kc sl (min (fo + 1) 5)) := hD
      refine rn_iinc (lv' := [(4, .int (nI (x9 + 1))), (0, .ref (qm 0)), (1, .int (nI len)), (2, .int (nI k)), (3, .int (nI (i + 1)))]) hx hb dM_keep_127 hl (k := 4) rfl (by decide) rfl (fun ls hl => ?_)
      refine lv_goto (tgt := 97) hx hb dM_keep_130 (by decide) ?_
      exact ihL (x9 + 1) (va_up w9 ((5 * (i + 1)) + x9) (w9 ((5 * ((i + 1) - 1)) + x9))) (by omega) (mid_s hw9 (by omega)) (hk5) (hic) (by omega) H locs hP hD hS ls (lv_sub hl [1, 2, 3, 4, 0] rfl)

set_option maxHeartbeats 4000000 in
set_option maxRecDepth 100000 in
theorem lp_M_keep2 {p : Program} {l : Launch} {e : Env} {R : Room} {s : State} {m : MethodId} {args : Array Value} {below : List Frame} {meth : Method} {c : Code} {cells slots : Nat} {Q : State → Prop} {dC : Nat → ClassId} {dI : Nat → Nat → Nat} {cI cJ cZ : ClassId} {A : Nat → Prop} (qm : Nat → Nat) (lv mw mh mk : Nat → Nat) (pc mc kc : Nat) (bg en sc wd ht oh bt : Nat → Nat) (co n : Nat) (sh ba : Nat → Bool) (rm nm bs bc bp on wh : Nat → Nat) (cd sl fo : Nat) (len : Nat) (hG : bGp lv mw mh mk pc mc kc) (hB : bP bg en sc wd ht oh bt co n) (hbp : ∀ j, bp j < 40) (hbc : ∀ j, bc j ≤ 5) (hbs : ∀ j, bs j ≤ 60000000) (hol : ∀ j, j < len → on j < 40) (hl1 : 1 ≤ len) (hl5 : len ≤ 5) (hwl : wh len ≤ 60000000) (hfo : fo ≤ 5) (hsrt : ∀ i j, i ≤ j → j < fo → bs i ≤ bs j) (hlxa : ∀ r, r < fo → ∃ i, i < len ∧ i < bc r ∧ (∀ j, j < i → on j = bp (5 * r + j)) ∧ bp (5 * r + i) < on i) (k : Nat) (hx : p.tables.exec = Jvm.exec) (hb : c.code = cM_keep) (hml : c.maxLocals = 5) (hown : s.vm.findClass nM = some m.cls) (hts : ∀ w ∈ wsM_keep, w.before args s = true) (hK : va_K (dC, dI) vwCl (tyE cI cJ cZ) s) (hE : EV s) (hA : ∀ q : Nat, s.heap.size ≤ q → A q) (hR : 0 ≤ R.frames ∧ 0 ≤ R.locals) (hcs : cells ≤ R.cells ∧ slots ≤ R.slots)
    (kx0 : ∀ (i : Nat) (v : Nat → Nat) (vn : Nat → Nat) (vp : Nat → Nat) (hrk : rkF bs (wh len) fo = k) (hk5 : k < 5) (hkf : k ≤ fo) (hki : k ≤ i) (hi5 : i < min (fo + 1) 5) (hv : v = msh bs i (min (fo + 1) 5)) (hvn : vn = msh bc i (min (fo + 1) 5)) (hvp : vp = mshP bp i (min (fo + 1) 5)) (hx0 : i = k) (H : Heap) (locs : List Loc), va_P (dC, dI) vwCl (wM cI cJ cZ qm lv bg en sc wd ht sh oh ba mw mh mk rm nm v vn vp on wh cd pc n mc kc sl (min (fo + 1) 5)) H → va_D A (wM cI cJ cZ qm lv bg en sc wd ht sh oh ba mw mh mk rm nm v vn vp on wh cd pc n mc kc sl (min (fo + 1) 5)) → va_S A s.heap H locs → ∀ ls : Array Slot, lv_has ls 5 [(0, .ref (qm 0)), (1, .int (nI len)), (2, .int (nI k)), (3, .int (nI i))] →  W p l e R s m args below meth c H locs cells slots Q (F0 m 139 ls []))
    : ∀ (fu : Nat) (i : Nat) (v : Nat → Nat) (vn : Nat → Nat) (vp : Nat → Nat) (hrk : rkF bs (wh len) fo = k) (hk5 : k < 5) (hkf : k ≤ fo) (hki : k ≤ i) (hi5 : i < min (fo + 1) 5) (hv : v = msh bs i (min (fo + 1) 5)) (hvn : vn = msh bc i (min (fo + 1) 5)) (hvp : vp = mshP bp i (min (fo + 1) 5)), i < fu → ∀ (H : Heap) (locs : List Loc), va_P (dC, dI) vwCl (wM cI cJ cZ qm lv bg en sc wd ht sh oh ba mw mh mk rm nm v vn vp on wh cd pc n mc kc sl (min (fo + 1) 5)) H → va_D A (wM cI cJ cZ qm lv bg en sc wd ht sh oh ba mw mh mk rm nm v vn vp on wh cd pc n mc kc sl (min (fo + 1) 5)) → va_S A s.heap H locs → ∀ ls : Array Slot, lv_has ls 5 [(0, .ref (qm 0)), (1, .int (nI len)), (2, .int (nI k)), (3, .int (nI i))] →  W p l e R s m args below meth c H locs cells slots Q (F0 m 61 ls []) := by
  have hg : ∀ w ∈ gw, w.before args s = true := fun w h => hts w (List.mem_cons_of_mem _ h)
  have hpc := hG.1
  have hmc := hG.2.1
  have hkc := hG.2.2.1
  have hgi := hG.2.2.2
  have hbi := hB.2.2
  have hn := hB.1
  have hco := hB.2.1
  intro fu
  induction fu with
  | zero => intro i v vn vp hrk hk5 hkf hki hi5 hv hvn hvp h0; exact absurd h0 (Nat.not_lt_zero _)
  | succ fu ihL =>
    intro i v vn vp hrk hk5 hkf hki hi5 hv hvn hvp hfu H locs hP hD hS ls hl
    refine lv_iload_n hx hb dM_keep_61 rfl (lv_at hl 3 rfl) ?_
    refine lv_iload_n hx hb dM_keep_62 rfl (lv_at hl 2 rfl) ?_
    refine rn_icmp_le (tgt := 139) hx hb dM_keep_63 (by decide) (by omega) (by omega) (fun c63 => ?_) (fun c63 => ?_)
    · exact kx0 i v vn vp hrk hk5 hkf hki hi5 hv hvn hvp (by omega) H locs hP hD hS ls (lv_sub hl [0, 1, 2, 3] rfl)
    · obtain ⟨i, rfl⟩ : ∃ q, i = q + 1 := ⟨i - 1, by omega⟩
      refine lv_aload_n hx hb dM_keep_66 rfl (lv_at hl 0 rfl) ?_
      refine va_get (D := (dC, dI)) (ci := 5) (v := .ref (qm 15)) (C := nM) (T := TM) (N := 26) hx hb hg inM hown hK hP 0 rfl rfl 20 (by decide) (hg _ kM_54) (fun _ h9 => h9) rfl dM_keep_67 ?_
      refine lv_iload_n hx hb dM_keep_70 rfl (lv_at hl 3 rfl) ?_
      refine lv_aload_n hx hb dM_keep_71 rfl (lv_at hl 0 rfl) ?_
      refine va_get (D := (dC, dI)) (ci := 5) (v := .ref (qm 15)) (C := nM) (T := TM) (N := 26) hx hb hg inM hown hK hP 0 rfl rfl 20 (by decide) (hg _ kM_54) (fun _ h9 => h9) rfl dM_keep_72 ?_
      refine lv_iload_n hx hb dM_keep_75 rfl (lv_at hl 3 rfl) ?_
      refine rn_iconst hx hb 1 dM_keep_76 (by decide) ?_
      refine rn_isub hx hb dM_keep_77 (by omega) ?_
      refine ga_l (f := v) hx hb hK hP 15 1 rfl rfl (by omega) (by decide) dM_keep_78 ?_
      refine sa_l (f := v) (v := v ((i + 1) - 1)) hx hb hK hP hD hS 15 1 rfl rfl (by omega) (by decide) dM_keep_79 (fun H locs hP hD hS => ?_)
      have hP : va_P (dC, dI) vwCl (wM cI cJ cZ qm lv bg en sc wd ht sh oh ba mw mh mk rm nm (va_up v (i + 1) (v ((i + 1) - 1))) vn vp on wh cd pc n mc kc sl (min (fo + 1) 5)) H := hP
      have hD : va_D A (wM cI cJ cZ qm lv bg en sc wd ht sh oh ba mw mh mk rm nm (va_up v (i + 1) (v ((i + 1) - 1))) vn vp on wh cd pc n mc kc sl (min (fo + 1) 5)) := hD
      refine lv_aload_n hx hb dM_keep_80 rfl (lv_at hl 0 rfl) ?_
      refine va_get (D := (dC, dI)) (ci := 5) (v := .ref (qm 16)) (C := nM) (T := TM) (N := 26) hx hb hg inM hown hK hP 0 rfl rfl 21 (by decide) (hg _ kM_57) (fun _ h9 => h9) rfl dM_keep_81 ?_
      refine lv_iload_n hx hb dM_keep_84 rfl (lv_at hl 3 rfl) ?_
      refine lv_aload_n hx hb dM_keep_85 rfl (lv_at hl 0 rfl) ?_
      refine va_get (D := (dC, dI)) (ci := 5) (v := .ref (qm 16)) (C := nM) (T := TM) (N := 26) hx hb hg inM hown hK hP 0 rfl rfl 21 (by decide) (hg _ kM_57) (fun _ h9 => h9) rfl dM_keep_86 ?_
      refine lv_iload_n hx hb dM_keep_89 rfl (lv_at hl 3 rfl) ?_
      refine rn_iconst hx hb 1 dM_keep_90 (by decide) ?_
      refine rn_isub hx hb dM_keep_91 (by omega) ?_
      refine ga_i (f := vn) hx hb hK hP 16 0 rfl rfl (by omega) (by decide) dM_keep_92 ?_
      refine sa_i (f := vn) (v := vn ((i + 1) - 1)) hx hb hK hP hD hS 16 0 rfl rfl (by omega) (by decide) dM_keep_93 (fun H locs hP hD hS => ?_)
      have hP : va_P (dC, dI) vwCl (wM cI cJ cZ qm lv bg en sc wd ht sh oh ba mw mh mk rm nm (va_up v (i + 1) (v ((i + 1) - 1))) (va_up vn (i + 1) (vn ((i + 1) - 1))) vp on wh cd pc n mc kc sl (min (fo + 1) 5)) H := hP
      have hD : va_D A (wM cI cJ cZ qm lv bg en sc wd ht sh oh ba mw mh mk rm nm (va_up v (i + 1) (v ((i + 1) - 1))) (va_up vn (i + 1) (vn ((i + 1) - 1))) vp on wh cd pc n mc kc sl (min (fo + 1) 5)) := hD
      refine rn_iconst hx hb 0 dM_keep_94 (by decide) ?_
      refine lv_istore (lv' := [(4, .int (nI 0)), (0, .ref (qm 0)), (1, .int (nI len)), (2, .int (nI k)), (3, .int (nI (i + 1)))]) hx hb dM_keep_95 hl (by decide) rfl (fun ls hl => ?_)
      refine lp_M_keep3 qm lv mw mh mk pc mc kc bg en sc wd ht oh bt co n sh ba rm nm bs bc bp on wh cd sl fo len hG hB hbp hbc hbs hol hl1 hl5 hwl hfo hsrt hlxa k i v vn vp hx hb hml hown hts hK hE hA (by first | exact hR | exact ⟨Nat.le_trans (by decide) hR.1, Nat.le_trans (by decide) hR.2⟩) hcs (fun x9 w9 hx5 hw9 hk5 hic hx0 H locs hP hD hS ls hl => ?_) ((5 - 0) + 1) 0 vp (by omega) (mid_0) (hk5) (by omega) (by omega) _ _ hP hD hS ls (lv_sub hl [1, 2, 3, 4, 0] rfl)
      refine rn_iincm (lv' := [(3, .int (nI i)), (0, .ref (qm 0)), (1, .int (nI len)), (2, .int (nI k)), (4, .int (nI x9))]) hx hb dM_keep_133 hl (k := 3) rfl (by decide) rfl (fun ls hl => ?_)
      refine lv_goto (tgt := 61) hx hb dM_keep_136 (by decide) ?_
      exact ihL i (va_up v (i + 1) (v (i + 1 - 1))) (va_up vn (i + 1) (vn (i + 1 - 1))) w9 (hrk) (hk5) (hkf) (by omega) (by omega) (msh_s hv (by omega)) (msh_s hvn (by omega)) (mid_e hw9 hx0 hvp (by omega)) (by omega) H locs hP hD hS ls (lv_sub hl [1, 2, 3, 0] rfl)

set_option maxHeartbeats 4000000 in
set_option maxRecDepth 100000 in
theorem lp_M_keep1 {p : Program} {l : Launch} {e : Env} {R : Room} {s : State} {m : MethodId} {args : Array Value} {below : List Frame} {meth : Method} {c : Code} {cells slots : Nat} {Q : State → Prop} {dC : Nat → ClassId} {dI : Nat → Nat → Nat} {cI cJ cZ : ClassId} {A : Nat → Prop} (qm : Nat → Nat) (lv mw mh mk : Nat → Nat) (pc mc kc : Nat) (bg en sc wd ht oh bt : Nat → Nat) (co n : Nat) (sh ba : Nat → Bool) (rm nm bs bc bp on wh : Nat → Nat) (cd sl fo : Nat) (len : Nat) (hG : bGp lv mw mh mk pc mc kc) (hB : bP bg en sc wd ht oh bt co n) (hbp : ∀ j, bp j < 40) (hbc : ∀ j, bc j ≤ 5) (hbs : ∀ j, bs j ≤ 60000000) (hol : ∀ j, j < len → on j < 40) (hl1 : 1 ≤ len) (hl5 : len ≤ 5) (hwl : wh len ≤ 60000000) (hfo : fo ≤ 5) (hsrt : ∀ i j, i ≤ j → j < fo → bs i ≤ bs j) (hlxa : ∀ r, r < fo → ∃ i, i < len ∧ i < bc r ∧ (∀ j, j < i → on j = bp (5 * r + j)) ∧ bp (5 * r + i) < on i)  (hx : p.tables.exec = Jvm.exec) (hb : c.code = cM_keep) (hml : c.maxLocals = 5) (hown : s.vm.findClass nM = some m.cls) (hts : ∀ w ∈ wsM_keep, w.before args s = true) (hK : va_K (dC, dI) vwCl (tyE cI cJ cZ) s) (hE : EV s) (hA : ∀ q : Nat, s.heap.size ≤ q → A q) (hR : 1 ≤ R.frames ∧ 23 ≤ R.locals) (hcs : cells ≤ R.cells ∧ slots ≤ R.slots)
    (kx0 : ∀ (k : Nat) (hkf : k ≤ fo) (hgt : ∀ r, k ≤ r → r < fo → wh len < bs r) (hx0 : k = 0 ∨ ¬ wh len < bs (k - 1)) (H : Heap) (locs : List Loc), va_P (dC, dI) vwCl (wM cI cJ cZ qm lv bg en sc wd ht sh oh ba mw mh mk rm nm bs bc bp on wh cd pc n mc kc sl fo) H → va_D A (wM cI cJ cZ qm lv bg en sc wd ht sh oh ba mw mh mk rm nm bs bc bp on wh cd pc n mc kc sl fo) → va_S A s.heap H locs → ∀ ls : Array Slot, lv_has ls 5 [(0, .ref (qm 0)), (1, .int (nI len)), (2, .int (nI k))] →  W p l e R s m args below meth c H locs cells slots Q (F0 m 26 ls []))
    : ∀ (fu : Nat) (k : Nat) (hkf : k ≤ fo) (hgt : ∀ r, k ≤ r → r < fo → wh len < bs r), k < fu → ∀ (H : Heap) (locs : List Loc), va_P (dC, dI) vwCl (wM cI cJ cZ qm lv bg en sc wd ht sh oh ba mw mh mk rm nm bs bc bp on wh cd pc n mc kc sl fo) H → va_D A (wM cI cJ cZ qm lv bg en sc wd ht sh oh ba mw mh mk rm nm bs bc bp on wh cd pc n mc kc sl fo) → va_S A s.heap H locs → ∀ ls : Array Slot, lv_has ls 5 [(0, .ref (qm 0)), (1, .int (nI len)), (2, .int (nI k))] →  W p l e R s m args below meth c H locs cells slots Q (F0 m 5 ls []) := by
  have hg : ∀ w ∈ gw, w.before args s = true := fun w h => hts w (List.mem_cons_of_mem _ h)
  have hpc := hG.1
  have hmc := hG.2.1
  have hkc := hG.2.2.1
  have hgi := hG.2.2.2
  have hbi := hB.2.2
  have hn := hB.1
  have hco := hB.2.1
  intro fu
  induction fu with
  | zero => intro k hkf hgt h0; exact absurd h0 (Nat.not_lt_zero _)
  | succ fu ihL =>
    intro k hkf hgt hfu H locs hP hD hS ls hl
    refine lv_iload_n hx hb dM_keep_5 rfl (lv_at hl 2 rfl) ?_
    refine lv_if_le (tgt := 26) hx hb dM_keep_6 (by decide) (fun c6 => ?_) (fun c6 => ?_)
    · exact kx0 k hkf hgt (by first | exact Or.inl (k0_of (by omega) c6) | exact Or.inr (of_decide_eq_false c17)) H locs hP hD hS ls (lv_sub hl [0, 1, 2] rfl)
    · have hk0 := kp_of c6
      obtain ⟨k, rfl⟩ : ∃ q, k = q + 1 := ⟨k - 1, by omega⟩
      refine lv_aload_n hx hb dM_keep_9 rfl (lv_at hl 0 rfl) ?_
      refine lv_iload_n hx hb dM_keep_10 rfl (lv_at hl 1 rfl) ?_
      refine lv_iload_n hx hb dM_keep_11 rfl (lv_at hl 2 rfl) ?_
      refine rn_iconst hx hb 1 dM_keep_12 (by decide) ?_
      refine rn_isub hx hb dM_keep_13 (by omega) ?_
      refine tp_i (y := nI k) (congrArg nI (by omega)) ?_
      refine cpV_i (b := (qm 0)) (C := nM) (As := [.int (nI len), .int (nI k)]) (rest := []) (post := fun r : Int32 => r = bI (decide (wh len < bs k))) ⟨hx, hb, hml, hown, hts⟩ (ct_M_isBetter l dC dI cI cJ cZ qm lv mw mh mk pc mc kc bg en sc wd ht oh bt co n sh ba rm nm bs bc bp on wh cd sl fo len k (hG) (hB) (hbp) (hbc) (hbs) (hol) (hl5) (by omega) (hwl) (hlxa k (by omega))) (cwV 2 hts (gv kM_158 ki_M_isBetter ksel_M_isBetter kin_M kc_M_isBetter) rfl rfl rfl (by decide +kernel) ⟨Nat.le_trans (by decide) hR.1, Nat.le_trans (by decide) hR.2⟩) (va_recv hK hP (ci := 5) (q0 := 0) rfl rfl) hP hK hE rfl hl.1 rfl (Nat.le_of_ble_eq_true rfl) dM_keep_14 hcs (fun r hr => ?_)
      subst hr
      refine rb_eq (tgt := 26) hx hb dM_keep_17 (by decide) (fun c17 => ?_) (fun c17 => ?_)
      · exact kx0 (k + 1) hkf hgt (by first | exact Or.inl (k0_of (by omega) c6) | exact Or.inr (of_decide_eq_false c17)) H locs hP hD hS ls (lv_sub hl [0, 1, 2] rfl)
      · refine rn_iincm (lv' := [(2, .int (nI k)), (0, .ref (qm 0)), (1, .int (nI len))]) hx hb dM_keep_20 hl (k := 2) rfl (by decide) rfl (fun ls hl => ?_)
        refine lv_goto (tgt := 5) hx hb dM_keep_23 (by decide) ?_
        exact ihL k (by omega) (kg_s hgt c17) (by omega) H locs hP hD hS ls (lv_sub hl [1, 2, 0] rfl)

set_option maxHeartbeats 4000000 in
set_option maxRecDepth 100000 in
theorem ct_M_keep (l : Launch) (dC : Nat → ClassId) (dI : Nat → Nat → Nat) (cI cJ cZ : ClassId) (qm : Nat → Nat) (lv mw mh mk : Nat → Nat) (pc mc kc : Nat) (bg en sc wd ht oh bt : Nat → Nat) (co n : Nat) (sh ba : Nat → Bool) (rm nm bs bc bp on wh : Nat → Nat) (cd sl fo : Nat) (len : Nat) (sz : Nat) (hG : bGp lv mw mh mk pc mc kc) (hB : bP bg en sc wd ht oh bt co n) (hbp : ∀ j, bp j < 40) (hbc : ∀ j, bc j ≤ 5) (hbs : ∀ j, bs j ≤ 60000000) (hol : ∀ j, j < len → on j < 40) (hl1 : 1 ≤ len) (hl5 : len ≤ 5) (hwl : wh len ≤ 60000000) (hfo : fo ≤ 5) (hsrt : ∀ i j, i ≤ j → j < fo → bs i ≤ bs j) (hlxa : ∀ r, r < fo → ∃ i, i < len ∧ i < bc r ∧ (∀ j, j < i → on j = bp (5 * r + j)) ∧ bp (5 * r + i) < on i) : Met l yM_keep wsM_keep ({ frames := 1, cells := 0, slots := 0, locals := 23 }) (PcW (dC, dI) (wM cI cJ cZ qm lv bg en sc wd ht sh oh ba mw mh mk rm nm bs bc bp on wh cd pc n mc kc sl fo) (tyE cI cJ cZ) sz [.ref (qm 0), .int (nI len)]) (QwV (dC, dI) (wM cI cJ cZ qm lv bg en sc wd ht sh oh ba mw mh mk rm nm (kmS bs (wh len) fo) (kmN bc bs (wh len) fo len) (kmP bp on bs (wh len) fo len) on wh cd pc n mc kc sl (kpK bs (wh len) fo)) (tyE cI cJ cZ) (va_A (wM cI cJ cZ qm lv bg en sc wd ht sh oh ba mw mh mk rm nm bs bc bp on wh cd pc n mc kc sl fo) sz)) 0 0 (va_A (wM cI cJ cZ qm lv bg en sc wd ht sh oh ba mw mh mk rm nm bs bc bp on wh cd pc n mc kc sl fo) sz) := by
  refine Met.ofW (cc := cM_keep) (maxL := 5) (ret := none) (by decide) rfl ?_
  intro p e s m args below meth c s₁ B hml hv
  obtain ⟨rfl, hsz, hP, hK, hD0, hE⟩ := hv
  have hx := B.exec
  have hb := B.bytes
  have hr := B.returns
  have hts := atoms_spec (ws := wsM_keep) B.pre
  have hg : ∀ w ∈ gw, w.before _ s = true := fun w h => hts w (List.mem_cons_of_mem _ h)
  have hown : s.vm.findClass nM = some m.cls := findClass_of_methodNamed B.named
  have hlocks := B.notSynchronized
  have hR : 1 ≤ (headSpec wsM_keep ({ frames := 1, cells := 0, slots := 0, locals := 23 })).room.frames ∧ 23 ≤ (headSpec wsM_keep ({ frames := 1, cells := 0, slots := 0, locals := 23 })).room.locals := ⟨Nat.le_refl _, Nat.le_refl _⟩
  have hcs : 0 ≤ (headSpec wsM_keep ({ frames := 1, cells := 0, slots := 0, locals := 23 })).room.cells ∧ 0 ≤ (headSpec wsM_keep ({ frames := 1, cells := 0, slots := 0, locals := 23 })).room.slots := ⟨Nat.zero_le _, Nat.zero_le _⟩
  subst hsz
  have hD := hD0.self (sz := s.heap.size)
  generalize hAe : va_A (wM cI cJ cZ qm lv bg en sc wd ht sh oh ba mw mh mk rm nm bs bc bp on wh cd pc n mc kc sl fo) s.heap.size = A at hD ⊢
  have hA : ∀ q : Nat, s.heap.size ≤ q → A q := fun q h => by rw [← hAe]; exact Or.inr h
  obtain ⟨H, hH⟩ : ∃ H, H = s.heap := ⟨_, rfl⟩
  have hS : va_S A s.heap H [] := by rw [hH]; exact va_S.rf
  rw [← hH] at hP ⊢
  have hpc := hG.1
  have hmc := hG.2.1
  have hkc := hG.2.2.1
  have hgi := hG.2.2.2
  have hbi := hB.2.2
  have hn := hB.1
  have hco := hB.2.1
  have hl := lv_entry ([.ref (qm 0), .int (nI len)]) (n := 5) (Nat.le_of_ble_eq_true rfl)
  rw [lg_entry_eq]
  generalize (lg_sl ([.ref (qm 0), .int (nI len)]) ++ List.replicate (5 - (lg_sl ([.ref (qm 0), .int (nI len)])).length) Slot.unset).toArray = ls at hl ⊢
  have hl : lv_has ls 5 [(0, .ref (qm 0)), (1, .int (nI len))] := hl
  refine lv_aload_n hx hb dM_keep_0 rfl (lv_at hl 0 rfl) ?_
  refine va_get (D := (dC, dI)) (ci := 5) (v := .int (nI fo)) (C := nM) (T := TM) (N := 26) hx hb hg inM hown hK hP 0 rfl rfl 23 (by decide) (hg _ kM_155) (fun _ h9 => h9) rfl dM_keep_1 ?_
  refine lv_istore_n (lv' := [(2, .int (nI fo)), (0, .ref (qm 0)), (1, .int (nI len))]) hx hb dM_keep_4 rfl hl (by decide) rfl (fun ls hl => ?_)
  refine lp_M_keep1 qm lv mw mh mk pc mc kc bg en sc wd ht oh bt co n sh ba rm nm bs bc bp on wh cd sl fo len hG hB hbp hbc hbs hol hl1 hl5 hwl hfo hsrt hlxa  hx hb hml hown hts hK hE hA (by first | exact hR | exact ⟨Nat.le_trans (by decide) hR.1, Nat.le_trans (by decide) hR.2⟩) hcs (fun k hkf hgt hx0 H locs hP hD hS ls hl => ?_) (fo + 1) fo (by omega) (fun r h1 h2 => absurd h2 (by omega)) (by omega) _ _ hP hD hS ls (lv_sub hl [1, 2, 0] rfl)
  have hrk : rkF bs (wh len) fo = k := kg_e hkf hgt hsrt hx0
  refine lv_iload_n hx hb dM_keep_26 rfl (lv_at hl 2 rfl) ?_
  refine rn_iconst hx hb 5 dM_keep_27 (by decide) ?_
  refine rn_icmp_ne (tgt := 32) hx hb dM_keep_28 (by decide) (by omega) (by omega) (fun c28 => ?_) (fun c28 => ?_)
  · have hk5 : k < 5 := by omega
    refine lv_aload_n hx hb dM_keep_32 rfl (lv_at hl 0 rfl) ?_
    refine lv_dup hx hb dM_keep_33 rfl ?_
    refine va_get (D := (dC, dI)) (ci := 5) (v := .int (nI fo)) (C := nM) (T := TM) (N := 26) hx hb hg inM hown hK hP 0 rfl rfl 23 (by decide) (hg _ kM_155) (fun _ h9 => h9) rfl dM_keep_34 ?_
    refine lv_aload_n hx hb dM_keep_37 rfl (lv_at hl 0 rfl) ?_
    refine va_get (D := (dC, dI)) (ci := 5) (v := .int (nI fo)) (C := nM) (T := TM) (N := 26) hx hb hg inM hown hK hP 0 rfl rfl 23 (by decide) (hg _ kM_155) (fun _ h9 => h9) rfl dM_keep_38 ?_
    refine rn_iconst hx hb 5 dM_keep_41 (by decide) ?_
    refine rn_icmp_ge (tgt := 49) hx hb dM_keep_42 (by decide) (by omega) (by omega) (fun c42 => ?_) (fun c42 => ?_)
    · refine rn_iconst hx hb 0 dM_keep_49 (by decide) ?_
      refine rn_iadd hx hb dM_keep_50 ?_
      refine tp_i (y := nI (min (fo + 1) 5)) (congrArg nI (by omega)) ?_
      refine va_put (D := (dC, dI)) (ci := 5) (v := .int (nI (min (fo + 1) 5))) (ty := .int) (C := nM) (T := TM) (N := 26) hx hb hg inM tM tM_ok nmM hown hK hP hD hS 0 rfl rfl 23 (by decide) (hg _ kM_155) (fun _ h9 => h9) rfl (by decide +kernel) rfl rfl (Nat.le_of_ble_eq_true rfl) dM_keep_51 (fun H locs hP hD hS => ?_)
      have hP : va_P (dC, dI) vwCl (wM cI cJ cZ qm lv bg en sc wd ht sh oh ba mw mh mk rm nm bs bc bp on wh cd pc n mc kc sl (min (fo + 1) 5)) H := hP
      have hD : va_D A (wM cI cJ cZ qm lv bg en sc wd ht sh oh ba mw mh mk rm nm bs bc bp on wh cd pc n mc kc sl (min (fo + 1) 5)) := hD
      refine lv_aload_n hx hb dM_keep_54 rfl (lv_at hl 0 rfl) ?_
      refine va_get (D := (dC, dI)) (ci := 5) (v := .int (nI (min (fo + 1) 5))) (C := nM) (T := TM) (N := 26) hx hb hg inM hown hK hP 0 rfl rfl 23 (by decide) (hg _ kM_155) (fun _ h9 => h9) rfl dM_keep_55 ?_
      refine rn_iconst hx hb 1 dM_keep_58 (by decide) ?_
      refine rn_isub hx hb dM_keep_59 (by omega) ?_
      refine lv_istore_n (lv' := [(3, .int (nI ((min (fo + 1) 5) - 1))), (0, .ref (qm 0)), (1, .int (nI len)), (2, .int (nI k))]) hx hb dM_keep_60 rfl hl (by decide) rfl (fun ls hl => ?_)
      refine lp_M_keep2 qm lv mw mh mk pc mc kc bg en sc wd ht oh bt co n sh ba rm nm bs bc bp on wh cd sl fo len hG hB hbp hbc hbs hol hl1 hl5 hwl hfo hsrt hlxa k hx hb hml hown hts hK hE hA (by first | exact hR | exact ⟨Nat.le_trans (by decide) hR.1, Nat.le_trans (by decide) hR.2⟩) hcs (fun i v vn vp hrk hk5 hkf hki hi5 hv hvn hvp hx0 H locs hP hD hS ls hl => ?_) (((min (fo + 1) 5) - 1) + 1) ((min (fo + 1) 5) - 1) bs bc bp (hrk) (hk5) (hkf) (by omega) (by omega) (msh_0 (by omega)) (msh_0 (by omega)) (mshP_0 (by omega)) (by omega) _ _ hP hD hS ls (lv_sub hl [1, 2, 3, 0] rfl)
      have hx9 := hx0.symm; subst hx9
      subst hv; subst hvn; subst hvp
      have hP : va_P (dC, dI) vwCl (wM cI cJ cZ qm lv bg en sc wd ht sh oh ba mw mh mk rm nm (msh bs k (min (fo + 1) 5)) (msh bc k (min (fo + 1) 5)) (mshP bp k (min (fo + 1) 5)) on wh cd pc n mc kc sl (min (fo + 1) 5)) H := hP
      have hD : va_D A (wM cI cJ cZ qm lv bg en sc wd ht sh oh ba mw mh mk rm nm (msh bs k (min (fo + 1) 5)) (msh bc k (min (fo + 1) 5)) (mshP bp k (min (fo + 1) 5)) on wh cd pc n mc kc sl (min (fo + 1) 5)) := hD
      refine lv_aload_n hx hb dM_keep_139 rfl (lv_at hl 0 rfl) ?_
      refine va_get (D := (dC, dI)) (ci := 5) (v := .ref (qm 15)) (C := nM) (T := TM) (N := 26) hx hb hg inM hown hK hP 0 rfl rfl 20 (by decide) (hg _ kM_54) (fun _ h9 => h9) rfl dM_keep_140 ?_
      refine lv_iload_n hx hb dM_keep_143 rfl (lv_at hl 2 rfl) ?_
      refine lv_aload_n hx hb dM_keep_144 rfl (lv_at hl 0 rfl) ?_
      refine va_get (D := (dC, dI)) (ci := 5) (v := .ref (qm 19)) (C := nM) (T := TM) (N := 26) hx hb hg inM hown hK hP 0 rfl rfl 25 (by decide) (hg _ kM_66) (fun _ h9 => h9) rfl dM_keep_145 ?_
      refine lv_iload_n hx hb dM_keep_148 rfl (lv_at hl 1 rfl) ?_
      refine ga_l (f := wh) hx hb hK hP 19 1 rfl rfl (by omega) (by decide) dM_keep_149 ?_
      refine sa_l (f := msh bs k (min (fo + 1) 5)) (v := wh len) hx hb hK hP hD hS 15 1 rfl rfl (by omega) (by decide) dM_keep_150 (fun H locs hP hD hS => ?_)
      have hP : va_P (dC, dI) vwCl (wM cI cJ cZ qm lv bg en sc wd ht sh oh ba mw mh mk rm nm (va_up (msh bs k (min (fo + 1) 5)) k (wh len)) (msh bc k (min (fo + 1) 5)) (mshP bp k (min (fo + 1) 5)) on wh cd pc n mc kc sl (min (fo + 1) 5)) H := hP
      have hD : va_D A (wM cI cJ cZ qm lv bg en sc wd ht sh oh ba mw mh mk rm nm (va_up (msh bs k (min (fo + 1) 5)) k (wh len)) (msh bc k (min (fo + 1) 5)) (mshP bp k (min (fo + 1) 5)) on wh cd pc n mc kc sl (min (fo + 1) 5)) := hD
      refine lv_aload_n hx hb dM_keep_151 rfl (lv_at hl 0 rfl) ?_
      refine va_get (D := (dC, dI)) (ci := 5) (v := .ref (qm 16)) (C := nM) (T := TM) (N := 26) hx hb hg inM hown hK hP 0 rfl rfl 21 (by decide) (hg _ kM_57) (fun _ h9 => h9) rfl dM_keep_152 ?_
      refine lv_iload_n hx hb dM_keep_155 rfl (lv_at hl 2 rfl) ?_
      refine lv_iload_n hx hb dM_keep_156 rfl (lv_at hl 1 rfl) ?_
      refine sa_i (f := msh bc k (min (fo + 1) 5)) (v := len) hx hb hK hP hD hS 16 0 rfl rfl (by omega) (by decide) dM_keep_157 (fun H locs hP hD hS => ?_)
      have hP : va_P (dC, dI) vwCl (wM cI cJ cZ qm lv bg en sc wd ht sh oh ba mw mh mk rm nm (va_up (msh bs k (min (fo + 1) 5)) k (wh len)) (va_up (msh bc k (min (fo + 1) 5)) k len) (mshP bp k (min (fo + 1) 5)) on wh cd pc n mc kc sl (min (fo + 1) 5)) H := hP
      have hD : va_D A (wM cI cJ cZ qm lv bg en sc wd ht sh oh ba mw mh mk rm nm (va_up (msh bs k (min (fo + 1) 5)) k (wh len)) (va_up (msh bc k (min (fo + 1) 5)) k len) (mshP bp k (min (fo + 1) 5)) on wh cd pc n mc kc sl (min (fo + 1) 5)) := hD
      refine rn_iconst hx hb 0 dM_keep_158 (by decide) ?_
      refine lv_istore_n (lv' := [(3, .int (nI 0)), (0, .ref (qm 0)), (1, .int (nI len)), (2, .int (nI k))]) hx hb dM_keep_159 rfl hl (by decide) rfl (fun ls hl => ?_)
      refine lp_M_keep4 qm lv mw mh mk pc mc kc bg en sc wd ht oh bt co n sh ba rm nm bs bc bp on wh cd sl fo len hG hB hbp hbc hbs hol hl1 hl5 hwl hfo hsrt hlxa k hx hb hml hown hts hK hE hA (by first | exact hR | exact ⟨Nat.le_trans (by decide) hR.1, Nat.le_trans (by decide) hR.2⟩) hcs (fun x9 w9 hrk hk5 hkf hx5 hw9 hx0 H locs hP hD hS ls hl => ?_) ((len - 0) + 1) 0 (mshP bp k (min (fo + 1) 5)) (hrk) (hk5) (hkf) (by omega) (cpP_0) (by omega) _ _ hP hD hS ls (lv_sub hl [1, 2, 3, 0] rfl)
      have hP9 : va_P (dC, dI) vwCl (wM cI cJ cZ qm lv bg en sc wd ht sh oh ba mw mh mk rm nm (kmS bs (wh len) fo) (kmN bc bs (wh len) fo len) (kmP bp on bs (wh len) fo len) on wh cd pc n mc kc sl (kpK bs (wh len) fo)) H := by rw [show kmS bs (wh len) fo = va_up (msh bs k (min (fo + 1) 5)) k (wh len) from by rw [kmS, kpK, hrk, if_pos hk5, if_pos hk5], show kmN bc bs (wh len) fo len = va_up (msh bc k (min (fo + 1) 5)) k len from by rw [kmN, kpK, hrk, if_pos hk5, if_pos hk5], show kmP bp on bs (wh len) fo len = w9 from by rw [hw9, hx0, kmP, kpK, hrk, if_pos hk5, if_pos hk5]; rfl, show kpK bs (wh len) fo = min (fo + 1) 5 from by rw [kpK, hrk, if_pos hk5]]; exact hP
      have hD9 : va_D A (wM cI cJ cZ qm lv bg en sc wd ht sh oh ba mw mh mk rm nm (kmS bs (wh len) fo) (kmN bc bs (wh len) fo len) (kmP bp on bs (wh len) fo len) on wh cd pc n mc kc sl (kpK bs (wh len) fo)) := by rw [show kmS bs (wh len) fo = va_up (msh bs k (min (fo + 1) 5)) k (wh len) from by rw [kmS, kpK, hrk, if_pos hk5, if_pos hk5], show kmN bc bs (wh len) fo len = va_up (msh bc k (min (fo + 1) 5)) k len from by rw [kmN, kpK, hrk, if_pos hk5, if_pos hk5], show kmP bp on bs (wh len) fo len = w9 from by rw [hw9, hx0, kmP, kpK, hrk, if_pos hk5, if_pos hk5]; rfl, show kpK bs (wh len) fo = min (fo + 1) 5 from by rw [kpK, hrk, if_pos hk5]]; exact hD
      exact W.vret hx hb hr (fun t ht hW => ⟨⟨(), rfl, trivial, by rw [ht]; exact hP9, va_K.moved hW.alike hK, hD9⟩, hS.F ht⟩) hS.2.2 dM_keep_187
    · refine rn_iconst hx hb 1 dM_keep_45 (by decide) ?_
      refine lv_goto (tgt := 50) hx hb dM_keep_46 (by decide) ?_
      refine rn_iadd hx hb dM_keep_50 ?_
      refine tp_i (y := nI (min (fo + 1) 5)) (congrArg nI (by omega)) ?_
      refine va_put (D := (dC, dI)) (ci := 5) (v := .int (nI (min (fo + 1) 5))) (ty := .int) (C := nM) (T := TM) (N := 26) hx hb hg inM tM tM_ok nmM hown hK hP hD hS 0 rfl rfl 23 (by decide) (hg _ kM_155) (fun _ h9 => h9) rfl (by decide +kernel) rfl rfl (Nat.le_of_ble_eq_true rfl) dM_keep_51 (fun H locs hP hD hS => ?_)
      have hP : va_P (dC, dI) vwCl (wM cI cJ cZ qm lv bg en sc wd ht sh oh ba mw mh mk rm nm bs bc bp on wh cd pc n mc kc sl (min (fo + 1) 5)) H := hP
      have hD : va_D A (wM cI cJ cZ qm lv bg en sc wd ht sh oh ba mw mh mk rm nm bs bc bp on wh cd pc n mc kc sl (min (fo + 1) 5)) := hD
      refine lv_aload_n hx hb dM_keep_54 rfl (lv_at hl 0 rfl) ?_
      refine va_get (D := (dC, dI)) (ci := 5) (v := .int (nI (min (fo + 1) 5))) (C := nM) (T := TM) (N := 26) hx hb hg inM hown hK hP 0 rfl rfl 23 (by decide) (hg _ kM_155) (fun _ h9 => h9) rfl dM_keep_55 ?_
      refine rn_iconst hx hb 1 dM_keep_58 (by decide) ?_
      refine rn_isub hx hb dM_keep_59 (by omega) ?_
      refine lv_istore_n (lv' := [(3, .int (nI ((min (fo + 1) 5) - 1))), (0, .ref (qm 0)), (1, .int (nI len)), (2, .int (nI k))]) hx hb dM_keep_60 rfl hl (by decide) rfl (fun ls hl => ?_)
      refine lp_M_keep2 qm lv mw mh mk pc mc kc bg en sc wd ht oh bt co n sh ba rm nm bs bc bp on wh cd sl fo len hG hB hbp hbc hbs hol hl1 hl5 hwl hfo hsrt hlxa k hx hb hml hown hts hK hE hA (by first | exact hR | exact ⟨Nat.le_trans (by decide) hR.1, Nat.le_trans (by decide) hR.2⟩) hcs (fun i v vn vp hrk hk5 hkf hki hi5 hv hvn hvp hx0 H locs hP hD hS ls hl => ?_) (((min (fo + 1) 5) - 1) + 1) ((min (fo + 1) 5) - 1) bs bc bp (hrk) (hk5) (hkf) (by omega) (by omega) (msh_0 (by omega)) (msh_0 (by omega)) (mshP_0 (by omega)) (by omega) _ _ hP hD hS ls (lv_sub hl [1, 2, 3, 0] rfl)
      have hx9 := hx0.symm; subst hx9
      subst hv; subst hvn; subst hvp
      have hP : va_P (dC, dI) vwCl (wM cI cJ cZ qm lv bg en sc wd ht sh oh ba mw mh mk rm nm (msh bs k (min (fo + 1) 5)) (msh bc k (min (fo + 1) 5)) (mshP bp k (min (fo + 1) 5)) on wh cd pc n mc kc sl (min (fo + 1) 5)) H := hP
      have hD : va_D A (wM cI cJ cZ qm lv bg en sc wd ht sh oh ba mw mh mk rm nm (msh bs k (min (fo + 1) 5)) (msh bc k (min (fo + 1) 5)) (mshP bp k (min (fo + 1) 5)) on wh cd pc n mc kc sl (min (fo + 1) 5)) := hD
      refine lv_aload_n hx hb dM_keep_139 rfl (lv_at hl 0 rfl) ?_
      refine va_get (D := (dC, dI)) (ci := 5) (v := .ref (qm 15)) (C := nM) (T := TM) (N := 26) hx hb hg inM hown hK hP 0 rfl rfl 20 (by decide) (hg _ kM_54) (fun _ h9 => h9) rfl dM_keep_140 ?_
      refine lv_iload_n hx hb dM_keep_143 rfl (lv_at hl 2 rfl) ?_
      refine lv_aload_n hx hb dM_keep_144 rfl (lv_at hl 0 rfl) ?_
      refine va_get (D := (dC, dI)) (ci := 5) (v := .ref (qm 19)) (C := nM) (T := TM) (N := 26) hx hb hg inM hown hK hP 0 rfl rfl 25 (by decide) (hg _ kM_66) (fun _ h9 => h9) rfl dM_keep_145 ?_
      refine lv_iload_n hx hb dM_keep_148 rfl (lv_at hl 1 rfl) ?_
      refine ga_l (f := wh) hx hb hK hP 19 1 rfl rfl (by omega) (by decide) dM_keep_149 ?_
      refine sa_l (f := msh bs k (min (fo + 1) 5)) (v := wh len) hx hb hK hP hD hS 15 1 rfl rfl (by omega) (by decide) dM_keep_150 (fun H locs hP hD hS => ?_)
      have hP : va_P (dC, dI) vwCl (wM cI cJ cZ qm lv bg en sc wd ht sh oh ba mw mh mk rm nm (va_up (msh bs k (min (fo + 1) 5)) k (wh len)) (msh bc k (min (fo + 1) 5)) (mshP bp k (min (fo + 1) 5)) on wh cd pc n mc kc sl (min (fo + 1) 5)) H := hP
      have hD : va_D A (wM cI cJ cZ qm lv bg en sc wd ht sh oh ba mw mh mk rm nm (va_up (msh bs k (min (fo + 1) 5)) k (wh len)) (msh bc k (min (fo + 1) 5)) (mshP bp k (min (fo + 1) 5)) on wh cd pc n mc kc sl (min (fo + 1) 5)) := hD
      refine lv_aload_n hx hb dM_keep_151 rfl (lv_at hl 0 rfl) ?_
      refine va_get (D := (dC, dI)) (ci := 5) (v := .ref (qm 16)) (C := nM) (T := TM) (N := 26) hx hb hg inM hown hK hP 0 rfl rfl 21 (by decide) (hg _ kM_57) (fun _ h9 => h9) rfl dM_keep_152 ?_
      refine lv_iload_n hx hb dM_keep_155 rfl (lv_at hl 2 rfl) ?_
      refine lv_iload_n hx hb dM_keep_156 rfl (lv_at hl 1 rfl) ?_
      refine sa_i (f := msh bc k (min (fo + 1) 5)) (v := len) hx hb hK hP hD hS 16 0 rfl rfl (by omega) (by decide) dM_keep_157 (fun H locs hP hD hS => ?_)
      have hP : va_P (dC, dI) vwCl (wM cI cJ cZ qm lv bg en sc wd ht sh oh ba mw mh mk rm nm (va_up (msh bs k (min (fo + 1) 5)) k (wh len)) (va_up (msh bc k (min (fo + 1) 5)) k len) (mshP bp k (min (fo + 1) 5)) on wh cd pc n mc kc sl (min (fo + 1) 5)) H := hP
      have hD : va_D A (wM cI cJ cZ qm lv bg en sc wd ht sh oh ba mw mh mk rm nm (va_up (msh bs k (min (fo + 1) 5)) k (wh len)) (va_up (msh bc k (min (fo + 1) 5)) k len) (mshP bp k (min (fo + 1) 5)) on wh cd pc n mc kc sl (min (fo + 1) 5)) := hD
      refine rn_iconst hx hb 0 dM_keep_158 (by decide) ?_
      refine lv_istore_n (lv' := [(3, .int (nI 0)), (0, .ref (qm 0)), (1, .int (nI len)), (2, .int (nI k))]) hx hb dM_keep_159 rfl hl (by decide) rfl (fun ls hl => ?_)
      refine lp_M_keep4 qm lv mw mh mk pc mc kc bg en sc wd ht oh bt co n sh ba rm nm bs bc bp on wh cd sl fo len hG hB hbp hbc hbs hol hl1 hl5 hwl hfo hsrt hlxa k hx hb hml hown hts hK hE hA (by first | exact hR | exact ⟨Nat.le_trans (by decide) hR.1, Nat.le_trans (by decide) hR.2⟩) hcs (fun x9 w9 hrk hk5 hkf hx5 hw9 hx0 H locs hP hD hS ls hl => ?_) ((len - 0) + 1) 0 (mshP bp k (min (fo + 1) 5)) (hrk) (hk5) (hkf) (by omega) (cpP_0) (by omega) _ _ hP hD hS ls (lv_sub hl [1, 2, 3, 0] rfl)
      have hP9 : va_P (dC, dI) vwCl (wM cI cJ cZ qm lv bg en sc wd ht sh oh ba mw mh mk rm nm (kmS bs (wh len) fo) (kmN bc bs (wh len) fo len) (kmP bp on bs (wh len) fo len) on wh cd pc n mc kc sl (kpK bs (wh len) fo)) H := by rw [show kmS bs (wh len) fo = va_up (msh bs k (min (fo + 1) 5)) k (wh len) from by rw [kmS, kpK, hrk, if_pos hk5, if_pos hk5], show kmN bc bs (wh len) fo len = va_up (msh bc k (min (fo + 1) 5)) k len from by rw [kmN, kpK, hrk, if_pos hk5, if_pos hk5], show kmP bp on bs (wh len) fo len = w9 from by rw [hw9, hx0, kmP, kpK, hrk, if_pos hk5, if_pos hk5]; rfl, show kpK bs (wh len) fo = min (fo + 1) 5 from by rw [kpK, hrk, if_pos hk5]]; exact hP
      have hD9 : va_D A (wM cI cJ cZ qm lv bg en sc wd ht sh oh ba mw mh mk rm nm (kmS bs (wh len) fo) (kmN bc bs (wh len) fo len) (kmP bp on bs (wh len) fo len) on wh cd pc n mc kc sl (kpK bs (wh len) fo)) := by rw [show kmS bs (wh len) fo = va_up (msh bs k (min (fo + 1) 5)) k (wh len) from by rw [kmS, kpK, hrk, if_pos hk5, if_pos hk5], show kmN bc bs (wh len) fo len = va_up (msh bc k (min (fo + 1) 5)) k len from by rw [kmN, kpK, hrk, if_pos hk5, if_pos hk5], show kmP bp on bs (wh len) fo len = w9 from by rw [hw9, hx0, kmP, kpK, hrk, if_pos hk5, if_pos hk5]; rfl, show kpK bs (wh len) fo = min (fo + 1) 5 from by rw [kpK, hrk, if_pos hk5]]; exact hD
      exact W.vret hx hb hr (fun t ht hW => ⟨⟨(), rfl, trivial, by rw [ht]; exact hP9, va_K.moved hW.alike hK, hD9⟩, hS.F ht⟩) hS.2.2 dM_keep_187
  · have hP9 : va_P (dC, dI) vwCl (wM cI cJ cZ qm lv bg en sc wd ht sh oh ba mw mh mk rm nm (kmS bs (wh len) fo) (kmN bc bs (wh len) fo len) (kmP bp on bs (wh len) fo len) on wh cd pc n mc kc sl (kpK bs (wh len) fo)) H := by rw [show kmS bs (wh len) fo = bs from if_neg (by omega), show kmN bc bs (wh len) fo len = bc from if_neg (by omega), show kmP bp on bs (wh len) fo len = bp from if_neg (by omega), show kpK bs (wh len) fo = fo from if_neg (by omega)]; exact hP
    have hD9 : va_D A (wM cI cJ cZ qm lv bg en sc wd ht sh oh ba mw mh mk rm nm (kmS bs (wh len) fo) (kmN bc bs (wh len) fo len) (kmP bp on bs (wh len) fo len) on wh cd pc n mc kc sl (kpK bs (wh len) fo)) := by rw [show kmS bs (wh len) fo = bs from if_neg (by omega), show kmN bc bs (wh len) fo len = bc from if_neg (by omega), show kmP bp on bs (wh len) fo len = bp from if_neg (by omega), show kpK bs (wh len) fo = fo from if_neg (by omega)]; exact hD
    exact W.vret hx hb hr (fun t ht hW => ⟨⟨(), rfl, trivial, by rw [ht]; exact hP9, va_K.moved hW.alike hK, hD9⟩, hS.F ht⟩) hS.2.2 dM_keep_31
