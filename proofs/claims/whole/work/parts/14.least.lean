def uE (oh sc : Nat → Nat) (i m : Nat) : Nat := ew (oh i) (sc i) m
theorem ewL_b {oh sec m : Nat} : ∀ c hr, hr + c ≤ m / 3600 + 24 → ewL oh sec m c hr ≤ max NVc (m + 86400 + sec) := by
  intro c
  induction c with
  | zero => intro hr _; show NVc ≤ _; omega
  | succ c ih =>
    intro hr h
    unfold ewL
    split
    · omega
    · exact ih (hr + 1) (by omega)
theorem ew_b (oh sec m : Nat) : ew oh sec m ≤ max NVc (m + 86400 + sec) := ewL_b 24 (m / 3600) (Nat.le_refl _)
theorem gL_le {fo : Nat → Nat → Bool} {use : Nat → Nat → Nat} {x op : Nat} {R : Nat → Nat} : ∀ k j, gL fo use x op R k j ≤ R j := by
  intro k
  induction k with
  | zero => intro j; exact Nat.le_refl _
  | succ k ih =>
    intro j
    unfold gL
    split
    · by_cases h : j = k
      · subst h
        simp only [va_up, if_true]
        exact Nat.le_trans (Nat.min_le_left _ _) (ih j)
      · simp only [va_up, h, if_false]
        exact ih j
    · exact ih j
def lpL (en re : Nat → Nat) (pl : Nat) : Nat → Option Nat × Nat
  | 0 => (none, NVc)
  | k + 1 => if en k = pl ∧ re k < (lpL en re pl k).2 then (some k, re k) else lpL en re pl k
theorem lpL_le (en re : Nat → Nat) (pl : Nat) : ∀ k, (lpL en re pl k).2 ≤ NVc ∧ ∀ i, (lpL en re pl k).1 = some i → i < k := by
  intro k
  induction k with
  | zero => exact ⟨Nat.le_refl _, fun i h => by cases h⟩
  | succ k ih =>
    unfold lpL
    split
    · rename_i h
      refine ⟨?_, fun i hi => ?_⟩
      · have := ih.1; dsimp only; omega
      · cases hi; omega
    · exact ⟨ih.1, fun i hi => by have := ih.2 i hi; omega⟩
theorem lp_n {en re : Nat → Nat} {pl i le : Nat} {o : Option Nat} (h : (o, le) = lpL en re pl i) (c : ¬ en i = pl) : (o, le) = lpL en re pl (i + 1) := by simp [lpL, c, ← h]
theorem lp_t {en re : Nat → Nat} {pl i le : Nat} {o : Option Nat} (h : (o, le) = lpL en re pl i) (c : en i = pl) (d : ¬ le ≤ re i) : (some i, re i) = lpL en re pl (i + 1) := by simp [lpL, c, ← h, Nat.not_le.mp d]
theorem lp_f {en re : Nat → Nat} {pl i le : Nat} {o : Option Nat} (h : (o, le) = lpL en re pl i) (d : le ≤ re i) : (o, le) = lpL en re pl (i + 1) := by simp [lpL, ← h, Nat.not_lt.mpr d]
/-- the least number below n with p -/
def ffi (p : Nat → Bool) : Nat → Option Nat
  | 0 => none
  | k + 1 => match ffi p k with
    | some i => some i
    | none => if p k = true then some k else none
theorem ffi_some {p : Nat → Bool} {i : Nat} (h : ffi p i = none) (hp : p i = true) : ∀ n, i < n → ffi p n = some i := by
  intro n
  induction n with
  | zero => intro q; omega
  | succ n ih =>
    intro q
    by_cases e : i = n
    · subst e; simp [ffi, h, hp]
    · simp [ffi, ih (by omega)]
theorem ffi_ok {p : Nat → Bool} : ∀ n, (∀ i, ffi p n = some i → i < n ∧ p i = true ∧ ∀ j, j < i → p j = false) ∧ (ffi p n = none → ∀ j, j < n → p j = false) := by
  intro n
  induction n with
  | zero => exact ⟨fun i h => (by cases h), fun _ j hj => (by omega)⟩
  | succ n ih =>
    cases hf : ffi p n with
    | some i =>
      have e : ffi p (n + 1) = some i := by simp [ffi, hf]
      rw [e]
      refine ⟨fun k hk => ?_, fun h => by cases h⟩
      cases hk
      have := ih.1 i hf
      exact ⟨by omega, this.2⟩
    | none =>
      have h0 := ih.2 hf
      by_cases hp : p n = true
      · have e : ffi p (n + 1) = some n := by simp [ffi, hf, hp]
        rw [e]
        refine ⟨fun k hk => ?_, fun h => by cases h⟩
        cases hk
        exact ⟨by omega, hp, h0⟩
      · have e : ffi p (n + 1) = none := by simp [ffi, hf, hp]
        rw [e]
        refine ⟨fun k hk => (by cases hk), fun _ j hj => ?_⟩
        by_cases hjn : j = n
        · subst hjn; simpa using hp
        · exact h0 j (by omega)
/-- is i a piece before x -/
def pbP (bg en sc oh bt re : Nat → Nat) (x i : Nat) : Bool := decide (re i < re x) && (foB bg en bt i x && decide (ew (oh x) (sc x) (re i) = re x))
def pbO (bg en sc oh bt re : Nat → Nat) (sa fm n x : Nat) : Option Nat := if bg x = sa ∧ ew (oh x) (sc x) fm = re x then none else ffi (pbP bg en sc oh bt re x) n
theorem pb_0 {bg en sc oh bt re : Nat → Nat} {sa fm n x : Nat} (h1 : bg x = sa) (h2 : ew (oh x) (sc x) fm = re x) : none = pbO bg en sc oh bt re sa fm n x := by rw [pbO, if_pos ⟨h1, h2⟩]
theorem pb_1 {p : Nat → Bool} {i : Nat} (h : ffi p i = none) (hp : p i = false) : ffi p (i + 1) = none := by simp [ffi, h, hp]
theorem pbP_1 {bg en sc oh bt re : Nat → Nat} {x i : Nat} (h : re x ≤ re i) : pbP bg en sc oh bt re x i = false := by simp [pbP, Nat.not_lt.mpr h]
theorem pbP_2 {bg en sc oh bt re : Nat → Nat} {x i : Nat} (h : foB bg en bt i x = false) : pbP bg en sc oh bt re x i = false := by simp [pbP, h]
theorem pbP_3 {bg en sc oh bt re : Nat → Nat} {x i : Nat} (h : ¬ ew (oh x) (sc x) (re i) = re x) : pbP bg en sc oh bt re x i = false := by simp [pbP, h]
theorem pbP_4 {bg en sc oh bt re : Nat → Nat} {x i : Nat} (h1 : ¬ re x ≤ re i) (h2 : foB bg en bt i x = true) (h3 : ew (oh x) (sc x) (re i) = re x) : pbP bg en sc oh bt re x i = true := by simp [pbP, h2, h3, Nat.not_le.mp h1]
theorem nn_1 {a b c d : Nat} (h : ¬ a = b) : ¬ (a = b ∧ c = d) := fun q => h q.1
theorem nn_2 {a b c d : Nat} (h : ¬ c = d) : ¬ (a = b ∧ c = d) := fun q => h q.2

set_option maxHeartbeats 4000000 in
set_option maxRecDepth 100000 in
theorem lp_L_last {p : Program} {l : Launch} {e : Env} {R : Room} {s : State} {m : MethodId} {args : Array Value} {below : List Frame} {meth : Method} {c : Code} {H : Heap} {locs : List Loc} {cells slots : Nat} {Q : State → Prop} {dC : Nat → ClassId} {dI : Nat → Nat → Nat} {cI cJ cZ : ClassId} (ql : Nat → Nat) (re : Nat → Nat) (sa fm : Nat) (q : Nat → Nat) (bg en sc wd ht oh bt : Nat → Nat) (co n : Nat) (pl : Nat) (hre : ∀ j, re j ≤ 1152921504606846976) (hB : bP bg en sc wd ht oh bt co n) (hpl : pl < 20) (hx : p.tables.exec = Jvm.exec) (hb : c.code = cL_lastPieceTo) (hml : c.maxLocals = 7) (hown : s.vm.findClass nL = some m.cls) (hts : ∀ w ∈ wsL_lastPieceTo, w.before args s = true) (hK : va_K (dC, dI) vwCl (tyE cI cJ cZ) s) (hP : va_P (dC, dI) vwCl (wL cI cJ cZ ql re sa fm ++ wP cI cJ cZ q bg en sc wd ht oh bt co n) H) (hE : EV s) (hR : 0 ≤ R.frames ∧ 0 ≤ R.locals) (hcs : cells ≤ R.cells ∧ slots ≤ R.slots)
    (kx0 : ∀ (i : Nat) (o : Option Nat) (le : Nat) (hi : i ≤ n) (ho : (o, le) = lpL en re pl i) (hx0 : n ≤ i) (ls : Array Slot), lv_has ls 7 [(0, .ref (ql 0)), (1, .ref (q 0)), (2, .int (nI pl)), (3, .int (oI o)), (4, .long (lN le)), (6, .int (nI i))] → W p l e R s m args below meth c H locs cells slots Q (F0 m 61 ls []))
    : ∀ (fu : Nat) (i : Nat) (o : Option Nat) (le : Nat) (hi : i ≤ n) (ho : (o, le) = lpL en re pl i), n - i < fu → ∀ ls : Array Slot, lv_has ls 7 [(0, .ref (ql 0)), (1, .ref (q 0)), (2, .int (nI pl)), (3, .int (oI o)), (4, .long (lN le)), (6, .int (nI i))] → W p l e R s m args below meth c H locs cells slots Q (F0 m 10 ls []) := by
  have hg : ∀ w ∈ gw, w.before args s = true := fun w h => hts w (List.mem_cons_of_mem _ h)
  have hn := hB.1
  have hco := hB.2.1
  have hbi := hB.2.2
  intro fu
  induction fu with
  | zero => intro i o le hi ho h0; exact absurd h0 (Nat.not_lt_zero _)
  | succ fu ihL =>
    intro i o le hi ho hfu ls hl
    refine lv_iload hx hb dL_lastPieceTo_10 (lv_at hl 5 rfl) ?_
    refine lv_aload_n hx hb dL_lastPieceTo_12 rfl (lv_at hl 1 rfl) ?_
    refine va_get (D := (dC, dI)) (ci := 1) (v := .int (nI n)) (C := nP) (T := TP) (N := 9) hx hb hg inP hown hK hP 2 rfl rfl 8 (by decide) (hg _ kL_23) (fun _ h9 => h9) rfl dL_lastPieceTo_13 ?_
    refine rn_icmp_ge (tgt := 61) hx hb dL_lastPieceTo_16 (by decide) (by omega) (by omega) (fun c16 => ?_) (fun c16 => ?_)
    · exact kx0 i o le hi ho (by omega) ls (lv_sub hl [0, 1, 2, 3, 4, 5] rfl)
    · have bi := hbi i
      have hri := hre i
      have hle : le ≤ 1152921504606846976 := by have := (lpL_le en re pl i).1; rw [← ho] at this; exact this
      refine lv_aload_n hx hb dL_lastPieceTo_19 rfl (lv_at hl 1 rfl) ?_
      refine va_get (D := (dC, dI)) (ci := 1) (v := .ref (q 2)) (C := nP) (T := TP) (N := 9) hx hb hg inP hown hK hP 2 rfl rfl 1 (by decide) (hg _ kL_64) (fun _ h9 => h9) rfl dL_lastPieceTo_20 ?_
      refine lv_iload hx hb dL_lastPieceTo_23 (lv_at hl 5 rfl) ?_
      refine ga_i (f := en) hx hb hK hP 4 0 rfl rfl (by omega) (by decide) dL_lastPieceTo_25 ?_
      refine lv_iload_n hx hb dL_lastPieceTo_26 rfl (lv_at hl 2 rfl) ?_
      refine rn_icmp_ne (tgt := 55) hx hb dL_lastPieceTo_27 (by decide) (by omega) (by omega) (fun c27 => ?_) (fun c27 => ?_)
      · refine rn_iinc (lv' := [(6, .int (nI (i + 1))), (0, .ref (ql 0)), (1, .ref (q 0)), (2, .int (nI pl)), (3, .int (oI o)), (4, .long (lN le))]) hx hb dL_lastPieceTo_55 hl (k := 5) rfl (by decide) rfl (fun ls hl => ?_)
        refine lv_goto (tgt := 10) hx hb dL_lastPieceTo_58 (by decide) ?_
        exact ihL (i + 1) o le (by omega) (by first | exact lp_n ho c27 | exact lp_t ho c27 c40 | exact lp_f ho c40) (by omega) ls (lv_sub hl [1, 2, 3, 4, 5, 0] rfl)
      · refine lv_aload_n hx hb dL_lastPieceTo_30 rfl (lv_at hl 0 rfl) ?_
        refine va_get (D := (dC, dI)) (ci := 2) (v := .ref (ql 1)) (C := nL) (T := TL) (N := 3) hx hb hg inL hown hK hP 0 rfl rfl 0 (by decide) (hg _ kL_9) (fun _ h9 => h9) rfl dL_lastPieceTo_31 ?_
        refine lv_iload hx hb dL_lastPieceTo_34 (lv_at hl 5 rfl) ?_
        refine ga_l (f := re) hx hb hK hP 1 1 rfl rfl (by omega) (by decide) dL_lastPieceTo_36 ?_
        refine lv_lload hx hb dL_lastPieceTo_37 (lv_at hl 4 rfl) ?_
        refine rn_lcmp_ge (tgt := 55) hx hb dL_lastPieceTo_39 dL_lastPieceTo_40 (by decide) (by omega) (by omega) (fun c40 => ?_) (fun c40 => ?_)
        · refine rn_iinc (lv' := [(6, .int (nI (i + 1))), (0, .ref (ql 0)), (1, .ref (q 0)), (2, .int (nI pl)), (3, .int (oI o)), (4, .long (lN le))]) hx hb dL_lastPieceTo_55 hl (k := 5) rfl (by decide) rfl (fun ls hl => ?_)
          refine lv_goto (tgt := 10) hx hb dL_lastPieceTo_58 (by decide) ?_
          exact ihL (i + 1) o le (by omega) (by first | exact lp_n ho c27 | exact lp_t ho c27 c40 | exact lp_f ho c40) (by omega) ls (lv_sub hl [1, 2, 3, 4, 5, 0] rfl)
        · refine lv_iload hx hb dL_lastPieceTo_43 (lv_at hl 5 rfl) ?_
          refine lv_istore_n (lv' := [(3, .int (nI i)), (0, .ref (ql 0)), (1, .ref (q 0)), (2, .int (nI pl)), (4, .long (lN le)), (6, .int (nI i))]) hx hb dL_lastPieceTo_45 rfl hl (by decide) rfl (fun ls hl => ?_)
          refine lv_aload_n hx hb dL_lastPieceTo_46 rfl (lv_at hl 1 rfl) ?_
          refine va_get (D := (dC, dI)) (ci := 2) (v := .ref (ql 1)) (C := nL) (T := TL) (N := 3) hx hb hg inL hown hK hP 0 rfl rfl 0 (by decide) (hg _ kL_9) (fun _ h9 => h9) rfl dL_lastPieceTo_47 ?_
          refine lv_iload hx hb dL_lastPieceTo_50 (lv_at hl 5 rfl) ?_
          refine ga_l (f := re) hx hb hK hP 1 1 rfl rfl (by omega) (by decide) dL_lastPieceTo_52 ?_
          refine lv_lstore (lv' := [(4, .long (lN (re i))), (3, .int (nI i)), (0, .ref (ql 0)), (1, .ref (q 0)), (2, .int (nI pl)), (6, .int (nI i))]) hx hb dL_lastPieceTo_53 hl (by decide) rfl (fun ls hl => ?_)
          refine rn_iinc (lv' := [(6, .int (nI (i + 1))), (4, .long (lN (re i))), (3, .int (nI i)), (0, .ref (ql 0)), (1, .ref (q 0)), (2, .int (nI pl))]) hx hb dL_lastPieceTo_55 hl (k := 5) rfl (by decide) rfl (fun ls hl => ?_)
          refine lv_goto (tgt := 10) hx hb dL_lastPieceTo_58 (by decide) ?_
          exact ihL (i + 1) (some i) (re i) (by omega) (by first | exact lp_n ho c27 | exact lp_t ho c27 c40 | exact lp_f ho c40) (by omega) ls (lv_sub hl [3, 4, 5, 2, 1, 0] rfl)

set_option maxHeartbeats 4000000 in
set_option maxRecDepth 100000 in
theorem ct_L_lastPieceTo (l : Launch) (dC : Nat → ClassId) (dI : Nat → Nat → Nat) (cI cJ cZ : ClassId) (ql : Nat → Nat) (re : Nat → Nat) (sa fm : Nat) (q : Nat → Nat) (bg en sc wd ht oh bt : Nat → Nat) (co n : Nat) (pl : Nat) (hre : ∀ j, re j ≤ 1152921504606846976) (hB : bP bg en sc wd ht oh bt co n) (hpl : pl < 20) : Met l yL_lastPieceTo wsL_lastPieceTo ({ frames := 0, cells := 0, slots := 0, locals := 0 }) (PcR (dC, dI) (wL cI cJ cZ ql re sa fm ++ wP cI cJ cZ q bg en sc wd ht oh bt co n) (tyE cI cJ cZ) [.ref (ql 0), .ref (q 0), .int (nI pl)]) (vp_Si (fun r => r = oI (lpL en re pl n).1)) 0 0 (fun _ => False) := by
  refine Met.ofW (cc := cL_lastPieceTo) (maxL := 7) (ret := (some .int)) (by decide) rfl ?_
  intro p e s m args below meth c s₁ B hml hv
  obtain ⟨rfl, hP, hK, hE⟩ := hv
  have hx := B.exec
  have hb := B.bytes
  have hr := B.returns
  have hts := atoms_spec (ws := wsL_lastPieceTo) B.pre
  have hg : ∀ w ∈ gw, w.before _ s = true := fun w h => hts w (List.mem_cons_of_mem _ h)
  have hown : s.vm.findClass nL = some m.cls := findClass_of_methodNamed B.named
  have hlocks := B.notSynchronized
  have hR : 0 ≤ (headSpec wsL_lastPieceTo ({ frames := 0, cells := 0, slots := 0, locals := 0 })).room.frames ∧ 0 ≤ (headSpec wsL_lastPieceTo ({ frames := 0, cells := 0, slots := 0, locals := 0 })).room.locals := ⟨Nat.le_refl _, Nat.le_refl _⟩
  have hcs : 0 ≤ (headSpec wsL_lastPieceTo ({ frames := 0, cells := 0, slots := 0, locals := 0 })).room.cells ∧ 0 ≤ (headSpec wsL_lastPieceTo ({ frames := 0, cells := 0, slots := 0, locals := 0 })).room.slots := ⟨Nat.zero_le _, Nat.zero_le _⟩
  have hn := hB.1
  have hco := hB.2.1
  have hbi := hB.2.2
  have hl := lv_entry ([.ref (ql 0), .ref (q 0), .int (nI pl)]) (n := 7) (Nat.le_of_ble_eq_true rfl)
  rw [lg_entry_eq]
  generalize (lg_sl ([.ref (ql 0), .ref (q 0), .int (nI pl)]) ++ List.replicate (7 - (lg_sl ([.ref (ql 0), .ref (q 0), .int (nI pl)])).length) Slot.unset).toArray = ls at hl ⊢
  have hl : lv_has ls 7 [(0, .ref (ql 0)), (1, .ref (q 0)), (2, .int (nI pl))] := hl
  refine lv_iconst (v := -1) hx hb dL_lastPieceTo_0 (by decide) ?_
  refine lv_istore_n (lv' := [(3, .int (-1)), (0, .ref (ql 0)), (1, .ref (q 0)), (2, .int (nI pl))]) hx hb dL_lastPieceTo_1 rfl hl (by decide) rfl (fun ls hl => ?_)
  refine lv_ldc2 (v := 1152921504606846976) hx hb hown (hg _ kL_40) dL_lastPieceTo_2 ?_
  refine tp_l (y := lN 1152921504606846976) rfl ?_
  refine lv_lstore (lv' := [(4, .long (lN 1152921504606846976)), (3, .int (-1)), (0, .ref (ql 0)), (1, .ref (q 0)), (2, .int (nI pl))]) hx hb dL_lastPieceTo_5 hl (by decide) rfl (fun ls hl => ?_)
  refine rn_iconst hx hb 0 dL_lastPieceTo_7 (by decide) ?_
  refine lv_istore (lv' := [(6, .int (nI 0)), (4, .long (lN 1152921504606846976)), (3, .int (-1)), (0, .ref (ql 0)), (1, .ref (q 0)), (2, .int (nI pl))]) hx hb dL_lastPieceTo_8 hl (by decide) rfl (fun ls hl => ?_)
  refine lp_L_last ql re sa fm q bg en sc wd ht oh bt co n pl hre hB hpl hx hb hml hown hts hK hP hE (by first | exact hR | exact ⟨Nat.le_trans (by decide) hR.1, Nat.le_trans (by decide) hR.2⟩) hcs (fun i o le hi ho hx0 ls hl => ?_) ((n - 0) + 1) 0 none 1152921504606846976 (by omega) (rfl) (by omega) ls (lv_sub hl [3, 4, 5, 2, 1, 0] rfl)
  refine lv_iload_n hx hb dL_lastPieceTo_61 rfl (lv_at hl 3 rfl) ?_
  exact W.iret hx hb hr (fun t ht hW => ⟨_, rfl, (by rw [show n = i from by omega, ← ho]), ht⟩) (fun _ h9 => nomatch h9) dL_lastPieceTo_62

set_option maxHeartbeats 4000000 in
set_option maxRecDepth 100000 in
theorem lp_L_before {p : Program} {l : Launch} {e : Env} {R : Room} {s : State} {m : MethodId} {args : Array Value} {below : List Frame} {meth : Method} {c : Code} {H : Heap} {locs : List Loc} {cells slots : Nat} {Q : State → Prop} {dC : Nat → ClassId} {dI : Nat → Nat → Nat} {cI cJ cZ : ClassId} (ql : Nat → Nat) (re : Nat → Nat) (sa fm : Nat) (q : Nat → Nat) (bg en sc wd ht oh bt : Nat → Nat) (co n : Nat) (x : Nat) (hre : ∀ j, re j ≤ 1152921504606846976) (hB : bP bg en sc wd ht oh bt co n) (hx9 : x < 40) (hfm : fm < 2305843009213693952) (hsa : sa < 20) (hx : p.tables.exec = Jvm.exec) (hb : c.code = cL_pieceBefore) (hml : c.maxLocals = 4) (hown : s.vm.findClass nL = some m.cls) (hts : ∀ w ∈ wsL_pieceBefore, w.before args s = true) (hK : va_K (dC, dI) vwCl (tyE cI cJ cZ) s) (hP : va_P (dC, dI) vwCl (wL cI cJ cZ ql re sa fm ++ wP cI cJ cZ q bg en sc wd ht oh bt co n) H) (hE : EV s) (hR : 3 ≤ R.frames ∧ 66 ≤ R.locals) (hcs : cells ≤ R.cells ∧ slots ≤ R.slots)
    (kx0 : ∀ (i : Nat) (hi : i ≤ n) (hne : ¬ (bg x = sa ∧ ew (oh x) (sc x) fm = re x)) (hf : ffi (pbP bg en sc oh bt re x) i = none) (hx0 : n ≤ i) (ls : Array Slot), lv_has ls 4 [(0, .ref (ql 0)), (1, .ref (q 0)), (2, .int (nI x)), (3, .int (nI i))] → W p l e R s m args below meth c H locs cells slots Q (F0 m 98 ls []))
    (kx1 : ∀ (i : Nat) (hi : i ≤ n) (hne : ¬ (bg x = sa ∧ ew (oh x) (sc x) fm = re x)) (hf : ffi (pbP bg en sc oh bt re x) i = none) (hx0 : i < n) (hx1 : pbP bg en sc oh bt re x i = true) (ls : Array Slot), lv_has ls 4 [(0, .ref (ql 0)), (1, .ref (q 0)), (2, .int (nI x)), (3, .int (nI i))] → W p l e R s m args below meth c H locs cells slots Q (F0 m 90 ls []))
    : ∀ (fu : Nat) (i : Nat) (hi : i ≤ n) (hne : ¬ (bg x = sa ∧ ew (oh x) (sc x) fm = re x)) (hf : ffi (pbP bg en sc oh bt re x) i = none), n - i < fu → ∀ ls : Array Slot, lv_has ls 4 [(0, .ref (ql 0)), (1, .ref (q 0)), (2, .int (nI x)), (3, .int (nI i))] → W p l e R s m args below meth c H locs cells slots Q (F0 m 36 ls []) := by
  have hg : ∀ w ∈ gw, w.before args s = true := fun w h => hts w (List.mem_cons_of_mem _ h)
  have hn := hB.1
  have hco := hB.2.1
  have hbi := hB.2.2
  have bx := hbi x
  have hrx := hre x
  have hw1 := ew_b (oh x) (sc x) fm
  have hNV : NVc = 1152921504606846976 := rfl
  intro fu
  induction fu with
  | zero => intro i hi hne hf h0; exact absurd h0 (Nat.not_lt_zero _)
  | succ fu ihL =>
    intro i hi hne hf hfu ls hl
    refine lv_iload_n hx hb dL_pieceBefore_36 rfl (lv_at hl 3 rfl) ?_
    refine lv_aload_n hx hb dL_pieceBefore_37 rfl (lv_at hl 1 rfl) ?_
    refine va_get (D := (dC, dI)) (ci := 1) (v := .int (nI n)) (C := nP) (T := TP) (N := 9) hx hb hg inP hown hK hP 2 rfl rfl 8 (by decide) (hg _ kL_23) (fun _ h9 => h9) rfl dL_pieceBefore_38 ?_
    refine rn_icmp_ge (tgt := 98) hx hb dL_pieceBefore_41 (by decide) (by omega) (by omega) (fun c41 => ?_) (fun c41 => ?_)
    · exact kx0 i hi hne hf (by omega) ls (lv_sub hl [0, 1, 2, 3] rfl)
    · have hri := hre i
      have hw2 := ew_b (oh x) (sc x) (re i)
      refine lv_aload_n hx hb dL_pieceBefore_44 rfl (lv_at hl 0 rfl) ?_
      refine va_get (D := (dC, dI)) (ci := 2) (v := .ref (ql 1)) (C := nL) (T := TL) (N := 3) hx hb hg inL hown hK hP 0 rfl rfl 0 (by decide) (hg _ kL_9) (fun _ h9 => h9) rfl dL_pieceBefore_45 ?_
      refine lv_iload_n hx hb dL_pieceBefore_48 rfl (lv_at hl 3 rfl) ?_
      refine ga_l (f := re) hx hb hK hP 1 1 rfl rfl (by omega) (by decide) dL_pieceBefore_49 ?_
      refine lv_aload_n hx hb dL_pieceBefore_50 rfl (lv_at hl 0 rfl) ?_
      refine va_get (D := (dC, dI)) (ci := 2) (v := .ref (ql 1)) (C := nL) (T := TL) (N := 3) hx hb hg inL hown hK hP 0 rfl rfl 0 (by decide) (hg _ kL_9) (fun _ h9 => h9) rfl dL_pieceBefore_51 ?_
      refine lv_iload_n hx hb dL_pieceBefore_54 rfl (lv_at hl 2 rfl) ?_
      refine ga_l (f := re) hx hb hK hP 1 1 rfl rfl (by omega) (by decide) dL_pieceBefore_55 ?_
      refine rn_lcmp_ge (tgt := 92) hx hb dL_pieceBefore_56 dL_pieceBefore_57 (by decide) (by omega) (by omega) (fun c57 => ?_) (fun c57 => ?_)
      · refine rn_iinc (lv' := [(3, .int (nI (i + 1))), (0, .ref (ql 0)), (1, .ref (q 0)), (2, .int (nI x))]) hx hb dL_pieceBefore_92 hl (k := 3) rfl (by decide) rfl (fun ls hl => ?_)
        refine lv_goto (tgt := 36) hx hb dL_pieceBefore_95 (by decide) ?_
        exact ihL (i + 1) (by omega) (hne) (by first | exact pb_1 hf (pbP_1 c57) | exact pb_1 hf (pbP_2 c66) | exact pb_1 hf (pbP_3 c87)) (by omega) ls (lv_sub hl [1, 2, 3, 0] rfl)
      · refine lv_aload_n hx hb dL_pieceBefore_60 rfl (lv_at hl 1 rfl) ?_
        refine lv_iload_n hx hb dL_pieceBefore_61 rfl (lv_at hl 3 rfl) ?_
        refine lv_iload_n hx hb dL_pieceBefore_62 rfl (lv_at hl 2 rfl) ?_
        refine cpV_i (b := (q 0)) (C := nP) (As := [.int (nI i), .int (nI x)]) (rest := []) (post := fun r : Int32 => r = bI (foB bg en bt i x)) ⟨hx, hb, hml, hown, hts⟩ (ct_P_canFollow l dC dI cI cJ cZ q bg en sc wd ht oh bt co n i x (hB) (by omega) (hx9)) (cwV 2 hts (gv kL_54 ki_P_canFollow ksel_P_canFollow kin_P kc_P_canFollow) rfl rfl rfl (by decide +kernel) ⟨Nat.le_trans (by decide) hR.1, Nat.le_trans (by decide) hR.2⟩) (va_recv hK hP (ci := 1) (q0 := 2) rfl rfl) (hP.sub (ws' := (wP cI cJ cZ q bg en sc wd ht oh bt co n)) [2, 3, 4, 5, 6, 7, 8, 9] rfl) hK hE rfl hl.1 rfl (Nat.le_of_ble_eq_true rfl) dL_pieceBefore_63 hcs (fun r hr => ?_)
        subst hr
        refine rb_eq (tgt := 92) hx hb dL_pieceBefore_66 (by decide) (fun c66 => ?_) (fun c66 => ?_)
        · refine rn_iinc (lv' := [(3, .int (nI (i + 1))), (0, .ref (ql 0)), (1, .ref (q 0)), (2, .int (nI x))]) hx hb dL_pieceBefore_92 hl (k := 3) rfl (by decide) rfl (fun ls hl => ?_)
          refine lv_goto (tgt := 36) hx hb dL_pieceBefore_95 (by decide) ?_
          exact ihL (i + 1) (by omega) (hne) (by first | exact pb_1 hf (pbP_1 c57) | exact pb_1 hf (pbP_2 c66) | exact pb_1 hf (pbP_3 c87)) (by omega) ls (lv_sub hl [1, 2, 3, 0] rfl)
        · refine lv_aload_n hx hb dL_pieceBefore_69 rfl (lv_at hl 1 rfl) ?_
          refine lv_iload_n hx hb dL_pieceBefore_70 rfl (lv_at hl 2 rfl) ?_
          refine lv_aload_n hx hb dL_pieceBefore_71 rfl (lv_at hl 0 rfl) ?_
          refine va_get (D := (dC, dI)) (ci := 2) (v := .ref (ql 1)) (C := nL) (T := TL) (N := 3) hx hb hg inL hown hK hP 0 rfl rfl 0 (by decide) (hg _ kL_9) (fun _ h9 => h9) rfl dL_pieceBefore_72 ?_
          refine lv_iload_n hx hb dL_pieceBefore_75 rfl (lv_at hl 3 rfl) ?_
          refine ga_l (f := re) hx hb hK hP 1 1 rfl rfl (by omega) (by decide) dL_pieceBefore_76 ?_
          refine cpV_l (b := (q 0)) (C := nP) (As := [.int (nI x), .long (lN (re i))]) (rest := []) (post := fun r : Int64 => r = lN (ew (oh x) (sc x) (re i))) ⟨hx, hb, hml, hown, hts⟩ (ct_P_endWhenUsedFrom l dC dI cI cJ cZ q bg en sc wd ht oh bt co n x (re i) (hB) (hx9) (by omega)) (cwV 2 hts (gv kL_36 ki_P_endWhenUsedFrom ksel_P_endWhenUsedFrom kin_P kc_P_endWhenUsedFrom) rfl rfl rfl (by decide +kernel) ⟨Nat.le_trans (by decide) hR.1, Nat.le_trans (by decide) hR.2⟩) (va_recv hK hP (ci := 1) (q0 := 2) rfl rfl) (hP.sub (ws' := (wP cI cJ cZ q bg en sc wd ht oh bt co n)) [2, 3, 4, 5, 6, 7, 8, 9] rfl) hK hE rfl hl.1 rfl (Nat.le_of_ble_eq_true rfl) dL_pieceBefore_77 hcs (fun r hr => ?_)
          subst hr
          refine lv_aload_n hx hb dL_pieceBefore_80 rfl (lv_at hl 0 rfl) ?_
          refine va_get (D := (dC, dI)) (ci := 2) (v := .ref (ql 1)) (C := nL) (T := TL) (N := 3) hx hb hg inL hown hK hP 0 rfl rfl 0 (by decide) (hg _ kL_9) (fun _ h9 => h9) rfl dL_pieceBefore_81 ?_
          refine lv_iload_n hx hb dL_pieceBefore_84 rfl (lv_at hl 2 rfl) ?_
          refine ga_l (f := re) hx hb hK hP 1 1 rfl rfl (by omega) (by decide) dL_pieceBefore_85 ?_
          refine rn_lcmp_ne (tgt := 92) hx hb dL_pieceBefore_86 dL_pieceBefore_87 (by decide) (by omega) (by omega) (fun c87 => ?_) (fun c87 => ?_)
          · refine rn_iinc (lv' := [(3, .int (nI (i + 1))), (0, .ref (ql 0)), (1, .ref (q 0)), (2, .int (nI x))]) hx hb dL_pieceBefore_92 hl (k := 3) rfl (by decide) rfl (fun ls hl => ?_)
            refine lv_goto (tgt := 36) hx hb dL_pieceBefore_95 (by decide) ?_
            exact ihL (i + 1) (by omega) (hne) (by first | exact pb_1 hf (pbP_1 c57) | exact pb_1 hf (pbP_2 c66) | exact pb_1 hf (pbP_3 c87)) (by omega) ls (lv_sub hl [1, 2, 3, 0] rfl)
          · exact kx1 i hi hne hf (by omega) (pbP_4 c57 c66 c87) ls (lv_sub hl [0, 1, 2, 3] rfl)

set_option maxHeartbeats 4000000 in
set_option maxRecDepth 100000 in
theorem ct_L_pieceBefore (l : Launch) (dC : Nat → ClassId) (dI : Nat → Nat → Nat) (cI cJ cZ : ClassId) (ql : Nat → Nat) (re : Nat → Nat) (sa fm : Nat) (q : Nat → Nat) (bg en sc wd ht oh bt : Nat → Nat) (co n : Nat) (x : Nat) (hre : ∀ j, re j ≤ 1152921504606846976) (hB : bP bg en sc wd ht oh bt co n) (hx9 : x < 40) (hfm : fm < 2305843009213693952) (hsa : sa < 20) : Met l yL_pieceBefore wsL_pieceBefore ({ frames := 3, cells := 0, slots := 0, locals := 66 }) (PcR (dC, dI) (wL cI cJ cZ ql re sa fm ++ wP cI cJ cZ q bg en sc wd ht oh bt co n) (tyE cI cJ cZ) [.ref (ql 0), .ref (q 0), .int (nI x)]) (vp_Si (fun r => r = oI (pbO bg en sc oh bt re sa fm n x))) 0 0 (fun _ => False) := by
  refine Met.ofW (cc := cL_pieceBefore) (maxL := 4) (ret := (some .int)) (by decide) rfl ?_
  intro p e s m args below meth c s₁ B hml hv
  obtain ⟨rfl, hP, hK, hE⟩ := hv
  have hx := B.exec
  have hb := B.bytes
  have hr := B.returns
  have hts := atoms_spec (ws := wsL_pieceBefore) B.pre
  have hg : ∀ w ∈ gw, w.before _ s = true := fun w h => hts w (List.mem_cons_of_mem _ h)
  have hown : s.vm.findClass nL = some m.cls := findClass_of_methodNamed B.named
  have hlocks := B.notSynchronized
  have hR : 3 ≤ (headSpec wsL_pieceBefore ({ frames := 3, cells := 0, slots := 0, locals := 66 })).room.frames ∧ 66 ≤ (headSpec wsL_pieceBefore ({ frames := 3, cells := 0, slots := 0, locals := 66 })).room.locals := ⟨Nat.le_refl _, Nat.le_refl _⟩
  have hcs : 0 ≤ (headSpec wsL_pieceBefore ({ frames := 3, cells := 0, slots := 0, locals := 66 })).room.cells ∧ 0 ≤ (headSpec wsL_pieceBefore ({ frames := 3, cells := 0, slots := 0, locals := 66 })).room.slots := ⟨Nat.zero_le _, Nat.zero_le _⟩
  have hn := hB.1
  have hco := hB.2.1
  have hbi := hB.2.2
  have bx := hbi x
  have hrx := hre x
  have hw1 := ew_b (oh x) (sc x) fm
  have hNV : NVc = 1152921504606846976 := rfl
  have hl := lv_entry ([.ref (ql 0), .ref (q 0), .int (nI x)]) (n := 4) (Nat.le_of_ble_eq_true rfl)
  rw [lg_entry_eq]
  generalize (lg_sl ([.ref (ql 0), .ref (q 0), .int (nI x)]) ++ List.replicate (4 - (lg_sl ([.ref (ql 0), .ref (q 0), .int (nI x)])).length) Slot.unset).toArray = ls at hl ⊢
  have hl : lv_has ls 4 [(0, .ref (ql 0)), (1, .ref (q 0)), (2, .int (nI x))] := hl
  refine lv_aload_n hx hb dL_pieceBefore_0 rfl (lv_at hl 1 rfl) ?_
  refine va_get (D := (dC, dI)) (ci := 1) (v := .ref (q 1)) (C := nP) (T := TP) (N := 9) hx hb hg inP hown hK hP 2 rfl rfl 0 (by decide) (hg _ kL_32) (fun _ h9 => h9) rfl dL_pieceBefore_1 ?_
  refine lv_iload_n hx hb dL_pieceBefore_4 rfl (lv_at hl 2 rfl) ?_
  refine ga_i (f := bg) hx hb hK hP 3 0 rfl rfl (by omega) (by decide) dL_pieceBefore_5 ?_
  refine lv_aload_n hx hb dL_pieceBefore_6 rfl (lv_at hl 0 rfl) ?_
  refine va_get (D := (dC, dI)) (ci := 2) (v := .int (nI sa)) (C := nL) (T := TL) (N := 3) hx hb hg inL hown hK hP 0 rfl rfl 1 (by decide) (hg _ kL_15) (fun _ h9 => h9) rfl dL_pieceBefore_7 ?_
  refine rn_icmp_ne (tgt := 34) hx hb dL_pieceBefore_10 (by decide) (by omega) (by omega) (fun c10 => ?_) (fun c10 => ?_)
  · refine rn_iconst hx hb 0 dL_pieceBefore_34 (by decide) ?_
    refine lv_istore_n (lv' := [(3, .int (nI 0)), (0, .ref (ql 0)), (1, .ref (q 0)), (2, .int (nI x))]) hx hb dL_pieceBefore_35 rfl hl (by decide) rfl (fun ls hl => ?_)
    refine lp_L_before ql re sa fm q bg en sc wd ht oh bt co n x hre hB hx9 hfm hsa hx hb hml hown hts hK hP hE (by first | exact hR | exact ⟨Nat.le_trans (by decide) hR.1, Nat.le_trans (by decide) hR.2⟩) hcs (fun i hi hne hf hx0 ls hl => ?_) (fun i hi hne hf hx0 hx1 ls hl => ?_) ((n - 0) + 1) 0 (by omega) (by first | exact nn_1 c10 | exact nn_2 c29) (rfl) (by omega) ls (lv_sub hl [1, 2, 3, 0] rfl)
    · refine lv_iconst (v := -1) hx hb dL_pieceBefore_98 (by decide) ?_
      exact W.iret hx hb hr (fun t ht hW => ⟨_, rfl, (by first | exact congrArg oI (pb_0 c10 c29) | (show nI i = _; rw [pbO, if_neg hne, ffi_some hf hx1 n hx0]; rfl) | (show -1 = _; rw [pbO, if_neg hne, show n = i from by omega, hf]; rfl)), ht⟩) (fun _ h9 => nomatch h9) dL_pieceBefore_99
    · refine lv_iload_n hx hb dL_pieceBefore_90 rfl (lv_at hl 3 rfl) ?_
      exact W.iret hx hb hr (fun t ht hW => ⟨_, rfl, (by first | exact congrArg oI (pb_0 c10 c29) | (show nI i = _; rw [pbO, if_neg hne, ffi_some hf hx1 n hx0]; rfl) | (show -1 = _; rw [pbO, if_neg hne, show n = i from by omega, hf]; rfl)), ht⟩) (fun _ h9 => nomatch h9) dL_pieceBefore_91
  · refine lv_aload_n hx hb dL_pieceBefore_13 rfl (lv_at hl 1 rfl) ?_
    refine lv_iload_n hx hb dL_pieceBefore_14 rfl (lv_at hl 2 rfl) ?_
    refine lv_aload_n hx hb dL_pieceBefore_15 rfl (lv_at hl 0 rfl) ?_
    refine va_get (D := (dC, dI)) (ci := 2) (v := .long (lN fm)) (C := nL) (T := TL) (N := 3) hx hb hg inL hown hK hP 0 rfl rfl 2 (by decide) (hg _ kL_19) (fun _ h9 => h9) rfl dL_pieceBefore_16 ?_
    refine cpV_l (b := (q 0)) (C := nP) (As := [.int (nI x), .long (lN fm)]) (rest := []) (post := fun r : Int64 => r = lN (ew (oh x) (sc x) fm)) ⟨hx, hb, hml, hown, hts⟩ (ct_P_endWhenUsedFrom l dC dI cI cJ cZ q bg en sc wd ht oh bt co n x fm (hB) (hx9) (hfm)) (cwV 2 hts (gv kL_36 ki_P_endWhenUsedFrom ksel_P_endWhenUsedFrom kin_P kc_P_endWhenUsedFrom) rfl rfl rfl (by decide +kernel) ⟨Nat.le_trans (by decide) hR.1, Nat.le_trans (by decide) hR.2⟩) (va_recv hK hP (ci := 1) (q0 := 2) rfl rfl) (hP.sub (ws' := (wP cI cJ cZ q bg en sc wd ht oh bt co n)) [2, 3, 4, 5, 6, 7, 8, 9] rfl) hK hE rfl hl.1 rfl (Nat.le_of_ble_eq_true rfl) dL_pieceBefore_19 hcs (fun r hr => ?_)
    subst hr
    refine lv_aload_n hx hb dL_pieceBefore_22 rfl (lv_at hl 0 rfl) ?_
    refine va_get (D := (dC, dI)) (ci := 2) (v := .ref (ql 1)) (C := nL) (T := TL) (N := 3) hx hb hg inL hown hK hP 0 rfl rfl 0 (by decide) (hg _ kL_9) (fun _ h9 => h9) rfl dL_pieceBefore_23 ?_
    refine lv_iload_n hx hb dL_pieceBefore_26 rfl (lv_at hl 2 rfl) ?_
    refine ga_l (f := re) hx hb hK hP 1 1 rfl rfl (by omega) (by decide) dL_pieceBefore_27 ?_
    refine rn_lcmp_ne (tgt := 34) hx hb dL_pieceBefore_28 dL_pieceBefore_29 (by decide) (by omega) (by omega) (fun c29 => ?_) (fun c29 => ?_)
    · refine rn_iconst hx hb 0 dL_pieceBefore_34 (by decide) ?_
      refine lv_istore_n (lv' := [(3, .int (nI 0)), (0, .ref (ql 0)), (1, .ref (q 0)), (2, .int (nI x))]) hx hb dL_pieceBefore_35 rfl hl (by decide) rfl (fun ls hl => ?_)
      refine lp_L_before ql re sa fm q bg en sc wd ht oh bt co n x hre hB hx9 hfm hsa hx hb hml hown hts hK hP hE (by first | exact hR | exact ⟨Nat.le_trans (by decide) hR.1, Nat.le_trans (by decide) hR.2⟩) hcs (fun i hi hne hf hx0 ls hl => ?_) (fun i hi hne hf hx0 hx1 ls hl => ?_) ((n - 0) + 1) 0 (by omega) (by first | exact nn_1 c10 | exact nn_2 c29) (rfl) (by omega) ls (lv_sub hl [1, 2, 3, 0] rfl)
      · refine lv_iconst (v := -1) hx hb dL_pieceBefore_98 (by decide) ?_
        exact W.iret hx hb hr (fun t ht hW => ⟨_, rfl, (by first | exact congrArg oI (pb_0 c10 c29) | (show nI i = _; rw [pbO, if_neg hne, ffi_some hf hx1 n hx0]; rfl) | (show -1 = _; rw [pbO, if_neg hne, show n = i from by omega, hf]; rfl)), ht⟩) (fun _ h9 => nomatch h9) dL_pieceBefore_99
      · refine lv_iload_n hx hb dL_pieceBefore_90 rfl (lv_at hl 3 rfl) ?_
        exact W.iret hx hb hr (fun t ht hW => ⟨_, rfl, (by first | exact congrArg oI (pb_0 c10 c29) | (show nI i = _; rw [pbO, if_neg hne, ffi_some hf hx1 n hx0]; rfl) | (show -1 = _; rw [pbO, if_neg hne, show n = i from by omega, hf]; rfl)), ht⟩) (fun _ h9 => nomatch h9) dL_pieceBefore_91
    · refine lv_iconst (v := -1) hx hb dL_pieceBefore_32 (by decide) ?_
      exact W.iret hx hb hr (fun t ht hW => ⟨_, rfl, (by first | exact congrArg oI (pb_0 c10 c29) | (show nI i = _; rw [pbO, if_neg hne, ffi_some hf hx1 n hx0]; rfl) | (show -1 = _; rw [pbO, if_neg hne, show n = i from by omega, hf]; rfl)), ht⟩) (fun _ h9 => nomatch h9) dL_pieceBefore_33

theorem gL_n {fo : Nat → Nat → Bool} {use : Nat → Nat → Nat} {x op : Nat} {R : Nat → Nat} {i : Nat} (c : op.testBit i = false) : gL fo use x op R (i + 1) = gL fo use x op R i := by simp [gL, c]
theorem gL_m {fo : Nat → Nat → Bool} {use : Nat → Nat → Nat} {x op : Nat} {R : Nat → Nat} {i : Nat} (c : fo x i = false) : gL fo use x op R (i + 1) = gL fo use x op R i := by simp [gL, c]
theorem gL_t {fo : Nat → Nat → Bool} {use : Nat → Nat → Nat} {x op : Nat} {R : Nat → Nat} {i : Nat} (c : op.testBit i = true) (d : fo x i = true) : gL fo use x op R (i + 1) = va_up (gL fo use x op R i) i (min (gL fo use x op R i i) (use i (gL fo use x op R i x))) := by simp [gL, c, d]

set_option maxHeartbeats 4000000 in
set_option maxRecDepth 100000 in
theorem lp_L_goOn {p : Program} {l : Launch} {e : Env} {R : Room} {s : State} {m : MethodId} {args : Array Value} {below : List Frame} {meth : Method} {c : Code} {cells slots : Nat} {Q : State → Prop} {dC : Nat → ClassId} {dI : Nat → Nat → Nat} {cI cJ cZ : ClassId} {A : Nat → Prop} (ql : Nat → Nat) (re : Nat → Nat) (sa fm : Nat) (q : Nat → Nat) (bg en sc wd ht oh bt : Nat → Nat) (co n : Nat) (x op : Nat) (hre : ∀ j, re j ≤ 1152921504606846976) (hB : bP bg en sc wd ht oh bt co n) (hx9 : x < 40) (hop : op < 4611686018427387904)  (hx : p.tables.exec = Jvm.exec) (hb : c.code = cL_goOnFrom) (hml : c.maxLocals = 8) (hown : s.vm.findClass nL = some m.cls) (hts : ∀ w ∈ wsL_goOnFrom, w.before args s = true) (hK : va_K (dC, dI) vwCl (tyE cI cJ cZ) s) (hE : EV s) (hA : ∀ q : Nat, s.heap.size ≤ q → A q) (hR : 3 ≤ R.frames ∧ 66 ≤ R.locals) (hcs : cells ≤ R.cells ∧ slots ≤ R.slots)
    (kx0 : ∀ (i : Nat) (v : Nat → Nat) (hi : i ≤ n) (hv : v = gL (foB bg en bt) (uE oh sc) x op re i) (hx0 : n ≤ i) (H : Heap) (locs : List Loc), va_P (dC, dI) vwCl (wL cI cJ cZ ql v sa fm ++ wP cI cJ cZ q bg en sc wd ht oh bt co n) H → va_D A (wL cI cJ cZ ql v sa fm ++ wP cI cJ cZ q bg en sc wd ht oh bt co n) → va_S A s.heap H locs → ∀ ls : Array Slot, lv_has ls 8 [(0, .ref (ql 0)), (1, .ref (q 0)), (2, .int (nI x)), (3, .long (lN op)), (5, .int (nI i))] →  W p l e R s m args below meth c H locs cells slots Q (F0 m 70 ls []))
    : ∀ (fu : Nat) (i : Nat) (v : Nat → Nat) (hi : i ≤ n) (hv : v = gL (foB bg en bt) (uE oh sc) x op re i), n - i < fu → ∀ (H : Heap) (locs : List Loc), va_P (dC, dI) vwCl (wL cI cJ cZ ql v sa fm ++ wP cI cJ cZ q bg en sc wd ht oh bt co n) H → va_D A (wL cI cJ cZ ql v sa fm ++ wP cI cJ cZ q bg en sc wd ht oh bt co n) → va_S A s.heap H locs → ∀ ls : Array Slot, lv_has ls 8 [(0, .ref (ql 0)), (1, .ref (q 0)), (2, .int (nI x)), (3, .long (lN op)), (5, .int (nI i))] →  W p l e R s m args below meth c H locs cells slots Q (F0 m 3 ls []) := by
  have hg : ∀ w ∈ gw, w.before args s = true := fun w h => hts w (List.mem_cons_of_mem _ h)
  have hn := hB.1
  have hco := hB.2.1
  have hbi := hB.2.2
  have hNV : NVc = 1152921504606846976 := rfl
  intro fu
  induction fu with
  | zero => intro i v hi hv h0; exact absurd h0 (Nat.not_lt_zero _)
  | succ fu ihL =>
    intro i v hi hv hfu H locs hP hD hS ls hl
    refine lv_iload hx hb dL_goOnFrom_3 (lv_at hl 4 rfl) ?_
    refine lv_aload_n hx hb dL_goOnFrom_5 rfl (lv_at hl 1 rfl) ?_
    refine va_get (D := (dC, dI)) (ci := 1) (v := .int (nI n)) (C := nP) (T := TP) (N := 9) hx hb hg inP hown hK hP 2 rfl rfl 8 (by decide) (hg _ kL_23) (fun _ h9 => h9) rfl dL_goOnFrom_6 ?_
    refine rn_icmp_ge (tgt := 70) hx hb dL_goOnFrom_9 (by decide) (by omega) (by omega) (fun c9 => ?_) (fun c9 => ?_)
    · exact kx0 i v hi hv (by omega) H locs hP hD hS ls (lv_sub hl [0, 1, 2, 3, 4] rfl)
    · have bi := hbi i
      have hvb : ∀ j, v j ≤ 1152921504606846976 := fun j => by rw [hv]; exact Nat.le_trans (gL_le i j) (hre j)
      have hvx := hvb x
      have hvi := hvb i
      have hw2 := ew_b (oh i) (sc i) (v x)
      refine lv_lload_n hx hb dL_goOnFrom_12 rfl (lv_at hl 3 rfl) ?_
      refine lv_iload hx hb dL_goOnFrom_13 (lv_at hl 4 rfl) ?_
      refine cpN_i (As := [.long (lN op), .int (nI i)]) (rest := []) (post := fun r : Int32 => r = bI (op.testBit i)) ⟨hx, hb, hml, hown, hts⟩ (ct_G_hasBit l dC dI cI cJ cZ op i (hop) (by omega)) ⟨va_cnB 2 hts (gi kc_G_hasBit) rfl rfl rfl (hE _ kNL_28) (hg _ kin_G) (by decide +kernel) ⟨Nat.le_trans (by decide) hR.1, Nat.le_trans (by decide) hR.2⟩, hg _ ks_G_hasBit, trivial⟩ (hP.sub (ws' := []) [] rfl) hK hE rfl hl.1 rfl (Nat.le_of_ble_eq_true rfl) dL_goOnFrom_15 hcs (fun r hr => ?_)
      subst hr
      refine rb_eq (tgt := 64) hx hb dL_goOnFrom_18 (by decide) (fun c18 => ?_) (fun c18 => ?_)
      · refine rn_iinc (lv' := [(5, .int (nI (i + 1))), (0, .ref (ql 0)), (1, .ref (q 0)), (2, .int (nI x)), (3, .long (lN op))]) hx hb dL_goOnFrom_64 hl (k := 4) rfl (by decide) rfl (fun ls hl => ?_)
        refine lv_goto (tgt := 3) hx hb dL_goOnFrom_67 (by decide) ?_
        exact ihL (i + 1) v (by omega) (by first | (rw [hv]; exact (gL_n c18).symm) | (rw [hv]; exact (gL_m c28).symm) | (rw [hv]; exact (gL_t c18 c28).symm)) (by omega) H locs hP hD hS ls (lv_sub hl [1, 2, 3, 4, 0] rfl)
      · refine lv_aload_n hx hb dL_goOnFrom_21 rfl (lv_at hl 1 rfl) ?_
        refine lv_iload_n hx hb dL_goOnFrom_22 rfl (lv_at hl 2 rfl) ?_
        refine lv_iload hx hb dL_goOnFrom_23 (lv_at hl 4 rfl) ?_
        refine cpV_i (b := (q 0)) (C := nP) (As := [.int (nI x), .int (nI i)]) (rest := []) (post := fun r : Int32 => r = bI (foB bg en bt x i)) ⟨hx, hb, hml, hown, hts⟩ (ct_P_canFollow l dC dI cI cJ cZ q bg en sc wd ht oh bt co n x i (hB) (hx9) (by omega)) (cwV 2 hts (gv kL_54 ki_P_canFollow ksel_P_canFollow kin_P kc_P_canFollow) rfl rfl rfl (by decide +kernel) ⟨Nat.le_trans (by decide) hR.1, Nat.le_trans (by decide) hR.2⟩) (va_recv hK hP (ci := 1) (q0 := 2) rfl rfl) (hP.sub (ws' := (wP cI cJ cZ q bg en sc wd ht oh bt co n)) [2, 3, 4, 5, 6, 7, 8, 9] rfl) hK hE rfl hl.1 rfl (Nat.le_of_ble_eq_true rfl) dL_goOnFrom_25 hcs (fun r hr => ?_)
        subst hr
        refine rb_eq (tgt := 64) hx hb dL_goOnFrom_28 (by decide) (fun c28 => ?_) (fun c28 => ?_)
        · refine rn_iinc (lv' := [(5, .int (nI (i + 1))), (0, .ref (ql 0)), (1, .ref (q 0)), (2, .int (nI x)), (3, .long (lN op))]) hx hb dL_goOnFrom_64 hl (k := 4) rfl (by decide) rfl (fun ls hl => ?_)
          refine lv_goto (tgt := 3) hx hb dL_goOnFrom_67 (by decide) ?_
          exact ihL (i + 1) v (by omega) (by first | (rw [hv]; exact (gL_n c18).symm) | (rw [hv]; exact (gL_m c28).symm) | (rw [hv]; exact (gL_t c18 c28).symm)) (by omega) H locs hP hD hS ls (lv_sub hl [1, 2, 3, 4, 0] rfl)
        · refine lv_aload_n hx hb dL_goOnFrom_31 rfl (lv_at hl 1 rfl) ?_
          refine lv_iload hx hb dL_goOnFrom_32 (lv_at hl 4 rfl) ?_
          refine lv_aload_n hx hb dL_goOnFrom_34 rfl (lv_at hl 0 rfl) ?_
          refine va_get (D := (dC, dI)) (ci := 2) (v := .ref (ql 1)) (C := nL) (T := TL) (N := 3) hx hb hg inL hown hK hP 0 rfl rfl 0 (by decide) (hg _ kL_9) (fun _ h9 => h9) rfl dL_goOnFrom_35 ?_
          refine lv_iload_n hx hb dL_goOnFrom_38 rfl (lv_at hl 2 rfl) ?_
          refine ga_l (f := v) hx hb hK hP 1 1 rfl rfl (by omega) (by decide) dL_goOnFrom_39 ?_
          refine cpV_l (b := (q 0)) (C := nP) (As := [.int (nI i), .long (lN (v x))]) (rest := []) (post := fun r : Int64 => r = lN (ew (oh i) (sc i) (v x))) ⟨hx, hb, hml, hown, hts⟩ (ct_P_endWhenUsedFrom l dC dI cI cJ cZ q bg en sc wd ht oh bt co n i (v x) (hB) (by omega) (by omega)) (cwV 2 hts (gv kL_36 ki_P_endWhenUsedFrom ksel_P_endWhenUsedFrom kin_P kc_P_endWhenUsedFrom) rfl rfl rfl (by decide +kernel) ⟨Nat.le_trans (by decide) hR.1, Nat.le_trans (by decide) hR.2⟩) (va_recv hK hP (ci := 1) (q0 := 2) rfl rfl) (hP.sub (ws' := (wP cI cJ cZ q bg en sc wd ht oh bt co n)) [2, 3, 4, 5, 6, 7, 8, 9] rfl) hK hE rfl hl.1 rfl (Nat.le_of_ble_eq_true rfl) dL_goOnFrom_40 hcs (fun r hr => ?_)
          subst hr
          refine lv_lstore (lv' := [(6, .long (lN (ew (oh i) (sc i) (v x)))), (0, .ref (ql 0)), (1, .ref (q 0)), (2, .int (nI x)), (3, .long (lN op)), (5, .int (nI i))]) hx hb dL_goOnFrom_43 hl (by decide) rfl (fun ls hl => ?_)
          refine lv_aload_n hx hb dL_goOnFrom_45 rfl (lv_at hl 1 rfl) ?_
          refine va_get (D := (dC, dI)) (ci := 2) (v := .ref (ql 1)) (C := nL) (T := TL) (N := 3) hx hb hg inL hown hK hP 0 rfl rfl 0 (by decide) (hg _ kL_9) (fun _ h9 => h9) rfl dL_goOnFrom_46 ?_
          refine lv_iload hx hb dL_goOnFrom_49 (lv_at hl 5 rfl) ?_
          refine lv_aload_n hx hb dL_goOnFrom_51 rfl (lv_at hl 1 rfl) ?_
          refine va_get (D := (dC, dI)) (ci := 2) (v := .ref (ql 1)) (C := nL) (T := TL) (N := 3) hx hb hg inL hown hK hP 0 rfl rfl 0 (by decide) (hg _ kL_9) (fun _ h9 => h9) rfl dL_goOnFrom_52 ?_
          refine lv_iload hx hb dL_goOnFrom_55 (lv_at hl 5 rfl) ?_
          refine ga_l (f := v) hx hb hK hP 1 1 rfl rfl (by omega) (by decide) dL_goOnFrom_57 ?_
          refine lv_lload hx hb dL_goOnFrom_58 (lv_at hl 0 rfl) ?_
          refine cpS_l (As := [.long (lN (v i)), .long (lN (ew (oh i) (sc i) (v x)))]) (rest := [.int (nI i), .ref (ql 1)]) (post := fun r : Int64 => r = lN (min (v i) (ew (oh i) (sc i) (v x)))) ⟨hx, hb, hml, hown, hts⟩ (ct_JM_min_J l dC dI cI cJ cZ (v i) (ew (oh i) (sc i) (v x)) (by omega) (by omega)) (va_cwS 2 hts (gs kL_58 ks_JM_min_J kin_JM kc_JM_min_J) rfl rfl rfl (by decide +kernel) ⟨Nat.le_trans (by decide) hR.1, Nat.le_trans (by decide) hR.2⟩) (hP.sub (ws' := []) [] rfl) hK hE rfl hl.1 rfl (Nat.le_of_ble_eq_true rfl) dL_goOnFrom_60 hcs (fun r hr => ?_)
          subst hr
          refine sa_l (f := v) (v := min (v i) (ew (oh i) (sc i) (v x))) hx hb hK hP hD hS 1 1 rfl rfl (by omega) (by decide) dL_goOnFrom_63 (fun H locs hP hD hS => ?_)
          have hP : va_P (dC, dI) vwCl (wL cI cJ cZ ql (va_up v i (min (v i) (ew (oh i) (sc i) (v x)))) sa fm ++ wP cI cJ cZ q bg en sc wd ht oh bt co n) H := hP
          have hD : va_D A (wL cI cJ cZ ql (va_up v i (min (v i) (ew (oh i) (sc i) (v x)))) sa fm ++ wP cI cJ cZ q bg en sc wd ht oh bt co n) := hD
          refine rn_iinc (lv' := [(5, .int (nI (i + 1))), (6, .long (lN (ew (oh i) (sc i) (v x)))), (0, .ref (ql 0)), (1, .ref (q 0)), (2, .int (nI x)), (3, .long (lN op))]) hx hb dL_goOnFrom_64 hl (k := 5) rfl (by decide) rfl (fun ls hl => ?_)
          refine lv_goto (tgt := 3) hx hb dL_goOnFrom_67 (by decide) ?_
          exact ihL (i + 1) (va_up v i (min (v i) (ew (oh i) (sc i) (v x)))) (by omega) (by first | (rw [hv]; exact (gL_n c18).symm) | (rw [hv]; exact (gL_m c28).symm) | (rw [hv]; exact (gL_t c18 c28).symm)) (by omega) H locs hP hD hS ls (lv_sub hl [2, 3, 4, 5, 0] rfl)

set_option maxHeartbeats 4000000 in
set_option maxRecDepth 100000 in
theorem ct_L_goOnFrom (l : Launch) (dC : Nat → ClassId) (dI : Nat → Nat → Nat) (cI cJ cZ : ClassId) (ql : Nat → Nat) (re : Nat → Nat) (sa fm : Nat) (q : Nat → Nat) (bg en sc wd ht oh bt : Nat → Nat) (co n : Nat) (x op : Nat) (sz : Nat) (hre : ∀ j, re j ≤ 1152921504606846976) (hB : bP bg en sc wd ht oh bt co n) (hx9 : x < 40) (hop : op < 4611686018427387904) : Met l yL_goOnFrom wsL_goOnFrom ({ frames := 3, cells := 0, slots := 0, locals := 66 }) (PcW (dC, dI) (wL cI cJ cZ ql re sa fm ++ wP cI cJ cZ q bg en sc wd ht oh bt co n) (tyE cI cJ cZ) sz [.ref (ql 0), .ref (q 0), .int (nI x), .long (lN op)]) (QwV (dC, dI) (wL cI cJ cZ ql (gL (foB bg en bt) (uE oh sc) x op re n) sa fm ++ wP cI cJ cZ q bg en sc wd ht oh bt co n) (tyE cI cJ cZ) (va_A (wL cI cJ cZ ql re sa fm ++ wP cI cJ cZ q bg en sc wd ht oh bt co n) sz)) 0 0 (va_A (wL cI cJ cZ ql re sa fm ++ wP cI cJ cZ q bg en sc wd ht oh bt co n) sz) := by
  refine Met.ofW (cc := cL_goOnFrom) (maxL := 8) (ret := none) (by decide) rfl ?_
  intro p e s m args below meth c s₁ B hml hv
  obtain ⟨rfl, hsz, hP, hK, hD0, hE⟩ := hv
  have hx := B.exec
  have hb := B.bytes
  have hr := B.returns
  have hts := atoms_spec (ws := wsL_goOnFrom) B.pre
  have hg : ∀ w ∈ gw, w.before _ s = true := fun w h => hts w (List.mem_cons_of_mem _ h)
  have hown : s.vm.findClass nL = some m.cls := findClass_of_methodNamed B.named
  have hlocks := B.notSynchronized
  have hR : 3 ≤ (headSpec wsL_goOnFrom ({ frames := 3, cells := 0, slots := 0, locals := 66 })).room.frames ∧ 66 ≤ (headSpec wsL_goOnFrom ({ frames := 3, cells := 0, slots := 0, locals := 66 })).room.locals := ⟨Nat.le_refl _, Nat.le_refl _⟩
  have hcs : 0 ≤ (headSpec wsL_goOnFrom ({ frames := 3, cells := 0, slots := 0, locals := 66 })).room.cells ∧ 0 ≤ (headSpec wsL_goOnFrom ({ frames := 3, cells := 0, slots := 0, locals := 66 })).room.slots := ⟨Nat.zero_le _, Nat.zero_le _⟩
  subst hsz
  have hD := hD0.self (sz := s.heap.size)
  generalize hAe : va_A (wL cI cJ cZ ql re sa fm ++ wP cI cJ cZ q bg en sc wd ht oh bt co n) s.heap.size = A at hD ⊢
  have hA : ∀ q : Nat, s.heap.size ≤ q → A q := fun q h => by rw [← hAe]; exact Or.inr h
  obtain ⟨H, hH⟩ : ∃ H, H = s.heap := ⟨_, rfl⟩
  have hS : va_S A s.heap H [] := by rw [hH]; exact va_S.rf
  rw [← hH] at hP ⊢
  have hn := hB.1
  have hco := hB.2.1
  have hbi := hB.2.2
  have hNV : NVc = 1152921504606846976 := rfl
  have hl := lv_entry ([.ref (ql 0), .ref (q 0), .int (nI x), .long (lN op)]) (n := 8) (Nat.le_of_ble_eq_true rfl)
  rw [lg_entry_eq]
  generalize (lg_sl ([.ref (ql 0), .ref (q 0), .int (nI x), .long (lN op)]) ++ List.replicate (8 - (lg_sl ([.ref (ql 0), .ref (q 0), .int (nI x), .long (lN op)])).length) Slot.unset).toArray = ls at hl ⊢
  have hl : lv_has ls 8 [(0, .ref (ql 0)), (1, .ref (q 0)), (2, .int (nI x)), (3, .long (lN op))] := hl
  refine rn_iconst hx hb 0 dL_goOnFrom_0 (by decide) ?_
  refine lv_istore (lv' := [(5, .int (nI 0)), (0, .ref (ql 0)), (1, .ref (q 0)), (2, .int (nI x)), (3, .long (lN op))]) hx hb dL_goOnFrom_1 hl (by decide) rfl (fun ls hl => ?_)
  refine lp_L_goOn ql re sa fm q bg en sc wd ht oh bt co n x op hre hB hx9 hop  hx hb hml hown hts hK hE hA (by first | exact hR | exact ⟨Nat.le_trans (by decide) hR.1, Nat.le_trans (by decide) hR.2⟩) hcs (fun i v hi hv hx0 H locs hP hD hS ls hl => ?_) ((n - 0) + 1) 0 re (by omega) (rfl) (by omega) _ _ hP hD hS ls (lv_sub hl [1, 2, 3, 4, 0] rfl)
  have hP9 : va_P (dC, dI) vwCl (wL cI cJ cZ ql (gL (foB bg en bt) (uE oh sc) x op re n) sa fm ++ wP cI cJ cZ q bg en sc wd ht oh bt co n) H := by rw [show gL (foB bg en bt) (uE oh sc) x op re n = v from by rw [hv, show n = i from by omega]]; exact hP
  have hD9 : va_D A (wL cI cJ cZ ql (gL (foB bg en bt) (uE oh sc) x op re n) sa fm ++ wP cI cJ cZ q bg en sc wd ht oh bt co n) := by rw [show gL (foB bg en bt) (uE oh sc) x op re n = v from by rw [hv, show n = i from by omega]]; exact hD
  exact W.vret hx hb hr (fun t ht hW => ⟨⟨(), rfl, trivial, by rw [ht]; exact hP9, va_K.moved hW.alike hK, hD9⟩, hS.F ht⟩) hS.2.2 dL_goOnFrom_70
