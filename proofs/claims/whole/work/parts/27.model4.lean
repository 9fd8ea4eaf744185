/-! ===== the chain of pieces back from the last ===== -/
def chT (pb : Nat → Option Nat) : Nat → Option Nat → Nat
  | 0, _ => 0
  | _ + 1, none => 0
  | k + 1, some x => chT pb k (pb x) + 1
def itr (pb : Nat → Option Nat) (o : Option Nat) : Nat → Option Nat
  | 0 => o
  | j + 1 => (itr pb o j).bind pb
theorem chT_none {pb : Nat → Option Nat} (k : Nat) : chT pb k none = 0 := by cases k <;> rfl
theorem chT_s {pb : Nat → Option Nat} {T m x : Nat} {o : Option Nat} (h : T = m + chT pb (40 - m) o) (hx : o = some x) (hm : m < 40) : T = m + 1 + chT pb (40 - (m + 1)) (pb x) := by
  subst hx
  rw [show 40 - m = (40 - (m + 1)) + 1 by omega] at h
  rw [h]
  show m + (chT pb (40 - (m + 1)) (pb x) + 1) = _
  omega
theorem itr_s {pb : Nat → Option Nat} {o o0 : Option Nat} {m x : Nat} (h : o = itr pb o0 m) (hx : o = some x) : pb x = itr pb o0 (m + 1) := by
  show _ = (itr pb o0 m).bind pb
  rw [← h, hx]; rfl
theorem itr_h {pb : Nat → Option Nat} {o o0 : Option Nat} {m x : Nat} (h5 : ∀ j, j < m → itr pb o0 j ≠ none) (h : o = itr pb o0 m) (hx : o = some x) : ∀ j, j < m + 1 → itr pb o0 j ≠ none := by
  intro j hj
  by_cases e : j = m
  · subst e; rw [← h, hx]; exact fun q => by cases q
  · exact h5 j (by omega)
theorem pbO_ok {bg en sc oh bt re : Nat → Nat} {sa fm n x i : Nat} (h : pbO bg en sc oh bt re sa fm n x = some i) : i < n ∧ re i < re x := by
  unfold pbO at h
  split at h
  · cases h
  · have := (ffi_ok n).1 i h
    have h2 := this.2.1
    unfold pbP at h2
    rw [Bool.and_eq_true] at h2
    exact ⟨this.1, of_decide_eq_true h2.1⟩
theorem rk_s {bg en sc oh bt re : Nat → Nat} {sa fm n x m : Nat} (h : x < n ∧ re x < NVc ∧ m + rkN re n x < n) : ∀ y, pbO bg en sc oh bt re sa fm n x = some y → y < n ∧ re y < NVc ∧ m + 1 + rkN re n y < n := by
  intro y hy
  obtain ⟨h1, h2⟩ := pbO_ok hy
  have := rkN_lt (r := re) h1 h2
  exact ⟨h1, by omega, by omega⟩
theorem rk_0 {en R : Nat → Nat} {pl n : Nat} : ∀ x, (lpL en R pl n).1 = some x → x < n ∧ R x < NVc ∧ 0 + rkN R n x < n := by
  intro x hx
  have := (lpL_2 en R pl n).2 x hx
  have h2 := rkN_n (r := R) this.1
  exact ⟨this.1, this.2.1, by omega⟩
section CRL
variable {bg en sc wd ht oh bt : Nat → Nat} {co n w h a t : Nat}
theorem cR_us (hB : bP bg en sc wd ht oh bt co n) (hsc : ∀ i, i < n → 1 ≤ sc i) (ht0 : t ≤ 10000000) {i : Nat} (hi : i < n) (q : cR bg en sc wd ht oh bt co n w h a t i < NVc) : usB wd ht oh co w h i = true := ((srch_R (re := fun _ => 0) hB hsc ht0).2.2.2.2 i hi q).1
theorem cR_g (hB : bP bg en sc wd ht oh bt co n) (hsc : ∀ i, i < n → 1 ≤ sc i) {i : Nat} (hi : i < n) (hu : usB wd ht oh co w h i = true) : ∀ m, m < ew (oh i) (sc i) m := fun m => (uE_gt hB hsc i m hi hu).1
theorem cR_ex (hB : bP bg en sc wd ht oh bt co n) (hsc : ∀ i, i < n → 1 ≤ sc i) (ht0 : t ≤ 10000000) {x : Nat} (hx : x < n) (q : cR bg en sc wd ht oh bt co n w h a t x < NVc) : ¬ (bg x = a ∧ ew (oh x) (sc x) t = cR bg en sc wd ht oh bt co n w h a t x) → ∃ j, j < n ∧ pbP bg en sc oh bt (cR bg en sc wd ht oh bt co n w h a t) x j = true := by
  intro hne
  obtain ⟨hu, hc⟩ := (srch_R (re := fun _ => 0) hB hsc ht0).2.2.2.2 x hx q
  rcases hc with ⟨h1, h2⟩ | ⟨j, j1, j2, j3, j4⟩
  · exact absurd ⟨of_decide_eq_true h1, h2.symm⟩ hne
  · have g := (uE_gt hB hsc x (cR bg en sc wd ht oh bt co n w h a t j) hx hu).1
    have j4' : cR bg en sc wd ht oh bt co n w h a t x = ew (oh x) (sc x) (cR bg en sc wd ht oh bt co n w h a t j) := j4
    have g' : cR bg en sc wd ht oh bt co n w h a t j < ew (oh x) (sc x) (cR bg en sc wd ht oh bt co n w h a t j) := g
    exact ⟨j, j1, pbP_4 (by rw [j4']; exact Nat.not_le.mpr g') j3 j4'.symm⟩
theorem cR_gt (hB : bP bg en sc wd ht oh bt co n) (hsc : ∀ i, i < n → 1 ≤ sc i) (ht0 : t ≤ 10000000) : ∀ V i, i < n → cR bg en sc wd ht oh bt co n w h a t i = V → V < NVc → t < V := by
  intro V
  induction V using Nat.strongRecOn with
  | _ V ih =>
    intro i hi hv hN
    obtain ⟨hu, hc⟩ := (srch_R (re := fun _ => 0) hB hsc ht0).2.2.2.2 i hi (by show cR bg en sc wd ht oh bt co n w h a t i < NVc; rw [hv]; exact hN)
    rcases hc with ⟨_, he⟩ | ⟨j, hj, hjN, _, he⟩
    · have g := (uE_gt hB hsc i t hi hu).1
      rw [← hv]
      exact Nat.lt_of_lt_of_eq g he.symm
    · have g := (uE_gt hB hsc i (cR bg en sc wd ht oh bt co n w h a t j) hi hu).1
      have he' : V = uE oh sc i (cR bg en sc wd ht oh bt co n w h a t j) := hv.symm.trans he
      have hlt : cR bg en sc wd ht oh bt co n w h a t j < V := by rw [he']; exact g
      exact Nat.lt_trans (ih _ hlt j hj rfl hjN) hlt
theorem lsV_val (hB : bP bg en sc wd ht oh bt co n) (hsc : ∀ i, i < n → 1 ≤ sc i) (ht0 : t ≤ 10000000) {b x : Nat} (hab : ¬ a = b) (hx : (lpL en (cR bg en sc wd ht oh bt co n w h a t) b n).1 = some x) : lN 0 < lsV en (cR bg en sc wd ht oh bt co n w h a t) n a b t ∧ ¬ lsV en (cR bg en sc wd ht oh bt co n w h a t) n a b t = -1 := by
  have h2 := (lpL_2 en (cR bg en sc wd ht oh bt co n w h a t) b n).2 x hx
  have h3 := cR_gt hB hsc ht0 _ x h2.1 rfl h2.2.1
  have h4 := cR_s hB hsc ht0 h2.1 h2.2.1
  have e : lsV en (cR bg en sc wd ht oh bt co n w h a t) n a b t = lN (cR bg en sc wd ht oh bt co n w h a t x - t) := by
    rw [lsV, if_neg hab, hx]
    exact lN_sub (Nat.le_of_lt h3)
  rw [e]
  generalize cR bg en sc wd ht oh bt co n w h a t x = v at h3 h4
  constructor
  · rw [Int64.lt_iff_toInt_lt, pk_lT (by omega), pk_lT (by omega)]
    omega
  · intro q
    have := congrArg Int64.toInt q
    rw [pk_lT (by omega)] at this
    have e1 : (-1 : Int64).toInt = -1 := by decide
    rw [e1] at this
    omega
theorem lsV_p (hB : bP bg en sc wd ht oh bt co n) (hsc : ∀ i, i < n → 1 ≤ sc i) (ht0 : t ≤ 10000000) {b : Nat} (hp : lN 0 < lsV en (cR bg en sc wd ht oh bt co n w h a t) n a b t) : ¬ a = b ∧ ¬ lsV en (cR bg en sc wd ht oh bt co n w h a t) n a b t = -1 := by
  refine ⟨fun e => ?_, fun e => ?_⟩
  · rw [lsV, if_pos e] at hp; exact absurd hp (by decide)
  · rw [e] at hp; exact absurd hp (by decide)
theorem lsV_np (hB : bP bg en sc wd ht oh bt co n) (hsc : ∀ i, i < n → 1 ≤ sc i) (ht0 : t ≤ 10000000) {b : Nat} (hp : ¬ lN 0 < lsV en (cR bg en sc wd ht oh bt co n w h a t) n a b t) : ¬ (¬ a = b ∧ ¬ lsV en (cR bg en sc wd ht oh bt co n w h a t) n a b t = -1) := by
  intro ⟨h1, h2⟩
  have h3 := lsV_ne h1 h2
  cases hx : (lpL en (cR bg en sc wd ht oh bt co n w h a t) b n).1 with
  | none => exact h3 hx
  | some x => exact hp (lsV_val hB hsc ht0 h1 hx).1
end CRL
def wmN (bg en sc oh bt R : Nat → Nat) (n a b t : Nat) (nm : Nat → Nat) : (Nat → Nat) × Nat := if ¬ a = b ∧ ¬ lsV en R n a b t = -1 then (fun i => if i < chT (pbO bg en sc oh bt R a t n) 40 (lpL en R b n).1 then (itr (pbO bg en sc oh bt R a t n) (lpL en R b n).1 (chT (pbO bg en sc oh bt R a t n) 40 (lpL en R b n).1 - 1 - i)).getD 0 else nm i, chT (pbO bg en sc oh bt R a t n) 40 (lpL en R b n).1) else (nm, 0)
theorem wm_s {pb : Nat → Option Nat} {o o0 : Option Nat} {T m x : Nat} {v nm : Nat → Nat} (hv : v = fun i => if m + 1 ≤ i ∧ i < T then (itr pb o0 (T - 1 - i)).getD 0 else nm i) (h : o = itr pb o0 (T - (m + 1))) (hx : o = some x) (hm : m + 1 ≤ T) : va_up v m x = fun i => if m ≤ i ∧ i < T then (itr pb o0 (T - 1 - i)).getD 0 else nm i := by
  subst hv
  funext i
  by_cases e : i = m
  · subst e
    rw [va_up_self, if_pos (by omega), show T - 1 - i = T - (i + 1) by omega, ← h, hx]
    rfl
  · rw [va_up_ne _ _ e]
    by_cases q : m + 1 ≤ i ∧ i < T
    · rw [if_pos q, if_pos (by omega)]
    · rw [if_neg q, if_neg (by omega)]
theorem wm_0 {pb : Nat → Option Nat} {o0 : Option Nat} {T m : Nat} {nm : Nat → Nat} (hm : m = T) : nm = fun i => if m ≤ i ∧ i < T then (itr pb o0 (T - 1 - i)).getD 0 else nm i := by
  funext i
  rw [if_neg (by omega)]
theorem wm_e {pb : Nat → Option Nat} {o0 : Option Nat} {T m : Nat} {v nm : Nat → Nat} (hv : v = fun i => if m ≤ i ∧ i < T then (itr pb o0 (T - 1 - i)).getD 0 else nm i) (hm : m = 0) : v = fun i => if i < T then (itr pb o0 (T - 1 - i)).getD 0 else nm i := by
  subst hv
  subst hm
  funext i
  by_cases q : i < T
  · rw [if_pos q, if_pos ⟨Nat.zero_le _, q⟩]
  · rw [if_neg q, if_neg (fun z => q z.2)]

set_option maxHeartbeats 4000000 in
set_option maxRecDepth 100000 in
theorem lp_M_way2 {p : Program} {l : Launch} {e : Env} {R : Room} {s : State} {m : MethodId} {args : Array Value} {below : List Frame} {meth : Method} {c : Code} {cells slots : Nat} {Q : State → Prop} {dC : Nat → ClassId} {dI : Nat → Nat → Nat} {cI cJ cZ : ClassId} {A : Nat → Prop} (qm : Nat → Nat) (lv mw mh mk : Nat → Nat) (pc mc kc : Nat) (bg en sc wd ht oh bt : Nat → Nat) (co n : Nat) (sh ba : Nat → Bool) (rm nm bs bc bp on wh : Nat → Nat) (cd sl fo : Nat) (x y z : Int32) (u : Int64) (hG : bGp lv mw mh mk pc mc kc) (hB : bP bg en sc wd ht oh bt co n) (hsh : ∀ j, j < 40 → sh j = co.testBit j) (hba : ∀ f t, f < 40 → t < 40 → ba (40 * f + t) = (bt f).testBit t) (hsc : ∀ i, i < n → 1 ≤ sc i)  (hx : p.tables.exec = Jvm.exec) (hb : c.code = cM_way) (hml : c.maxLocals = 10) (hown : s.vm.findClass nM = some m.cls) (hts : ∀ w ∈ wsM_way, w.before args s = true) (hK : va_K (dC, dI) vwCl (tyE cI cJ cZ) s) (hE : EV s) (hA : ∀ q : Nat, s.heap.size ≤ q → A q) (hR : 2 ≤ R.frames ∧ 51 ≤ R.locals) (hcs : cells ≤ R.cells ∧ slots ≤ R.slots)
    (kx0 : ∀ (m9 : Nat) (o : Option Nat) (v : Nat → Nat) (hcd : cdWa pc mc x y z u = 0) (hmx : cN x < 6) (hay : cN y < 20) (hbz : cN z < 20) (htu : cLn u ≤ 10000000) (hpo : ¬ cN y = cN z ∧ ¬ lsV en (cR bg en sc wd ht oh bt co n (mw (cN x)) (mh (cN x)) (cN y) (cLn u)) n (cN y) (cN z) (cLn u) = -1) (g1 : m9 ≤ chT (pbO bg en sc oh bt (cR bg en sc wd ht oh bt co n (mw (cN x)) (mh (cN x)) (cN y) (cLn u)) (cN y) (cLn u) n) 40 (lpL en (cR bg en sc wd ht oh bt co n (mw (cN x)) (mh (cN x)) (cN y) (cLn u)) (cN z) n).1) (g2 : o = itr (pbO bg en sc oh bt (cR bg en sc wd ht oh bt co n (mw (cN x)) (mh (cN x)) (cN y) (cLn u)) (cN y) (cLn u) n) (lpL en (cR bg en sc wd ht oh bt co n (mw (cN x)) (mh (cN x)) (cN y) (cLn u)) (cN z) n).1 (chT (pbO bg en sc oh bt (cR bg en sc wd ht oh bt co n (mw (cN x)) (mh (cN x)) (cN y) (cLn u)) (cN y) (cLn u) n) 40 (lpL en (cR bg en sc wd ht oh bt co n (mw (cN x)) (mh (cN x)) (cN y) (cLn u)) (cN z) n).1 - m9)) (g3 : v = fun i => if m9 ≤ i ∧ i < chT (pbO bg en sc oh bt (cR bg en sc wd ht oh bt co n (mw (cN x)) (mh (cN x)) (cN y) (cLn u)) (cN y) (cLn u) n) 40 (lpL en (cR bg en sc wd ht oh bt co n (mw (cN x)) (mh (cN x)) (cN y) (cLn u)) (cN z) n).1 then (itr (pbO bg en sc oh bt (cR bg en sc wd ht oh bt co n (mw (cN x)) (mh (cN x)) (cN y) (cLn u)) (cN y) (cLn u) n) (lpL en (cR bg en sc wd ht oh bt co n (mw (cN x)) (mh (cN x)) (cN y) (cLn u)) (cN z) n).1 (chT (pbO bg en sc oh bt (cR bg en sc wd ht oh bt co n (mw (cN x)) (mh (cN x)) (cN y) (cLn u)) (cN y) (cLn u) n) 40 (lpL en (cR bg en sc wd ht oh bt co n (mw (cN x)) (mh (cN x)) (cN y) (cLn u)) (cN z) n).1 - 1 - i)).getD 0 else nm i) (g4 : ∀ x0, o = some x0 → x0 < n ∧ (cR bg en sc wd ht oh bt co n (mw (cN x)) (mh (cN x)) (cN y) (cLn u)) x0 < NVc) (g5 : ∀ j, j < chT (pbO bg en sc oh bt (cR bg en sc wd ht oh bt co n (mw (cN x)) (mh (cN x)) (cN y) (cLn u)) (cN y) (cLn u) n) 40 (lpL en (cR bg en sc wd ht oh bt co n (mw (cN x)) (mh (cN x)) (cN y) (cLn u)) (cN z) n).1 → itr (pbO bg en sc oh bt (cR bg en sc wd ht oh bt co n (mw (cN x)) (mh (cN x)) (cN y) (cLn u)) (cN y) (cLn u) n) (lpL en (cR bg en sc wd ht oh bt co n (mw (cN x)) (mh (cN x)) (cN y) (cLn u)) (cN z) n).1 j ≠ none) (g6 : itr (pbO bg en sc oh bt (cR bg en sc wd ht oh bt co n (mw (cN x)) (mh (cN x)) (cN y) (cLn u)) (cN y) (cLn u) n) (lpL en (cR bg en sc wd ht oh bt co n (mw (cN x)) (mh (cN x)) (cN y) (cLn u)) (cN z) n).1 (chT (pbO bg en sc oh bt (cR bg en sc wd ht oh bt co n (mw (cN x)) (mh (cN x)) (cN y) (cLn u)) (cN y) (cLn u) n) 40 (lpL en (cR bg en sc wd ht oh bt co n (mw (cN x)) (mh (cN x)) (cN y) (cLn u)) (cN z) n).1) = none) (g7 : chT (pbO bg en sc oh bt (cR bg en sc wd ht oh bt co n (mw (cN x)) (mh (cN x)) (cN y) (cLn u)) (cN y) (cLn u) n) 40 (lpL en (cR bg en sc wd ht oh bt co n (mw (cN x)) (mh (cN x)) (cN y) (cLn u)) (cN z) n).1 ≤ 40) (hx0 : o = none) (H : Heap) (locs : List Loc), va_P (dC, dI) vwCl (wM cI cJ cZ qm lv bg en sc wd ht sh oh ba mw mh mk (lsRm n (cR bg en sc wd ht oh bt co n (mw (cN x)) (mh (cN x)) (cN y) (cLn u)) (cN y) (cN z) rm) v bs bc bp on wh 0 pc n mc kc (chT (pbO bg en sc oh bt (cR bg en sc wd ht oh bt co n (mw (cN x)) (mh (cN x)) (cN y) (cLn u)) (cN y) (cLn u) n) 40 (lpL en (cR bg en sc wd ht oh bt co n (mw (cN x)) (mh (cN x)) (cN y) (cLn u)) (cN z) n).1) fo) H → va_D A (wM cI cJ cZ qm lv bg en sc wd ht sh oh ba mw mh mk (lsRm n (cR bg en sc wd ht oh bt co n (mw (cN x)) (mh (cN x)) (cN y) (cLn u)) (cN y) (cN z) rm) v bs bc bp on wh 0 pc n mc kc (chT (pbO bg en sc oh bt (cR bg en sc wd ht oh bt co n (mw (cN x)) (mh (cN x)) (cN y) (cLn u)) (cN y) (cLn u) n) 40 (lpL en (cR bg en sc wd ht oh bt co n (mw (cN x)) (mh (cN x)) (cN y) (cLn u)) (cN z) n).1) fo) → va_S A s.heap H locs → ∀ ls : Array Slot, lv_has ls 10 [(0, .ref (qm 0)), (1, .int (nI (cN x))), (2, .int (nI (cN y))), (3, .int (nI (cN z))), (4, .long (lN (cLn u))), (6, .long (lsV en (cR bg en sc wd ht oh bt co n (mw (cN x)) (mh (cN x)) (cN y) (cLn u)) n (cN y) (cN z) (cLn u))), (8, .int (nI m9)), (9, .int (oI o))] →  W p l e R s m args below meth c H locs cells slots Q (F0 m 160 ls []))
    : ∀ (fu : Nat) (m9 : Nat) (o : Option Nat) (v : Nat → Nat) (hcd : cdWa pc mc x y z u = 0) (hmx : cN x < 6) (hay : cN y < 20) (hbz : cN z < 20) (htu : cLn u ≤ 10000000) (hpo : ¬ cN y = cN z ∧ ¬ lsV en (cR bg en sc wd ht oh bt co n (mw (cN x)) (mh (cN x)) (cN y) (cLn u)) n (cN y) (cN z) (cLn u) = -1) (g1 : m9 ≤ chT (pbO bg en sc oh bt (cR bg en sc wd ht oh bt co n (mw (cN x)) (mh (cN x)) (cN y) (cLn u)) (cN y) (cLn u) n) 40 (lpL en (cR bg en sc wd ht oh bt co n (mw (cN x)) (mh (cN x)) (cN y) (cLn u)) (cN z) n).1) (g2 : o = itr (pbO bg en sc oh bt (cR bg en sc wd ht oh bt co n (mw (cN x)) (mh (cN x)) (cN y) (cLn u)) (cN y) (cLn u) n) (lpL en (cR bg en sc wd ht oh bt co n (mw (cN x)) (mh (cN x)) (cN y) (cLn u)) (cN z) n).1 (chT (pbO bg en sc oh bt (cR bg en sc wd ht oh bt co n (mw (cN x)) (mh (cN x)) (cN y) (cLn u)) (cN y) (cLn u) n) 40 (lpL en (cR bg en sc wd ht oh bt co n (mw (cN x)) (mh (cN x)) (cN y) (cLn u)) (cN z) n).1 - m9)) (g3 : v = fun i => if m9 ≤ i ∧ i < chT (pbO bg en sc oh bt (cR bg en sc wd ht oh bt co n (mw (cN x)) (mh (cN x)) (cN y) (cLn u)) (cN y) (cLn u) n) 40 (lpL en (cR bg en sc wd ht oh bt co n (mw (cN x)) (mh (cN x)) (cN y) (cLn u)) (cN z) n).1 then (itr (pbO bg en sc oh bt (cR bg en sc wd ht oh bt co n (mw (cN x)) (mh (cN x)) (cN y) (cLn u)) (cN y) (cLn u) n) (lpL en (cR bg en sc wd ht oh bt co n (mw (cN x)) (mh (cN x)) (cN y) (cLn u)) (cN z) n).1 (chT (pbO bg en sc oh bt (cR bg en sc wd ht oh bt co n (mw (cN x)) (mh (cN x)) (cN y) (cLn u)) (cN y) (cLn u) n) 40 (lpL en (cR bg en sc wd ht oh bt co n (mw (cN x)) (mh (cN x)) (cN y) (cLn u)) (cN z) n).1 - 1 - i)).getD 0 else nm i) (g4 : ∀ x0, o = some x0 → x0 < n ∧ (cR bg en sc wd ht oh bt co n (mw (cN x)) (mh (cN x)) (cN y) (cLn u)) x0 < NVc) (g5 : ∀ j, j < chT (pbO bg en sc oh bt (cR bg en sc wd ht oh bt co n (mw (cN x)) (mh (cN x)) (cN y) (cLn u)) (cN y) (cLn u) n) 40 (lpL en (cR bg en sc wd ht oh bt co n (mw (cN x)) (mh (cN x)) (cN y) (cLn u)) (cN z) n).1 → itr (pbO bg en sc oh bt (cR bg en sc wd ht oh bt co n (mw (cN x)) (mh (cN x)) (cN y) (cLn u)) (cN y) (cLn u) n) (lpL en (cR bg en sc wd ht oh bt co n (mw (cN x)) (mh (cN x)) (cN y) (cLn u)) (cN z) n).1 j ≠ none) (g6 : itr (pbO bg en sc oh bt (cR bg en sc wd ht oh bt co n (mw (cN x)) (mh (cN x)) (cN y) (cLn u)) (cN y) (cLn u) n) (lpL en (cR bg en sc wd ht oh bt co n (mw (cN x)) (mh (cN x)) (cN y) (cLn u)) (cN z) n).1 (chT (pbO bg en sc oh bt (cR bg en sc wd ht oh bt co n (mw (cN x)) (mh (cN x)) (cN y) (cLn u)) (cN y) (cLn u) n) 40 (lpL en (cR bg en sc wd ht oh bt co n (mw (cN x)) (mh (cN x)) (cN y) (cLn u)) (cN z) n).1) = none) (g7 : chT (pbO bg en sc oh bt (cR bg en sc wd ht oh bt co n (mw (cN x)) (mh (cN x)) (cN y) (cLn u)) (cN y) (cLn u) n) 40 (lpL en (cR bg en sc wd ht oh bt co n (mw (cN x)) (mh (cN x)) (cN y) (cLn u)) (cN z) n).1 ≤ 40), m9 < fu → ∀ (H : Heap) (locs : List Loc), va_P (dC, dI) vwCl (wM cI cJ cZ qm lv bg en sc wd ht sh oh ba mw mh mk (lsRm n (cR bg en sc wd ht oh bt co n (mw (cN x)) (mh (cN x)) (cN y) (cLn u)) (cN y) (cN z) rm) v bs bc bp on wh 0 pc n mc kc (chT (pbO bg en sc oh bt (cR bg en sc wd ht oh bt co n (mw (cN x)) (mh (cN x)) (cN y) (cLn u)) (cN y) (cLn u) n) 40 (lpL en (cR bg en sc wd ht oh bt co n (mw (cN x)) (mh (cN x)) (cN y) (cLn u)) (cN z) n).1) fo) H → va_D A (wM cI cJ cZ qm lv bg en sc wd ht sh oh ba mw mh mk (lsRm n (cR bg en sc wd ht oh bt co n (mw (cN x)) (mh (cN x)) (cN y) (cLn u)) (cN y) (cN z) rm) v bs bc bp on wh 0 pc n mc kc (chT (pbO bg en sc oh bt (cR bg en sc wd ht oh bt co n (mw (cN x)) (mh (cN x)) (cN y) (cLn u)) (cN y) (cLn u) n) 40 (lpL en (cR bg en sc wd ht oh bt co n (mw (cN x)) (mh (cN x)) (cN y) (cLn u)) (cN z) n).1) fo) → va_S A s.heap H locs → ∀ ls : Array Slot, lv_has ls 10 [(0, .ref (qm 0)), (1, .int (nI (cN x))), (2, .int (nI (cN y))), (3, .int (nI (cN z))), (4, .long (lN (cLn u))), (6, .long (lsV en (cR bg en sc wd ht oh bt co n (mw (cN x)) (mh (cN x)) (cN y) (cLn u)) n (cN y) (cN z) (cLn u))), (8, .int (nI m9)), (9, .int (oI o))] →  W p l e R s m args below meth c H locs cells slots Q (F0 m 127 ls []) := by
  have hg : ∀ w ∈ gw, w.before args s = true := fun w h => hts w (List.mem_cons_of_mem _ h)
  have hpc := hG.1
  have hmc := hG.2.1
  have hkc := hG.2.2.1
  have hgi := hG.2.2.2
  have hbi := hB.2.2
  have hn := hB.1
  have hco := hB.2.1
  have hNV : NVm = 18446744073709551615 := rfl
  have hNc : NVc = 1152921504606846976 := rfl
  intro fu
  induction fu with
  | zero => intro m9 o v hcd hmx hay hbz htu hpo g1 g2 g3 g4 g5 g6 g7 h0; exact absurd h0 (Nat.not_lt_zero _)
  | succ fu ihL =>
    intro m9 o v hcd hmx hay hbz htu hpo g1 g2 g3 g4 g5 g6 g7 hfu H locs hP hD hS ls hl
    have hLR : lsRm n (cR bg en sc wd ht oh bt co n (mw (cN x)) (mh (cN x)) (cN y) (cLn u)) (cN y) (cN z) rm = rmF n (cR bg en sc wd ht oh bt co n (mw (cN x)) (mh (cN x)) (cN y) (cLn u)) rm := if_neg hpo.1
    refine lv_iload hx hb dM_way_127 (lv_at hl 7 rfl) ?_
    refine lv_iconst (v := -1) hx hb dM_way_129 (by decide) ?_
    refine ro_eq (tgt := 160) hx hb dM_way_130 (by decide) (fun i hi => by have := (g4 i hi).1; omega) (fun o130 => ?_) (fun x130 o130 => ?_)
    · exact kx0 m9 o v hcd hmx hay hbz htu hpo g1 g2 g3 g4 g5 g6 g7 (o130) H locs hP hD hS ls (lv_sub hl [0, 1, 2, 3, 4, 5, 6, 7] rfl)
    · have hl : lv_has ls 10 [(0, .ref (qm 0)), (1, .int (nI (cN x))), (2, .int (nI (cN y))), (3, .int (nI (cN z))), (4, .long (lN (cLn u))), (6, .long (lsV en (cR bg en sc wd ht oh bt co n (mw (cN x)) (mh (cN x)) (cN y) (cLn u)) n (cN y) (cN z) (cLn u))), (8, .int (nI m9)), (9, .int (nI x130))] := by rw [o130] at hl; exact hl
      have hx130 := g4 x130 o130
      have hm0 : 0 < m9 := Nat.pos_of_ne_zero (fun q => by rw [q, Nat.sub_zero, g6, o130] at g2; cases g2)
      obtain ⟨m9, rfl⟩ : ∃ k, m9 = k + 1 := ⟨m9 - 1, by omega⟩
      refine rn_iincm (lv' := [(8, .int (nI m9)), (0, .ref (qm 0)), (1, .int (nI (cN x))), (2, .int (nI (cN y))), (3, .int (nI (cN z))), (4, .long (lN (cLn u))), (6, .long (lsV en (cR bg en sc wd ht oh bt co n (mw (cN x)) (mh (cN x)) (cN y) (cLn u)) n (cN y) (cN z) (cLn u))), (9, .int (nI x130))]) hx hb dM_way_133 hl (k := 6) rfl (by decide) rfl (fun ls hl => ?_)
      refine lv_aload_n hx hb dM_way_136 rfl (lv_at hl 1 rfl) ?_
      refine va_get (D := (dC, dI)) (ci := 5) (v := .ref (qm 14)) (C := nM) (T := TM) (N := 26) hx hb hg inM hown hK hP 0 rfl rfl 18 (by decide) (hg _ kM_51) (fun _ h9 => h9) rfl dM_way_137 ?_
      refine lv_iload hx hb dM_way_140 (lv_at hl 0 rfl) ?_
      refine lv_iload hx hb dM_way_142 (lv_at hl 7 rfl) ?_
      refine sa_i (f := v) (v := x130) hx hb hK hP hD hS 14 0 rfl rfl (by omega) (by decide) dM_way_144 (fun H locs hP hD hS => ?_)
      have hP : va_P (dC, dI) vwCl (wM cI cJ cZ qm lv bg en sc wd ht sh oh ba mw mh mk (lsRm n (cR bg en sc wd ht oh bt co n (mw (cN x)) (mh (cN x)) (cN y) (cLn u)) (cN y) (cN z) rm) (va_up v m9 x130) bs bc bp on wh 0 pc n mc kc (chT (pbO bg en sc oh bt (cR bg en sc wd ht oh bt co n (mw (cN x)) (mh (cN x)) (cN y) (cLn u)) (cN y) (cLn u) n) 40 (lpL en (cR bg en sc wd ht oh bt co n (mw (cN x)) (mh (cN x)) (cN y) (cLn u)) (cN z) n).1) fo) H := hP
      have hD : va_D A (wM cI cJ cZ qm lv bg en sc wd ht sh oh ba mw mh mk (lsRm n (cR bg en sc wd ht oh bt co n (mw (cN x)) (mh (cN x)) (cN y) (cLn u)) (cN y) (cN z) rm) (va_up v m9 x130) bs bc bp on wh 0 pc n mc kc (chT (pbO bg en sc oh bt (cR bg en sc wd ht oh bt co n (mw (cN x)) (mh (cN x)) (cN y) (cLn u)) (cN y) (cLn u) n) 40 (lpL en (cR bg en sc wd ht oh bt co n (mw (cN x)) (mh (cN x)) (cN y) (cLn u)) (cN z) n).1) fo) := hD
      refine lv_aload_n hx hb dM_way_145 rfl (lv_at hl 1 rfl) ?_
      refine lv_iload_n hx hb dM_way_146 rfl (lv_at hl 2 rfl) ?_
      refine lv_iload hx hb dM_way_147 (lv_at hl 7 rfl) ?_
      refine lv_iload_n hx hb dM_way_149 rfl (lv_at hl 3 rfl) ?_
      refine lv_lload hx hb dM_way_150 (lv_at hl 5 rfl) ?_
      refine cpV_i (b := (qm 0)) (C := nM) (As := [.int (nI (cN x)), .int (nI x130), .int (nI (cN y)), .long (lN (cLn u))]) (rest := []) (post := fun r : Int32 => r = oI (pbO bg en sc oh bt (cR bg en sc wd ht oh bt co n (mw (cN x)) (mh (cN x)) (cN y) (cLn u)) (cN y) (cLn u) n x130)) ⟨hx, hb, hml, hown, hts⟩ (ct_M_before l dC dI cI cJ cZ qm lv mw mh mk pc mc kc bg en sc wd ht oh bt co n sh ba (lsRm n (cR bg en sc wd ht oh bt co n (mw (cN x)) (mh (cN x)) (cN y) (cLn u)) (cN y) (cN z) rm) (va_up v m9 x130) bs bc bp on wh 0 (chT (pbO bg en sc oh bt (cR bg en sc wd ht oh bt co n (mw (cN x)) (mh (cN x)) (cN y) (cLn u)) (cN y) (cLn u) n) 40 (lpL en (cR bg en sc wd ht oh bt co n (mw (cN x)) (mh (cN x)) (cN y) (cLn u)) (cN z) n).1) fo (cR bg en sc wd ht oh bt co n (mw (cN x)) (mh (cN x)) (cN y) (cLn u)) (cN x) x130 (cN y) (cLn u) (hG) (hB) (by omega) (fun j hj => by rw [hLR]; exact toC_rm hj (cR_b hB hsc htu hj)) (fun j hj => by rw [hLR]; exact rmF_b hB hsc htu hj) (hx130.1) (us_open (cR_us hB hsc htu hx130.1 hx130.2)) (hx130.2) (cR_g hB hsc hx130.1 (cR_us hB hsc htu hx130.1 hx130.2)) (cR_ex hB hsc htu hx130.1 hx130.2) (by omega) (by omega)) (cwV 4 hts (gv kM_145 ki_M_before ksel_M_before kin_M kc_M_before) rfl rfl rfl (by decide +kernel) ⟨Nat.le_trans (by decide) hR.1, Nat.le_trans (by decide) hR.2⟩) (va_recv hK hP (ci := 5) (q0 := 0) rfl rfl) hP hK hE rfl hl.1 rfl (Nat.le_of_ble_eq_true rfl) dM_way_152 hcs (fun r hr => ?_)
      subst hr
      refine lv_istore (lv' := [(9, .int (oI (pbO bg en sc oh bt (cR bg en sc wd ht oh bt co n (mw (cN x)) (mh (cN x)) (cN y) (cLn u)) (cN y) (cLn u) n x130))), (8, .int (nI m9)), (0, .ref (qm 0)), (1, .int (nI (cN x))), (2, .int (nI (cN y))), (3, .int (nI (cN z))), (4, .long (lN (cLn u))), (6, .long (lsV en (cR bg en sc wd ht oh bt co n (mw (cN x)) (mh (cN x)) (cN y) (cLn u)) n (cN y) (cN z) (cLn u)))]) hx hb dM_way_155 hl (by decide) rfl (fun ls hl => ?_)
      refine lv_goto (tgt := 127) hx hb dM_way_157 (by decide) ?_
      exact ihL m9 (pbO bg en sc oh bt (cR bg en sc wd ht oh bt co n (mw (cN x)) (mh (cN x)) (cN y) (cLn u)) (cN y) (cLn u) n x130) (va_up v m9 x130) (hcd) (hmx) (hay) (hbz) (htu) (hpo) (by omega) (by rw [show chT (pbO bg en sc oh bt (cR bg en sc wd ht oh bt co n (mw (cN x)) (mh (cN x)) (cN y) (cLn u)) (cN y) (cLn u) n) 40 (lpL en (cR bg en sc wd ht oh bt co n (mw (cN x)) (mh (cN x)) (cN y) (cLn u)) (cN z) n).1 - m9 = chT (pbO bg en sc oh bt (cR bg en sc wd ht oh bt co n (mw (cN x)) (mh (cN x)) (cN y) (cLn u)) (cN y) (cLn u) n) 40 (lpL en (cR bg en sc wd ht oh bt co n (mw (cN x)) (mh (cN x)) (cN y) (cLn u)) (cN z) n).1 - (m9 + 1) + 1 from by omega]; exact itr_s g2 o130) (wm_s g3 g2 o130 g1) (fun y0 hy0 => ⟨(pbO_ok hy0).1, Nat.lt_trans (pbO_ok hy0).2 hx130.2⟩) (g5) (g6) (g7) (by omega) H locs hP hD hS ls (lv_sub hl [2, 3, 4, 5, 6, 7, 1, 0] rfl)

set_option maxHeartbeats 4000000 in
set_option maxRecDepth 100000 in
theorem lp_M_way1 {p : Program} {l : Launch} {e : Env} {R : Room} {s : State} {m : MethodId} {args : Array Value} {below : List Frame} {meth : Method} {c : Code} {cells slots : Nat} {Q : State → Prop} {dC : Nat → ClassId} {dI : Nat → Nat → Nat} {cI cJ cZ : ClassId} {A : Nat → Prop} (qm : Nat → Nat) (lv mw mh mk : Nat → Nat) (pc mc kc : Nat) (bg en sc wd ht oh bt : Nat → Nat) (co n : Nat) (sh ba : Nat → Bool) (rm nm bs bc bp on wh : Nat → Nat) (cd sl fo : Nat) (x y z : Int32) (u : Int64) (hG : bGp lv mw mh mk pc mc kc) (hB : bP bg en sc wd ht oh bt co n) (hsh : ∀ j, j < 40 → sh j = co.testBit j) (hba : ∀ f t, f < 40 → t < 40 → ba (40 * f + t) = (bt f).testBit t) (hsc : ∀ i, i < n → 1 ≤ sc i)  (hx : p.tables.exec = Jvm.exec) (hb : c.code = cM_way) (hml : c.maxLocals = 10) (hown : s.vm.findClass nM = some m.cls) (hts : ∀ w ∈ wsM_way, w.before args s = true) (hK : va_K (dC, dI) vwCl (tyE cI cJ cZ) s) (hE : EV s) (hA : ∀ q : Nat, s.heap.size ≤ q → A q) (hR : 2 ≤ R.frames ∧ 51 ≤ R.locals) (hcs : cells ≤ R.cells ∧ slots ≤ R.slots)
    (kx0 : ∀ (m9 : Nat) (o : Option Nat) (hcd : cdWa pc mc x y z u = 0) (hmx : cN x < 6) (hay : cN y < 20) (hbz : cN z < 20) (htu : cLn u ≤ 10000000) (hpo : ¬ cN y = cN z ∧ ¬ lsV en (cR bg en sc wd ht oh bt co n (mw (cN x)) (mh (cN x)) (cN y) (cLn u)) n (cN y) (cN z) (cLn u) = -1) (h1 : chT (pbO bg en sc oh bt (cR bg en sc wd ht oh bt co n (mw (cN x)) (mh (cN x)) (cN y) (cLn u)) (cN y) (cLn u) n) 40 (lpL en (cR bg en sc wd ht oh bt co n (mw (cN x)) (mh (cN x)) (cN y) (cLn u)) (cN z) n).1 = m9 + chT (pbO bg en sc oh bt (cR bg en sc wd ht oh bt co n (mw (cN x)) (mh (cN x)) (cN y) (cLn u)) (cN y) (cLn u) n) (40 - m9) o) (h2 : o = itr (pbO bg en sc oh bt (cR bg en sc wd ht oh bt co n (mw (cN x)) (mh (cN x)) (cN y) (cLn u)) (cN y) (cLn u) n) (lpL en (cR bg en sc wd ht oh bt co n (mw (cN x)) (mh (cN x)) (cN y) (cLn u)) (cN z) n).1 m9) (h4 : ∀ x0, o = some x0 → x0 < n ∧ (cR bg en sc wd ht oh bt co n (mw (cN x)) (mh (cN x)) (cN y) (cLn u)) x0 < NVc ∧ m9 + rkN (cR bg en sc wd ht oh bt co n (mw (cN x)) (mh (cN x)) (cN y) (cLn u)) n x0 < n) (h5 : ∀ j, j < m9 → itr (pbO bg en sc oh bt (cR bg en sc wd ht oh bt co n (mw (cN x)) (mh (cN x)) (cN y) (cLn u)) (cN y) (cLn u) n) (lpL en (cR bg en sc wd ht oh bt co n (mw (cN x)) (mh (cN x)) (cN y) (cLn u)) (cN z) n).1 j ≠ none) (h6 : m9 ≤ n) (hx0 : o = none) (H : Heap) (locs : List Loc), va_P (dC, dI) vwCl (wM cI cJ cZ qm lv bg en sc wd ht sh oh ba mw mh mk (lsRm n (cR bg en sc wd ht oh bt co n (mw (cN x)) (mh (cN x)) (cN y) (cLn u)) (cN y) (cN z) rm) nm bs bc bp on wh 0 pc n mc kc 0 fo) H → va_D A (wM cI cJ cZ qm lv bg en sc wd ht sh oh ba mw mh mk (lsRm n (cR bg en sc wd ht oh bt co n (mw (cN x)) (mh (cN x)) (cN y) (cLn u)) (cN y) (cN z) rm) nm bs bc bp on wh 0 pc n mc kc 0 fo) → va_S A s.heap H locs → ∀ ls : Array Slot, lv_has ls 10 [(0, .ref (qm 0)), (1, .int (nI (cN x))), (2, .int (nI (cN y))), (3, .int (nI (cN z))), (4, .long (lN (cLn u))), (6, .long (lsV en (cR bg en sc wd ht oh bt co n (mw (cN x)) (mh (cN x)) (cN y) (cLn u)) n (cN y) (cN z) (cLn u))), (8, .int (nI m9)), (9, .int (oI o))] →  W p l e R s m args below meth c H locs cells slots Q (F0 m 114 ls []))
    : ∀ (fu : Nat) (m9 : Nat) (o : Option Nat) (hcd : cdWa pc mc x y z u = 0) (hmx : cN x < 6) (hay : cN y < 20) (hbz : cN z < 20) (htu : cLn u ≤ 10000000) (hpo : ¬ cN y = cN z ∧ ¬ lsV en (cR bg en sc wd ht oh bt co n (mw (cN x)) (mh (cN x)) (cN y) (cLn u)) n (cN y) (cN z) (cLn u) = -1) (h1 : chT (pbO bg en sc oh bt (cR bg en sc wd ht oh bt co n (mw (cN x)) (mh (cN x)) (cN y) (cLn u)) (cN y) (cLn u) n) 40 (lpL en (cR bg en sc wd ht oh bt co n (mw (cN x)) (mh (cN x)) (cN y) (cLn u)) (cN z) n).1 = m9 + chT (pbO bg en sc oh bt (cR bg en sc wd ht oh bt co n (mw (cN x)) (mh (cN x)) (cN y) (cLn u)) (cN y) (cLn u) n) (40 - m9) o) (h2 : o = itr (pbO bg en sc oh bt (cR bg en sc wd ht oh bt co n (mw (cN x)) (mh (cN x)) (cN y) (cLn u)) (cN y) (cLn u) n) (lpL en (cR bg en sc wd ht oh bt co n (mw (cN x)) (mh (cN x)) (cN y) (cLn u)) (cN z) n).1 m9) (h4 : ∀ x0, o = some x0 → x0 < n ∧ (cR bg en sc wd ht oh bt co n (mw (cN x)) (mh (cN x)) (cN y) (cLn u)) x0 < NVc ∧ m9 + rkN (cR bg en sc wd ht oh bt co n (mw (cN x)) (mh (cN x)) (cN y) (cLn u)) n x0 < n) (h5 : ∀ j, j < m9 → itr (pbO bg en sc oh bt (cR bg en sc wd ht oh bt co n (mw (cN x)) (mh (cN x)) (cN y) (cLn u)) (cN y) (cLn u) n) (lpL en (cR bg en sc wd ht oh bt co n (mw (cN x)) (mh (cN x)) (cN y) (cLn u)) (cN z) n).1 j ≠ none) (h6 : m9 ≤ n), n - m9 < fu → ∀ (H : Heap) (locs : List Loc), va_P (dC, dI) vwCl (wM cI cJ cZ qm lv bg en sc wd ht sh oh ba mw mh mk (lsRm n (cR bg en sc wd ht oh bt co n (mw (cN x)) (mh (cN x)) (cN y) (cLn u)) (cN y) (cN z) rm) nm bs bc bp on wh 0 pc n mc kc 0 fo) H → va_D A (wM cI cJ cZ qm lv bg en sc wd ht sh oh ba mw mh mk (lsRm n (cR bg en sc wd ht oh bt co n (mw (cN x)) (mh (cN x)) (cN y) (cLn u)) (cN y) (cN z) rm) nm bs bc bp on wh 0 pc n mc kc 0 fo) → va_S A s.heap H locs → ∀ ls : Array Slot, lv_has ls 10 [(0, .ref (qm 0)), (1, .int (nI (cN x))), (2, .int (nI (cN y))), (3, .int (nI (cN z))), (4, .long (lN (cLn u))), (6, .long (lsV en (cR bg en sc wd ht oh bt co n (mw (cN x)) (mh (cN x)) (cN y) (cLn u)) n (cN y) (cN z) (cLn u))), (8, .int (nI m9)), (9, .int (oI o))] →  W p l e R s m args below meth c H locs cells slots Q (F0 m 90 ls []) := by
  have hg : ∀ w ∈ gw, w.before args s = true := fun w h => hts w (List.mem_cons_of_mem _ h)
  have hpc := hG.1
  have hmc := hG.2.1
  have hkc := hG.2.2.1
  have hgi := hG.2.2.2
  have hbi := hB.2.2
  have hn := hB.1
  have hco := hB.2.1
  have hNV : NVm = 18446744073709551615 := rfl
  have hNc : NVc = 1152921504606846976 := rfl
  intro fu
  induction fu with
  | zero => intro m9 o hcd hmx hay hbz htu hpo h1 h2 h4 h5 h6 h0; exact absurd h0 (Nat.not_lt_zero _)
  | succ fu ihL =>
    intro m9 o hcd hmx hay hbz htu hpo h1 h2 h4 h5 h6 hfu H locs hP hD hS ls hl
    have hLR : lsRm n (cR bg en sc wd ht oh bt co n (mw (cN x)) (mh (cN x)) (cN y) (cLn u)) (cN y) (cN z) rm = rmF n (cR bg en sc wd ht oh bt co n (mw (cN x)) (mh (cN x)) (cN y) (cLn u)) rm := if_neg hpo.1
    refine lv_iload hx hb dM_way_90 (lv_at hl 7 rfl) ?_
    refine lv_iconst (v := -1) hx hb dM_way_92 (by decide) ?_
    refine ro_eq (tgt := 114) hx hb dM_way_93 (by decide) (fun i hi => by have := (h4 i hi).1; omega) (fun o93 => ?_) (fun x93 o93 => ?_)
    · exact kx0 m9 o hcd hmx hay hbz htu hpo h1 h2 h4 h5 h6 (o93) H locs hP hD hS ls (lv_sub hl [0, 1, 2, 3, 4, 5, 6, 7] rfl)
    · have hl : lv_has ls 10 [(0, .ref (qm 0)), (1, .int (nI (cN x))), (2, .int (nI (cN y))), (3, .int (nI (cN z))), (4, .long (lN (cLn u))), (6, .long (lsV en (cR bg en sc wd ht oh bt co n (mw (cN x)) (mh (cN x)) (cN y) (cLn u)) n (cN y) (cN z) (cLn u))), (8, .int (nI m9)), (9, .int (nI x93))] := by rw [o93] at hl; exact hl
      have hx93 := h4 x93 o93
      refine rn_iinc (lv' := [(8, .int (nI (m9 + 1))), (0, .ref (qm 0)), (1, .int (nI (cN x))), (2, .int (nI (cN y))), (3, .int (nI (cN z))), (4, .long (lN (cLn u))), (6, .long (lsV en (cR bg en sc wd ht oh bt co n (mw (cN x)) (mh (cN x)) (cN y) (cLn u)) n (cN y) (cN z) (cLn u))), (9, .int (nI x93))]) hx hb dM_way_96 hl (k := 6) rfl (by decide) rfl (fun ls hl => ?_)
      refine lv_aload_n hx hb dM_way_99 rfl (lv_at hl 1 rfl) ?_
      refine lv_iload_n hx hb dM_way_100 rfl (lv_at hl 2 rfl) ?_
      refine lv_iload hx hb dM_way_101 (lv_at hl 7 rfl) ?_
      refine lv_iload_n hx hb dM_way_103 rfl (lv_at hl 3 rfl) ?_
      refine lv_lload hx hb dM_way_104 (lv_at hl 5 rfl) ?_
      refine cpV_i (b := (qm 0)) (C := nM) (As := [.int (nI (cN x)), .int (nI x93), .int (nI (cN y)), .long (lN (cLn u))]) (rest := []) (post := fun r : Int32 => r = oI (pbO bg en sc oh bt (cR bg en sc wd ht oh bt co n (mw (cN x)) (mh (cN x)) (cN y) (cLn u)) (cN y) (cLn u) n x93)) ⟨hx, hb, hml, hown, hts⟩ (ct_M_before l dC dI cI cJ cZ qm lv mw mh mk pc mc kc bg en sc wd ht oh bt co n sh ba (lsRm n (cR bg en sc wd ht oh bt co n (mw (cN x)) (mh (cN x)) (cN y) (cLn u)) (cN y) (cN z) rm) nm bs bc bp on wh 0 0 fo (cR bg en sc wd ht oh bt co n (mw (cN x)) (mh (cN x)) (cN y) (cLn u)) (cN x) x93 (cN y) (cLn u) (hG) (hB) (by omega) (fun j hj => by rw [hLR]; exact toC_rm hj (cR_b hB hsc htu hj)) (fun j hj => by rw [hLR]; exact rmF_b hB hsc htu hj) (hx93.1) (us_open (cR_us hB hsc htu hx93.1 hx93.2.1)) (hx93.2.1) (cR_g hB hsc hx93.1 (cR_us hB hsc htu hx93.1 hx93.2.1)) (cR_ex hB hsc htu hx93.1 hx93.2.1) (by omega) (by omega)) (cwV 4 hts (gv kM_145 ki_M_before ksel_M_before kin_M kc_M_before) rfl rfl rfl (by decide +kernel) ⟨Nat.le_trans (by decide) hR.1, Nat.le_trans (by decide) hR.2⟩) (va_recv hK hP (ci := 5) (q0 := 0) rfl rfl) hP hK hE rfl hl.1 rfl (Nat.le_of_ble_eq_true rfl) dM_way_106 hcs (fun r hr => ?_)
      subst hr
      refine lv_istore (lv' := [(9, .int (oI (pbO bg en sc oh bt (cR bg en sc wd ht oh bt co n (mw (cN x)) (mh (cN x)) (cN y) (cLn u)) (cN y) (cLn u) n x93))), (8, .int (nI (m9 + 1))), (0, .ref (qm 0)), (1, .int (nI (cN x))), (2, .int (nI (cN y))), (3, .int (nI (cN z))), (4, .long (lN (cLn u))), (6, .long (lsV en (cR bg en sc wd ht oh bt co n (mw (cN x)) (mh (cN x)) (cN y) (cLn u)) n (cN y) (cN z) (cLn u)))]) hx hb dM_way_109 hl (by decide) rfl (fun ls hl => ?_)
      refine lv_goto (tgt := 90) hx hb dM_way_111 (by decide) ?_
      exact ihL (m9 + 1) (pbO bg en sc oh bt (cR bg en sc wd ht oh bt co n (mw (cN x)) (mh (cN x)) (cN y) (cLn u)) (cN y) (cLn u) n x93) (hcd) (hmx) (hay) (hbz) (htu) (hpo) (chT_s h1 o93 (by omega)) (itr_s h2 o93) (rk_s hx93) (itr_h h5 h2 o93) (by omega) (by omega) H locs hP hD hS ls (lv_sub hl [2, 3, 4, 5, 6, 7, 1, 0] rfl)

set_option maxHeartbeats 4000000 in
set_option maxRecDepth 100000 in
theorem ct_M_way (l : Launch) (dC : Nat → ClassId) (dI : Nat → Nat → Nat) (cI cJ cZ : ClassId) (qm : Nat → Nat) (lv mw mh mk : Nat → Nat) (pc mc kc : Nat) (bg en sc wd ht oh bt : Nat → Nat) (co n : Nat) (sh ba : Nat → Bool) (rm nm bs bc bp on wh : Nat → Nat) (cd sl fo : Nat) (x y z : Int32) (u : Int64) (sz : Nat) (hG : bGp lv mw mh mk pc mc kc) (hB : bP bg en sc wd ht oh bt co n) (hsh : ∀ j, j < 40 → sh j = co.testBit j) (hba : ∀ f t, f < 40 → t < 40 → ba (40 * f + t) = (bt f).testBit t) (hsc : ∀ i, i < n → 1 ≤ sc i) : Met l yM_way wsM_way ({ frames := 4, cells := 0, slots := 0, locals := 103 }) (PcW (dC, dI) (wM cI cJ cZ qm lv bg en sc wd ht sh oh ba mw mh mk rm nm bs bc bp on wh cd pc n mc kc sl fo) (tyE cI cJ cZ) sz [.ref (qm 0), .int x, .int y, .int z, .long u]) (QwL (dC, dI) ((if cdWa pc mc x y z u = 0 then lsV en (cR bg en sc wd ht oh bt co n (mw (cN x)) (mh (cN x)) (cN y) (cLn u)) n (cN y) (cN z) (cLn u) else lN 0)) (wM cI cJ cZ qm lv bg en sc wd ht sh oh ba mw mh mk (if cdWa pc mc x y z u = 0 then lsRm n (cR bg en sc wd ht oh bt co n (mw (cN x)) (mh (cN x)) (cN y) (cLn u)) (cN y) (cN z) rm else rm) (if cdWa pc mc x y z u = 0 then (wmN bg en sc oh bt (cR bg en sc wd ht oh bt co n (mw (cN x)) (mh (cN x)) (cN y) (cLn u)) n (cN y) (cN z) (cLn u) nm).1 else nm) bs bc bp on wh (cdWa pc mc x y z u) pc n mc kc (if cdWa pc mc x y z u = 0 then (wmN bg en sc oh bt (cR bg en sc wd ht oh bt co n (mw (cN x)) (mh (cN x)) (cN y) (cLn u)) n (cN y) (cN z) (cLn u) nm).2 else sl) fo) (tyE cI cJ cZ) (va_A (wM cI cJ cZ qm lv bg en sc wd ht sh oh ba mw mh mk rm nm bs bc bp on wh cd pc n mc kc sl fo) sz)) 0 0 (va_A (wM cI cJ cZ qm lv bg en sc wd ht sh oh ba mw mh mk rm nm bs bc bp on wh cd pc n mc kc sl fo) sz) := by
  refine Met.ofW (cc := cM_way) (maxL := 10) (ret := (some .long)) (by decide) rfl ?_
  intro p e s m args below meth c s₁ B hml hv
  obtain ⟨rfl, hsz, hP, hK, hD0, hE⟩ := hv
  have hx := B.exec
  have hb := B.bytes
  have hr := B.returns
  have hts := atoms_spec (ws := wsM_way) B.pre
  have hg : ∀ w ∈ gw, w.before _ s = true := fun w h => hts w (List.mem_cons_of_mem _ h)
  have hown : s.vm.findClass nM = some m.cls := findClass_of_methodNamed B.named
  have hlocks := B.notSynchronized
  have hR : 4 ≤ (headSpec wsM_way ({ frames := 4, cells := 0, slots := 0, locals := 103 })).room.frames ∧ 103 ≤ (headSpec wsM_way ({ frames := 4, cells := 0, slots := 0, locals := 103 })).room.locals := ⟨Nat.le_refl _, Nat.le_refl _⟩
  have hcs : 0 ≤ (headSpec wsM_way ({ frames := 4, cells := 0, slots := 0, locals := 103 })).room.cells ∧ 0 ≤ (headSpec wsM_way ({ frames := 4, cells := 0, slots := 0, locals := 103 })).room.slots := ⟨Nat.zero_le _, Nat.zero_le _⟩
  subst hsz
  have hD := hD0.self (sz := s.heap.size)
  generalize hAe : va_A (wM cI cJ cZ qm lv bg en sc wd ht sh oh ba mw mh mk rm nm bs bc bp on wh cd pc n mc kc sl fo) s.heap.size = A at hD ⊢
  have hA : ∀ q : Nat, s.heap.size ≤ q → A q := fun q h => by rw [← hAe]; exact Or.inr h
  obtain ⟨H, hH⟩ : ∃ H, H = s.heap := ⟨_, rfl⟩
  have hS : va_S A s.heap H [] := by rw [hH]; exact va_S.rf
  rw [← hH] at hP ⊢
  have hpc := hG.1
  have hmc := hG.2.1
  have hkc := hG.2.2.1
  have hgi := hG.2.2.2
  have hbi := hB.2.2
  have hn := hB.1
  have hco := hB.2.1
  have hNV : NVm = 18446744073709551615 := rfl
  have hNc : NVc = 1152921504606846976 := rfl
  have hl := lv_entry ([.ref (qm 0), .int x, .int y, .int z, .long u]) (n := 10) (Nat.le_of_ble_eq_true rfl)
  rw [lg_entry_eq]
  generalize (lg_sl ([.ref (qm 0), .int x, .int y, .int z, .long u]) ++ List.replicate (10 - (lg_sl ([.ref (qm 0), .int x, .int y, .int z, .long u])).length) Slot.unset).toArray = ls at hl ⊢
  have hl : lv_has ls 10 [(0, .ref (qm 0)), (1, .int x), (2, .int y), (3, .int z), (4, .long u)] := hl
  refine lv_aload_n hx hb dM_way_0 rfl (lv_at hl 0 rfl) ?_
  refine lv_aload_n hx hb dM_way_1 rfl (lv_at hl 0 rfl) ?_
  refine lv_iload_n hx hb dM_way_2 rfl (lv_at hl 1 rfl) ?_
  refine cpV_i (b := (qm 0)) (C := nM) (As := [.int x]) (rest := [.ref (qm 0)]) (post := fun r : Int32 => r = bI (inB x mc)) ⟨hx, hb, hml, hown, hts⟩ (ct_M_isMover l dC dI cI cJ cZ qm lv mw mh mk pc mc kc bg en sc wd ht oh bt co n sh ba rm nm bs bc bp on wh cd sl fo x (hG) (hB)) (cwV 1 hts (gv kM_135 ki_M_isMover ksel_M_isMover kin_M kc_M_isMover) rfl rfl rfl (by decide +kernel) ⟨Nat.le_trans (by decide) hR.1, Nat.le_trans (by decide) hR.2⟩) (va_recv hK hP (ci := 5) (q0 := 0) rfl rfl) hP hK hE rfl hl.1 rfl (Nat.le_of_ble_eq_true rfl) dM_way_3 hcs (fun r hr => ?_)
  subst hr
  refine rb_eq (tgt := 37) hx hb dM_way_6 (by decide) (fun c6 => ?_) (fun c6 => ?_)
  · refine rn_iconst hx hb 1 dM_way_37 (by decide) ?_
    refine lv_goto (tgt := 42) hx hb dM_way_38 (by decide) ?_
    refine va_put (D := (dC, dI)) (ci := 5) (v := .int (nI 1)) (ty := .int) (C := nM) (T := TM) (N := 26) hx hb hg inM tM tM_ok nmM hown hK hP hD hS 0 rfl rfl 0 (by decide) (hg _ kM_69) (fun _ h9 => h9) rfl (by decide +kernel) rfl rfl (Nat.le_of_ble_eq_true rfl) dM_way_42 (fun H locs hP hD hS => ?_)
    have hP : va_P (dC, dI) vwCl (wM cI cJ cZ qm lv bg en sc wd ht sh oh ba mw mh mk rm nm bs bc bp on wh 1 pc n mc kc sl fo) H := hP
    have hD : va_D A (wM cI cJ cZ qm lv bg en sc wd ht sh oh ba mw mh mk rm nm bs bc bp on wh 1 pc n mc kc sl fo) := hD
    refine lv_aload_n hx hb dM_way_45 rfl (lv_at hl 0 rfl) ?_
    refine va_get (D := (dC, dI)) (ci := 5) (v := .int (nI 1)) (C := nM) (T := TM) (N := 26) hx hb hg inM hown hK hP 0 rfl rfl 0 (by decide) (hg _ kM_69) (fun _ h9 => h9) rfl dM_way_46 ?_
    refine lv_if_le (tgt := 54) hx hb dM_way_49 (by decide) (fun c49 => absurd c49 (by decide)) (fun c49 => ?_)
    refine rn_lconst hx hb 0 dM_way_52 rfl ?_
    have hcd : cdWa pc mc x y z u = 1 := by first | (simp [cdWa, c6]; done) | (simp [cdWa, c6]; omega)
    have hP9 : va_P (dC, dI) vwCl (wM cI cJ cZ qm lv bg en sc wd ht sh oh ba mw mh mk (if cdWa pc mc x y z u = 0 then lsRm n (cR bg en sc wd ht oh bt co n (mw (cN x)) (mh (cN x)) (cN y) (cLn u)) (cN y) (cN z) rm else rm) (if cdWa pc mc x y z u = 0 then (wmN bg en sc oh bt (cR bg en sc wd ht oh bt co n (mw (cN x)) (mh (cN x)) (cN y) (cLn u)) n (cN y) (cN z) (cLn u) nm).1 else nm) bs bc bp on wh (cdWa pc mc x y z u) pc n mc kc (if cdWa pc mc x y z u = 0 then (wmN bg en sc oh bt (cR bg en sc wd ht oh bt co n (mw (cN x)) (mh (cN x)) (cN y) (cLn u)) n (cN y) (cN z) (cLn u) nm).2 else sl) fo) H := by rw [hcd]; exact hP
    have hD9 : va_D A (wM cI cJ cZ qm lv bg en sc wd ht sh oh ba mw mh mk (if cdWa pc mc x y z u = 0 then lsRm n (cR bg en sc wd ht oh bt co n (mw (cN x)) (mh (cN x)) (cN y) (cLn u)) (cN y) (cN z) rm else rm) (if cdWa pc mc x y z u = 0 then (wmN bg en sc oh bt (cR bg en sc wd ht oh bt co n (mw (cN x)) (mh (cN x)) (cN y) (cLn u)) n (cN y) (cN z) (cLn u) nm).1 else nm) bs bc bp on wh (cdWa pc mc x y z u) pc n mc kc (if cdWa pc mc x y z u = 0 then (wmN bg en sc oh bt (cR bg en sc wd ht oh bt co n (mw (cN x)) (mh (cN x)) (cN y) (cLn u)) n (cN y) (cN z) (cLn u) nm).2 else sl) fo) := by rw [hcd]; exact hD
    exact W.lret hx hb hr (fun t ht hW => ⟨⟨_, (), rfl, (by rw [hcd]; rfl), by rw [ht]; exact hP9, va_K.moved hW.alike hK, hD9⟩, hS.F ht⟩) hS.2.2 dM_way_53
  · refine lv_aload_n hx hb dM_way_9 rfl (lv_at hl 0 rfl) ?_
    refine lv_iload_n hx hb dM_way_10 rfl (lv_at hl 2 rfl) ?_
    refine cpV_i (b := (qm 0)) (C := nM) (As := [.int y]) (rest := [.ref (qm 0)]) (post := fun r : Int32 => r = bI (inB y pc)) ⟨hx, hb, hml, hown, hts⟩ (ct_M_isPlace l dC dI cI cJ cZ qm lv mw mh mk pc mc kc bg en sc wd ht oh bt co n sh ba rm nm bs bc bp on wh cd sl fo y (hG) (hB)) (cwV 1 hts (gv kM_86 ki_M_isPlace ksel_M_isPlace kin_M kc_M_isPlace) rfl rfl rfl (by decide +kernel) ⟨Nat.le_trans (by decide) hR.1, Nat.le_trans (by decide) hR.2⟩) (va_recv hK hP (ci := 5) (q0 := 0) rfl rfl) hP hK hE rfl hl.1 rfl (Nat.le_of_ble_eq_true rfl) dM_way_11 hcs (fun r hr => ?_)
    subst hr
    refine rb_eq (tgt := 37) hx hb dM_way_14 (by decide) (fun c14 => ?_) (fun c14 => ?_)
    · refine rn_iconst hx hb 1 dM_way_37 (by decide) ?_
      refine lv_goto (tgt := 42) hx hb dM_way_38 (by decide) ?_
      refine va_put (D := (dC, dI)) (ci := 5) (v := .int (nI 1)) (ty := .int) (C := nM) (T := TM) (N := 26) hx hb hg inM tM tM_ok nmM hown hK hP hD hS 0 rfl rfl 0 (by decide) (hg _ kM_69) (fun _ h9 => h9) rfl (by decide +kernel) rfl rfl (Nat.le_of_ble_eq_true rfl) dM_way_42 (fun H locs hP hD hS => ?_)
      have hP : va_P (dC, dI) vwCl (wM cI cJ cZ qm lv bg en sc wd ht sh oh ba mw mh mk rm nm bs bc bp on wh 1 pc n mc kc sl fo) H := hP
      have hD : va_D A (wM cI cJ cZ qm lv bg en sc wd ht sh oh ba mw mh mk rm nm bs bc bp on wh 1 pc n mc kc sl fo) := hD
      refine lv_aload_n hx hb dM_way_45 rfl (lv_at hl 0 rfl) ?_
      refine va_get (D := (dC, dI)) (ci := 5) (v := .int (nI 1)) (C := nM) (T := TM) (N := 26) hx hb hg inM hown hK hP 0 rfl rfl 0 (by decide) (hg _ kM_69) (fun _ h9 => h9) rfl dM_way_46 ?_
      refine lv_if_le (tgt := 54) hx hb dM_way_49 (by decide) (fun c49 => absurd c49 (by decide)) (fun c49 => ?_)
      refine rn_lconst hx hb 0 dM_way_52 rfl ?_
      have hcd : cdWa pc mc x y z u = 1 := by first | (simp [cdWa, c6, c14]; done) | (simp [cdWa, c6, c14]; omega)
      have hP9 : va_P (dC, dI) vwCl (wM cI cJ cZ qm lv bg en sc wd ht sh oh ba mw mh mk (if cdWa pc mc x y z u = 0 then lsRm n (cR bg en sc wd ht oh bt co n (mw (cN x)) (mh (cN x)) (cN y) (cLn u)) (cN y) (cN z) rm else rm) (if cdWa pc mc x y z u = 0 then (wmN bg en sc oh bt (cR bg en sc wd ht oh bt co n (mw (cN x)) (mh (cN x)) (cN y) (cLn u)) n (cN y) (cN z) (cLn u) nm).1 else nm) bs bc bp on wh (cdWa pc mc x y z u) pc n mc kc (if cdWa pc mc x y z u = 0 then (wmN bg en sc oh bt (cR bg en sc wd ht oh bt co n (mw (cN x)) (mh (cN x)) (cN y) (cLn u)) n (cN y) (cN z) (cLn u) nm).2 else sl) fo) H := by rw [hcd]; exact hP
      have hD9 : va_D A (wM cI cJ cZ qm lv bg en sc wd ht sh oh ba mw mh mk (if cdWa pc mc x y z u = 0 then lsRm n (cR bg en sc wd ht oh bt co n (mw (cN x)) (mh (cN x)) (cN y) (cLn u)) (cN y) (cN z) rm else rm) (if cdWa pc mc x y z u = 0 then (wmN bg en sc oh bt (cR bg en sc wd ht oh bt co n (mw (cN x)) (mh (cN x)) (cN y) (cLn u)) n (cN y) (cN z) (cLn u) nm).1 else nm) bs bc bp on wh (cdWa pc mc x y z u) pc n mc kc (if cdWa pc mc x y z u = 0 then (wmN bg en sc oh bt (cR bg en sc wd ht oh bt co n (mw (cN x)) (mh (cN x)) (cN y) (cLn u)) n (cN y) (cN z) (cLn u) nm).2 else sl) fo) := by rw [hcd]; exact hD
      exact W.lret hx hb hr (fun t ht hW => ⟨⟨_, (), rfl, (by rw [hcd]; rfl), by rw [ht]; exact hP9, va_K.moved hW.alike hK, hD9⟩, hS.F ht⟩) hS.2.2 dM_way_53
    · refine lv_aload_n hx hb dM_way_17 rfl (lv_at hl 0 rfl) ?_
      refine lv_iload_n hx hb dM_way_18 rfl (lv_at hl 3 rfl) ?_
      refine cpV_i (b := (qm 0)) (C := nM) (As := [.int z]) (rest := [.ref (qm 0)]) (post := fun r : Int32 => r = bI (inB z pc)) ⟨hx, hb, hml, hown, hts⟩ (ct_M_isPlace l dC dI cI cJ cZ qm lv mw mh mk pc mc kc bg en sc wd ht oh bt co n sh ba rm nm bs bc bp on wh cd sl fo z (hG) (hB)) (cwV 1 hts (gv kM_86 ki_M_isPlace ksel_M_isPlace kin_M kc_M_isPlace) rfl rfl rfl (by decide +kernel) ⟨Nat.le_trans (by decide) hR.1, Nat.le_trans (by decide) hR.2⟩) (va_recv hK hP (ci := 5) (q0 := 0) rfl rfl) hP hK hE rfl hl.1 rfl (Nat.le_of_ble_eq_true rfl) dM_way_19 hcs (fun r hr => ?_)
      subst hr
      refine rb_eq (tgt := 37) hx hb dM_way_22 (by decide) (fun c22 => ?_) (fun c22 => ?_)
      · refine rn_iconst hx hb 1 dM_way_37 (by decide) ?_
        refine lv_goto (tgt := 42) hx hb dM_way_38 (by decide) ?_
        refine va_put (D := (dC, dI)) (ci := 5) (v := .int (nI 1)) (ty := .int) (C := nM) (T := TM) (N := 26) hx hb hg inM tM tM_ok nmM hown hK hP hD hS 0 rfl rfl 0 (by decide) (hg _ kM_69) (fun _ h9 => h9) rfl (by decide +kernel) rfl rfl (Nat.le_of_ble_eq_true rfl) dM_way_42 (fun H locs hP hD hS => ?_)
        have hP : va_P (dC, dI) vwCl (wM cI cJ cZ qm lv bg en sc wd ht sh oh ba mw mh mk rm nm bs bc bp on wh 1 pc n mc kc sl fo) H := hP
        have hD : va_D A (wM cI cJ cZ qm lv bg en sc wd ht sh oh ba mw mh mk rm nm bs bc bp on wh 1 pc n mc kc sl fo) := hD
        refine lv_aload_n hx hb dM_way_45 rfl (lv_at hl 0 rfl) ?_
        refine va_get (D := (dC, dI)) (ci := 5) (v := .int (nI 1)) (C := nM) (T := TM) (N := 26) hx hb hg inM hown hK hP 0 rfl rfl 0 (by decide) (hg _ kM_69) (fun _ h9 => h9) rfl dM_way_46 ?_
        refine lv_if_le (tgt := 54) hx hb dM_way_49 (by decide) (fun c49 => absurd c49 (by decide)) (fun c49 => ?_)
        refine rn_lconst hx hb 0 dM_way_52 rfl ?_
        have hcd : cdWa pc mc x y z u = 1 := by first | (simp [cdWa, c6, c14, c22]; done) | (simp [cdWa, c6, c14, c22]; omega)
        have hP9 : va_P (dC, dI) vwCl (wM cI cJ cZ qm lv bg en sc wd ht sh oh ba mw mh mk (if cdWa pc mc x y z u = 0 then lsRm n (cR bg en sc wd ht oh bt co n (mw (cN x)) (mh (cN x)) (cN y) (cLn u)) (cN y) (cN z) rm else rm) (if cdWa pc mc x y z u = 0 then (wmN bg en sc oh bt (cR bg en sc wd ht oh bt co n (mw (cN x)) (mh (cN x)) (cN y) (cLn u)) n (cN y) (cN z) (cLn u) nm).1 else nm) bs bc bp on wh (cdWa pc mc x y z u) pc n mc kc (if cdWa pc mc x y z u = 0 then (wmN bg en sc oh bt (cR bg en sc wd ht oh bt co n (mw (cN x)) (mh (cN x)) (cN y) (cLn u)) n (cN y) (cN z) (cLn u) nm).2 else sl) fo) H := by rw [hcd]; exact hP
        have hD9 : va_D A (wM cI cJ cZ qm lv bg en sc wd ht sh oh ba mw mh mk (if cdWa pc mc x y z u = 0 then lsRm n (cR bg en sc wd ht oh bt co n (mw (cN x)) (mh (cN x)) (cN y) (cLn u)) (cN y) (cN z) rm else rm) (if cdWa pc mc x y z u = 0 then (wmN bg en sc oh bt (cR bg en sc wd ht oh bt co n (mw (cN x)) (mh (cN x)) (cN y) (cLn u)) n (cN y) (cN z) (cLn u) nm).1 else nm) bs bc bp on wh (cdWa pc mc x y z u) pc n mc kc (if cdWa pc mc x y z u = 0 then (wmN bg en sc oh bt (cR bg en sc wd ht oh bt co n (mw (cN x)) (mh (cN x)) (cN y) (cLn u)) n (cN y) (cN z) (cLn u) nm).2 else sl) fo) := by rw [hcd]; exact hD
        exact W.lret hx hb hr (fun t ht hW => ⟨⟨_, (), rfl, (by rw [hcd]; rfl), by rw [ht]; exact hP9, va_K.moved hW.alike hK, hD9⟩, hS.F ht⟩) hS.2.2 dM_way_53
      · refine lv_lload hx hb dM_way_25 (lv_at hl 4 rfl) ?_
        refine rn_lconst hx hb 0 dM_way_27 rfl ?_
        refine lv_ldc2 (v := 10000000) hx hb hown (hg _ kM_90) dM_way_28 ?_
        refine tp_l (y := lN 10000000) rfl ?_
        refine cpS_i (As := [.long u, .long (lN 0), .long (lN 10000000)]) (rest := [.ref (qm 0)]) (post := fun r : Int32 => r = bI (wiB u (lN 0) (lN 10000000))) ⟨hx, hb, hml, hown, hts⟩ (ct_M_in l dC dI cI cJ cZ u (lN 0) (lN 10000000) ) (va_cwS 3 hts (gs kM_76 ks_M_in kin_M kc_M_in) rfl rfl rfl (by decide +kernel) ⟨Nat.le_trans (by decide) hR.1, Nat.le_trans (by decide) hR.2⟩) (hP.sub (ws' := []) [] rfl) hK hE rfl hl.1 rfl (Nat.le_of_ble_eq_true rfl) dM_way_31 hcs (fun r hr => ?_)
        subst hr
        refine rb_ne (tgt := 41) hx hb dM_way_34 (by decide) (fun c34 => ?_) (fun c34 => ?_)
        · refine rn_iconst hx hb 0 dM_way_41 (by decide) ?_
          refine va_put (D := (dC, dI)) (ci := 5) (v := .int (nI 0)) (ty := .int) (C := nM) (T := TM) (N := 26) hx hb hg inM tM tM_ok nmM hown hK hP hD hS 0 rfl rfl 0 (by decide) (hg _ kM_69) (fun _ h9 => h9) rfl (by decide +kernel) rfl rfl (Nat.le_of_ble_eq_true rfl) dM_way_42 (fun H locs hP hD hS => ?_)
          have hP : va_P (dC, dI) vwCl (wM cI cJ cZ qm lv bg en sc wd ht sh oh ba mw mh mk rm nm bs bc bp on wh 0 pc n mc kc sl fo) H := hP
          have hD : va_D A (wM cI cJ cZ qm lv bg en sc wd ht sh oh ba mw mh mk rm nm bs bc bp on wh 0 pc n mc kc sl fo) := hD
          refine lv_aload_n hx hb dM_way_45 rfl (lv_at hl 0 rfl) ?_
          refine va_get (D := (dC, dI)) (ci := 5) (v := .int (nI 0)) (C := nM) (T := TM) (N := 26) hx hb hg inM hown hK hP 0 rfl rfl 0 (by decide) (hg _ kM_69) (fun _ h9 => h9) rfl dM_way_46 ?_
          refine lv_if_le (tgt := 54) hx hb dM_way_49 (by decide) (fun c49 => ?_) (fun c49 => absurd c49 (by decide))
          obtain ⟨j1, hj1, ej1⟩ := in_of c6 (by omega)
          obtain ⟨j2, hj2, ej2⟩ := in_of c14 (by omega)
          obtain ⟨j3, hj3, ej3⟩ := in_of c22 (by omega)
          have f1 : cN x = j1 := by rw [ej1]; exact cN_n (by omega)
          have f2 : cN y = j2 := by rw [ej2]; exact cN_n (by omega)
          have f3 : cN z = j3 := by rw [ej3]; exact cN_n (by omega)
          have ex : x = nI (cN x) := by rw [f1]; exact ej1
          have ey : y = nI (cN y) := by rw [f2]; exact ej2
          have ez : z = nI (cN z) := by rw [f3]; exact ej3
          have hmx : cN x < 6 := by omega
          have hay : cN y < 20 := by omega
          have hbz : cN z < 20 := by omega
          obtain ⟨j4, hj4, hj5, ej4⟩ := wl_of c34 (by decide) (by decide)
          have f4 : cLn u = j4 := by rw [ej4]; exact cL_n (by omega)
          have eu : u = lN (cLn u) := by rw [f4]; exact ej4
          have htu : cLn u ≤ 10000000 := by omega
          have hcd : cdWa pc mc x y z u = 0 := if_pos ⟨c6, c14, c22, c34⟩
          have hl : lv_has ls 10 [(0, .ref (qm 0)), (1, .int (nI (cN x))), (2, .int (nI (cN y))), (3, .int (nI (cN z))), (4, .long (lN (cLn u)))] := by rw [ex, ey, ez, eu] at hl; exact hl
          refine lv_aload_n hx hb dM_way_54 rfl (lv_at hl 0 rfl) ?_
          refine rn_iconst hx hb 0 dM_way_55 (by decide) ?_
          refine va_put (D := (dC, dI)) (ci := 5) (v := .int (nI 0)) (ty := .int) (C := nM) (T := TM) (N := 26) hx hb hg inM tM tM_ok nmM hown hK hP hD hS 0 rfl rfl 19 (by decide) (hg _ kM_138) (fun _ h9 => h9) rfl (by decide +kernel) rfl rfl (Nat.le_of_ble_eq_true rfl) dM_way_56 (fun H locs hP hD hS => ?_)
          have hP : va_P (dC, dI) vwCl (wM cI cJ cZ qm lv bg en sc wd ht sh oh ba mw mh mk rm nm bs bc bp on wh 0 pc n mc kc 0 fo) H := hP
          have hD : va_D A (wM cI cJ cZ qm lv bg en sc wd ht sh oh ba mw mh mk rm nm bs bc bp on wh 0 pc n mc kc 0 fo) := hD
          refine lv_aload_n hx hb dM_way_59 rfl (lv_at hl 0 rfl) ?_
          refine lv_iload_n hx hb dM_way_60 rfl (lv_at hl 1 rfl) ?_
          refine lv_iload_n hx hb dM_way_61 rfl (lv_at hl 2 rfl) ?_
          refine lv_iload_n hx hb dM_way_62 rfl (lv_at hl 3 rfl) ?_
          refine lv_lload hx hb dM_way_63 (lv_at hl 4 rfl) ?_
          refine kwV_l (D := (dC, dI)) (r0 := (lsV en (cR bg en sc wd ht oh bt co n (mw (cN x)) (mh (cN x)) (cN y) (cLn u)) n (cN y) (cN z) (cLn u))) (b := (qm 0)) (C := nM) (As := [.int (nI (cN x)), .int (nI (cN y)), .int (nI (cN z)), .long (lN (cLn u))]) (rest := []) (wc := (wM cI cJ cZ qm lv bg en sc wd ht sh oh ba mw mh mk rm nm bs bc bp on wh 0 pc n mc kc 0 fo)) (wr := []) (w1 := (wM cI cJ cZ qm lv bg en sc wd ht sh oh ba mw mh mk (lsRm n (cR bg en sc wd ht oh bt co n (mw (cN x)) (mh (cN x)) (cN y) (cLn u)) (cN y) (cN z) rm) nm bs bc bp on wh 0 pc n mc kc 0 fo)) (wn := (wM cI cJ cZ qm lv bg en sc wd ht sh oh ba mw mh mk (lsRm n (cR bg en sc wd ht oh bt co n (mw (cN x)) (mh (cN x)) (cN y) (cLn u)) (cN y) (cN z) rm) nm bs bc bp on wh 0 pc n mc kc 0 fo)) ⟨hx, hb, hml, hown, hts⟩ (ct_M_least l dC dI cI cJ cZ qm lv mw mh mk pc mc kc bg en sc wd ht oh bt co n sh ba rm nm bs bc bp on wh 0 0 fo (cN x) (cN y) (cN z) (cLn u) H.size (hG) (hB) (hsh) (by omega) (hsc) (by omega) (by omega) (by omega) (by omega)) (cwV 4 hts (gv kM_141 ki_M_least ksel_M_least kin_M kc_M_least) rfl rfl rfl (by decide +kernel) ⟨Nat.le_trans (by decide) hR.1, Nat.le_trans (by decide) hR.2⟩) (va_recv hK hP (ci := 5) (q0 := 0) rfl rfl) hP hD hK hE hS hA [0, 1, 2, 3, 4, 5, 6, 7, 8, 9, 10, 11, 12, 13, 14, 15, 16, 17, 18, 19] [] [0, 1, 2, 3, 4, 5, 6, 7, 8, 9, 10, 11, 12, 13, 14, 15, 16, 17, 18, 19] rfl (by decide) rfl (by decide) (by decide) rfl (by decide) rfl hl.1 rfl (Nat.le_of_ble_eq_true rfl) dM_way_65 hcs (fun H locs hP hD hS => ?_)
          refine lv_lstore (lv' := [(6, .long (lsV en (cR bg en sc wd ht oh bt co n (mw (cN x)) (mh (cN x)) (cN y) (cLn u)) n (cN y) (cN z) (cLn u))), (0, .ref (qm 0)), (1, .int (nI (cN x))), (2, .int (nI (cN y))), (3, .int (nI (cN z))), (4, .long (lN (cLn u)))]) hx hb dM_way_68 hl (by decide) rfl (fun ls hl => ?_)
          refine lv_lload hx hb dM_way_70 (lv_at hl 0 rfl) ?_
          refine rn_lconst hx hb 0 dM_way_72 rfl ?_
          refine rl_cmp_gt (tgt := 80) hx hb dM_way_73 dM_way_74 (by decide) (fun c74 => ?_) (fun c74 => ?_)
          · have hpo := lsV_p hB hsc htu c74
            have hLR : lsRm n (cR bg en sc wd ht oh bt co n (mw (cN x)) (mh (cN x)) (cN y) (cLn u)) (cN y) (cN z) rm = rmF n (cR bg en sc wd ht oh bt co n (mw (cN x)) (mh (cN x)) (cN y) (cLn u)) rm := if_neg hpo.1
            refine rn_iconst hx hb 0 dM_way_80 (by decide) ?_
            refine lv_istore (lv' := [(8, .int (nI 0)), (6, .long (lsV en (cR bg en sc wd ht oh bt co n (mw (cN x)) (mh (cN x)) (cN y) (cLn u)) n (cN y) (cN z) (cLn u))), (0, .ref (qm 0)), (1, .int (nI (cN x))), (2, .int (nI (cN y))), (3, .int (nI (cN z))), (4, .long (lN (cLn u)))]) hx hb dM_way_81 hl (by decide) rfl (fun ls hl => ?_)
            refine lv_aload_n hx hb dM_way_83 rfl (lv_at hl 2 rfl) ?_
            refine lv_iload_n hx hb dM_way_84 rfl (lv_at hl 5 rfl) ?_
            refine cpV_i (b := (qm 0)) (C := nM) (As := [.int (nI (cN z))]) (rest := []) (post := fun r : Int32 => r = oI (lpL en (cR bg en sc wd ht oh bt co n (mw (cN x)) (mh (cN x)) (cN y) (cLn u)) (cN z) n).1) ⟨hx, hb, hml, hown, hts⟩ (ct_M_lastTo l dC dI cI cJ cZ qm lv mw mh mk pc mc kc bg en sc wd ht oh bt co n sh ba (lsRm n (cR bg en sc wd ht oh bt co n (mw (cN x)) (mh (cN x)) (cN y) (cLn u)) (cN y) (cN z) rm) nm bs bc bp on wh 0 0 fo (cR bg en sc wd ht oh bt co n (mw (cN x)) (mh (cN x)) (cN y) (cLn u)) (cN z) (hG) (hB) (fun j hj => by rw [hLR]; exact toC_rm hj (cR_b hB hsc htu hj)) (fun j hj => by rw [hLR]; exact rmF_b hB hsc htu hj) (by omega)) (cwV 1 hts (gv kM_131 ki_M_lastTo ksel_M_lastTo kin_M kc_M_lastTo) rfl rfl rfl (by decide +kernel) ⟨Nat.le_trans (by decide) hR.1, Nat.le_trans (by decide) hR.2⟩) (va_recv hK hP (ci := 5) (q0 := 0) rfl rfl) hP hK hE rfl hl.1 rfl (Nat.le_of_ble_eq_true rfl) dM_way_85 hcs (fun r hr => ?_)
            subst hr
            refine lv_istore (lv' := [(9, .int (oI ((lpL en (cR bg en sc wd ht oh bt co n (mw (cN x)) (mh (cN x)) (cN y) (cLn u)) (cN z) n).1))), (8, .int (nI 0)), (6, .long (lsV en (cR bg en sc wd ht oh bt co n (mw (cN x)) (mh (cN x)) (cN y) (cLn u)) n (cN y) (cN z) (cLn u))), (0, .ref (qm 0)), (1, .int (nI (cN x))), (2, .int (nI (cN y))), (3, .int (nI (cN z))), (4, .long (lN (cLn u)))]) hx hb dM_way_88 hl (by decide) rfl (fun ls hl => ?_)
            refine lp_M_way1 qm lv mw mh mk pc mc kc bg en sc wd ht oh bt co n sh ba rm nm bs bc bp on wh cd sl fo x y z u hG hB hsh hba hsc  hx hb hml hown hts hK hE hA (by first | exact hR | exact ⟨Nat.le_trans (by decide) hR.1, Nat.le_trans (by decide) hR.2⟩) hcs (fun m9 o hcd hmx hay hbz htu hpo h1 h2 h4 h5 h6 hx0 H locs hP hD hS ls hl => ?_) ((n - 0) + 1) 0 ((lpL en (cR bg en sc wd ht oh bt co n (mw (cN x)) (mh (cN x)) (cN y) (cLn u)) (cN z) n).1) (hcd) (hmx) (hay) (hbz) (htu) (hpo) ((Nat.zero_add _).symm) (rfl) (rk_0) (fun j hj => absurd hj (Nat.not_lt_zero _)) (by omega) (by omega) _ _ hP hD hS ls (lv_sub hl [3, 4, 5, 6, 7, 2, 1, 0] rfl)
            have hTm : chT (pbO bg en sc oh bt (cR bg en sc wd ht oh bt co n (mw (cN x)) (mh (cN x)) (cN y) (cLn u)) (cN y) (cLn u) n) 40 (lpL en (cR bg en sc wd ht oh bt co n (mw (cN x)) (mh (cN x)) (cN y) (cLn u)) (cN z) n).1 = m9 := by rw [h1, hx0, chT_none]; rfl
            have g7 : chT (pbO bg en sc oh bt (cR bg en sc wd ht oh bt co n (mw (cN x)) (mh (cN x)) (cN y) (cLn u)) (cN y) (cLn u) n) 40 (lpL en (cR bg en sc wd ht oh bt co n (mw (cN x)) (mh (cN x)) (cN y) (cLn u)) (cN z) n).1 ≤ 40 := by omega
            have g5 : ∀ j, j < chT (pbO bg en sc oh bt (cR bg en sc wd ht oh bt co n (mw (cN x)) (mh (cN x)) (cN y) (cLn u)) (cN y) (cLn u) n) 40 (lpL en (cR bg en sc wd ht oh bt co n (mw (cN x)) (mh (cN x)) (cN y) (cLn u)) (cN z) n).1 → itr (pbO bg en sc oh bt (cR bg en sc wd ht oh bt co n (mw (cN x)) (mh (cN x)) (cN y) (cLn u)) (cN y) (cLn u) n) (lpL en (cR bg en sc wd ht oh bt co n (mw (cN x)) (mh (cN x)) (cN y) (cLn u)) (cN z) n).1 j ≠ none := by rw [hTm]; exact h5
            have g6 : itr (pbO bg en sc oh bt (cR bg en sc wd ht oh bt co n (mw (cN x)) (mh (cN x)) (cN y) (cLn u)) (cN y) (cLn u) n) (lpL en (cR bg en sc wd ht oh bt co n (mw (cN x)) (mh (cN x)) (cN y) (cLn u)) (cN z) n).1 (chT (pbO bg en sc oh bt (cR bg en sc wd ht oh bt co n (mw (cN x)) (mh (cN x)) (cN y) (cLn u)) (cN y) (cLn u) n) 40 (lpL en (cR bg en sc wd ht oh bt co n (mw (cN x)) (mh (cN x)) (cN y) (cLn u)) (cN z) n).1) = none := by rw [hTm, ← h2]; exact hx0
            have hl : lv_has ls 10 [(0, .ref (qm 0)), (1, .int (nI (cN x))), (2, .int (nI (cN y))), (3, .int (nI (cN z))), (4, .long (lN (cLn u))), (6, .long (lsV en (cR bg en sc wd ht oh bt co n (mw (cN x)) (mh (cN x)) (cN y) (cLn u)) n (cN y) (cN z) (cLn u))), (8, .int (nI (chT (pbO bg en sc oh bt (cR bg en sc wd ht oh bt co n (mw (cN x)) (mh (cN x)) (cN y) (cLn u)) (cN y) (cLn u) n) 40 (lpL en (cR bg en sc wd ht oh bt co n (mw (cN x)) (mh (cN x)) (cN y) (cLn u)) (cN z) n).1))), (9, .int (oI o))] := by rw [← hTm] at hl; exact hl
            have hLR : lsRm n (cR bg en sc wd ht oh bt co n (mw (cN x)) (mh (cN x)) (cN y) (cLn u)) (cN y) (cN z) rm = rmF n (cR bg en sc wd ht oh bt co n (mw (cN x)) (mh (cN x)) (cN y) (cLn u)) rm := if_neg hpo.1
            refine lv_aload_n hx hb dM_way_114 rfl (lv_at hl 0 rfl) ?_
            refine lv_iload hx hb dM_way_115 (lv_at hl 6 rfl) ?_
            refine va_put (D := (dC, dI)) (ci := 5) (v := .int (nI (chT (pbO bg en sc oh bt (cR bg en sc wd ht oh bt co n (mw (cN x)) (mh (cN x)) (cN y) (cLn u)) (cN y) (cLn u) n) 40 (lpL en (cR bg en sc wd ht oh bt co n (mw (cN x)) (mh (cN x)) (cN y) (cLn u)) (cN z) n).1))) (ty := .int) (C := nM) (T := TM) (N := 26) hx hb hg inM tM tM_ok nmM hown hK hP hD hS 0 rfl rfl 19 (by decide) (hg _ kM_138) (fun _ h9 => h9) rfl (by decide +kernel) rfl rfl (Nat.le_of_ble_eq_true rfl) dM_way_117 (fun H locs hP hD hS => ?_)
            have hP : va_P (dC, dI) vwCl (wM cI cJ cZ qm lv bg en sc wd ht sh oh ba mw mh mk (lsRm n (cR bg en sc wd ht oh bt co n (mw (cN x)) (mh (cN x)) (cN y) (cLn u)) (cN y) (cN z) rm) nm bs bc bp on wh 0 pc n mc kc (chT (pbO bg en sc oh bt (cR bg en sc wd ht oh bt co n (mw (cN x)) (mh (cN x)) (cN y) (cLn u)) (cN y) (cLn u) n) 40 (lpL en (cR bg en sc wd ht oh bt co n (mw (cN x)) (mh (cN x)) (cN y) (cLn u)) (cN z) n).1) fo) H := hP
            have hD : va_D A (wM cI cJ cZ qm lv bg en sc wd ht sh oh ba mw mh mk (lsRm n (cR bg en sc wd ht oh bt co n (mw (cN x)) (mh (cN x)) (cN y) (cLn u)) (cN y) (cN z) rm) nm bs bc bp on wh 0 pc n mc kc (chT (pbO bg en sc oh bt (cR bg en sc wd ht oh bt co n (mw (cN x)) (mh (cN x)) (cN y) (cLn u)) (cN y) (cLn u) n) 40 (lpL en (cR bg en sc wd ht oh bt co n (mw (cN x)) (mh (cN x)) (cN y) (cLn u)) (cN z) n).1) fo) := hD
            refine lv_aload_n hx hb dM_way_120 rfl (lv_at hl 0 rfl) ?_
            refine lv_iload_n hx hb dM_way_121 rfl (lv_at hl 3 rfl) ?_
            refine cpV_i (b := (qm 0)) (C := nM) (As := [.int (nI (cN z))]) (rest := []) (post := fun r : Int32 => r = oI (lpL en (cR bg en sc wd ht oh bt co n (mw (cN x)) (mh (cN x)) (cN y) (cLn u)) (cN z) n).1) ⟨hx, hb, hml, hown, hts⟩ (ct_M_lastTo l dC dI cI cJ cZ qm lv mw mh mk pc mc kc bg en sc wd ht oh bt co n sh ba (lsRm n (cR bg en sc wd ht oh bt co n (mw (cN x)) (mh (cN x)) (cN y) (cLn u)) (cN y) (cN z) rm) nm bs bc bp on wh 0 (chT (pbO bg en sc oh bt (cR bg en sc wd ht oh bt co n (mw (cN x)) (mh (cN x)) (cN y) (cLn u)) (cN y) (cLn u) n) 40 (lpL en (cR bg en sc wd ht oh bt co n (mw (cN x)) (mh (cN x)) (cN y) (cLn u)) (cN z) n).1) fo (cR bg en sc wd ht oh bt co n (mw (cN x)) (mh (cN x)) (cN y) (cLn u)) (cN z) (hG) (hB) (fun j hj => by rw [hLR]; exact toC_rm hj (cR_b hB hsc htu hj)) (fun j hj => by rw [hLR]; exact rmF_b hB hsc htu hj) (by omega)) (cwV 1 hts (gv kM_131 ki_M_lastTo ksel_M_lastTo kin_M kc_M_lastTo) rfl rfl rfl (by decide +kernel) ⟨Nat.le_trans (by decide) hR.1, Nat.le_trans (by decide) hR.2⟩) (va_recv hK hP (ci := 5) (q0 := 0) rfl rfl) hP hK hE rfl hl.1 rfl (Nat.le_of_ble_eq_true rfl) dM_way_122 hcs (fun r hr => ?_)
            subst hr
            refine lv_istore (lv' := [(9, .int (oI ((lpL en (cR bg en sc wd ht oh bt co n (mw (cN x)) (mh (cN x)) (cN y) (cLn u)) (cN z) n).1))), (0, .ref (qm 0)), (1, .int (nI (cN x))), (2, .int (nI (cN y))), (3, .int (nI (cN z))), (4, .long (lN (cLn u))), (6, .long (lsV en (cR bg en sc wd ht oh bt co n (mw (cN x)) (mh (cN x)) (cN y) (cLn u)) n (cN y) (cN z) (cLn u))), (8, .int (nI (chT (pbO bg en sc oh bt (cR bg en sc wd ht oh bt co n (mw (cN x)) (mh (cN x)) (cN y) (cLn u)) (cN y) (cLn u) n) 40 (lpL en (cR bg en sc wd ht oh bt co n (mw (cN x)) (mh (cN x)) (cN y) (cLn u)) (cN z) n).1)))]) hx hb dM_way_125 hl (by decide) rfl (fun ls hl => ?_)
            refine lp_M_way2 qm lv mw mh mk pc mc kc bg en sc wd ht oh bt co n sh ba rm nm bs bc bp on wh cd sl fo x y z u hG hB hsh hba hsc  hx hb hml hown hts hK hE hA (by first | exact hR | exact ⟨Nat.le_trans (by decide) hR.1, Nat.le_trans (by decide) hR.2⟩) hcs (fun m9 o v hcd hmx hay hbz htu hpo g1 g2 g3 g4 g5 g6 g7 hx0 H locs hP hD hS ls hl => ?_) ((chT (pbO bg en sc oh bt (cR bg en sc wd ht oh bt co n (mw (cN x)) (mh (cN x)) (cN y) (cLn u)) (cN y) (cLn u) n) 40 (lpL en (cR bg en sc wd ht oh bt co n (mw (cN x)) (mh (cN x)) (cN y) (cLn u)) (cN z) n).1) + 1) (chT (pbO bg en sc oh bt (cR bg en sc wd ht oh bt co n (mw (cN x)) (mh (cN x)) (cN y) (cLn u)) (cN y) (cLn u) n) 40 (lpL en (cR bg en sc wd ht oh bt co n (mw (cN x)) (mh (cN x)) (cN y) (cLn u)) (cN z) n).1) ((lpL en (cR bg en sc wd ht oh bt co n (mw (cN x)) (mh (cN x)) (cN y) (cLn u)) (cN z) n).1) nm (hcd) (hmx) (hay) (hbz) (htu) (hpo) (Nat.le_refl _) (by rw [Nat.sub_self]; rfl) (wm_0 rfl) (fun x0 hx0 => ⟨(rk_0 x0 hx0).1, (rk_0 x0 hx0).2.1⟩) (g5) (g6) (g7) (by omega) _ _ hP hD hS ls (lv_sub hl [1, 2, 3, 4, 5, 6, 7, 0] rfl)
            have hz : m9 = 0 := by by_cases q : m9 = 0; exact q; exact absurd (g2.symm.trans hx0) (g5 _ (by omega))
            refine lv_lload hx hb dM_way_160 (lv_at hl 5 rfl) ?_
            have hcd : cdWa pc mc x y z u = 0 := hcd
            have hP9 : va_P (dC, dI) vwCl (wM cI cJ cZ qm lv bg en sc wd ht sh oh ba mw mh mk (if cdWa pc mc x y z u = 0 then lsRm n (cR bg en sc wd ht oh bt co n (mw (cN x)) (mh (cN x)) (cN y) (cLn u)) (cN y) (cN z) rm else rm) (if cdWa pc mc x y z u = 0 then (wmN bg en sc oh bt (cR bg en sc wd ht oh bt co n (mw (cN x)) (mh (cN x)) (cN y) (cLn u)) n (cN y) (cN z) (cLn u) nm).1 else nm) bs bc bp on wh (cdWa pc mc x y z u) pc n mc kc (if cdWa pc mc x y z u = 0 then (wmN bg en sc oh bt (cR bg en sc wd ht oh bt co n (mw (cN x)) (mh (cN x)) (cN y) (cLn u)) n (cN y) (cN z) (cLn u) nm).2 else sl) fo) H := by rw [hcd, show wmN bg en sc oh bt (cR bg en sc wd ht oh bt co n (mw (cN x)) (mh (cN x)) (cN y) (cLn u)) n (cN y) (cN z) (cLn u) nm = (v, chT (pbO bg en sc oh bt (cR bg en sc wd ht oh bt co n (mw (cN x)) (mh (cN x)) (cN y) (cLn u)) (cN y) (cLn u) n) 40 (lpL en (cR bg en sc wd ht oh bt co n (mw (cN x)) (mh (cN x)) (cN y) (cLn u)) (cN z) n).1) from by rw [wm_e g3 hz]; exact if_pos hpo]; exact hP
            have hD9 : va_D A (wM cI cJ cZ qm lv bg en sc wd ht sh oh ba mw mh mk (if cdWa pc mc x y z u = 0 then lsRm n (cR bg en sc wd ht oh bt co n (mw (cN x)) (mh (cN x)) (cN y) (cLn u)) (cN y) (cN z) rm else rm) (if cdWa pc mc x y z u = 0 then (wmN bg en sc oh bt (cR bg en sc wd ht oh bt co n (mw (cN x)) (mh (cN x)) (cN y) (cLn u)) n (cN y) (cN z) (cLn u) nm).1 else nm) bs bc bp on wh (cdWa pc mc x y z u) pc n mc kc (if cdWa pc mc x y z u = 0 then (wmN bg en sc oh bt (cR bg en sc wd ht oh bt co n (mw (cN x)) (mh (cN x)) (cN y) (cLn u)) n (cN y) (cN z) (cLn u) nm).2 else sl) fo) := by rw [hcd, show wmN bg en sc oh bt (cR bg en sc wd ht oh bt co n (mw (cN x)) (mh (cN x)) (cN y) (cLn u)) n (cN y) (cN z) (cLn u) nm = (v, chT (pbO bg en sc oh bt (cR bg en sc wd ht oh bt co n (mw (cN x)) (mh (cN x)) (cN y) (cLn u)) (cN y) (cLn u) n) 40 (lpL en (cR bg en sc wd ht oh bt co n (mw (cN x)) (mh (cN x)) (cN y) (cLn u)) (cN z) n).1) from by rw [wm_e g3 hz]; exact if_pos hpo]; exact hD
            exact W.lret hx hb hr (fun t ht hW => ⟨⟨_, (), rfl, (by rw [hcd]; rfl), by rw [ht]; exact hP9, va_K.moved hW.alike hK, hD9⟩, hS.F ht⟩) hS.2.2 dM_way_162
          · refine lv_lload hx hb dM_way_77 (lv_at hl 0 rfl) ?_
            have hcd : cdWa pc mc x y z u = 0 := hcd
            have hP9 : va_P (dC, dI) vwCl (wM cI cJ cZ qm lv bg en sc wd ht sh oh ba mw mh mk (if cdWa pc mc x y z u = 0 then lsRm n (cR bg en sc wd ht oh bt co n (mw (cN x)) (mh (cN x)) (cN y) (cLn u)) (cN y) (cN z) rm else rm) (if cdWa pc mc x y z u = 0 then (wmN bg en sc oh bt (cR bg en sc wd ht oh bt co n (mw (cN x)) (mh (cN x)) (cN y) (cLn u)) n (cN y) (cN z) (cLn u) nm).1 else nm) bs bc bp on wh (cdWa pc mc x y z u) pc n mc kc (if cdWa pc mc x y z u = 0 then (wmN bg en sc oh bt (cR bg en sc wd ht oh bt co n (mw (cN x)) (mh (cN x)) (cN y) (cLn u)) n (cN y) (cN z) (cLn u) nm).2 else sl) fo) H := by rw [hcd, show wmN bg en sc oh bt (cR bg en sc wd ht oh bt co n (mw (cN x)) (mh (cN x)) (cN y) (cLn u)) n (cN y) (cN z) (cLn u) nm = (nm, 0) from if_neg (lsV_np hB hsc htu c74)]; exact hP
            have hD9 : va_D A (wM cI cJ cZ qm lv bg en sc wd ht sh oh ba mw mh mk (if cdWa pc mc x y z u = 0 then lsRm n (cR bg en sc wd ht oh bt co n (mw (cN x)) (mh (cN x)) (cN y) (cLn u)) (cN y) (cN z) rm else rm) (if cdWa pc mc x y z u = 0 then (wmN bg en sc oh bt (cR bg en sc wd ht oh bt co n (mw (cN x)) (mh (cN x)) (cN y) (cLn u)) n (cN y) (cN z) (cLn u) nm).1 else nm) bs bc bp on wh (cdWa pc mc x y z u) pc n mc kc (if cdWa pc mc x y z u = 0 then (wmN bg en sc oh bt (cR bg en sc wd ht oh bt co n (mw (cN x)) (mh (cN x)) (cN y) (cLn u)) n (cN y) (cN z) (cLn u) nm).2 else sl) fo) := by rw [hcd, show wmN bg en sc oh bt (cR bg en sc wd ht oh bt co n (mw (cN x)) (mh (cN x)) (cN y) (cLn u)) n (cN y) (cN z) (cLn u) nm = (nm, 0) from if_neg (lsV_np hB hsc htu c74)]; exact hD
            exact W.lret hx hb hr (fun t ht hW => ⟨⟨_, (), rfl, (by rw [hcd]; rfl), by rw [ht]; exact hP9, va_K.moved hW.alike hK, hD9⟩, hS.F ht⟩) hS.2.2 dM_way_79
        · refine rn_iconst hx hb 1 dM_way_37 (by decide) ?_
          refine lv_goto (tgt := 42) hx hb dM_way_38 (by decide) ?_
          refine va_put (D := (dC, dI)) (ci := 5) (v := .int (nI 1)) (ty := .int) (C := nM) (T := TM) (N := 26) hx hb hg inM tM tM_ok nmM hown hK hP hD hS 0 rfl rfl 0 (by decide) (hg _ kM_69) (fun _ h9 => h9) rfl (by decide +kernel) rfl rfl (Nat.le_of_ble_eq_true rfl) dM_way_42 (fun H locs hP hD hS => ?_)
          have hP : va_P (dC, dI) vwCl (wM cI cJ cZ qm lv bg en sc wd ht sh oh ba mw mh mk rm nm bs bc bp on wh 1 pc n mc kc sl fo) H := hP
          have hD : va_D A (wM cI cJ cZ qm lv bg en sc wd ht sh oh ba mw mh mk rm nm bs bc bp on wh 1 pc n mc kc sl fo) := hD
          refine lv_aload_n hx hb dM_way_45 rfl (lv_at hl 0 rfl) ?_
          refine va_get (D := (dC, dI)) (ci := 5) (v := .int (nI 1)) (C := nM) (T := TM) (N := 26) hx hb hg inM hown hK hP 0 rfl rfl 0 (by decide) (hg _ kM_69) (fun _ h9 => h9) rfl dM_way_46 ?_
          refine lv_if_le (tgt := 54) hx hb dM_way_49 (by decide) (fun c49 => absurd c49 (by decide)) (fun c49 => ?_)
          refine rn_lconst hx hb 0 dM_way_52 rfl ?_
          have hcd : cdWa pc mc x y z u = 1 := by first | (simp [cdWa, c6, c14, c22, c34]; done) | (simp [cdWa, c6, c14, c22, c34]; omega)
          have hP9 : va_P (dC, dI) vwCl (wM cI cJ cZ qm lv bg en sc wd ht sh oh ba mw mh mk (if cdWa pc mc x y z u = 0 then lsRm n (cR bg en sc wd ht oh bt co n (mw (cN x)) (mh (cN x)) (cN y) (cLn u)) (cN y) (cN z) rm else rm) (if cdWa pc mc x y z u = 0 then (wmN bg en sc oh bt (cR bg en sc wd ht oh bt co n (mw (cN x)) (mh (cN x)) (cN y) (cLn u)) n (cN y) (cN z) (cLn u) nm).1 else nm) bs bc bp on wh (cdWa pc mc x y z u) pc n mc kc (if cdWa pc mc x y z u = 0 then (wmN bg en sc oh bt (cR bg en sc wd ht oh bt co n (mw (cN x)) (mh (cN x)) (cN y) (cLn u)) n (cN y) (cN z) (cLn u) nm).2 else sl) fo) H := by rw [hcd]; exact hP
          have hD9 : va_D A (wM cI cJ cZ qm lv bg en sc wd ht sh oh ba mw mh mk (if cdWa pc mc x y z u = 0 then lsRm n (cR bg en sc wd ht oh bt co n (mw (cN x)) (mh (cN x)) (cN y) (cLn u)) (cN y) (cN z) rm else rm) (if cdWa pc mc x y z u = 0 then (wmN bg en sc oh bt (cR bg en sc wd ht oh bt co n (mw (cN x)) (mh (cN x)) (cN y) (cLn u)) n (cN y) (cN z) (cLn u) nm).1 else nm) bs bc bp on wh (cdWa pc mc x y z u) pc n mc kc (if cdWa pc mc x y z u = 0 then (wmN bg en sc oh bt (cR bg en sc wd ht oh bt co n (mw (cN x)) (mh (cN x)) (cN y) (cLn u)) n (cN y) (cN z) (cLn u) nm).2 else sl) fo) := by rw [hcd]; exact hD
          exact W.lret hx hb hr (fun t ht hW => ⟨⟨_, (), rfl, (by rw [hcd]; rfl), by rw [ht]; exact hP9, va_K.moved hW.alike hK, hD9⟩, hS.F ht⟩) hS.2.2 dM_way_53

set_option maxHeartbeats 4000000 in
set_option maxRecDepth 100000 in
theorem ct_M_reaches (l : Launch) (dC : Nat → ClassId) (dI : Nat → Nat → Nat) (cI cJ cZ : ClassId) (qm : Nat → Nat) (lv mw mh mk : Nat → Nat) (pc mc kc : Nat) (bg en sc wd ht oh bt : Nat → Nat) (co n : Nat) (sh ba : Nat → Bool) (rm nm bs bc bp on wh : Nat → Nat) (cd sl fo : Nat) (x y z : Int32) (sz : Nat) (hG : bGp lv mw mh mk pc mc kc) (hB : bP bg en sc wd ht oh bt co n) (hsh : ∀ j, j < 40 → sh j = co.testBit j) (hba : ∀ f t, f < 40 → t < 40 → ba (40 * f + t) = (bt f).testBit t) (hsc : ∀ i, i < n → 1 ≤ sc i) : Met l yM_reaches wsM_reaches ({ frames := 4, cells := 0, slots := 0, locals := 103 }) (PcW (dC, dI) (wM cI cJ cZ qm lv bg en sc wd ht sh oh ba mw mh mk rm nm bs bc bp on wh cd pc n mc kc sl fo) (tyE cI cJ cZ) sz [.ref (qm 0), .int x, .int y, .int z]) (QwI (dC, dI) (bI (if cdRe pc mc x y z = 0 then !decide (lsV en (cR bg en sc wd ht oh bt co n (mw (cN x)) (mh (cN x)) (cN y) 0) n (cN y) (cN z) 0 = -1) else false)) (wM cI cJ cZ qm lv bg en sc wd ht sh oh ba mw mh mk (if cdRe pc mc x y z = 0 then lsRm n (cR bg en sc wd ht oh bt co n (mw (cN x)) (mh (cN x)) (cN y) 0) (cN y) (cN z) rm else rm) nm bs bc bp on wh (cdRe pc mc x y z) pc n mc kc sl fo) (tyE cI cJ cZ) (va_A (wM cI cJ cZ qm lv bg en sc wd ht sh oh ba mw mh mk rm nm bs bc bp on wh cd pc n mc kc sl fo) sz)) 0 0 (va_A (wM cI cJ cZ qm lv bg en sc wd ht sh oh ba mw mh mk rm nm bs bc bp on wh cd pc n mc kc sl fo) sz) := by
  refine Met.ofW (cc := cM_reaches) (maxL := 4) (ret := (some .boolean)) (by decide) rfl ?_
  intro p e s m args below meth c s₁ B hml hv
  obtain ⟨rfl, hsz, hP, hK, hD0, hE⟩ := hv
  have hx := B.exec
  have hb := B.bytes
  have hr := B.returns
  have hts := atoms_spec (ws := wsM_reaches) B.pre
  have hg : ∀ w ∈ gw, w.before _ s = true := fun w h => hts w (List.mem_cons_of_mem _ h)
  have hown : s.vm.findClass nM = some m.cls := findClass_of_methodNamed B.named
  have hlocks := B.notSynchronized
  have hR : 4 ≤ (headSpec wsM_reaches ({ frames := 4, cells := 0, slots := 0, locals := 103 })).room.frames ∧ 103 ≤ (headSpec wsM_reaches ({ frames := 4, cells := 0, slots := 0, locals := 103 })).room.locals := ⟨Nat.le_refl _, Nat.le_refl _⟩
  have hcs : 0 ≤ (headSpec wsM_reaches ({ frames := 4, cells := 0, slots := 0, locals := 103 })).room.cells ∧ 0 ≤ (headSpec wsM_reaches ({ frames := 4, cells := 0, slots := 0, locals := 103 })).room.slots := ⟨Nat.zero_le _, Nat.zero_le _⟩
  subst hsz
  have hD := hD0.self (sz := s.heap.size)
  generalize hAe : va_A (wM cI cJ cZ qm lv bg en sc wd ht sh oh ba mw mh mk rm nm bs bc bp on wh cd pc n mc kc sl fo) s.heap.size = A at hD ⊢
  have hA : ∀ q : Nat, s.heap.size ≤ q → A q := fun q h => by rw [← hAe]; exact Or.inr h
  obtain ⟨H, hH⟩ : ∃ H, H = s.heap := ⟨_, rfl⟩
  have hS : va_S A s.heap H [] := by rw [hH]; exact va_S.rf
  rw [← hH] at hP ⊢
  have hpc := hG.1
  have hmc := hG.2.1
  have hkc := hG.2.2.1
  have hgi := hG.2.2.2
  have hbi := hB.2.2
  have hn := hB.1
  have hco := hB.2.1
  have hNV : NVm = 18446744073709551615 := rfl
  have hNc : NVc = 1152921504606846976 := rfl
  have hl := lv_entry ([.ref (qm 0), .int x, .int y, .int z]) (n := 4) (Nat.le_of_ble_eq_true rfl)
  rw [lg_entry_eq]
  generalize (lg_sl ([.ref (qm 0), .int x, .int y, .int z]) ++ List.replicate (4 - (lg_sl ([.ref (qm 0), .int x, .int y, .int z])).length) Slot.unset).toArray = ls at hl ⊢
  have hl : lv_has ls 4 [(0, .ref (qm 0)), (1, .int x), (2, .int y), (3, .int z)] := hl
  refine lv_aload_n hx hb dM_reaches_0 rfl (lv_at hl 0 rfl) ?_
  refine lv_aload_n hx hb dM_reaches_1 rfl (lv_at hl 0 rfl) ?_
  refine lv_iload_n hx hb dM_reaches_2 rfl (lv_at hl 1 rfl) ?_
  refine cpV_i (b := (qm 0)) (C := nM) (As := [.int x]) (rest := [.ref (qm 0)]) (post := fun r : Int32 => r = bI (inB x mc)) ⟨hx, hb, hml, hown, hts⟩ (ct_M_isMover l dC dI cI cJ cZ qm lv mw mh mk pc mc kc bg en sc wd ht oh bt co n sh ba rm nm bs bc bp on wh cd sl fo x (hG) (hB)) (cwV 1 hts (gv kM_135 ki_M_isMover ksel_M_isMover kin_M kc_M_isMover) rfl rfl rfl (by decide +kernel) ⟨Nat.le_trans (by decide) hR.1, Nat.le_trans (by decide) hR.2⟩) (va_recv hK hP (ci := 5) (q0 := 0) rfl rfl) hP hK hE rfl hl.1 rfl (Nat.le_of_ble_eq_true rfl) dM_reaches_3 hcs (fun r hr => ?_)
  subst hr
  refine rb_eq (tgt := 25) hx hb dM_reaches_6 (by decide) (fun c6 => ?_) (fun c6 => ?_)
  · refine rn_iconst hx hb 1 dM_reaches_25 (by decide) ?_
    refine lv_goto (tgt := 30) hx hb dM_reaches_26 (by decide) ?_
    refine va_put (D := (dC, dI)) (ci := 5) (v := .int (nI 1)) (ty := .int) (C := nM) (T := TM) (N := 26) hx hb hg inM tM tM_ok nmM hown hK hP hD hS 0 rfl rfl 0 (by decide) (hg _ kM_69) (fun _ h9 => h9) rfl (by decide +kernel) rfl rfl (Nat.le_of_ble_eq_true rfl) dM_reaches_30 (fun H locs hP hD hS => ?_)
    have hP : va_P (dC, dI) vwCl (wM cI cJ cZ qm lv bg en sc wd ht sh oh ba mw mh mk rm nm bs bc bp on wh 1 pc n mc kc sl fo) H := hP
    have hD : va_D A (wM cI cJ cZ qm lv bg en sc wd ht sh oh ba mw mh mk rm nm bs bc bp on wh 1 pc n mc kc sl fo) := hD
    refine lv_aload_n hx hb dM_reaches_33 rfl (lv_at hl 0 rfl) ?_
    refine va_get (D := (dC, dI)) (ci := 5) (v := .int (nI 1)) (C := nM) (T := TM) (N := 26) hx hb hg inM hown hK hP 0 rfl rfl 0 (by decide) (hg _ kM_69) (fun _ h9 => h9) rfl dM_reaches_34 ?_
    refine lv_if_ne (tgt := 59) hx hb dM_reaches_37 (by decide) (fun c37 => ?_) (fun c37 => absurd c37 (by decide))
    refine rn_iconst hx hb 0 dM_reaches_59 (by decide) ?_
    have hcd : cdRe pc mc x y z = 1 := by first | (simp [cdRe, c6]; done) | (simp [cdRe, c6]; omega)
    have hP9 : va_P (dC, dI) vwCl (wM cI cJ cZ qm lv bg en sc wd ht sh oh ba mw mh mk (if cdRe pc mc x y z = 0 then lsRm n (cR bg en sc wd ht oh bt co n (mw (cN x)) (mh (cN x)) (cN y) 0) (cN y) (cN z) rm else rm) nm bs bc bp on wh (cdRe pc mc x y z) pc n mc kc sl fo) H := by rw [hcd]; exact hP
    have hD9 : va_D A (wM cI cJ cZ qm lv bg en sc wd ht sh oh ba mw mh mk (if cdRe pc mc x y z = 0 then lsRm n (cR bg en sc wd ht oh bt co n (mw (cN x)) (mh (cN x)) (cN y) 0) (cN y) (cN z) rm else rm) nm bs bc bp on wh (cdRe pc mc x y z) pc n mc kc sl fo) := by rw [hcd]; exact hD
    exact W.zret hx hb hr rfl (fun t ht hW => ⟨⟨_, (), rfl, (by rw [hcd]; rfl), by rw [ht]; exact hP9, va_K.moved hW.alike hK, hD9⟩, hS.F ht⟩) hS.2.2 dM_reaches_60
  · refine lv_aload_n hx hb dM_reaches_9 rfl (lv_at hl 0 rfl) ?_
    refine lv_iload_n hx hb dM_reaches_10 rfl (lv_at hl 2 rfl) ?_
    refine cpV_i (b := (qm 0)) (C := nM) (As := [.int y]) (rest := [.ref (qm 0)]) (post := fun r : Int32 => r = bI (inB y pc)) ⟨hx, hb, hml, hown, hts⟩ (ct_M_isPlace l dC dI cI cJ cZ qm lv mw mh mk pc mc kc bg en sc wd ht oh bt co n sh ba rm nm bs bc bp on wh cd sl fo y (hG) (hB)) (cwV 1 hts (gv kM_86 ki_M_isPlace ksel_M_isPlace kin_M kc_M_isPlace) rfl rfl rfl (by decide +kernel) ⟨Nat.le_trans (by decide) hR.1, Nat.le_trans (by decide) hR.2⟩) (va_recv hK hP (ci := 5) (q0 := 0) rfl rfl) hP hK hE rfl hl.1 rfl (Nat.le_of_ble_eq_true rfl) dM_reaches_11 hcs (fun r hr => ?_)
    subst hr
    refine rb_eq (tgt := 25) hx hb dM_reaches_14 (by decide) (fun c14 => ?_) (fun c14 => ?_)
    · refine rn_iconst hx hb 1 dM_reaches_25 (by decide) ?_
      refine lv_goto (tgt := 30) hx hb dM_reaches_26 (by decide) ?_
      refine va_put (D := (dC, dI)) (ci := 5) (v := .int (nI 1)) (ty := .int) (C := nM) (T := TM) (N := 26) hx hb hg inM tM tM_ok nmM hown hK hP hD hS 0 rfl rfl 0 (by decide) (hg _ kM_69) (fun _ h9 => h9) rfl (by decide +kernel) rfl rfl (Nat.le_of_ble_eq_true rfl) dM_reaches_30 (fun H locs hP hD hS => ?_)
      have hP : va_P (dC, dI) vwCl (wM cI cJ cZ qm lv bg en sc wd ht sh oh ba mw mh mk rm nm bs bc bp on wh 1 pc n mc kc sl fo) H := hP
      have hD : va_D A (wM cI cJ cZ qm lv bg en sc wd ht sh oh ba mw mh mk rm nm bs bc bp on wh 1 pc n mc kc sl fo) := hD
      refine lv_aload_n hx hb dM_reaches_33 rfl (lv_at hl 0 rfl) ?_
      refine va_get (D := (dC, dI)) (ci := 5) (v := .int (nI 1)) (C := nM) (T := TM) (N := 26) hx hb hg inM hown hK hP 0 rfl rfl 0 (by decide) (hg _ kM_69) (fun _ h9 => h9) rfl dM_reaches_34 ?_
      refine lv_if_ne (tgt := 59) hx hb dM_reaches_37 (by decide) (fun c37 => ?_) (fun c37 => absurd c37 (by decide))
      refine rn_iconst hx hb 0 dM_reaches_59 (by decide) ?_
      have hcd : cdRe pc mc x y z = 1 := by first | (simp [cdRe, c6, c14]; done) | (simp [cdRe, c6, c14]; omega)
      have hP9 : va_P (dC, dI) vwCl (wM cI cJ cZ qm lv bg en sc wd ht sh oh ba mw mh mk (if cdRe pc mc x y z = 0 then lsRm n (cR bg en sc wd ht oh bt co n (mw (cN x)) (mh (cN x)) (cN y) 0) (cN y) (cN z) rm else rm) nm bs bc bp on wh (cdRe pc mc x y z) pc n mc kc sl fo) H := by rw [hcd]; exact hP
      have hD9 : va_D A (wM cI cJ cZ qm lv bg en sc wd ht sh oh ba mw mh mk (if cdRe pc mc x y z = 0 then lsRm n (cR bg en sc wd ht oh bt co n (mw (cN x)) (mh (cN x)) (cN y) 0) (cN y) (cN z) rm else rm) nm bs bc bp on wh (cdRe pc mc x y z) pc n mc kc sl fo) := by rw [hcd]; exact hD
      exact W.zret hx hb hr rfl (fun t ht hW => ⟨⟨_, (), rfl, (by rw [hcd]; rfl), by rw [ht]; exact hP9, va_K.moved hW.alike hK, hD9⟩, hS.F ht⟩) hS.2.2 dM_reaches_60
    · refine lv_aload_n hx hb dM_reaches_17 rfl (lv_at hl 0 rfl) ?_
      refine lv_iload_n hx hb dM_reaches_18 rfl (lv_at hl 3 rfl) ?_
      refine cpV_i (b := (qm 0)) (C := nM) (As := [.int z]) (rest := [.ref (qm 0)]) (post := fun r : Int32 => r = bI (inB z pc)) ⟨hx, hb, hml, hown, hts⟩ (ct_M_isPlace l dC dI cI cJ cZ qm lv mw mh mk pc mc kc bg en sc wd ht oh bt co n sh ba rm nm bs bc bp on wh cd sl fo z (hG) (hB)) (cwV 1 hts (gv kM_86 ki_M_isPlace ksel_M_isPlace kin_M kc_M_isPlace) rfl rfl rfl (by decide +kernel) ⟨Nat.le_trans (by decide) hR.1, Nat.le_trans (by decide) hR.2⟩) (va_recv hK hP (ci := 5) (q0 := 0) rfl rfl) hP hK hE rfl hl.1 rfl (Nat.le_of_ble_eq_true rfl) dM_reaches_19 hcs (fun r hr => ?_)
      subst hr
      refine rb_ne (tgt := 29) hx hb dM_reaches_22 (by decide) (fun c22 => ?_) (fun c22 => ?_)
      · refine rn_iconst hx hb 0 dM_reaches_29 (by decide) ?_
        refine va_put (D := (dC, dI)) (ci := 5) (v := .int (nI 0)) (ty := .int) (C := nM) (T := TM) (N := 26) hx hb hg inM tM tM_ok nmM hown hK hP hD hS 0 rfl rfl 0 (by decide) (hg _ kM_69) (fun _ h9 => h9) rfl (by decide +kernel) rfl rfl (Nat.le_of_ble_eq_true rfl) dM_reaches_30 (fun H locs hP hD hS => ?_)
        have hP : va_P (dC, dI) vwCl (wM cI cJ cZ qm lv bg en sc wd ht sh oh ba mw mh mk rm nm bs bc bp on wh 0 pc n mc kc sl fo) H := hP
        have hD : va_D A (wM cI cJ cZ qm lv bg en sc wd ht sh oh ba mw mh mk rm nm bs bc bp on wh 0 pc n mc kc sl fo) := hD
        refine lv_aload_n hx hb dM_reaches_33 rfl (lv_at hl 0 rfl) ?_
        refine va_get (D := (dC, dI)) (ci := 5) (v := .int (nI 0)) (C := nM) (T := TM) (N := 26) hx hb hg inM hown hK hP 0 rfl rfl 0 (by decide) (hg _ kM_69) (fun _ h9 => h9) rfl dM_reaches_34 ?_
        refine lv_if_ne (tgt := 59) hx hb dM_reaches_37 (by decide) (fun c37 => absurd c37 (by decide)) (fun c37 => ?_)
        obtain ⟨j1, hj1, ej1⟩ := in_of c6 (by omega)
        obtain ⟨j2, hj2, ej2⟩ := in_of c14 (by omega)
        obtain ⟨j3, hj3, ej3⟩ := in_of c22 (by omega)
        have f1 : cN x = j1 := by rw [ej1]; exact cN_n (by omega)
        have f2 : cN y = j2 := by rw [ej2]; exact cN_n (by omega)
        have f3 : cN z = j3 := by rw [ej3]; exact cN_n (by omega)
        have ex : x = nI (cN x) := by rw [f1]; exact ej1
        have ey : y = nI (cN y) := by rw [f2]; exact ej2
        have ez : z = nI (cN z) := by rw [f3]; exact ej3
        have hmx : cN x < 6 := by omega
        have hay : cN y < 20 := by omega
        have hbz : cN z < 20 := by omega
        have hcd : cdRe pc mc x y z = 0 := if_pos ⟨c6, c14, c22⟩
        have hl : lv_has ls 4 [(0, .ref (qm 0)), (1, .int (nI (cN x))), (2, .int (nI (cN y))), (3, .int (nI (cN z)))] := by rw [ex, ey, ez] at hl; exact hl
        refine lv_aload_n hx hb dM_reaches_40 rfl (lv_at hl 0 rfl) ?_
        refine lv_iload_n hx hb dM_reaches_41 rfl (lv_at hl 1 rfl) ?_
        refine lv_iload_n hx hb dM_reaches_42 rfl (lv_at hl 2 rfl) ?_
        refine lv_iload_n hx hb dM_reaches_43 rfl (lv_at hl 3 rfl) ?_
        refine rn_lconst hx hb 0 dM_reaches_44 rfl ?_
        refine kwV_l (D := (dC, dI)) (r0 := (lsV en (cR bg en sc wd ht oh bt co n (mw (cN x)) (mh (cN x)) (cN y) 0) n (cN y) (cN z) 0)) (b := (qm 0)) (C := nM) (As := [.int (nI (cN x)), .int (nI (cN y)), .int (nI (cN z)), .long (lN 0)]) (rest := []) (wc := (wM cI cJ cZ qm lv bg en sc wd ht sh oh ba mw mh mk rm nm bs bc bp on wh 0 pc n mc kc sl fo)) (wr := []) (w1 := (wM cI cJ cZ qm lv bg en sc wd ht sh oh ba mw mh mk (lsRm n (cR bg en sc wd ht oh bt co n (mw (cN x)) (mh (cN x)) (cN y) 0) (cN y) (cN z) rm) nm bs bc bp on wh 0 pc n mc kc sl fo)) (wn := (wM cI cJ cZ qm lv bg en sc wd ht sh oh ba mw mh mk (lsRm n (cR bg en sc wd ht oh bt co n (mw (cN x)) (mh (cN x)) (cN y) 0) (cN y) (cN z) rm) nm bs bc bp on wh 0 pc n mc kc sl fo)) ⟨hx, hb, hml, hown, hts⟩ (ct_M_least l dC dI cI cJ cZ qm lv mw mh mk pc mc kc bg en sc wd ht oh bt co n sh ba rm nm bs bc bp on wh 0 sl fo (cN x) (cN y) (cN z) 0 H.size (hG) (hB) (hsh) (by omega) (hsc) (by omega) (by omega) (by omega) (by omega)) (cwV 4 hts (gv kM_141 ki_M_least ksel_M_least kin_M kc_M_least) rfl rfl rfl (by decide +kernel) ⟨Nat.le_trans (by decide) hR.1, Nat.le_trans (by decide) hR.2⟩) (va_recv hK hP (ci := 5) (q0 := 0) rfl rfl) hP hD hK hE hS hA [0, 1, 2, 3, 4, 5, 6, 7, 8, 9, 10, 11, 12, 13, 14, 15, 16, 17, 18, 19] [] [0, 1, 2, 3, 4, 5, 6, 7, 8, 9, 10, 11, 12, 13, 14, 15, 16, 17, 18, 19] rfl (by decide) rfl (by decide) (by decide) rfl (by decide) rfl hl.1 rfl (Nat.le_of_ble_eq_true rfl) dM_reaches_45 hcs (fun H locs hP hD hS => ?_)
        refine lv_ldc2 (v := -1) hx hb hown (hg _ kM_118) dM_reaches_48 ?_
        refine rl_cmp_eq (tgt := 59) hx hb dM_reaches_51 dM_reaches_52 (by decide) (fun c52 => ?_) (fun c52 => ?_)
        · refine rn_iconst hx hb 0 dM_reaches_59 (by decide) ?_
          have hcd : cdRe pc mc x y z = 0 := hcd
          have hP9 : va_P (dC, dI) vwCl (wM cI cJ cZ qm lv bg en sc wd ht sh oh ba mw mh mk (if cdRe pc mc x y z = 0 then lsRm n (cR bg en sc wd ht oh bt co n (mw (cN x)) (mh (cN x)) (cN y) 0) (cN y) (cN z) rm else rm) nm bs bc bp on wh (cdRe pc mc x y z) pc n mc kc sl fo) H := by rw [hcd]; exact hP
          have hD9 : va_D A (wM cI cJ cZ qm lv bg en sc wd ht sh oh ba mw mh mk (if cdRe pc mc x y z = 0 then lsRm n (cR bg en sc wd ht oh bt co n (mw (cN x)) (mh (cN x)) (cN y) 0) (cN y) (cN z) rm else rm) nm bs bc bp on wh (cdRe pc mc x y z) pc n mc kc sl fo) := by rw [hcd]; exact hD
          exact W.zret hx hb hr rfl (fun t ht hW => ⟨⟨_, (), rfl, (by rw [hcd]; first | (rw [decide_eq_true c52]; rfl) | (rw [decide_eq_false c52]; rfl)), by rw [ht]; exact hP9, va_K.moved hW.alike hK, hD9⟩, hS.F ht⟩) hS.2.2 dM_reaches_60
        · refine rn_iconst hx hb 1 dM_reaches_55 (by decide) ?_
          refine lv_goto (tgt := 60) hx hb dM_reaches_56 (by decide) ?_
          have hcd : cdRe pc mc x y z = 0 := hcd
          have hP9 : va_P (dC, dI) vwCl (wM cI cJ cZ qm lv bg en sc wd ht sh oh ba mw mh mk (if cdRe pc mc x y z = 0 then lsRm n (cR bg en sc wd ht oh bt co n (mw (cN x)) (mh (cN x)) (cN y) 0) (cN y) (cN z) rm else rm) nm bs bc bp on wh (cdRe pc mc x y z) pc n mc kc sl fo) H := by rw [hcd]; exact hP
          have hD9 : va_D A (wM cI cJ cZ qm lv bg en sc wd ht sh oh ba mw mh mk (if cdRe pc mc x y z = 0 then lsRm n (cR bg en sc wd ht oh bt co n (mw (cN x)) (mh (cN x)) (cN y) 0) (cN y) (cN z) rm else rm) nm bs bc bp on wh (cdRe pc mc x y z) pc n mc kc sl fo) := by rw [hcd]; exact hD
          exact W.zret hx hb hr rfl (fun t ht hW => ⟨⟨_, (), rfl, (by rw [hcd]; first | (rw [decide_eq_true c52]; rfl) | (rw [decide_eq_false c52]; rfl)), by rw [ht]; exact hP9, va_K.moved hW.alike hK, hD9⟩, hS.F ht⟩) hS.2.2 dM_reaches_60
      · refine rn_iconst hx hb 1 dM_reaches_25 (by decide) ?_
        refine lv_goto (tgt := 30) hx hb dM_reaches_26 (by decide) ?_
        refine va_put (D := (dC, dI)) (ci := 5) (v := .int (nI 1)) (ty := .int) (C := nM) (T := TM) (N := 26) hx hb hg inM tM tM_ok nmM hown hK hP hD hS 0 rfl rfl 0 (by decide) (hg _ kM_69) (fun _ h9 => h9) rfl (by decide +kernel) rfl rfl (Nat.le_of_ble_eq_true rfl) dM_reaches_30 (fun H locs hP hD hS => ?_)
        have hP : va_P (dC, dI) vwCl (wM cI cJ cZ qm lv bg en sc wd ht sh oh ba mw mh mk rm nm bs bc bp on wh 1 pc n mc kc sl fo) H := hP
        have hD : va_D A (wM cI cJ cZ qm lv bg en sc wd ht sh oh ba mw mh mk rm nm bs bc bp on wh 1 pc n mc kc sl fo) := hD
        refine lv_aload_n hx hb dM_reaches_33 rfl (lv_at hl 0 rfl) ?_
        refine va_get (D := (dC, dI)) (ci := 5) (v := .int (nI 1)) (C := nM) (T := TM) (N := 26) hx hb hg inM hown hK hP 0 rfl rfl 0 (by decide) (hg _ kM_69) (fun _ h9 => h9) rfl dM_reaches_34 ?_
        refine lv_if_ne (tgt := 59) hx hb dM_reaches_37 (by decide) (fun c37 => ?_) (fun c37 => absurd c37 (by decide))
        refine rn_iconst hx hb 0 dM_reaches_59 (by decide) ?_
        have hcd : cdRe pc mc x y z = 1 := by first | (simp [cdRe, c6, c14, c22]; done) | (simp [cdRe, c6, c14, c22]; omega)
        have hP9 : va_P (dC, dI) vwCl (wM cI cJ cZ qm lv bg en sc wd ht sh oh ba mw mh mk (if cdRe pc mc x y z = 0 then lsRm n (cR bg en sc wd ht oh bt co n (mw (cN x)) (mh (cN x)) (cN y) 0) (cN y) (cN z) rm else rm) nm bs bc bp on wh (cdRe pc mc x y z) pc n mc kc sl fo) H := by rw [hcd]; exact hP
        have hD9 : va_D A (wM cI cJ cZ qm lv bg en sc wd ht sh oh ba mw mh mk (if cdRe pc mc x y z = 0 then lsRm n (cR bg en sc wd ht oh bt co n (mw (cN x)) (mh (cN x)) (cN y) 0) (cN y) (cN z) rm else rm) nm bs bc bp on wh (cdRe pc mc x y z) pc n mc kc sl fo) := by rw [hcd]; exact hD
        exact W.zret hx hb hr rfl (fun t ht hW => ⟨⟨_, (), rfl, (by rw [hcd]; rfl), by rw [ht]; exact hP9, va_K.moved hW.alike hK, hD9⟩, hS.F ht⟩) hS.2.2 dM_reaches_60

set_option maxHeartbeats 4000000 in
set_option maxRecDepth 100000 in
theorem ct_M_table (l : Launch) (dC : Nat → ClassId) (dI : Nat → Nat → Nat) (cI cJ cZ : ClassId) (qm : Nat → Nat) (lv mw mh mk : Nat → Nat) (pc mc kc : Nat) (bg en sc wd ht oh bt : Nat → Nat) (co n : Nat) (sh ba : Nat → Bool) (rm nm bs bc bp on wh : Nat → Nat) (cd sl fo : Nat) (x y : Int32) (sz : Nat) (hG : bGp lv mw mh mk pc mc kc) (hB : bP bg en sc wd ht oh bt co n) (hsh : ∀ j, j < 40 → sh j = co.testBit j) (hba : ∀ f t, f < 40 → t < 40 → ba (40 * f + t) = (bt f).testBit t) (hsc : ∀ i, i < n → 1 ≤ sc i) : Met l yM_table wsM_table ({ frames := 4, cells := 0, slots := 0, locals := 103 }) (PcW (dC, dI) (wM cI cJ cZ qm lv bg en sc wd ht sh oh ba mw mh mk rm nm bs bc bp on wh cd pc n mc kc sl fo) (tyE cI cJ cZ) sz [.ref (qm 0), .int x, .int y]) (QwL (dC, dI) ((if cdTa kc mc x y = 0 then lsV en (cR bg en sc wd ht oh bt co n (mw 0) (mh 0) (mk (cN x)) 0) n (mk (cN x)) (mk (cN y)) 0 else lN 0)) (wM cI cJ cZ qm lv bg en sc wd ht sh oh ba mw mh mk (if cdTa kc mc x y = 0 then lsRm n (cR bg en sc wd ht oh bt co n (mw 0) (mh 0) (mk (cN x)) 0) (mk (cN x)) (mk (cN y)) rm else rm) nm bs bc bp on wh (cdTa kc mc x y) pc n mc kc sl fo) (tyE cI cJ cZ) (va_A (wM cI cJ cZ qm lv bg en sc wd ht sh oh ba mw mh mk rm nm bs bc bp on wh cd pc n mc kc sl fo) sz)) 0 0 (va_A (wM cI cJ cZ qm lv bg en sc wd ht sh oh ba mw mh mk rm nm bs bc bp on wh cd pc n mc kc sl fo) sz) := by
  refine Met.ofW (cc := cM_table) (maxL := 3) (ret := (some .long)) (by decide) rfl ?_
  intro p e s m args below meth c s₁ B hml hv
  obtain ⟨rfl, hsz, hP, hK, hD0, hE⟩ := hv
  have hx := B.exec
  have hb := B.bytes
  have hr := B.returns
  have hts := atoms_spec (ws := wsM_table) B.pre
  have hg : ∀ w ∈ gw, w.before _ s = true := fun w h => hts w (List.mem_cons_of_mem _ h)
  have hown : s.vm.findClass nM = some m.cls := findClass_of_methodNamed B.named
  have hlocks := B.notSynchronized
  have hR : 4 ≤ (headSpec wsM_table ({ frames := 4, cells := 0, slots := 0, locals := 103 })).room.frames ∧ 103 ≤ (headSpec wsM_table ({ frames := 4, cells := 0, slots := 0, locals := 103 })).room.locals := ⟨Nat.le_refl _, Nat.le_refl _⟩
  have hcs : 0 ≤ (headSpec wsM_table ({ frames := 4, cells := 0, slots := 0, locals := 103 })).room.cells ∧ 0 ≤ (headSpec wsM_table ({ frames := 4, cells := 0, slots := 0, locals := 103 })).room.slots := ⟨Nat.zero_le _, Nat.zero_le _⟩
  subst hsz
  have hD := hD0.self (sz := s.heap.size)
  generalize hAe : va_A (wM cI cJ cZ qm lv bg en sc wd ht sh oh ba mw mh mk rm nm bs bc bp on wh cd pc n mc kc sl fo) s.heap.size = A at hD ⊢
  have hA : ∀ q : Nat, s.heap.size ≤ q → A q := fun q h => by rw [← hAe]; exact Or.inr h
  obtain ⟨H, hH⟩ : ∃ H, H = s.heap := ⟨_, rfl⟩
  have hS : va_S A s.heap H [] := by rw [hH]; exact va_S.rf
  rw [← hH] at hP ⊢
  have hpc := hG.1
  have hmc := hG.2.1
  have hkc := hG.2.2.1
  have hgi := hG.2.2.2
  have hbi := hB.2.2
  have hn := hB.1
  have hco := hB.2.1
  have hNV : NVm = 18446744073709551615 := rfl
  have hNc : NVc = 1152921504606846976 := rfl
  have hl := lv_entry ([.ref (qm 0), .int x, .int y]) (n := 3) (Nat.le_of_ble_eq_true rfl)
  rw [lg_entry_eq]
  generalize (lg_sl ([.ref (qm 0), .int x, .int y]) ++ List.replicate (3 - (lg_sl ([.ref (qm 0), .int x, .int y])).length) Slot.unset).toArray = ls at hl ⊢
  have hl : lv_has ls 3 [(0, .ref (qm 0)), (1, .int x), (2, .int y)] := hl
  refine lv_aload_n hx hb dM_table_0 rfl (lv_at hl 0 rfl) ?_
  refine lv_iload_n hx hb dM_table_1 rfl (lv_at hl 1 rfl) ?_
  refine lv_i2l (v := (x).toInt64) hx hb dM_table_2 rfl ?_
  refine rn_lconst hx hb 0 dM_table_3 rfl ?_
  refine lv_aload_n hx hb dM_table_4 rfl (lv_at hl 0 rfl) ?_
  refine va_get (D := (dC, dI)) (ci := 5) (v := .int (nI kc)) (C := nM) (T := TM) (N := 26) hx hb hg inM hown hK hP 0 rfl rfl 15 (by decide) (hg _ kM_149) (fun _ h9 => h9) rfl dM_table_5 ?_
  refine rn_iconst hx hb 1 dM_table_8 (by decide) ?_
  refine lv_isub hx hb dM_table_9 ?_
  refine lv_i2l (v := (((nI kc) - (nI 1))).toInt64) hx hb dM_table_10 rfl ?_
  refine cpS_i (As := [.long ((x).toInt64), .long (lN 0), .long ((((nI kc) - (nI 1))).toInt64)]) (rest := [.ref (qm 0)]) (post := fun r : Int32 => r = bI (wiB ((x).toInt64) (lN 0) ((((nI kc) - (nI 1))).toInt64))) ⟨hx, hb, hml, hown, hts⟩ (ct_M_in l dC dI cI cJ cZ ((x).toInt64) (lN 0) ((((nI kc) - (nI 1))).toInt64) ) (va_cwS 3 hts (gs kM_76 ks_M_in kin_M kc_M_in) rfl rfl rfl (by decide +kernel) ⟨Nat.le_trans (by decide) hR.1, Nat.le_trans (by decide) hR.2⟩) (hP.sub (ws' := []) [] rfl) hK hE rfl hl.1 rfl (Nat.le_of_ble_eq_true rfl) dM_table_11 hcs (fun r hr => ?_)
  subst hr
  refine tp_i (y := bI (inB x kc)) (congrArg bI (tb_eqM (by omega))) ?_
  refine rb_eq (tgt := 33) hx hb dM_table_14 (by decide) (fun c14 => ?_) (fun c14 => ?_)
  · refine rn_iconst hx hb 1 dM_table_33 (by decide) ?_
    refine lv_goto (tgt := 49) hx hb dM_table_34 (by decide) ?_
    refine va_put (D := (dC, dI)) (ci := 5) (v := .int (nI 1)) (ty := .int) (C := nM) (T := TM) (N := 26) hx hb hg inM tM tM_ok nmM hown hK hP hD hS 0 rfl rfl 0 (by decide) (hg _ kM_69) (fun _ h9 => h9) rfl (by decide +kernel) rfl rfl (Nat.le_of_ble_eq_true rfl) dM_table_49 (fun H locs hP hD hS => ?_)
    have hP : va_P (dC, dI) vwCl (wM cI cJ cZ qm lv bg en sc wd ht sh oh ba mw mh mk rm nm bs bc bp on wh 1 pc n mc kc sl fo) H := hP
    have hD : va_D A (wM cI cJ cZ qm lv bg en sc wd ht sh oh ba mw mh mk rm nm bs bc bp on wh 1 pc n mc kc sl fo) := hD
    refine lv_aload_n hx hb dM_table_52 rfl (lv_at hl 0 rfl) ?_
    refine va_get (D := (dC, dI)) (ci := 5) (v := .int (nI 1)) (C := nM) (T := TM) (N := 26) hx hb hg inM hown hK hP 0 rfl rfl 0 (by decide) (hg _ kM_69) (fun _ h9 => h9) rfl dM_table_53 ?_
    refine lv_if_le (tgt := 63) hx hb dM_table_56 (by decide) (fun c56 => absurd c56 (by decide)) (fun c56 => ?_)
    refine rn_lconst hx hb 0 dM_table_59 rfl ?_
    refine lv_goto (tgt := 81) hx hb dM_table_60 (by decide) ?_
    have hcd : cdTa kc mc x y = 1 := by first | (simp [cdTa, c14]; done) | (simp [cdTa, c30]; done)
    have hP9 : va_P (dC, dI) vwCl (wM cI cJ cZ qm lv bg en sc wd ht sh oh ba mw mh mk (if cdTa kc mc x y = 0 then lsRm n (cR bg en sc wd ht oh bt co n (mw 0) (mh 0) (mk (cN x)) 0) (mk (cN x)) (mk (cN y)) rm else rm) nm bs bc bp on wh (cdTa kc mc x y) pc n mc kc sl fo) H := by rw [hcd]; exact hP
    have hD9 : va_D A (wM cI cJ cZ qm lv bg en sc wd ht sh oh ba mw mh mk (if cdTa kc mc x y = 0 then lsRm n (cR bg en sc wd ht oh bt co n (mw 0) (mh 0) (mk (cN x)) 0) (mk (cN x)) (mk (cN y)) rm else rm) nm bs bc bp on wh (cdTa kc mc x y) pc n mc kc sl fo) := by rw [hcd]; exact hD
    exact W.lret hx hb hr (fun t ht hW => ⟨⟨_, (), rfl, (by rw [hcd]; rfl), by rw [ht]; exact hP9, va_K.moved hW.alike hK, hD9⟩, hS.F ht⟩) hS.2.2 dM_table_81
  · refine lv_iload_n hx hb dM_table_17 rfl (lv_at hl 2 rfl) ?_
    refine lv_i2l (v := (y).toInt64) hx hb dM_table_18 rfl ?_
    refine rn_lconst hx hb 0 dM_table_19 rfl ?_
    refine lv_aload_n hx hb dM_table_20 rfl (lv_at hl 0 rfl) ?_
    refine va_get (D := (dC, dI)) (ci := 5) (v := .int (nI kc)) (C := nM) (T := TM) (N := 26) hx hb hg inM hown hK hP 0 rfl rfl 15 (by decide) (hg _ kM_149) (fun _ h9 => h9) rfl dM_table_21 ?_
    refine rn_iconst hx hb 1 dM_table_24 (by decide) ?_
    refine lv_isub hx hb dM_table_25 ?_
    refine lv_i2l (v := (((nI kc) - (nI 1))).toInt64) hx hb dM_table_26 rfl ?_
    refine cpS_i (As := [.long ((y).toInt64), .long (lN 0), .long ((((nI kc) - (nI 1))).toInt64)]) (rest := [.ref (qm 0)]) (post := fun r : Int32 => r = bI (wiB ((y).toInt64) (lN 0) ((((nI kc) - (nI 1))).toInt64))) ⟨hx, hb, hml, hown, hts⟩ (ct_M_in l dC dI cI cJ cZ ((y).toInt64) (lN 0) ((((nI kc) - (nI 1))).toInt64) ) (va_cwS 3 hts (gs kM_76 ks_M_in kin_M kc_M_in) rfl rfl rfl (by decide +kernel) ⟨Nat.le_trans (by decide) hR.1, Nat.le_trans (by decide) hR.2⟩) (hP.sub (ws' := []) [] rfl) hK hE rfl hl.1 rfl (Nat.le_of_ble_eq_true rfl) dM_table_27 hcs (fun r hr => ?_)
    subst hr
    refine tp_i (y := bI (inB y kc)) (congrArg bI (tb_eqM (by omega))) ?_
    refine rb_ne (tgt := 37) hx hb dM_table_30 (by decide) (fun c30 => ?_) (fun c30 => ?_)
    · refine lv_aload_n hx hb dM_table_37 rfl (lv_at hl 0 rfl) ?_
      refine va_get (D := (dC, dI)) (ci := 5) (v := .int (nI mc)) (C := nM) (T := TM) (N := 26) hx hb hg inM hown hK hP 0 rfl rfl 12 (by decide) (hg _ kM_101) (fun _ h9 => h9) rfl dM_table_38 ?_
      refine lv_if_ne (tgt := 48) hx hb dM_table_41 (by decide) (fun c41 => ?_) (fun c41 => ?_)
      · refine rn_iconst hx hb 0 dM_table_48 (by decide) ?_
        refine va_put (D := (dC, dI)) (ci := 5) (v := .int (nI 0)) (ty := .int) (C := nM) (T := TM) (N := 26) hx hb hg inM tM tM_ok nmM hown hK hP hD hS 0 rfl rfl 0 (by decide) (hg _ kM_69) (fun _ h9 => h9) rfl (by decide +kernel) rfl rfl (Nat.le_of_ble_eq_true rfl) dM_table_49 (fun H locs hP hD hS => ?_)
        have hP : va_P (dC, dI) vwCl (wM cI cJ cZ qm lv bg en sc wd ht sh oh ba mw mh mk rm nm bs bc bp on wh 0 pc n mc kc sl fo) H := hP
        have hD : va_D A (wM cI cJ cZ qm lv bg en sc wd ht sh oh ba mw mh mk rm nm bs bc bp on wh 0 pc n mc kc sl fo) := hD
        refine lv_aload_n hx hb dM_table_52 rfl (lv_at hl 0 rfl) ?_
        refine va_get (D := (dC, dI)) (ci := 5) (v := .int (nI 0)) (C := nM) (T := TM) (N := 26) hx hb hg inM hown hK hP 0 rfl rfl 0 (by decide) (hg _ kM_69) (fun _ h9 => h9) rfl dM_table_53 ?_
        refine lv_if_le (tgt := 63) hx hb dM_table_56 (by decide) (fun c56 => ?_) (fun c56 => absurd c56 (by decide))
        obtain ⟨j1, hj1, ej1⟩ := in_of c14 (by omega)
        obtain ⟨j2, hj2, ej2⟩ := in_of c30 (by omega)
        have f1 : cN x = j1 := by rw [ej1]; exact cN_n (by omega)
        have f2 : cN y = j2 := by rw [ej2]; exact cN_n (by omega)
        have ex : x = nI (cN x) := by rw [f1]; exact ej1
        have ey : y = nI (cN y) := by rw [f2]; exact ej2
        have gj := hgi (cN x)
        have gk := hgi (cN y)
        have hm0 := n0_ne c41
        have hcd : cdTa kc mc x y = 0 := by rw [cdTa, if_pos ⟨c14, c30⟩, if_neg hm0]
        have hl : lv_has ls 3 [(0, .ref (qm 0)), (1, .int (nI (cN x))), (2, .int (nI (cN y)))] := by rw [ex, ey] at hl; exact hl
        refine lv_aload_n hx hb dM_table_63 rfl (lv_at hl 0 rfl) ?_
        refine rn_iconst hx hb 0 dM_table_64 (by decide) ?_
        refine lv_aload_n hx hb dM_table_65 rfl (lv_at hl 0 rfl) ?_
        refine va_get (D := (dC, dI)) (ci := 5) (v := .ref (qm 12)) (C := nM) (T := TM) (N := 26) hx hb hg inM hown hK hP 0 rfl rfl 16 (by decide) (hg _ kM_45) (fun _ h9 => h9) rfl dM_table_66 ?_
        refine lv_iload_n hx hb dM_table_69 rfl (lv_at hl 1 rfl) ?_
        refine ga_i (f := mk) hx hb hK hP 12 0 rfl rfl (by omega) (by decide) dM_table_70 ?_
        refine lv_aload_n hx hb dM_table_71 rfl (lv_at hl 0 rfl) ?_
        refine va_get (D := (dC, dI)) (ci := 5) (v := .ref (qm 12)) (C := nM) (T := TM) (N := 26) hx hb hg inM hown hK hP 0 rfl rfl 16 (by decide) (hg _ kM_45) (fun _ h9 => h9) rfl dM_table_72 ?_
        refine lv_iload_n hx hb dM_table_75 rfl (lv_at hl 2 rfl) ?_
        refine ga_i (f := mk) hx hb hK hP 12 0 rfl rfl (by omega) (by decide) dM_table_76 ?_
        refine rn_lconst hx hb 0 dM_table_77 rfl ?_
        refine kwV_l (D := (dC, dI)) (r0 := (lsV en (cR bg en sc wd ht oh bt co n (mw 0) (mh 0) (mk (cN x)) 0) n (mk (cN x)) (mk (cN y)) 0)) (b := (qm 0)) (C := nM) (As := [.int (nI 0), .int (nI (mk (cN x))), .int (nI (mk (cN y))), .long (lN 0)]) (rest := []) (wc := (wM cI cJ cZ qm lv bg en sc wd ht sh oh ba mw mh mk rm nm bs bc bp on wh 0 pc n mc kc sl fo)) (wr := []) (w1 := (wM cI cJ cZ qm lv bg en sc wd ht sh oh ba mw mh mk (lsRm n (cR bg en sc wd ht oh bt co n (mw 0) (mh 0) (mk (cN x)) 0) (mk (cN x)) (mk (cN y)) rm) nm bs bc bp on wh 0 pc n mc kc sl fo)) (wn := (wM cI cJ cZ qm lv bg en sc wd ht sh oh ba mw mh mk (lsRm n (cR bg en sc wd ht oh bt co n (mw 0) (mh 0) (mk (cN x)) 0) (mk (cN x)) (mk (cN y)) rm) nm bs bc bp on wh 0 pc n mc kc sl fo)) ⟨hx, hb, hml, hown, hts⟩ (ct_M_least l dC dI cI cJ cZ qm lv mw mh mk pc mc kc bg en sc wd ht oh bt co n sh ba rm nm bs bc bp on wh 0 sl fo 0 (mk (cN x)) (mk (cN y)) 0 H.size (hG) (hB) (hsh) (by omega) (hsc) (by omega) (by omega) (by omega) (by omega)) (cwV 4 hts (gv kM_141 ki_M_least ksel_M_least kin_M kc_M_least) rfl rfl rfl (by decide +kernel) ⟨Nat.le_trans (by decide) hR.1, Nat.le_trans (by decide) hR.2⟩) (va_recv hK hP (ci := 5) (q0 := 0) rfl rfl) hP hD hK hE hS hA [0, 1, 2, 3, 4, 5, 6, 7, 8, 9, 10, 11, 12, 13, 14, 15, 16, 17, 18, 19] [] [0, 1, 2, 3, 4, 5, 6, 7, 8, 9, 10, 11, 12, 13, 14, 15, 16, 17, 18, 19] rfl (by decide) rfl (by decide) (by decide) rfl (by decide) rfl hl.1 rfl (Nat.le_of_ble_eq_true rfl) dM_table_78 hcs (fun H locs hP hD hS => ?_)
        have hcd : cdTa kc mc x y = 0 := hcd
        have hP9 : va_P (dC, dI) vwCl (wM cI cJ cZ qm lv bg en sc wd ht sh oh ba mw mh mk (if cdTa kc mc x y = 0 then lsRm n (cR bg en sc wd ht oh bt co n (mw 0) (mh 0) (mk (cN x)) 0) (mk (cN x)) (mk (cN y)) rm else rm) nm bs bc bp on wh (cdTa kc mc x y) pc n mc kc sl fo) H := by rw [hcd]; exact hP
        have hD9 : va_D A (wM cI cJ cZ qm lv bg en sc wd ht sh oh ba mw mh mk (if cdTa kc mc x y = 0 then lsRm n (cR bg en sc wd ht oh bt co n (mw 0) (mh 0) (mk (cN x)) 0) (mk (cN x)) (mk (cN y)) rm else rm) nm bs bc bp on wh (cdTa kc mc x y) pc n mc kc sl fo) := by rw [hcd]; exact hD
        exact W.lret hx hb hr (fun t ht hW => ⟨⟨_, (), rfl, (by rw [hcd]; rfl), by rw [ht]; exact hP9, va_K.moved hW.alike hK, hD9⟩, hS.F ht⟩) hS.2.2 dM_table_81
      · refine rn_iconst hx hb 2 dM_table_44 (by decide) ?_
        refine lv_goto (tgt := 49) hx hb dM_table_45 (by decide) ?_
        refine va_put (D := (dC, dI)) (ci := 5) (v := .int (nI 2)) (ty := .int) (C := nM) (T := TM) (N := 26) hx hb hg inM tM tM_ok nmM hown hK hP hD hS 0 rfl rfl 0 (by decide) (hg _ kM_69) (fun _ h9 => h9) rfl (by decide +kernel) rfl rfl (Nat.le_of_ble_eq_true rfl) dM_table_49 (fun H locs hP hD hS => ?_)
        have hP : va_P (dC, dI) vwCl (wM cI cJ cZ qm lv bg en sc wd ht sh oh ba mw mh mk rm nm bs bc bp on wh 2 pc n mc kc sl fo) H := hP
        have hD : va_D A (wM cI cJ cZ qm lv bg en sc wd ht sh oh ba mw mh mk rm nm bs bc bp on wh 2 pc n mc kc sl fo) := hD
        refine lv_aload_n hx hb dM_table_52 rfl (lv_at hl 0 rfl) ?_
        refine va_get (D := (dC, dI)) (ci := 5) (v := .int (nI 2)) (C := nM) (T := TM) (N := 26) hx hb hg inM hown hK hP 0 rfl rfl 0 (by decide) (hg _ kM_69) (fun _ h9 => h9) rfl dM_table_53 ?_
        refine lv_if_le (tgt := 63) hx hb dM_table_56 (by decide) (fun c56 => absurd c56 (by decide)) (fun c56 => ?_)
        refine rn_lconst hx hb 0 dM_table_59 rfl ?_
        refine lv_goto (tgt := 81) hx hb dM_table_60 (by decide) ?_
        have hcd : cdTa kc mc x y = 2 := by rw [cdTa, if_pos ⟨c14, c30⟩, if_pos (n0_of6 hmc c41)]
        have hP9 : va_P (dC, dI) vwCl (wM cI cJ cZ qm lv bg en sc wd ht sh oh ba mw mh mk (if cdTa kc mc x y = 0 then lsRm n (cR bg en sc wd ht oh bt co n (mw 0) (mh 0) (mk (cN x)) 0) (mk (cN x)) (mk (cN y)) rm else rm) nm bs bc bp on wh (cdTa kc mc x y) pc n mc kc sl fo) H := by rw [hcd]; exact hP
        have hD9 : va_D A (wM cI cJ cZ qm lv bg en sc wd ht sh oh ba mw mh mk (if cdTa kc mc x y = 0 then lsRm n (cR bg en sc wd ht oh bt co n (mw 0) (mh 0) (mk (cN x)) 0) (mk (cN x)) (mk (cN y)) rm else rm) nm bs bc bp on wh (cdTa kc mc x y) pc n mc kc sl fo) := by rw [hcd]; exact hD
        exact W.lret hx hb hr (fun t ht hW => ⟨⟨_, (), rfl, (by rw [hcd]; rfl), by rw [ht]; exact hP9, va_K.moved hW.alike hK, hD9⟩, hS.F ht⟩) hS.2.2 dM_table_81
    · refine rn_iconst hx hb 1 dM_table_33 (by decide) ?_
      refine lv_goto (tgt := 49) hx hb dM_table_34 (by decide) ?_
      refine va_put (D := (dC, dI)) (ci := 5) (v := .int (nI 1)) (ty := .int) (C := nM) (T := TM) (N := 26) hx hb hg inM tM tM_ok nmM hown hK hP hD hS 0 rfl rfl 0 (by decide) (hg _ kM_69) (fun _ h9 => h9) rfl (by decide +kernel) rfl rfl (Nat.le_of_ble_eq_true rfl) dM_table_49 (fun H locs hP hD hS => ?_)
      have hP : va_P (dC, dI) vwCl (wM cI cJ cZ qm lv bg en sc wd ht sh oh ba mw mh mk rm nm bs bc bp on wh 1 pc n mc kc sl fo) H := hP
      have hD : va_D A (wM cI cJ cZ qm lv bg en sc wd ht sh oh ba mw mh mk rm nm bs bc bp on wh 1 pc n mc kc sl fo) := hD
      refine lv_aload_n hx hb dM_table_52 rfl (lv_at hl 0 rfl) ?_
      refine va_get (D := (dC, dI)) (ci := 5) (v := .int (nI 1)) (C := nM) (T := TM) (N := 26) hx hb hg inM hown hK hP 0 rfl rfl 0 (by decide) (hg _ kM_69) (fun _ h9 => h9) rfl dM_table_53 ?_
      refine lv_if_le (tgt := 63) hx hb dM_table_56 (by decide) (fun c56 => absurd c56 (by decide)) (fun c56 => ?_)
      refine rn_lconst hx hb 0 dM_table_59 rfl ?_
      refine lv_goto (tgt := 81) hx hb dM_table_60 (by decide) ?_
      have hcd : cdTa kc mc x y = 1 := by first | (simp [cdTa, c14]; done) | (simp [cdTa, c30]; done)
      have hP9 : va_P (dC, dI) vwCl (wM cI cJ cZ qm lv bg en sc wd ht sh oh ba mw mh mk (if cdTa kc mc x y = 0 then lsRm n (cR bg en sc wd ht oh bt co n (mw 0) (mh 0) (mk (cN x)) 0) (mk (cN x)) (mk (cN y)) rm else rm) nm bs bc bp on wh (cdTa kc mc x y) pc n mc kc sl fo) H := by rw [hcd]; exact hP
      have hD9 : va_D A (wM cI cJ cZ qm lv bg en sc wd ht sh oh ba mw mh mk (if cdTa kc mc x y = 0 then lsRm n (cR bg en sc wd ht oh bt co n (mw 0) (mh 0) (mk (cN x)) 0) (mk (cN x)) (mk (cN y)) rm else rm) nm bs bc bp on wh (cdTa kc mc x y) pc n mc kc sl fo) := by rw [hcd]; exact hD
      exact W.lret hx hb hr (fun t ht hW => ⟨⟨_, (), rfl, (by rw [hcd]; rfl), by rw [ht]; exact hP9, va_K.moved hW.alike hK, hD9⟩, hS.F ht⟩) hS.2.2 dM_table_81
