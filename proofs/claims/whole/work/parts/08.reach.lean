/-! ===== when a piece is left, if used from a moment on; the least moments ===== -/
def NVc : Nat := 1152921504606846976
def ewL (oh sec m : Nat) : Nat → Nat → Nat
  | 0, _ => NVc
  | c + 1, hr => if oh.testBit (hr % 24) = true then max m (hr * 3600) + sec else ewL oh sec m c (hr + 1)
def ew (oh sec m : Nat) : Nat := ewL oh sec m 24 (m / 3600)
theorem ewL_spec {oh sec m : Nat} : ∀ (c hr : Nat), m / 3600 ≤ hr → (∀ y, m ≤ y → y < hr * 3600 → oh.testBit (y / 3600 % 24) = false) → hr + c = m / 3600 + 24 → (∃ k, hr ≤ k ∧ k < hr + c ∧ oh.testBit (k % 24) = true) →
    ∃ x, ewL oh sec m c hr = x + sec ∧ m ≤ x ∧ x < m + 86400 ∧ oh.testBit (x / 3600 % 24) = true ∧ ∀ y, m ≤ y → y < x → oh.testBit (y / 3600 % 24) = false := by
  intro c
  induction c with
  | zero =>
    intro hr _ _ _ ⟨k, h1, h2, _⟩
    omega
  | succ c ih =>
    intro hr h1 h2 h3 ⟨k, k1, k2, k3⟩
    by_cases ho : oh.testBit (hr % 24) = true
    · refine ⟨max m (hr * 3600), by simp [ewL, ho], by omega, by omega, ?_, ?_⟩
      · have : max m (hr * 3600) / 3600 = hr := by omega
        rw [this]; exact ho
      · intro y y1 y2
        exact h2 y y1 (by omega)
    · have hne : k ≠ hr := fun q => ho (by rw [← q]; exact k3)
      have := ih (hr + 1) (by omega) (fun y y1 y2 => by
        by_cases hy : y < hr * 3600
        · exact h2 y y1 hy
        · have : y / 3600 = hr := by omega
          rw [this]
          simpa using ho) (by omega) ⟨k, by omega, by omega, k3⟩
      obtain ⟨x, x1, x2⟩ := this
      exact ⟨x, by simp [ewL, ho]; exact x1, x2⟩
theorem ew_spec {oh : Nat} (sec m : Nat) (h : ∃ k, k < 24 ∧ oh.testBit k = true) :
    ∃ x, ew oh sec m = x + sec ∧ m ≤ x ∧ x < m + 86400 ∧ oh.testBit (x / 3600 % 24) = true ∧ ∀ y, m ≤ y → y < x → oh.testBit (y / 3600 % 24) = false := by
  obtain ⟨k, k1, k2⟩ := h
  refine ewL_spec 24 (m / 3600) (Nat.le_refl _) (fun y y1 y2 => by omega) rfl ?_
  by_cases hk : m / 3600 % 24 ≤ k
  · exact ⟨m / 3600 - m / 3600 % 24 + k, by omega, by omega, by rw [show (m / 3600 - m / 3600 % 24 + k) % 24 = k by omega]; exact k2⟩
  · exact ⟨m / 3600 - m / 3600 % 24 + 24 + k, by omega, by omega, by rw [show (m / 3600 - m / 3600 % 24 + 24 + k) % 24 = k by omega]; exact k2⟩
theorem ew_gt {oh sec m : Nat} (h : ∃ k, k < 24 ∧ oh.testBit k = true) (hs : 1 ≤ sec) : m < ew oh sec m ∧ ew oh sec m < m + 86400 + sec := by
  obtain ⟨x, x1, x2, x3, -⟩ := ew_spec sec m h
  omega
theorem ew_mono {oh sec m m' : Nat} (h : ∃ k, k < 24 ∧ oh.testBit k = true) (hm : m ≤ m') : ew oh sec m ≤ ew oh sec m' := by
  obtain ⟨x, x1, x2, x3, x4, x5⟩ := ew_spec sec m h
  obtain ⟨y, y1, y2, y3, y4, y5⟩ := ew_spec sec m' h
  rw [x1, y1]
  by_cases hxy : x ≤ y
  · omega
  · have := x5 y (by omega) (by omega)
    rw [y4] at this
    exact absurd this (by decide)
/-- r tells of each of n pieces the least moment at which it is reached (N: never) -/
def isR (n N : Nat) (us : Nat → Bool) (st : Nat → Bool) (fo : Nat → Nat → Bool) (use : Nat → Nat → Nat) (t : Nat) (r : Nat → Nat) : Prop :=
  (∀ i, i < n → r i ≤ N) ∧ (∀ i, i < n → us i = false → r i = N) ∧ (∀ i, i < n → us i = true → st i = true → r i ≤ use i t) ∧
  (∀ i j, i < n → j < n → us i = true → r j < N → fo j i = true → r i ≤ use i (r j)) ∧
  (∀ i, i < n → r i < N → us i = true ∧ ((st i = true ∧ r i = use i t) ∨ ∃ j, j < n ∧ r j < N ∧ fo j i = true ∧ r i = use i (r j)))
theorem isR_le {n N : Nat} {us st : Nat → Bool} {fo : Nat → Nat → Bool} {use : Nat → Nat → Nat} {t : Nat} {r r' : Nat → Nat}
    (hgt : ∀ i m, i < n → us i = true → m < use i m) (hmo : ∀ i m m', i < n → us i = true → m ≤ m' → use i m ≤ use i m') (h : isR n N us st fo use t r) (h' : isR n N us st fo use t r') :
    ∀ v i, i < n → r i = v → r' i ≤ v := by
  intro v
  induction v using Nat.strongRecOn with
  | _ v ih =>
    intro i hi hv
    by_cases hN : v < N
    · obtain ⟨hu, hc⟩ := h.2.2.2.2 i hi (by omega)
      rcases hc with ⟨hs, he⟩ | ⟨j, hj, hjN, hf, he⟩
      · have := h'.2.2.1 i hi hu hs
        omega
      · have hlt : r j < use i (r j) := hgt i (r j) hi hu
        have hj' := ih (r j) (by omega) j hj rfl
        have h1 := h'.2.2.2.1 i j hi hj hu (by omega) hf
        have h2 := hmo i (r' j) (r j) hi hu hj'
        omega
    · have := h'.1 i hi
      omega
theorem isR_eq {n N : Nat} {us st : Nat → Bool} {fo : Nat → Nat → Bool} {use : Nat → Nat → Nat} {t : Nat} {r r' : Nat → Nat}
    (hgt : ∀ i m, i < n → us i = true → m < use i m) (hmo : ∀ i m m', i < n → us i = true → m ≤ m' → use i m ≤ use i m') (h : isR n N us st fo use t r) (h' : isR n N us st fo use t r') :
    ∀ i, i < n → r i = r' i := by
  intro i hi
  have h1 := isR_le hgt hmo h h' (r i) i hi rfl
  have h2 := isR_le hgt hmo h' h (r' i) i hi rfl
  omega
/-! bits of a mask set and taken -/
def sB (b k : Nat) (on : Bool) : Nat := if on = true then b ||| 2 ^ k else b &&& (2 ^ 64 - (2 ^ k + 1))
theorem sB_tb {b k : Nat} (on : Bool) (hb : b < 2 ^ 64) (hk : k < 64) (j : Nat) : (sB b k on).testBit j = if j = k then on else b.testBit j := by
  unfold sB
  cases on
  · simp only [Bool.false_eq_true, if_false, Nat.testBit_and]
    rw [Nat.testBit_two_pow_sub_succ (Nat.pow_lt_pow_right (by decide) hk), Nat.testBit_two_pow]
    by_cases h : j = k
    · subst h; simp
    · by_cases h64 : j < 64
      · simp [h, h64, Ne.symm h]
      · have : b.testBit j = false := Nat.testBit_lt_two_pow (Nat.lt_of_lt_of_le hb (Nat.pow_le_pow_right (by decide) (by omega)))
        simp [h, this]
  · simp only [if_true, Nat.testBit_or, Nat.testBit_two_pow]
    by_cases h : j = k
    · subst h; simp
    · simp [h, Ne.symm h]
theorem sB_lt {b k w : Nat} (on : Bool) (hb : b < 2 ^ w) (hk : k < w) : sB b k on < 2 ^ w := by
  unfold sB
  cases on
  · simp only [Bool.false_eq_true, if_false]
    exact Nat.lt_of_le_of_lt Nat.and_le_left hb
  · simp only [if_true]
    exact Nat.or_lt_two_pow hb (Nat.pow_lt_pow_right (by decide) hk)
theorem pcn_le (x : Nat) : ∀ k, pcn x k ≤ k := by
  intro k
  induction k with
  | zero => exact Nat.le_refl 0
  | succ k ih =>
    show pcn x k + (x.testBit k).toNat ≤ k + 1
    have := Bool.toNat_le (x.testBit k)
    omega
theorem pcn_0 {x : Nat} : ∀ k, pcn x k = 0 → ∀ j, j < k → x.testBit j = false := by
  intro k
  induction k with
  | zero => intro _ j hj; omega
  | succ k ih =>
    intro h j hj
    have h' : pcn x k + (x.testBit k).toNat = 0 := h
    by_cases hk : j = k
    · subst hk
      cases hb : x.testBit j
      · rfl
      · rw [hb] at h'; simp at h'
    · exact ih (by omega) j (by omega)
theorem pcn_congr {x y : Nat} : ∀ k, (∀ j, j < k → x.testBit j = y.testBit j) → pcn x k = pcn y k := by
  intro k
  induction k with
  | zero => intro _; rfl
  | succ k ih =>
    intro h
    show pcn x k + (x.testBit k).toNat = pcn y k + (y.testBit k).toNat
    rw [ih (fun j hj => h j (by omega)), h k (by omega)]
theorem pcn_sB {b x : Nat} (hb : b < 2 ^ 64) (hx : x < 64) (hbx : b.testBit x = true) : ∀ k, x < k → pcn (sB b x false) k + 1 = pcn b k := by
  intro k
  induction k with
  | zero => intro h; omega
  | succ k ih =>
    intro h
    show pcn (sB b x false) k + ((sB b x false).testBit k).toNat + 1 = pcn b k + (b.testBit k).toNat
    rw [sB_tb false hb hx]
    by_cases hk : k = x
    · subst hk
      rw [pcn_congr (y := b) k (fun j hj => by rw [sB_tb false hb hx]; simp [show j ≠ k by omega]), hbx]
      simp
    · have := ih (by omega)
      simp only [hk, if_false]
      omega
/-! the search -/
def erL (op : Nat) (R : Nat → Nat) : Nat → Option Nat × Nat
  | 0 => (none, NVc)
  | k + 1 => if op.testBit k = true ∧ R k < (erL op R k).2 then (some k, R k) else erL op R k
theorem erL_ok (op : Nat) (R : Nat → Nat) : ∀ k, (erL op R k).2 ≤ NVc ∧ (∀ j, j < k → op.testBit j = true → (erL op R k).2 ≤ R j) ∧ ((erL op R k).1 = none → (erL op R k).2 = NVc) ∧ ∀ i, (erL op R k).1 = some i → i < k ∧ op.testBit i = true ∧ R i = (erL op R k).2 ∧ R i < NVc := by
  intro k
  induction k with
  | zero => exact ⟨Nat.le_refl _, fun j hj => (by omega), fun _ => rfl, fun i h => (by cases h)⟩
  | succ k ih =>
    obtain ⟨h1, h2, h3, h4⟩ := ih
    by_cases h : op.testBit k = true ∧ R k < (erL op R k).2
    · have e : erL op R (k + 1) = (some k, R k) := by simp [erL, h]
      rw [e]
      refine ⟨by dsimp only; omega, fun j hj hb => ?_, fun q => (by cases q), fun i hi => ?_⟩
      · by_cases hjk : j = k
        · subst hjk; exact Nat.le_refl _
        · have := h2 j (by omega) hb
          dsimp only; omega
      · cases hi
        exact ⟨by omega, h.1, rfl, by omega⟩
    · have e : erL op R (k + 1) = erL op R k := by simp [erL, h]
      rw [e]
      refine ⟨h1, fun j hj hb => ?_, h3, fun i hi => ?_⟩
      · by_cases hjk : j = k
        · subst hjk
          have : ¬ R j < (erL op R j).2 := fun q => h ⟨hb, q⟩
          omega
        · exact h2 j (by omega) hb
      · obtain ⟨a1, a2⟩ := h4 i hi
        exact ⟨by omega, a2⟩
def gL (fo : Nat → Nat → Bool) (use : Nat → Nat → Nat) (x op : Nat) (R : Nat → Nat) : Nat → Nat → Nat
  | 0 => R
  | k + 1 => if op.testBit k = true ∧ fo x k = true then va_up (gL fo use x op R k) k (min (gL fo use x op R k k) (use k (gL fo use x op R k x))) else gL fo use x op R k
theorem gL_ok {fo : Nat → Nat → Bool} {use : Nat → Nat → Nat} {x op : Nat} {R : Nat → Nat} (hx : op.testBit x = false) : ∀ k i, gL fo use x op R k i = if i < k ∧ op.testBit i = true ∧ fo x i = true then min (R i) (use i (R x)) else R i := by
  intro k
  induction k with
  | zero => intro i; simp [gL]
  | succ k ih =>
    intro i
    have e0 : gL fo use x op R k x = R x := by rw [ih]; simp [hx]
    have ek : gL fo use x op R k k = R k := by rw [ih]; simp
    by_cases h : op.testBit k = true ∧ fo x k = true
    · have e : gL fo use x op R (k + 1) = va_up (gL fo use x op R k) k (min (R k) (use k (R x))) := by simp [gL, h, e0, ek]
      rw [e]
      by_cases hik : i = k
      · subst hik; simp [va_up, h]
      · have : va_up (gL fo use x op R k) k (min (R k) (use k (R x))) i = gL fo use x op R k i := by simp [va_up, hik]
        rw [this, ih]
        by_cases h2 : i < k
        · simp [h2, show i < k + 1 by omega]
        · simp [h2, show ¬ i < k + 1 by omega]
    · have e : gL fo use x op R (k + 1) = gL fo use x op R k := by simp [gL, h]
      rw [e, ih]
      by_cases hik : i = k
      · subst hik
        rw [if_neg (by omega), if_neg (fun q => h q.2)]
      · by_cases h2 : i < k
        · simp [h2, show i < k + 1 by omega]
        · simp [h2, show ¬ i < k + 1 by omega]
def sL (n : Nat) (fo : Nat → Nat → Bool) (use : Nat → Nat → Nat) : Nat → Nat → (Nat → Nat) → Nat → Nat
  | 0, _, R => R
  | c + 1, op, R => match (erL op R n).1 with
    | none => R
    | some x => sL n fo use c (sB op x false) (gL fo use x (sB op x false) R n)
def sInv (n : Nat) (us : Nat) (st : Nat → Bool) (fo : Nat → Nat → Bool) (use : Nat → Nat → Nat) (t op : Nat) (R : Nat → Nat) : Prop :=
  (∀ i, i < n → R i ≤ NVc) ∧ (∀ i, i < n → us.testBit i = false → R i = NVc) ∧ (∀ i, op.testBit i = true → us.testBit i = true) ∧ (∀ i, i < n → us.testBit i = true → st i = true → R i ≤ use i t) ∧
  (∀ i j, i < n → j < n → us.testBit i = true → us.testBit j = true → op.testBit j = false → fo j i = true → R j < NVc → R i ≤ use i (R j)) ∧
  (∀ i, i < n → R i < NVc → us.testBit i = true ∧ ((st i = true ∧ R i = use i t) ∨ ∃ j, j < n ∧ us.testBit j = true ∧ op.testBit j = false ∧ R j < NVc ∧ fo j i = true ∧ R i = use i (R j))) ∧
  (∀ i j, i < n → j < n → us.testBit i = true → op.testBit i = false → op.testBit j = true → R i ≤ R j)
theorem sInv_end {n us : Nat} {st : Nat → Bool} {fo : Nat → Nat → Bool} {use : Nat → Nat → Nat} {t op : Nat} {R : Nat → Nat} (h : sInv n us st fo use t op R) (ho : ∀ j, j < n → op.testBit j = true → NVc ≤ R j) :
    isR n NVc (fun i => us.testBit i) st fo use t R := by
  obtain ⟨h0, h1, h2, h3, h4, h5, h6⟩ := h
  have hset : ∀ j, j < n → R j < NVc → op.testBit j = false := fun j hj hr => by
    cases hb : op.testBit j
    · rfl
    · have := ho j hj hb; omega
  refine ⟨h0, h1, h3, fun i j hi hj hu hr hf => h4 i j hi hj hu (h5 j hj hr).1 (hset j hj hr) hf hr, fun i hi hr => ?_⟩
  obtain ⟨a, b⟩ := h5 i hi hr
  refine ⟨a, ?_⟩
  rcases b with b | ⟨j, j1, j2, j3, j4, j5, j6⟩
  · exact Or.inl b
  · exact Or.inr ⟨j, j1, j4, j5, j6⟩
theorem sL_ok {n us : Nat} {st : Nat → Bool} {fo : Nat → Nat → Bool} {use : Nat → Nat → Nat} {t : Nat} (hn : n ≤ 64) (hgt : ∀ i m, i < n → us.testBit i = true → m < use i m) :
    ∀ c op R, op < 2 ^ 64 → pcn op n ≤ c → sInv n us st fo use t op R → isR n NVc (fun i => us.testBit i) st fo use t (sL n fo use c op R) := by
  intro c
  induction c with
  | zero =>
    intro op R _ hc h
    exact sInv_end h (fun j hj hb => by rw [pcn_0 n (by omega) j hj] at hb; cases hb)
  | succ c ih =>
    intro op R hop hc h
    obtain ⟨e1, e2, e3, e4⟩ := erL_ok op R n
    cases he : (erL op R n).1 with
    | none =>
      have : sL n fo use (c + 1) op R = R := by simp [sL, he]
      rw [this]
      exact sInv_end h (fun j hj hb => by have := e2 j hj hb; rw [e3 he] at this; exact this)
    | some x =>
      have : sL n fo use (c + 1) op R = sL n fo use c (sB op x false) (gL fo use x (sB op x false) R n) := by simp [sL, he]
      rw [this]
      obtain ⟨x1, x2, x3, x4⟩ := e4 x he
      have hx64 : x < 64 := by omega
      have tb : ∀ j, (sB op x false).testBit j = if j = x then false else op.testBit j := sB_tb false hop hx64
      have hxo : (sB op x false).testBit x = false := by rw [tb]; simp
      have hg := gL_ok (fo := fo) (use := use) (R := R) hxo n
      have hmin : ∀ j, j < n → op.testBit j = true → R x ≤ R j := fun j hj hb => by rw [x3]; exact e2 j hj hb
      obtain ⟨h0, h1, h2, h3, h4, h5, h6⟩ := h
      have hux := h2 x x2
      have hle : ∀ i, gL fo use x (sB op x false) R n i ≤ R i := fun i => by
        rw [hg]; split
        · exact Nat.min_le_left _ _
        · exact Nat.le_refl _
      have hkeep : ∀ i, (sB op x false).testBit i = false → gL fo use x (sB op x false) R n i = R i := fun i hi => by rw [hg]; simp [hi]
      have hset : ∀ i, (sB op x false).testBit i = false → i = x ∨ op.testBit i = false := fun i hi => by
        rw [tb] at hi
        by_cases q : i = x
        · exact Or.inl q
        · simp [q] at hi; exact Or.inr hi
      have hopen : ∀ i, (sB op x false).testBit i = true → i ≠ x ∧ op.testBit i = true := fun i hi => by
        rw [tb] at hi
        by_cases q : i = x
        · simp [q] at hi
        · simp [q] at hi; exact ⟨q, hi⟩
      have hrx : ∀ i, i < n → us.testBit i = true → (sB op x false).testBit i = false → R i ≤ R x := fun i hi hu hs => by
        rcases hset i hs with q | q
        · subst q; exact Nat.le_refl _
        · exact h6 i x hi x1 hu q x2
      refine ih _ _ (sB_lt false hop hx64) (by have := pcn_sB hop hx64 x2 n x1; omega) ⟨fun i hi => Nat.le_trans (hle i) (h0 i hi), fun i hi hu => ?_, fun i hi => h2 i (hopen i hi).2, fun i hi hu hs => Nat.le_trans (hle i) (h3 i hi hu hs), ?_, ?_, ?_⟩
      · rw [hkeep i]
        · exact h1 i hi hu
        · cases hb : (sB op x false).testBit i
          · rfl
          · rw [h2 i (hopen i hb).2] at hu; cases hu
      · intro i j hi hj hui huj hsj hf hr
        rw [hkeep j hsj] at hr ⊢
        rcases hset j hsj with q | q
        · subst q
          by_cases hoi : (sB op j false).testBit i = true
          · rw [hg]
            rw [if_pos ⟨hi, hoi, hf⟩]
            exact Nat.min_le_right _ _
          · have hoi' : (sB op j false).testBit i = false := by simpa using hoi
            rw [hkeep i hoi']
            have := hrx i hi hui hoi'
            have := hgt i (R j) hi hui
            omega
        · exact Nat.le_trans (hle i) (h4 i j hi hj hui huj q hf hr)
      · intro i hi hr
        by_cases hri : gL fo use x (sB op x false) R n i = R i
        · rw [hri] at hr ⊢
          obtain ⟨a, b⟩ := h5 i hi hr
          refine ⟨a, ?_⟩
          rcases b with b | ⟨j, j1, j2, j3, j4, j5, j6⟩
          · exact Or.inl b
          · have hsj : (sB op x false).testBit j = false := by rw [tb]; split <;> simp_all
            refine Or.inr ⟨j, j1, j2, hsj, ?_, j5, ?_⟩
            · rw [hkeep j hsj]; exact j4
            · rw [hkeep j hsj]; exact j6
        · have hc : i < n ∧ (sB op x false).testBit i = true ∧ fo x i = true := by
            by_cases q : i < n ∧ (sB op x false).testBit i = true ∧ fo x i = true
            · exact q
            · exact absurd (by rw [hg, if_neg q]) hri
          have hv : gL fo use x (sB op x false) R n i = min (R i) (use i (R x)) := by rw [hg, if_pos hc]
          rw [hv] at hri ⊢
          refine ⟨h2 i (hopen i hc.2.1).2, Or.inr ⟨x, x1, hux, hxo, ?_, hc.2.2, ?_⟩⟩
          · rw [hkeep x hxo]; exact x4
          · rw [hkeep x hxo]; omega
      · intro i j hi hj hui hsi hoj
        rw [hkeep i hsi]
        have a1 := hrx i hi hui hsi
        have a2 := hmin j hj (hopen j hoj).2
        have a3 := hgt j (R x) hj (h2 j (hopen j hoj).2)
        rw [hg]
        split
        · omega
        · omega
def iL (us : Nat) (st : Nat → Bool) (use : Nat → Nat → Nat) (t : Nat) (R0 : Nat → Nat) : Nat → Nat → Nat
  | 0 => R0
  | k + 1 => va_up (iL us st use t R0 k) k (if us.testBit k = true ∧ st k = true then use k t else NVc)
theorem iL_ok (us : Nat) (st : Nat → Bool) (use : Nat → Nat → Nat) (t : Nat) (R0 : Nat → Nat) : ∀ k i, iL us st use t R0 k i = if i < k then (if us.testBit i = true ∧ st i = true then use i t else NVc) else R0 i := by
  intro k
  induction k with
  | zero => intro i; simp [iL]
  | succ k ih =>
    intro i
    by_cases h : i = k
    · subst h; simp [iL, va_up]
    · have : iL us st use t R0 (k + 1) i = iL us st use t R0 k i := by simp [iL, va_up, h]
      rw [this, ih]
      by_cases h2 : i < k
      · simp [h2, show i < k + 1 by omega]
      · simp [h2, show ¬ i < k + 1 by omega]
/-- the class's search: what stands in 'reached' behind it -/
def srch (n us : Nat) (st : Nat → Bool) (fo : Nat → Nat → Bool) (use : Nat → Nat → Nat) (t : Nat) (R0 : Nat → Nat) : Nat → Nat := sL n fo use n us (iL us st use t R0 n)
theorem srch_ok {n us : Nat} {st : Nat → Bool} {fo : Nat → Nat → Bool} {use : Nat → Nat → Nat} {t : Nat} {R0 : Nat → Nat} (hn : n ≤ 64) (hus : us < 2 ^ 64) (hgt : ∀ i m, i < n → us.testBit i = true → m < use i m) (hT : ∀ i, i < n → us.testBit i = true → use i t ≤ NVc) :
    isR n NVc (fun i => us.testBit i) st fo use t (srch n us st fo use t R0) := by
  have hi := iL_ok us st use t R0 n
  refine sL_ok hn hgt n us _ hus (pcn_le us n) ⟨fun i h => ?_, fun i h hu => ?_, fun i h => h, fun i h hu hs => ?_, fun i j _ _ _ h1 h2 => ?_, fun i h hr => ?_, fun i j _ _ h1 h2 => ?_⟩
  · rw [hi]; simp only [h, if_true]
    split
    · rename_i q; exact hT i h q.1
    · exact Nat.le_refl _
  · rw [hi]; simp [h, hu]
  · rw [hi]; simp [h, hu, hs]
  · rw [h1] at h2; cases h2
  · rw [hi] at hr ⊢
    simp only [h, if_true] at hr ⊢
    by_cases q : us.testBit i = true ∧ st i = true
    · rw [if_pos q]; exact ⟨q.1, Or.inl ⟨q.2, rfl⟩⟩
    · rw [if_neg q] at hr; omega
  · rw [h1] at h2; cases h2
theorem gL_hi {fo : Nat → Nat → Bool} {use : Nat → Nat → Nat} {x op : Nat} {R : Nat → Nat} : ∀ k j, k ≤ j → gL fo use x op R k j = R j := by
  intro k
  induction k with
  | zero => intro j _; rfl
  | succ k ih =>
    intro j hj
    unfold gL
    split
    · simp [va_up, show j ≠ k by omega, ih j (by omega)]
    · exact ih j (by omega)
