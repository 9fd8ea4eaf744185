/-! ===== the number of bits of a word, as Long.bitCount computes it ===== -/
def pcn (x : Nat) : Nat → Nat
  | 0 => 0
  | k + 1 => pcn x k + (x.testBit k).toNat
theorem and_sp {w a c : Nat} (b d : Nat) (ha : a < 2 ^ w) (hc : c < 2 ^ w) : (a + 2 ^ w * b) &&& (c + 2 ^ w * d) = (a &&& c) + 2 ^ w * (b &&& d) := by
  have hac : a &&& c < 2 ^ w := Nat.lt_of_le_of_lt Nat.and_le_left ha
  rw [Nat.add_comm a, Nat.add_comm c, Nat.add_comm (a &&& c)]
  apply Nat.eq_of_testBit_eq
  intro i
  rw [Nat.testBit_and, Nat.testBit_two_pow_mul_add _ ha, Nat.testBit_two_pow_mul_add _ hc, Nat.testBit_two_pow_mul_add _ hac]
  by_cases h : i < w
  · simp [h]
  · simp [h]
/-- a mask of m bytes c -/
def bm (c : Nat) : Nat → Nat
  | 0 => 0
  | m + 1 => c + 256 * bm c m
/-- the bytes of x through f -/
def bv (f : Nat → Nat) (x : Nat) : Nat → Nat
  | 0 => 0
  | m + 1 => f (x % 256) + 256 * bv f (x / 256) m
def s1 (a : Nat) : Nat := a - ((a / 2) &&& 85)
def s2 (a : Nat) : Nat := (a &&& 51) + ((a / 4) &&& 51)
def s3 (a : Nat) : Nat := (a + a / 16) &&& 15
theorem d1 : ∀ a : Fin 256, ∀ r : Fin 2, ((a.val / 2 + 128 * r.val) &&& 85) = ((a.val / 2) &&& 85) ∧ ((a.val / 2) &&& 85) ≤ a.val ∧ s1 a.val ≤ 170 := by decide +kernel
theorem d2 : ∀ a : Fin 256, ∀ r : Fin 4, ((a.val / 4 + 64 * r.val) &&& 51) = ((a.val / 4) &&& 51) := by decide +kernel
theorem d2b : ∀ a : Fin 256, s2 (s1 a.val) ≤ 68 ∧ s2 (s1 a.val) % 16 ≤ 4 ∧ s1 a.val < 256 ∧ s3 (s2 (s1 a.val)) = pcn a.val 8 ∧ pcn a.val 8 ≤ 8 := by decide +kernel
theorem d3 : ∀ a : Fin 69, ∀ r : Fin 5, ((a.val + a.val / 16 + 16 * r.val) &&& 15) = ((a.val + a.val / 16) &&& 15) := by decide +kernel
theorem st1 : ∀ (m x : Nat), x < 256 ^ m → ((x / 2) &&& bm 85 m) ≤ x ∧ x - ((x / 2) &&& bm 85 m) = bv s1 x m := by
  intro m
  induction m with
  | zero =>
    intro x hx
    have : x = 0 := by simpa using hx
    subst this
    exact ⟨by simp [bm], by simp [bm, bv]⟩
  | succ m ih =>
    intro x hx
    obtain ⟨i1, i2⟩ := ih (x / 256) (by rw [Nat.pow_succ] at hx; omega)
    obtain ⟨e1, e2, -⟩ := d1 ⟨x % 256, by omega⟩ ⟨x / 256 % 2, by omega⟩
    dsimp only at e1 e2
    have hx2 : x / 2 = (x % 256 / 2 + 128 * (x / 256 % 2)) + 2 ^ 8 * (x / 256 / 2) := by omega
    have key : (x / 2) &&& bm 85 (m + 1) = ((x % 256 / 2) &&& 85) + 256 * ((x / 256 / 2) &&& bm 85 m) := by
      rw [hx2]
      show _ &&& (85 + 2 ^ 8 * bm 85 m) = _
      rw [and_sp _ _ (by omega) (by decide), e1]
    rw [key]
    refine ⟨by omega, ?_⟩
    show _ = s1 (x % 256) + 256 * bv s1 (x / 256) m
    rw [← i2]
    show _ = (x % 256 - ((x % 256 / 2) &&& 85)) + _
    omega
theorem st2 : ∀ (m y : Nat), y < 256 ^ m → (y &&& bm 51 m) + ((y / 4) &&& bm 51 m) = bv s2 y m := by
  intro m
  induction m with
  | zero =>
    intro y hy
    simp [bm, bv]
  | succ m ih =>
    intro y hy
    have i2 := ih (y / 256) (by rw [Nat.pow_succ] at hy; omega)
    have e1 := d2 ⟨y % 256, by omega⟩ ⟨y / 256 % 4, by omega⟩
    dsimp only at e1
    have h4 : y / 4 = (y % 256 / 4 + 64 * (y / 256 % 4)) + 2 ^ 8 * (y / 256 / 4) := by omega
    have h1 : y = y % 256 + 2 ^ 8 * (y / 256) := by omega
    have k1 : y &&& bm 51 (m + 1) = ((y % 256) &&& 51) + 256 * ((y / 256) &&& bm 51 m) := by
      rw [show y &&& bm 51 (m + 1) = (y % 256 + 2 ^ 8 * (y / 256)) &&& (51 + 2 ^ 8 * bm 51 m) by rw [← h1]; rfl]
      rw [and_sp _ _ (by omega) (by decide)]
    have k2 : (y / 4) &&& bm 51 (m + 1) = ((y % 256 / 4) &&& 51) + 256 * ((y / 256 / 4) &&& bm 51 m) := by
      rw [h4]
      show _ &&& (51 + 2 ^ 8 * bm 51 m) = _
      rw [and_sp _ _ (by omega) (by decide), e1]
    rw [k1, k2]
    show _ = s2 (y % 256) + 256 * bv s2 (y / 256) m
    rw [← i2]
    show _ = ((y % 256) &&& 51) + ((y % 256 / 4) &&& 51) + _
    omega
/-- all bytes of z are small, as the third step asks -/
def sm (z : Nat) : Prop := ∀ j, z / 256 ^ j % 256 ≤ 68 ∧ z / 256 ^ j % 16 ≤ 4
theorem sm_next {z : Nat} (h : sm z) : sm (z / 256) := fun j => by
  have := h (j + 1)
  rw [Nat.pow_succ, Nat.mul_comm, ← Nat.div_div_eq_div_mul] at this
  exact this
theorem st3 : ∀ (m z : Nat), z < 256 ^ m → sm z → (z + z / 16) &&& bm 15 m = bv s3 z m := by
  intro m
  induction m with
  | zero =>
    intro z hz _
    simp [bm, bv]
  | succ m ih =>
    intro z hz hs
    have i2 := ih (z / 256) (by rw [Nat.pow_succ] at hz; omega) (sm_next hs)
    have b0 := hs 0
    have b1 := hs 1
    simp only [Nat.pow_zero, Nat.div_one, Nat.pow_one] at b0 b1
    have e1 := d3 ⟨z % 256, by omega⟩ ⟨z / 256 % 16, by omega⟩
    dsimp only at e1
    have h16 : z + z / 16 = (z % 256 + z % 256 / 16 + 16 * (z / 256 % 16)) + 2 ^ 8 * (z / 256 + z / 256 / 16) := by omega
    rw [h16]
    show _ &&& (15 + 2 ^ 8 * bm 15 m) = _
    rw [and_sp _ _ (by omega) (by decide), e1, i2]
    rfl
theorem bv_lt {f : Nat → Nat} (hf : ∀ a, a < 256 → f a < 256) : ∀ (m x : Nat), bv f x m < 256 ^ m := by
  intro m
  induction m with
  | zero => intro x; simp [bv]
  | succ m ih =>
    intro x
    have h1 := ih (x / 256)
    have h2 := hf (x % 256) (by omega)
    show f (x % 256) + 256 * bv f (x / 256) m < 256 ^ (m + 1)
    rw [Nat.pow_succ]
    omega
theorem bv_bv {f g : Nat → Nat} (hf : ∀ a, a < 256 → f a < 256) : ∀ (m x : Nat), bv g (bv f x m) m = bv (fun a => g (f a)) x m := by
  intro m
  induction m with
  | zero => intro x; rfl
  | succ m ih =>
    intro x
    have h2 := hf (x % 256) (by omega)
    show g ((f (x % 256) + 256 * bv f (x / 256) m) % 256) + 256 * bv g ((f (x % 256) + 256 * bv f (x / 256) m) / 256) m = g (f (x % 256)) + 256 * bv (fun a => g (f a)) (x / 256) m
    rw [show (f (x % 256) + 256 * bv f (x / 256) m) % 256 = f (x % 256) by omega, show (f (x % 256) + 256 * bv f (x / 256) m) / 256 = bv f (x / 256) m by omega, ih]
theorem bv_congr {f g : Nat → Nat} (h : ∀ a, a < 256 → f a = g a) : ∀ (m x : Nat), bv f x m = bv g x m := by
  intro m
  induction m with
  | zero => intro x; rfl
  | succ m ih =>
    intro x
    show f (x % 256) + 256 * bv f (x / 256) m = g (x % 256) + 256 * bv g (x / 256) m
    rw [h _ (by omega), ih]
theorem bv_sm {f : Nat → Nat} (hf : ∀ a, a < 256 → f a ≤ 68 ∧ f a % 16 ≤ 4) : ∀ (m x : Nat), sm (bv f x m) := by
  intro m
  induction m with
  | zero => intro x j; simp [bv]
  | succ m ih =>
    intro x j
    have h2 := hf (x % 256) (by omega)
    cases j with
    | zero =>
      show (f (x % 256) + 256 * bv f (x / 256) m) / 256 ^ 0 % 256 ≤ 68 ∧ (f (x % 256) + 256 * bv f (x / 256) m) / 256 ^ 0 % 16 ≤ 4
      simp only [Nat.pow_zero, Nat.div_one]
      omega
    | succ j =>
      show (f (x % 256) + 256 * bv f (x / 256) m) / 256 ^ (j + 1) % 256 ≤ 68 ∧ (f (x % 256) + 256 * bv f (x / 256) m) / 256 ^ (j + 1) % 16 ≤ 4
      rw [Nat.pow_succ, Nat.mul_comm (256 ^ j), ← Nat.div_div_eq_div_mul, show (f (x % 256) + 256 * bv f (x / 256) m) / 256 = bv f (x / 256) m by omega]
      exact ih _ j
theorem pcn_mod (x : Nat) : ∀ k, k ≤ 8 → pcn (x % 256) k = pcn x k := by
  intro k
  induction k with
  | zero => intro _; rfl
  | succ k ih =>
    intro hk
    show pcn (x % 256) k + ((x % 256).testBit k).toNat = pcn x k + (x.testBit k).toNat
    rw [ih (by omega), show (256 : Nat) = 2 ^ 8 from rfl, Nat.testBit_mod_two_pow]
    simp [show k < 8 by omega]
theorem pcn_add (x : Nat) : ∀ k, pcn x (8 + k) = pcn (x % 256) 8 + pcn (x / 256) k := by
  intro k
  induction k with
  | zero => rw [pcn_mod x 8 (Nat.le_refl 8)]; rfl
  | succ k ih =>
    show pcn x (8 + k) + (x.testBit (8 + k)).toNat = pcn (x % 256) 8 + (pcn (x / 256) k + ((x / 256).testBit k).toNat)
    rw [ih, show (256 : Nat) = 2 ^ 8 from rfl, Nat.testBit_div_two_pow, Nat.add_comm k 8]
    omega
/-- Long.bitCount over the numbers -/
def bcN (x : Nat) : Nat :=
  let a := x - ((x / 2) &&& 6148914691236517205)
  let b := (a &&& 3689348814741910323) + ((a / 4) &&& 3689348814741910323)
  let d := (b + b / 16) &&& 1085102592571150095
  let f := d + d / 256
  let g := f + f / 65536
  let h := g + g / 4294967296
  h % 128
theorem s1_lt : ∀ a, a < 256 → s1 a < 256 := fun a h => (d2b ⟨a, h⟩).2.2.1
theorem s21_lt : ∀ a, a < 256 → s2 (s1 a) ≤ 68 ∧ s2 (s1 a) % 16 ≤ 4 := fun a h => ⟨(d2b ⟨a, h⟩).1, (d2b ⟨a, h⟩).2.1⟩
theorem bc_steps {x : Nat} (hx : x < 256 ^ 8) : x - ((x / 2) &&& 6148914691236517205) = bv s1 x 8 ∧ (bv s1 x 8 &&& 3689348814741910323) + ((bv s1 x 8 / 4) &&& 3689348814741910323) = bv (fun a => s2 (s1 a)) x 8 ∧ (bv (fun a => s2 (s1 a)) x 8 + bv (fun a => s2 (s1 a)) x 8 / 16) &&& 1085102592571150095 = bv (fun a => pcn a 8) x 8 := by
  refine ⟨(st1 8 x hx).2, ?_, ?_⟩
  · rw [← bv_bv s1_lt]
    exact st2 8 _ (bv_lt s1_lt 8 x)
  · have h1 := st3 8 (bv (fun a => s2 (s1 a)) x 8) (bv_lt (fun a h => by have := s21_lt a h; omega) 8 x) (bv_sm s21_lt 8 x)
    rw [bv_bv (f := fun a => s2 (s1 a)) (g := s3) (fun a h => by have := s21_lt a h; omega)] at h1
    rw [show bv (fun a => pcn a 8) x 8 = bv (fun a => s3 (s2 (s1 a))) x 8 from bv_congr (fun a h => ((d2b ⟨a, h⟩).2.2.2.1).symm) 8 x]
    exact h1
theorem p8_le (x : Nat) : pcn (x % 256) 8 ≤ 8 := (d2b ⟨x % 256, by omega⟩).2.2.2.2
theorem dg1 {a : Nat} (t : Nat) (h : a < 256) : (a + 256 * t) / 256 = t := by omega
theorem dg2 {a b : Nat} (t : Nat) (h : a < 256) (h2 : b < 256) : (a + 256 * (b + 256 * t)) / 65536 = t := by omega
theorem dg4 {a b c d : Nat} (t : Nat) (h : a < 256) (h2 : b < 256) (h3 : c < 256) (h4 : d < 256) : (a + 256 * (b + 256 * (c + 256 * (d + 256 * t)))) / 4294967296 = t := by omega
theorem dg7 {a : Nat} (t : Nat) (h : a < 128) : (a + 256 * t) % 128 = a := by omega
theorem bc_fin (c0 c1 c2 c3 c4 c5 c6 c7 : Nat) (l0 : c0 ≤ 8) (l1 : c1 ≤ 8) (l2 : c2 ≤ 8) (l3 : c3 ≤ 8) (l4 : c4 ≤ 8) (l5 : c5 ≤ 8) (l6 : c6 ≤ 8) (l7 : c7 ≤ 8) :
    (c0 + 256 * (c1 + 256 * (c2 + 256 * (c3 + 256 * (c4 + 256 * (c5 + 256 * (c6 + 256 * (c7 + 256 * 0))))))) + (c0 + 256 * (c1 + 256 * (c2 + 256 * (c3 + 256 * (c4 + 256 * (c5 + 256 * (c6 + 256 * (c7 + 256 * 0)))))))) / 256 +
      (c0 + 256 * (c1 + 256 * (c2 + 256 * (c3 + 256 * (c4 + 256 * (c5 + 256 * (c6 + 256 * (c7 + 256 * 0))))))) + (c0 + 256 * (c1 + 256 * (c2 + 256 * (c3 + 256 * (c4 + 256 * (c5 + 256 * (c6 + 256 * (c7 + 256 * 0)))))))) / 256) / 65536 +
      (c0 + 256 * (c1 + 256 * (c2 + 256 * (c3 + 256 * (c4 + 256 * (c5 + 256 * (c6 + 256 * (c7 + 256 * 0))))))) + (c0 + 256 * (c1 + 256 * (c2 + 256 * (c3 + 256 * (c4 + 256 * (c5 + 256 * (c6 + 256 * (c7 + 256 * 0)))))))) / 256 +
      (c0 + 256 * (c1 + 256 * (c2 + 256 * (c3 + 256 * (c4 + 256 * (c5 + 256 * (c6 + 256 * (c7 + 256 * 0))))))) + (c0 + 256 * (c1 + 256 * (c2 + 256 * (c3 + 256 * (c4 + 256 * (c5 + 256 * (c6 + 256 * (c7 + 256 * 0)))))))) / 256) / 65536) / 4294967296) % 128 = c0 + (c1 + (c2 + (c3 + (c4 + (c5 + (c6 + c7)))))) := by
  rw [dg1 _ (show c0 < 256 by omega)]
  rw [show c0 + 256 * (c1 + 256 * (c2 + 256 * (c3 + 256 * (c4 + 256 * (c5 + 256 * (c6 + 256 * (c7 + 256 * 0))))))) + (c1 + 256 * (c2 + 256 * (c3 + 256 * (c4 + 256 * (c5 + 256 * (c6 + 256 * (c7 + 256 * 0))))))) = (c0 + c1) + 256 * ((c1 + c2) + 256 * ((c2 + c3) + 256 * ((c3 + c4) + 256 * ((c4 + c5) + 256 * ((c5 + c6) + 256 * ((c6 + c7) + 256 * c7)))))) by omega]
  rw [dg2 _ (show c0 + c1 < 256 by omega) (show c1 + c2 < 256 by omega)]
  rw [show (c0 + c1) + 256 * ((c1 + c2) + 256 * ((c2 + c3) + 256 * ((c3 + c4) + 256 * ((c4 + c5) + 256 * ((c5 + c6) + 256 * ((c6 + c7) + 256 * c7)))))) + ((c2 + c3) + 256 * ((c3 + c4) + 256 * ((c4 + c5) + 256 * ((c5 + c6) + 256 * ((c6 + c7) + 256 * c7))))) = (c0 + c1 + c2 + c3) + 256 * ((c1 + c2 + c3 + c4) + 256 * ((c2 + c3 + c4 + c5) + 256 * ((c3 + c4 + c5 + c6) + 256 * ((c4 + c5 + c6 + c7) + 256 * ((c5 + c6 + c7) + 256 * ((c6 + c7) + 256 * c7)))))) by omega]
  rw [dg4 _ (show c0 + c1 + c2 + c3 < 256 by omega) (show c1 + c2 + c3 + c4 < 256 by omega) (show c2 + c3 + c4 + c5 < 256 by omega) (show c3 + c4 + c5 + c6 < 256 by omega)]
  rw [show (c0 + c1 + c2 + c3) + 256 * ((c1 + c2 + c3 + c4) + 256 * ((c2 + c3 + c4 + c5) + 256 * ((c3 + c4 + c5 + c6) + 256 * ((c4 + c5 + c6 + c7) + 256 * ((c5 + c6 + c7) + 256 * ((c6 + c7) + 256 * c7)))))) + ((c4 + c5 + c6 + c7) + 256 * ((c5 + c6 + c7) + 256 * ((c6 + c7) + 256 * c7))) = (c0 + (c1 + (c2 + (c3 + (c4 + (c5 + (c6 + c7))))))) + 256 * ((c1 + c2 + c3 + c4 + (c5 + c6 + c7)) + 256 * ((c2 + c3 + c4 + c5 + (c6 + c7)) + 256 * ((c3 + c4 + c5 + c6 + c7) + 256 * ((c4 + c5 + c6 + c7) + 256 * ((c5 + c6 + c7) + 256 * ((c6 + c7) + 256 * c7)))))) by omega]
  exact dg7 _ (by omega)
theorem bcN_eq {x : Nat} (hx : x < 2 ^ 64) : bcN x = pcn x 64 := by
  obtain ⟨h1, h2, h3⟩ := bc_steps (x := x) (by omega)
  unfold bcN
  dsimp only
  rw [h1, h2, h3]
  rw [show (64 : Nat) = 8 + (8 + (8 + (8 + (8 + (8 + (8 + 8)))))) from rfl]
  rw [pcn_add, pcn_add, pcn_add, pcn_add, pcn_add, pcn_add, pcn_add]
  have l0 := p8_le x
  have l1 := p8_le (x / 256)
  have l2 := p8_le (x / 256 / 256)
  have l3 := p8_le (x / 256 / 256 / 256)
  have l4 := p8_le (x / 256 / 256 / 256 / 256)
  have l5 := p8_le (x / 256 / 256 / 256 / 256 / 256)
  have l6 := p8_le (x / 256 / 256 / 256 / 256 / 256 / 256)
  have l7 := p8_le (x / 256 / 256 / 256 / 256 / 256 / 256 / 256)
  have e7 : pcn (x / 256 / 256 / 256 / 256 / 256 / 256 / 256) 8 = pcn (x / 256 / 256 / 256 / 256 / 256 / 256 / 256 % 256) 8 := by rw [pcn_mod _ 8 (Nat.le_refl 8)]
  rw [e7]
  simp only [bv]
  generalize pcn (x % 256) 8 = c0 at *
  generalize pcn (x / 256 % 256) 8 = c1 at *
  generalize pcn (x / 256 / 256 % 256) 8 = c2 at *
  generalize pcn (x / 256 / 256 / 256 % 256) 8 = c3 at *
  generalize pcn (x / 256 / 256 / 256 / 256 % 256) 8 = c4 at *
  generalize pcn (x / 256 / 256 / 256 / 256 / 256 % 256) 8 = c5 at *
  generalize pcn (x / 256 / 256 / 256 / 256 / 256 / 256 % 256) 8 = c6 at *
  generalize pcn (x / 256 / 256 / 256 / 256 / 256 / 256 / 256 % 256) 8 = c7 at *
  clear h1 h2 h3 e7
  exact bc_fin c0 c1 c2 c3 c4 c5 c6 c7 l0 l1 l2 l3 l4 l5 l6 l7
