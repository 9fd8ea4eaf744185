/-! ===== the reference's search, over numbers ===== -/
def toC (v : Nat) : Nat := if v = NVm then NVc else v
def lowB (us : Nat → Bool) (fo : Nat → Nat → Bool) (use : Nat → Nat → Nat) (v : Nat → Nat) (p q : Nat) : Bool := decide (v p ≠ NVm) && (fo p q && (us q && decide (use q (v p) < v q)))
def lowS (us : Nat → Bool) (fo : Nat → Nat → Bool) (use : Nat → Nat → Nat) (v : Nat → Nat) (p q : Nat) : Nat → Nat := if lowB us fo use v p q = true then va_up v q (use q (v p)) else v
def sumN (v : Nat → Nat) : Nat → Nat
  | 0 => 0
  | k + 1 => sumN v k + v k
theorem sumN_ge {v : Nat → Nat} {q x : Nat} : ∀ n, n ≤ q → sumN (va_up v q x) n = sumN v n := by
  intro n
  induction n with
  | zero => intro _; rfl
  | succ n ih =>
    intro h
    show sumN (va_up v q x) n + va_up v q x n = sumN v n + v n
    rw [ih (by omega), va_up_ne v x (by omega)]
theorem sumN_lt {v : Nat → Nat} {q x : Nat} (hx : x < v q) : ∀ n, q < n → sumN (va_up v q x) n + 1 ≤ sumN v n := by
  intro n
  induction n with
  | zero => intro h; omega
  | succ n ih =>
    intro h
    show sumN (va_up v q x) n + va_up v q x n + 1 ≤ sumN v n + v n
    by_cases e : n = q
    · subst e
      rw [sumN_ge n (Nat.le_refl _), va_up_self]
      omega
    · rw [va_up_ne v x e]
      have := ih (by omega)
      omega
theorem cntB_le (f : Nat → Bool) : ∀ k, cntB f k ≤ k := by
  intro k
  induction k with
  | zero => exact Nat.le_refl 0
  | succ k ih =>
    show cntB f k + (f k).toNat ≤ k + 1
    have := Bool.toNat_le (f k)
    omega
theorem cntB_congr {f g : Nat → Bool} : ∀ k, (∀ j, j < k → f j = g j) → cntB f k = cntB g k := by
  intro k
  induction k with
  | zero => intro _; rfl
  | succ k ih =>
    intro h
    show cntB f k + (f k).toNat = cntB g k + (g k).toNat
    rw [ih (fun j hj => h j (by omega)), h k (by omega)]
theorem cntB_mono {f g : Nat → Bool} (h : ∀ j, f j = true → g j = true) : ∀ k, cntB f k ≤ cntB g k := by
  intro k
  induction k with
  | zero => exact Nat.le_refl _
  | succ k ih =>
    show cntB f k + (f k).toNat ≤ cntB g k + (g k).toNat
    have : (f k).toNat ≤ (g k).toNat := by
      cases hf : f k
      · exact Nat.zero_le _
      · rw [h k hf]; exact Nat.le_refl _
    omega
theorem cntB_lt {f g : Nat → Bool} (h : ∀ j, f j = true → g j = true) {q : Nat} (h1 : f q = false) (h2 : g q = true) : ∀ k, q < k → cntB f k + 1 ≤ cntB g k := by
  intro k
  induction k with
  | zero => intro q; omega
  | succ k ih =>
    intro hq
    show cntB f k + (f k).toNat + 1 ≤ cntB g k + (g k).toNat
    by_cases e : k = q
    · subst e
      have := cntB_mono h k
      rw [h1, h2]
      simp only [Bool.toNat_false, Bool.toNat_true]
      omega
    · have := ih (by omega)
      have : (f k).toNat ≤ (g k).toNat := by
        cases hf : f k
        · exact Nat.zero_le _
        · rw [h k hf]; exact Nat.le_refl _
      omega
def finB (v : Nat → Nat) (i : Nat) : Bool := decide (v i ≠ NVm)
def mI (n : Nat) (us st : Nat → Bool) (fo : Nat → Nat → Bool) (use : Nat → Nat → Nat) (t : Nat) (v : Nat → Nat) : Prop :=
  (∀ i, i < n → v i = NVm ∨ v i ≤ t + 10086400 * cntB (finB v) n) ∧ (∀ i, i < n → us i = false → v i = NVm) ∧ (∀ i, i < n → us i = true → st i = true → v i ≤ use i t) ∧
  (∀ i, i < n → v i ≠ NVm → us i = true ∧ ((st i = true ∧ v i = use i t) ∨ ∃ j, j < n ∧ v j ≠ NVm ∧ fo j i = true ∧ use i (v j) ≤ v i))
section MI
variable {n : Nat} {us st : Nat → Bool} {fo : Nat → Nat → Bool} {use : Nat → Nat → Nat} {t : Nat} {v : Nat → Nat}
theorem mI_b (hn : n ≤ 40) (ht : t ≤ 10000000) (h : mI n us st fo use t v) {i : Nat} (hi : i < n) : v i = NVm ∨ v i ≤ 500000000 := by
  rcases h.1 i hi with q | q
  · exact Or.inl q
  · have := cntB_le (finB v) n
    exact Or.inr (by omega)
theorem low_of {p q : Nat} (h : lowB us fo use v p q = true) : v p ≠ NVm ∧ fo p q = true ∧ us q = true ∧ use q (v p) < v q := by
  simpa [lowB] using h
theorem st_same {p q : Nat} (h : lowB us fo use v p q = false) : lowS us fo use v p q = v := by rw [lowS, h]; rfl
theorem st_sum {p q : Nat} (hq : q < n) : sumN (lowS us fo use v p q) n + (lowB us fo use v p q).toNat ≤ sumN v n := by
  cases h : lowB us fo use v p q
  · rw [st_same h]; exact Nat.le_refl _
  · rw [lowS, if_pos h]
    exact sumN_lt (low_of h).2.2.2 n hq
theorem st_ge {p q i : Nat} (hq : q < n) (hi : n ≤ i) : lowS us fo use v p q i = v i := by
  rw [lowS]
  split
  · exact va_up_ne v _ (by omega)
  · rfl
theorem st_I (hn : n ≤ 40) (ht : t ≤ 10000000) (hgt : ∀ i m, i < n → us i = true → m < use i m ∧ use i m ≤ m + 10086400) (hmo : ∀ i m m', i < n → us i = true → m ≤ m' → use i m ≤ use i m') (h : mI n us st fo use t v) {p q : Nat} (hp : p < n) (hq : q < n) : mI n us st fo use t (lowS us fo use v p q) := by
  cases hl : lowB us fo use v p q
  · rw [st_same hl]; exact h
  · rw [lowS, if_pos hl]
    obtain ⟨l1, l2, l3, l4⟩ := low_of hl
    obtain ⟨h0, h1, h2, h3⟩ := h
    have g1 := hgt q (v p) hq l3
    have hvp : v p ≤ t + 10086400 * cntB (finB v) n := (h0 p hp).resolve_left l1
    have hcl := cntB_le (finB v) n
    have hpq : p ≠ q := fun e => by subst e; omega
    have hNV : NVm = 18446744073709551615 := rfl
    have hfin : ∀ j, finB v j = true → finB (va_up v q (use q (v p))) j = true := fun j hj => by
      by_cases e : j = q
      · subst e; unfold finB; rw [va_up_self]; exact decide_eq_true (by omega)
      · unfold finB; rw [va_up_ne v _ e]; exact hj
    have hcm := cntB_mono hfin n
    have hle : ∀ i, va_up v q (use q (v p)) i ≤ v i := fun i => by
      by_cases e : i = q
      · subst e; rw [va_up_self]; omega
      · rw [va_up_ne v _ e]; exact Nat.le_refl _
    have hne : ∀ i, v i ≠ NVm → va_up v q (use q (v p)) i ≠ NVm := fun i hi => by
      have := hfin i (decide_eq_true hi)
      exact of_decide_eq_true this
    refine ⟨fun i hi => ?_, fun i hi hu => ?_, fun i hi hu hs => Nat.le_trans (hle i) (h2 i hi hu hs), fun i hi hv => ?_⟩
    · by_cases e : i = q
      · subst e
        rw [va_up_self]
        right
        by_cases hf : v i = NVm
        · have := cntB_lt hfin (q := i) (decide_eq_false (fun z => z hf)) (by unfold finB; rw [va_up_self]; exact decide_eq_true (by omega)) n hi
          omega
        · have := (h0 i hi).resolve_left hf
          omega
      · rw [va_up_ne v _ e]
        rcases h0 i hi with z | z
        · exact Or.inl z
        · exact Or.inr (by omega)
    · have e : i ≠ q := fun e => by subst e; rw [l3] at hu; exact absurd hu (by decide)
      rw [va_up_ne v _ e]; exact h1 i hi hu
    · by_cases e : i = q
      · subst e
        refine ⟨l3, Or.inr ⟨p, hp, ?_, l2, ?_⟩⟩
        · rw [va_up_ne v _ hpq]; exact l1
        · rw [va_up_self, va_up_ne v _ hpq]; exact Nat.le_refl _
      · rw [va_up_ne v _ e] at hv ⊢
        obtain ⟨a, b⟩ := h3 i hi hv
        refine ⟨a, ?_⟩
        rcases b with b | ⟨j, j1, j2, j3, j4⟩
        · exact Or.inl b
        · exact Or.inr ⟨j, j1, hne j j2, j3, Nat.le_trans (hmo i _ _ hi a (hle j)) j4⟩
theorem mI_end (hn : n ≤ 40) (ht : t ≤ 10000000) (h : mI n us st fo use t v) (hf : ∀ p q, p < n → q < n → lowB us fo use v p q = false) : isR n NVc us st fo use t (fun i => toC (v i)) := by
  obtain ⟨h0, h1, h2, h3⟩ := h
  have hNV : NVm = 18446744073709551615 := rfl
  have hNc : NVc = 1152921504606846976 := rfl
  have hcl := cntB_le (finB v) n
  have hb : ∀ i, i < n → v i = NVm ∨ v i ≤ 500000000 := fun i hi => mI_b hn ht ⟨h0, h1, h2, h3⟩ hi
  have hc1 : ∀ i, v i = NVm → toC (v i) = NVc := fun i e => if_pos e
  have hc2 : ∀ i, v i ≠ NVm → toC (v i) = v i := fun i e => if_neg e
  have hc3 : ∀ i, toC (v i) < NVc → v i ≠ NVm := fun i q e => by rw [hc1 i e] at q; omega
  have hle : ∀ i, toC (v i) ≤ v i := fun i => by
    by_cases e : v i = NVm
    · rw [hc1 i e]; omega
    · rw [hc2 i e]; exact Nat.le_refl _
  have hfx : ∀ i j, i < n → j < n → us i = true → v j ≠ NVm → fo j i = true → v i ≤ use i (v j) := fun i j hi hj hu hv hfo => by
    have := hf j i hj hi
    by_cases q : v i ≤ use i (v j)
    · exact q
    · exfalso
      have : lowB us fo use v j i = true := by simp [lowB, hv, hfo, hu]; omega
      rw [hf j i hj hi] at this
      exact absurd this (by decide)
  refine ⟨fun i hi => ?_, fun i hi hu => hc1 i (h1 i hi hu), fun i hi hu hs => Nat.le_trans (hle i) (h2 i hi hu hs), fun i j hi hj hu hr hfo => ?_, fun i hi hr => ?_⟩
  · show toC (v i) ≤ NVc
    rcases hb i hi with q | q
    · rw [hc1 i q]; exact Nat.le_refl _
    · have := hle i; omega
  · have := hc3 j hr
    show toC (v i) ≤ use i (toC (v j))
    rw [hc2 j this]
    exact Nat.le_trans (hle i) (hfx i j hi hj hu this hfo)
  · have hv := hc3 i hr
    obtain ⟨a, b⟩ := h3 i hi hv
    refine ⟨a, ?_⟩
    show (st i = true ∧ toC (v i) = use i t) ∨ ∃ j, j < n ∧ toC (v j) < NVc ∧ fo j i = true ∧ toC (v i) = use i (toC (v j))
    rw [hc2 i hv]
    rcases b with b | ⟨j, j1, j2, j3, j4⟩
    · exact Or.inl b
    · refine Or.inr ⟨j, j1, ?_, j3, ?_⟩
      · rw [hc2 j j2]; have := (hb j j1).resolve_left j2; omega
      · rw [hc2 j j2]; have := hfx i j hi j1 a j2 j3; omega
def imL (us st : Nat → Bool) (use : Nat → Nat → Nat) (t : Nat) (rm : Nat → Nat) : Nat → Nat → Nat
  | 0 => rm
  | k + 1 => va_up (imL us st use t rm k) k (if st k = true ∧ us k = true then use k t else NVm)
theorem imL_ok (us st : Nat → Bool) (use : Nat → Nat → Nat) (t : Nat) (rm : Nat → Nat) : ∀ k i, imL us st use t rm k i = if i < k then (if st i = true ∧ us i = true then use i t else NVm) else rm i := by
  intro k
  induction k with
  | zero => intro i; simp [imL]
  | succ k ih =>
    intro i
    by_cases h : i = k
    · subst h; simp [imL, va_up]
    · have : imL us st use t rm (k + 1) i = imL us st use t rm k i := by simp [imL, va_up, h]
      rw [this, ih]
      by_cases h2 : i < k
      · simp [h2, show i < k + 1 by omega]
      · simp [h2, show ¬ i < k + 1 by omega]
theorem mI_init {rm : Nat → Nat} (ht : t ≤ 10000000) (hgt : ∀ i m, i < n → us i = true → m < use i m ∧ use i m ≤ m + 10086400) : mI n us st fo use t (imL us st use t rm n) := by
  have e := imL_ok us st use t rm n
  have hNV : NVm = 18446744073709551615 := rfl
  refine ⟨fun i hi => ?_, fun i hi hu => ?_, fun i hi hu hs => ?_, fun i hi hv => ?_⟩
  · rw [e, if_pos hi]
    by_cases q : st i = true ∧ us i = true
    · rw [if_pos q]
      right
      have g := hgt i t hi q.2
      have h1 : 1 ≤ cntB (finB (imL us st use t rm n)) n := by
        have := cntB_lt (f := fun _ => false) (g := finB (imL us st use t rm n)) (fun j hj => by cases hj) (q := i) rfl (by unfold finB; rw [e, if_pos hi, if_pos q]; exact decide_eq_true (by omega)) n hi
        omega
      have := Nat.mul_le_mul_left 10086400 h1
      omega
    · rw [if_neg q]; exact Or.inl rfl
  · rw [e, if_pos hi, if_neg (fun q => by rw [q.2] at hu; exact absurd hu (by decide))]
  · rw [e, if_pos hi, if_pos ⟨hs, hu⟩]; exact Nat.le_refl _
  · rw [e, if_pos hi] at hv ⊢
    by_cases q : st i = true ∧ us i = true
    · rw [if_pos q]; exact ⟨q.2, Or.inl ⟨q.1, rfl⟩⟩
    · rw [if_neg q] at hv; exact absurd rfl hv
theorem ss_1 {p q S0 : Nat} {b : Bool} (hq : q < n) (hs : sumN v n + b.toNat ≤ S0) (c : lowB us fo use v p q = true) : sumN (lowS us fo use v p q) n + true.toNat ≤ S0 := by
  have := st_sum (us := us) (fo := fo) (use := use) (v := v) (p := p) hq
  rw [c] at this
  omega
theorem ss_2 {p q S0 : Nat} {b : Bool} (hs : sumN v n + b.toNat ≤ S0) (c : lowB us fo use v p q = false) (d : b = true) : sumN (lowS us fo use v p q) n + true.toNat ≤ S0 := by rw [st_same c, ← d]; exact hs
theorem ss_3 {p q S0 : Nat} {b : Bool} (hs : sumN v n + b.toNat ≤ S0) (c : lowB us fo use v p q = false) (d : b = false) : sumN (lowS us fo use v p q) n + false.toNat ≤ S0 := by rw [st_same c, ← d]; exact hs
theorem sf_3 {p q : Nat} {b : Bool} (hfq : b = false → (∀ p' q', p' < p → q' < n → lowB us fo use v p' q' = false) ∧ ∀ q', q' < q → lowB us fo use v p q' = false) (c : lowB us fo use v p q = false) (d : b = false) : false = false → (∀ p' q', p' < p → q' < n → lowB us fo use (lowS us fo use v p q) p' q' = false) ∧ ∀ q', q' < q + 1 → lowB us fo use (lowS us fo use v p q) p q' = false := by
  intro _
  rw [st_same c]
  refine ⟨(hfq d).1, fun q' hq' => ?_⟩
  by_cases e : q' = q
  · subst e; exact c
  · exact (hfq d).2 q' (by omega)
theorem sf_4 {p q : Nat} {b : Bool} (hfq : b = false → (∀ p' q', p' < p → q' < n → lowB us fo use v p' q' = false) ∧ ∀ q', q' < q → lowB us fo use v p q' = false) (hx : n ≤ q) : b = false → ∀ p' q', p' < p + 1 → q' < n → lowB us fo use v p' q' = false := by
  intro d p' q' hp' hq'
  by_cases e : p' = p
  · subst e; exact (hfq d).2 q' (by omega)
  · exact (hfq d).1 p' q' (by omega) hq'
end MI
theorem isR_us {n N : Nat} {us us' st : Nat → Bool} {fo : Nat → Nat → Bool} {use : Nat → Nat → Nat} {t : Nat} {r : Nat → Nat} (he : ∀ i, i < n → us i = us' i) (h : isR n N us st fo use t r) : isR n N us' st fo use t r := by
  obtain ⟨h0, h1, h2, h3, h4⟩ := h
  refine ⟨h0, fun i hi hu => h1 i hi (by rw [he i hi]; exact hu), fun i hi hu => h2 i hi (by rw [he i hi]; exact hu), fun i j hi hj hu => h3 i j hi hj (by rw [he i hi]; exact hu), fun i hi hr => ?_⟩
  have := h4 i hi hr
  rw [he i hi] at this
  exact this
theorem us_open {wd ht oh : Nat → Nat} {co w h k : Nat} (q : usB wd ht oh co w h k = true) : oh k ≠ 0 := fun e => by rw [us_0 e] at q; exact absurd q (by decide)
theorem uE_gt {bg en sc wd ht oh bt : Nat → Nat} {co n w h : Nat} (hB : bP bg en sc wd ht oh bt co n) (hsc : ∀ i, i < n → 1 ≤ sc i) : ∀ i m, i < n → usB wd ht oh co w h i = true → m < uE oh sc i m ∧ uE oh sc i m ≤ m + 10086400 := by
  intro i m hi hu
  have hb := hB.2.2 i
  have := ew_gt (sec := sc i) (m := m) (op_of (us_open hu) hb.2.2.2.2.2.1) (hsc i hi)
  unfold uE
  omega
theorem uE_mo {bg en sc wd ht oh bt : Nat → Nat} {co n w h : Nat} (hB : bP bg en sc wd ht oh bt co n) : ∀ i m m', i < n → usB wd ht oh co w h i = true → m ≤ m' → uE oh sc i m ≤ uE oh sc i m' := by
  intro i m m' hi hu hm
  exact ew_mono (op_of (us_open hu) (hB.2.2 i).2.2.2.2.2.1) hm
/-- the least moments, as both say them -/
def cR (bg en sc wd ht oh bt : Nat → Nat) (co n w h a t : Nat) : Nat → Nat := srch n (uM wd ht oh co w h n) (stB bg a) (foB bg en bt) (uE oh sc) t (fun _ => 0)
theorem uM_tb {wd ht oh : Nat → Nat} {co w h n : Nat} (hn : n ≤ 40) {i : Nat} (hi : i < n) : (uM wd ht oh co w h n).testBit i = usB wd ht oh co w h i := by
  rw [(uM_ok wd ht oh co w h n hn).2 i, decide_eq_true hi]; rfl
theorem srch_R {bg en sc wd ht oh bt : Nat → Nat} {co n w h a t : Nat} {re : Nat → Nat} (hB : bP bg en sc wd ht oh bt co n) (hsc : ∀ i, i < n → 1 ≤ sc i) (ht0 : t ≤ 10000000) : isR n NVc (usB wd ht oh co w h) (stB bg a) (foB bg en bt) (uE oh sc) t (srch n (uM wd ht oh co w h n) (stB bg a) (foB bg en bt) (uE oh sc) t re) := by
  have hn := hB.1
  have := srch_ok (n := n) (us := uM wd ht oh co w h n) (st := stB bg a) (fo := foB bg en bt) (use := uE oh sc) (t := t) (R0 := re) (by omega) (Nat.lt_trans (uM_lt wd ht oh co w h hn) (by decide)) (fun i m hi hu => (uE_gt hB hsc i m hi (by rw [← uM_tb hn hi]; exact hu)).1) (fun i _ _ => uE_le hB ht0 i)
  exact isR_us (fun i hi => uM_tb hn hi) this
theorem srch_cR {bg en sc wd ht oh bt : Nat → Nat} {co n w h a t : Nat} {re : Nat → Nat} (hB : bP bg en sc wd ht oh bt co n) (hsc : ∀ i, i < n → 1 ≤ sc i) (ht0 : t ≤ 10000000) : ∀ i, i < n → srch n (uM wd ht oh co w h n) (stB bg a) (foB bg en bt) (uE oh sc) t re i = cR bg en sc wd ht oh bt co n w h a t i :=
  isR_eq (fun i m hi hu => (uE_gt hB hsc i m hi hu).1) (uE_mo hB) (srch_R hB hsc ht0) (srch_R hB hsc ht0)
def rmF (n : Nat) (R rm : Nat → Nat) (i : Nat) : Nat := if i < n then (if R i < NVc then R i else NVm) else rm i
theorem rm_end {bg en sc wd ht oh bt : Nat → Nat} {co n w h a t : Nat} {rm v : Nat → Nat} (hB : bP bg en sc wd ht oh bt co n) (hsc : ∀ i, i < n → 1 ≤ sc i) (ht0 : t ≤ 10000000) (hI : mI n (usB wd ht oh co w h) (stB bg a) (foB bg en bt) (uE oh sc) t v) (hf : ∀ p q, p < n → q < n → lowB (usB wd ht oh co w h) (foB bg en bt) (uE oh sc) v p q = false) (hv : ∀ i, n ≤ i → v i = rm i) : rmF n (cR bg en sc wd ht oh bt co n w h a t) rm = v := by
  have hR := mI_end hB.1 ht0 hI hf
  have he := isR_eq (fun i m hi hu => (uE_gt hB hsc i m hi hu).1) (uE_mo hB) (srch_R (re := fun _ => 0) hB hsc ht0) hR
  have hNV : NVm = 18446744073709551615 := rfl
  have hNc : NVc = 1152921504606846976 := rfl
  funext i
  unfold rmF
  by_cases hi : i < n
  · rw [if_pos hi, show cR bg en sc wd ht oh bt co n w h a t i = toC (v i) from he i hi]
    rcases mI_b hB.1 ht0 hI hi with q | q
    · rw [show toC (v i) = NVc from if_pos q, if_neg (by omega), q]
    · rw [show toC (v i) = v i from if_neg (by omega), if_pos (by omega)]
  · rw [if_neg hi, hv i (by omega)]
theorem cR_b {bg en sc wd ht oh bt : Nat → Nat} {co n w h a t : Nat} (hB : bP bg en sc wd ht oh bt co n) (hsc : ∀ i, i < n → 1 ≤ sc i) (ht0 : t ≤ 10000000) {i : Nat} (hi : i < n) : cR bg en sc wd ht oh bt co n w h a t i ≤ NVc := (srch_R (re := fun _ => 0) hB hsc ht0).1 i hi
theorem toC_rm {n : Nat} {R rm : Nat → Nat} {i : Nat} (hi : i < n) (hR : R i ≤ NVc) : toC (rmF n R rm i) = R i := by
  have hNV : NVm = 18446744073709551615 := rfl
  have hNc : NVc = 1152921504606846976 := rfl
  unfold rmF toC
  rw [if_pos hi]
  by_cases q : R i < NVc
  · rw [if_pos q, if_neg (by omega)]
  · rw [if_neg q, if_pos rfl]; omega
theorem lpL_congr {en f g : Nat → Nat} {pl : Nat} : ∀ k, (∀ j, j < k → f j = g j) → lpL en f pl k = lpL en g pl k := by
  intro k
  induction k with
  | zero => intro _; rfl
  | succ k ih =>
    intro h
    unfold lpL
    rw [ih (fun j hj => h j (by omega)), h k (by omega)]
theorem lpL_2 (en R : Nat → Nat) (pl : Nat) : ∀ k, (lpL en R pl k).2 = (match (lpL en R pl k).1 with | none => NVc | some b => R b) ∧ ∀ b, (lpL en R pl k).1 = some b → b < k ∧ R b < NVc ∧ en b = pl := by
  intro k
  induction k with
  | zero => exact ⟨rfl, fun b h => by cases h⟩
  | succ k ih =>
    by_cases h : en k = pl ∧ R k < (lpL en R pl k).2
    · have e : lpL en R pl (k + 1) = (some k, R k) := by unfold lpL; rw [if_pos h]
      rw [e]
      refine ⟨rfl, fun b hb => ?_⟩
      cases hb
      have := (lpL_le en R pl k).1
      exact ⟨by omega, by omega, h.1⟩
    · have e : lpL en R pl (k + 1) = lpL en R pl k := by rw [lpL, if_neg h]
      rw [e]
      refine ⟨ih.1, fun b hb => ?_⟩
      have := ih.2 b hb
      exact ⟨by omega, this.2⟩
def rkN (r : Nat → Nat) (n x : Nat) : Nat := cntB (fun j => decide (r j < r x)) n
theorem rkN_lt {r : Nat → Nat} {n j x : Nat} (hj : j < n) (h : r j < r x) : rkN r n j + 1 ≤ rkN r n x :=
  cntB_lt (f := fun i => decide (r i < r j)) (g := fun i => decide (r i < r x)) (fun i hi => by have := of_decide_eq_true hi; exact decide_eq_true (by omega)) (q := j) (decide_eq_false (by omega)) (decide_eq_true h) n hj
theorem rkN_n {r : Nat → Nat} {n x : Nat} (hx : x < n) : rkN r n x + 1 ≤ n :=
  Nat.le_trans (cntB_lt (f := fun i => decide (r i < r x)) (g := fun _ => true) (fun _ _ => rfl) (q := x) (decide_eq_false (by omega)) rfl n hx) (cntB_le _ n)
theorem isR_small {n N : Nat} {us st : Nat → Bool} {fo : Nat → Nat → Bool} {use : Nat → Nat → Nat} {t : Nat} {r : Nat → Nat} (hgt : ∀ i m, i < n → us i = true → m < use i m ∧ use i m ≤ m + 10086400) (h : isR n N us st fo use t r) :
    ∀ V i, i < n → r i = V → V < N → V ≤ t + 10086400 * (rkN r n i + 1) := by
  intro V
  induction V using Nat.strongRecOn with
  | _ V ih =>
    intro i hi hv hN
    obtain ⟨hu, hc⟩ := h.2.2.2.2 i hi (by omega)
    rcases hc with ⟨_, he⟩ | ⟨j, hj, hjN, _, he⟩
    · have := hgt i t hi hu
      omega
    · have g := hgt i (r j) hi hu
      have h1 := ih (r j) (by omega) j hj rfl hjN
      have h2 := rkN_lt (r := r) (x := i) hj (by omega)
      omega
theorem cR_s {bg en sc wd ht oh bt : Nat → Nat} {co n w h a t : Nat} (hB : bP bg en sc wd ht oh bt co n) (hsc : ∀ i, i < n → 1 ≤ sc i) (ht0 : t ≤ 10000000) {i : Nat} (hi : i < n) (q : cR bg en sc wd ht oh bt co n w h a t i < NVc) : cR bg en sc wd ht oh bt co n w h a t i ≤ 500000000 := by
  have h1 := isR_small (uE_gt hB hsc) (srch_R (re := fun _ => 0) (w := w) (h := h) (a := a) hB hsc ht0) _ i hi rfl q
  have h2 := rkN_n (r := srch n (uM wd ht oh co w h n) (stB bg a) (foB bg en bt) (uE oh sc) t (fun _ => 0)) hi
  have hn := hB.1
  have e : cR bg en sc wd ht oh bt co n w h a t = srch n (uM wd ht oh co w h n) (stB bg a) (foB bg en bt) (uE oh sc) t (fun _ => 0) := rfl
  rw [e]
  have h3 : rkN (srch n (uM wd ht oh co w h n) (stB bg a) (foB bg en bt) (uE oh sc) t (fun _ => 0)) n i + 1 ≤ 40 := Nat.le_trans h2 hn
  exact Nat.le_trans h1 (Nat.le_trans (Nat.add_le_add ht0 (Nat.mul_le_mul_left 10086400 h3)) (Nat.le_of_ble_eq_true rfl))
