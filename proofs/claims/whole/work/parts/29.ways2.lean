/-! ===== the reference's walk through all ways ===== -/
def oN (v : Nat) : Nat := if v = 4294967295 then 0 else v + 1
def nx (P : Nat → Bool) : Nat → Nat → Nat
  | 0, i => i
  | c + 1, i => if P i = true then i else nx P c (i + 1)
theorem nx_ok (P : Nat → Bool) : ∀ c i, i ≤ nx P c i ∧ nx P c i ≤ i + c ∧ (∀ j, i ≤ j → j < nx P c i → P j = false) ∧ (nx P c i < i + c → P (nx P c i) = true) := by
  intro c
  induction c with
  | zero => intro i; exact ⟨Nat.le_refl _, Nat.le_refl _, fun j h1 h2 => by have : j < i := h2; omega, fun h => absurd h (Nat.lt_irrefl _)⟩
  | succ c ih =>
    intro i
    by_cases q : P i = true
    · have e : nx P (c + 1) i = i := if_pos q
      rw [e]
      exact ⟨Nat.le_refl _, by omega, fun j h1 h2 => by omega, fun _ => q⟩
    · have e : nx P (c + 1) i = nx P c (i + 1) := if_neg q
      rw [e]
      obtain ⟨h1, h2, h3, h4⟩ := ih (i + 1)
      refine ⟨by omega, by omega, fun j hj1 hj2 => ?_, fun h => h4 (by omega)⟩
      by_cases z : j = i
      · subst z; simpa using q
      · exact h3 j (by omega) hj2
theorem nx_eq {P : Nat → Bool} {c i p : Nat} (h1 : i ≤ p) (h2 : p ≤ i + c) (h3 : ∀ j, i ≤ j → j < p → P j = false) (h4 : p = i + c ∨ P p = true) : nx P c i = p := by
  obtain ⟨g1, g2, g3, g4⟩ := nx_ok P c i
  rcases Nat.lt_trichotomy (nx P c i) p with q | q | q
  · have a := h3 _ g1 q
    have b := g4 (by omega)
    rw [a] at b
    exact absurd b (by decide)
  · exact q
  · rcases h4 with z | z
    · omega
    · have a := g3 p h1 q
      rw [z] at a
      exact absurd a (by decide)
def msh (f : Nat → Nat) (k c : Nat) : Nat → Nat := fun j => if k < j ∧ j < c then f (j - 1) else f j
def mshP (f : Nat → Nat) (k c : Nat) : Nat → Nat := fun j => if 5 * k + 5 ≤ j ∧ j < 5 * c then f (j - 5) else f j
def kmS (rs : Nat → Nat) (t rk : Nat) : Nat → Nat := if rkF rs t rk < 5 then va_up (msh rs (rkF rs t rk) (kpK rs t rk)) (rkF rs t rk) t else rs
def kmN (rn rs : Nat → Nat) (t rk len : Nat) : Nat → Nat := if rkF rs t rk < 5 then va_up (msh rn (rkF rs t rk) (kpK rs t rk)) (rkF rs t rk) len else rn
def kmP (rp tr rs : Nat → Nat) (t rk len : Nat) : Nat → Nat := if rkF rs t rk < 5 then (fun j => if 5 * rkF rs t rk ≤ j ∧ j < 5 * rkF rs t rk + len then tr (j - 5 * rkF rs t rk) else mshP rp (rkF rs t rk) (kpK rs t rk) j) else rp
theorem rep_mod {K : KS} {rp rn rs tr : Nat → Nat} {rk s : Nat} {w : List Nat} (h : rep K rp rn rs rk) (hw : w.length ≤ 5) (ht : ∀ k, k < w.length → tr k = nt w k) : rep (insK K (s, w)) (kmP rp tr rs s rk w.length) (kmN rn rs s rk w.length) (kmS rs s rk) (kpK rs s rk) := by
  obtain ⟨h0, h1, h2⟩ := h
  subst h0
  have er : rkF rs s K.1 = rkF K.2.1 s K.1 := rkF_congr (fun r hr => (h2 r hr).1)
  have hle := rkF_le K.2.1 s K.1
  unfold kmP kmN kmS kpK insK
  rw [er]
  by_cases q : rkF K.2.1 s K.1 < 5
  · rw [if_pos q, if_pos q, if_pos q, if_pos q, if_pos q]
    generalize rkF K.2.1 s K.1 = r at hle q ⊢
    refine ⟨rfl, Nat.min_le_right _ _, fun j hj => ?_⟩
    have hj' : j < K.1 + 1 ∧ j < 5 := by
      have : j < min (K.1 + 1) 5 := hj
      omega
    have hj2 : j < min (K.1 + 1) 5 := hj
    show va_up (msh rs r (min (K.1 + 1) 5)) r s j = (if j < r then K.2.1 j else if j = r then s else K.2.1 (j - 1)) ∧ va_up (msh rn r (min (K.1 + 1) 5)) r w.length j = (if j < r then K.2.2 j else if j = r then w else K.2.2 (j - 1)).length ∧ (if j < r then K.2.2 j else if j = r then w else K.2.2 (j - 1)).length ≤ 5 ∧ ∀ k, k < (if j < r then K.2.2 j else if j = r then w else K.2.2 (j - 1)).length → (if 5 * r ≤ 5 * j + k ∧ 5 * j + k < 5 * r + w.length then tr (5 * j + k - 5 * r) else mshP rp r (min (K.1 + 1) 5) (5 * j + k)) = nt (if j < r then K.2.2 j else if j = r then w else K.2.2 (j - 1)) k
    by_cases e1 : j < r
    · have := h2 j (by omega)
      rw [if_pos e1, if_pos e1, va_up_ne _ _ (by omega), va_up_ne _ _ (by omega)]
      refine ⟨?_, ?_, this.2.2.1, fun k hk => ?_⟩
      · rw [msh, if_neg (by omega)]; exact this.1
      · rw [msh, if_neg (by omega)]; exact this.2.1
      · rw [if_neg (by omega), mshP, if_neg (by omega)]; exact this.2.2.2 k hk
    · by_cases e2 : j = r
      · subst e2
        rw [if_neg e1, if_neg e1, if_pos rfl, if_pos rfl, va_up_self, va_up_self]
        refine ⟨rfl, rfl, hw, fun k hk => ?_⟩
        rw [if_pos (by omega), show 5 * j + k - 5 * j = k by omega]
        exact ht k hk
      · have := h2 (j - 1) (by omega)
        rw [if_neg e1, if_neg e1, if_neg e2, if_neg e2, va_up_ne _ _ e2, va_up_ne _ _ e2]
        refine ⟨?_, ?_, this.2.2.1, fun k hk => ?_⟩
        · rw [msh, if_pos (by omega)]; exact this.1
        · rw [msh, if_pos (by omega)]; exact this.2.1
        · have h5 := this.2.2.1
          rw [if_neg (by omega), mshP, if_pos (by omega), show 5 * j + k - 5 = 5 * (j - 1) + k by omega]; exact this.2.2.2 k hk
  · rw [if_neg q, if_neg q, if_neg q, if_neg q, if_neg q]
    exact ⟨rfl, h1, h2⟩
def srtK (K : KS) : Prop := ∀ i j, i ≤ j → j < K.1 → K.2.1 i ≤ K.2.1 j
theorem ins_srt {K : KS} {w : Wy1} (h : srtK K) : srtK (insK K w) := by
  unfold insK
  by_cases q : rkF K.2.1 w.1 K.1 < 5
  · rw [if_pos q]
    have h1 := rkF_ok K.2.1 w.1 K.1
    have hl := rkF_le K.2.1 w.1 K.1
    generalize rkF K.2.1 w.1 K.1 = r at *
    intro i j hij hj
    have hj' : j < min (K.1 + 1) 5 := hj
    show (if i < r then K.2.1 i else if i = r then w.1 else K.2.1 (i - 1)) ≤ (if j < r then K.2.1 j else if j = r then w.1 else K.2.1 (j - 1))
    by_cases a1 : i < r
    · rw [if_pos a1]
      by_cases b1 : j < r
      · rw [if_pos b1]; exact h i j hij (by omega)
      · rw [if_neg b1]
        by_cases b2 : j = r
        · rw [if_pos b2]; exact h1.1 i a1
        · rw [if_neg b2]; exact h i (j - 1) (by omega) (by omega)
    · rw [if_neg a1, if_neg (show ¬ j < r by omega)]
      by_cases a2 : i = r
      · rw [if_pos a2]
        by_cases b2 : j = r
        · rw [if_pos b2]; exact Nat.le_refl _
        · rw [if_neg b2]
          have := h1.2 (by omega)
          have := h r (j - 1) (by omega) (by omega)
          omega
      · rw [if_neg a2, if_neg (show ¬ j = r by omega)]
        exact h (i - 1) (j - 1) (by omega) (by omega)
  · rw [if_neg q]; exact h
theorem ins_all {K : KS} {w : Wy1} {P : List Nat → Prop} (h : ∀ r, r < K.1 → P (K.2.2 r)) (hw : P w.2) : ∀ r, r < (insK K w).1 → P ((insK K w).2.2 r) := by
  unfold insK
  by_cases q : rkF K.2.1 w.1 K.1 < 5
  · rw [if_pos q]
    have hl := rkF_le K.2.1 w.1 K.1
    generalize rkF K.2.1 w.1 K.1 = k at *
    intro r hr
    have hr' : r < min (K.1 + 1) 5 := hr
    show P (if r < k then K.2.2 r else if r = k then w.2 else K.2.2 (r - 1))
    by_cases a1 : r < k
    · rw [if_pos a1]; exact h r (by omega)
    · rw [if_neg a1]
      by_cases a2 : r = k
      · rw [if_pos a2]; exact hw
      · rw [if_neg a2]; exact h (r - 1) (by omega)
  · rw [if_neg q]; exact h
def lexP (v : Nat → Nat) (e : Nat) (y : List Nat) : Prop := e = 0 ∨ ∃ i, i < e ∧ i < y.length ∧ (∀ j, j < i → nt y j = v j) ∧ nt y i < (if i + 1 < e then v i else oN (v i))
def lexS (v : Nat → Nat) (d : Nat) (y : List Nat) : Prop := ∃ i, i ≤ d ∧ i < y.length ∧ (∀ j, j < i → nt y j = v j) ∧ nt y i < v i
theorem lex_1 {v : Nat → Nat} {d p : Nat} {y : List Nat} (h : lexP v (d + 1) y) (hp : oN (v d) ≤ p) : lexS (va_up v d p) d y := by
  rcases h with h | ⟨i, h1, h2, h3, h4⟩
  · omega
  · refine ⟨i, by omega, h2, fun j hj => ?_, ?_⟩
    · rw [va_up_ne _ _ (by omega)]; exact h3 j hj
    · by_cases e : i = d
      · subst e
        rw [va_up_self]
        rw [if_neg (by omega)] at h4
        omega
      · rw [va_up_ne _ _ e]
        rw [if_pos (by omega)] at h4
        exact h4
theorem lex_2 {v : Nat → Nat} {d : Nat} {y : List Nat} (h : lexS v d y) (hv : ∀ j, j < d → v j < 4294967295) : lexP v d y := by
  by_cases hd : d = 0
  · exact Or.inl hd
  · obtain ⟨i, h1, h2, h3, h4⟩ := h
    right
    by_cases e : i = d
    · subst e
      have hv1 := hv (i - 1) (by omega)
      refine ⟨i - 1, by omega, by omega, fun j hj => h3 j (by omega), ?_⟩
      rw [if_neg (by omega), h3 (i - 1) (by omega), oN, if_neg (by omega)]
      omega
    · have hv1 := hv i (by omega)
      refine ⟨i, by omega, h2, h3, ?_⟩
      by_cases q : i + 1 < d
      · rw [if_pos q]; exact h4
      · rw [if_neg q, oN, if_neg (by omega)]; omega
theorem lex_3 {v : Nat → Nat} {d : Nat} {y : List Nat} (h : lexS v d y) (hv : v d < 4294967295) : lexP v (d + 1) y := by
  obtain ⟨i, h1, h2, h3, h4⟩ := h
  refine Or.inr ⟨i, by omega, h2, h3, ?_⟩
  by_cases q : i + 1 < d + 1
  · rw [if_pos q]; exact h4
  · have : i = d := by omega
    subst this
    rw [if_neg q, oN, if_neg (by omega)]; omega
theorem lex_4 {v : Nat → Nat} {d x : Nat} {y : List Nat} (h : lexS v d y) : lexP (va_up v (d + 1) x) (d + 2) y := by
  obtain ⟨i, h1, h2, h3, h4⟩ := h
  refine Or.inr ⟨i, by omega, h2, fun j hj => ?_, ?_⟩
  · rw [va_up_ne _ _ (by omega)]; exact h3 j hj
  · rw [if_pos (by omega), va_up_ne _ _ (by omega)]; exact h4
theorem tl_skip {f : Nat → List Wy1} {n : Nat} : ∀ k i, i + k ≤ n → (∀ j, i ≤ j → j < i + k → f j = []) → tl f (n - i) i = tl f (n - (i + k)) (i + k) := by
  intro k
  induction k with
  | zero => intro i _ _; rfl
  | succ k ih =>
    intro i h1 h2
    rw [show n - i = (n - (i + 1)) + 1 by omega]
    show f i ++ tl f (n - (i + 1)) (i + 1) = _
    rw [h2 i (Nat.le_refl _) (by omega), List.nil_append, ih (i + 1) (by omega) (fun j hj1 hj2 => h2 j (by omega) (by omega)), show i + 1 + k = i + (k + 1) by omega]
abbrev GS : Type := Nat × (Nat → Nat) × (Nat → Nat) × (Nat → Nat) × (Nat → Nat) × (Nat → Nat) × Nat
section GO
variable (us : Nat → Bool) (bg en sc oh bt : Nat → Nat) (a gl n : Nat)
def rmL (v wv : Nat → Nat) : Nat → List Wy1
  | 0 => []
  | j + 1 => tl (enB us bg en sc oh bt a gl (enE us bg en sc oh bt a gl n (5 - (j + 1))) (pre v j) (wv j)) (n - oN (v j)) (oN (v j)) ++ rmL v wv j
def ms (v : Nat → Nat) : Nat → Nat
  | 0 => 0
  | j + 1 => ms v j + (n + 1 - oN (v j)) * 42 ^ (4 - j)
def gT (d : Nat) (v wv pv cv sv : Nat → Nat) (fv p : Nat) : GS :=
  if p = n then (d, va_up v d p, wv, pv, cv, sv, fv)
  else if en p = gl then (d + 1, va_up v d p, va_up wv (d + 1) (ew (oh p) (sc p) (wv d)), kmP pv (va_up v d p) sv (va_up wv (d + 1) (ew (oh p) (sc p) (wv d)) (d + 1)) fv (d + 1), kmN cv sv (va_up wv (d + 1) (ew (oh p) (sc p) (wv d)) (d + 1)) fv (d + 1), kmS sv (va_up wv (d + 1) (ew (oh p) (sc p) (wv d)) (d + 1)) fv, kpK sv (va_up wv (d + 1) (ew (oh p) (sc p) (wv d)) (d + 1)) fv)
  else if d + 1 < 5 then (d + 1 + 1, va_up (va_up v d p) (d + 1) 4294967295, va_up wv (d + 1) (ew (oh p) (sc p) (wv d)), pv, cv, sv, fv)
  else (d + 1, va_up v d p, va_up wv (d + 1) (ew (oh p) (sc p) (wv d)), pv, cv, sv, fv)
def gN (v : Nat → Nat) (d : Nat) : Nat := nx (okW us bg en bt a (pre v d)) (n - oN (v d)) (oN (v d))
def gS (g : GS) : GS := gT en sc oh gl n (g.1 - 1) g.2.1 g.2.2.1 g.2.2.2.1 g.2.2.2.2.1 g.2.2.2.2.2.1 g.2.2.2.2.2.2 (gN us bg en bt a n g.2.1 (g.1 - 1))
def gR : Nat → GS → GS
  | 0, g => g
  | f + 1, g => if g.1 = 0 then g else gR f (gS us bg en sc oh bt a gl n g)
def gI (FIN : KS) (g : GS) : Prop :=
  g.1 ≤ 5 ∧ (∀ j, j + 1 < g.1 → g.2.1 j < n) ∧ (∀ j, j + 1 = g.1 → g.2.1 j = 4294967295 ∨ g.2.1 j < n) ∧ (∀ j, j < g.1 → g.2.2.1 j ≤ j * 10086400) ∧ (∀ j, g.2.2.2.1 j < 40) ∧ (∀ j, g.2.2.2.2.1 j ≤ 5) ∧ (∀ j, g.2.2.2.2.2.1 j ≤ 60000000) ∧
  ∃ K : KS, rep K g.2.2.2.1 g.2.2.2.2.1 g.2.2.2.2.2.1 g.2.2.2.2.2.2 ∧ srtK K ∧ FIN = (rmL us bg en sc oh bt a gl n g.2.1 g.2.2.1 g.1).foldl insK K ∧ ∀ r, r < K.1 → lexP g.2.1 g.1 (K.2.2 r)
variable {us bg en sc oh bt a gl n}
theorem rmL_s (v wv : Nat → Nat) (j : Nat) : rmL us bg en sc oh bt a gl n v wv (j + 1) = tl (enB us bg en sc oh bt a gl (enE us bg en sc oh bt a gl n (5 - (j + 1))) (pre v j) (wv j)) (n - oN (v j)) (oN (v j)) ++ rmL us bg en sc oh bt a gl n v wv j := rfl
theorem rmL_congr {v w wv wx : Nat → Nat} : ∀ e, (∀ j, j < e → v j = w j) → (∀ j, j < e → wv j = wx j) → rmL us bg en sc oh bt a gl n v wv e = rmL us bg en sc oh bt a gl n w wx e := by
  intro e
  induction e with
  | zero => intro _ _; rfl
  | succ e ih =>
    intro h1 h2
    unfold rmL
    rw [ih (fun j hj => h1 j (by omega)) (fun j hj => h2 j (by omega)), h1 e (by omega), h2 e (by omega), pre_congr e (fun k hk => h1 k (by omega))]
theorem ms_congr {v w : Nat → Nat} : ∀ e, (∀ j, j < e → v j = w j) → ms n v e = ms n w e := by
  intro e
  induction e with
  | zero => intro _; rfl
  | succ e ih =>
    intro h1
    unfold ms
    rw [ih (fun j hj => h1 j (by omega)), h1 e (by omega)]
theorem gT_ms {d : Nat} {v wv pv cv sv : Nat → Nat} {fv p : Nat} (hn : n ≤ 40) (hd : d ≤ 4) (h1 : oN (v d) ≤ p) (h2 : p ≤ n) : ms n (gT en sc oh gl n d v wv pv cv sv fv p).2.1 (gT en sc oh gl n d v wv pv cv sv fv p).1 < ms n v (d + 1) := by
  have hpos : 0 < 42 ^ (4 - d) := Nat.pos_of_ne_zero (by have : ∀ k : Fin 5, 42 ^ (4 - k.val) ≠ 0 := by decide
                                                         exact this ⟨d, by omega⟩)
  have e0 : ms n (va_up v d p) d = ms n v d := ms_congr d (fun j hj => va_up_ne _ _ (by omega))
  have em : ms n v (d + 1) = ms n v d + (n + 1 - oN (v d)) * 42 ^ (4 - d) := rfl
  rw [em]
  have same : p < n → ms n (va_up v d p) (d + 1) + 42 ^ (4 - d) ≤ ms n v d + (n + 1 - oN (v d)) * 42 ^ (4 - d) := by
    intro hp
    show ms n (va_up v d p) d + (n + 1 - oN (va_up v d p d)) * 42 ^ (4 - d) + 42 ^ (4 - d) ≤ _
    rw [e0, va_up_self, oN, if_neg (by omega)]
    have : n + 1 - (p + 1) + 1 ≤ n + 1 - oN (v d) := by omega
    have := Nat.mul_le_mul_right (42 ^ (4 - d)) this
    rw [Nat.add_mul, Nat.one_mul] at this
    omega
  unfold gT
  by_cases q1 : p = n
  · rw [if_pos q1]
    show ms n (va_up v d p) d < _
    rw [e0]
    have : 1 ≤ n + 1 - oN (v d) := by omega
    have := Nat.mul_le_mul_right (42 ^ (4 - d)) this
    rw [Nat.one_mul] at this
    omega
  · have hs := same (by omega)
    rw [if_neg q1]
    by_cases q2 : en p = gl
    · rw [if_pos q2]
      show ms n (va_up v d p) (d + 1) < _
      omega
    · rw [if_neg q2]
      by_cases q3 : d + 1 < 5
      · rw [if_pos q3]
        show ms n (va_up (va_up v d p) (d + 1) 4294967295) (d + 1) + (n + 1 - oN (va_up (va_up v d p) (d + 1) 4294967295 (d + 1))) * 42 ^ (4 - (d + 1)) < _
        rw [ms_congr (w := va_up v d p) (d + 1) (fun j hj => va_up_ne _ _ (by omega)), va_up_self, show oN 4294967295 = 0 from rfl]
        have hp2 : 42 ^ (4 - d) = 42 ^ (4 - (d + 1)) * 42 := by rw [show 4 - d = (4 - (d + 1)) + 1 by omega, Nat.pow_succ]
        have hq : 0 < 42 ^ (4 - (d + 1)) := Nat.pos_of_ne_zero (fun z => by rw [hp2, z] at hpos; omega)
        have : (n + 1 - 0) * 42 ^ (4 - (d + 1)) ≤ 41 * 42 ^ (4 - (d + 1)) := Nat.mul_le_mul_right _ (by omega)
        rw [hp2] at hs
        rw [hp2]
        omega
      · rw [if_neg q3]
        show ms n (va_up v d p) (d + 1) < _
        omega
theorem nt_s {v : Nat → Nat} {d p : Nat} : ∀ k, k < (p :: pre v d).length → va_up v d p k = nt (p :: pre v d) k := by
  intro k hk
  have hk' : k < (pre v d).length + 1 := hk
  rw [pre_len] at hk'
  show _ = if k = (pre v d).length then p else nt (pre v d) k
  rw [pre_len]
  by_cases e : k = d
  · rw [if_pos e, e, va_up_self]
  · rw [if_neg e, va_up_ne _ _ e, nt_pre v d k (by omega)]
theorem up_le {f : Nat → Nat} {B k x : Nat} (h : ∀ j, f j ≤ B) (hx : x ≤ B) : ∀ j, va_up f k x j ≤ B := up_all (p := fun z => z ≤ B) h hx
theorem msh_all {f : Nat → Nat} {p : Nat → Prop} {k c : Nat} (h : ∀ j, p (f j)) : ∀ j, p (msh f k c j) := by
  intro j
  unfold msh
  split
  · exact h _
  · exact h j
theorem kmS_all {rs : Nat → Nat} {p : Nat → Prop} {t rk : Nat} (h : ∀ j, p (rs j)) (ht : p t) : ∀ j, p (kmS rs t rk j) := by
  unfold kmS
  split
  · exact up_all (msh_all h) ht
  · exact h
theorem kmN_all {rn rs : Nat → Nat} {p : Nat → Prop} {t rk len : Nat} (h : ∀ j, p (rn j)) (ht : p len) : ∀ j, p (kmN rn rs t rk len j) := by
  unfold kmN
  split
  · exact up_all (msh_all h) ht
  · exact h
theorem kmP_all {rp tr rs : Nat → Nat} {p : Nat → Prop} {t rk len : Nat} (h : ∀ j, p (rp j)) (ht : ∀ j, j < len → p (tr j)) : ∀ j, p (kmP rp tr rs t rk len j) := by
  unfold kmP
  split
  · intro j
    dsimp only
    by_cases q : 5 * rkF rs t rk ≤ j ∧ j < 5 * rkF rs t rk + len
    · rw [if_pos q]; exact ht _ (by omega)
    · rw [if_neg q]
      unfold mshP
      split
      · exact h _
      · exact h j
  · exact h
theorem gI_step {FIN : KS} {d : Nat} {v wv pv cv sv : Nat → Nat} {fv : Nat} (hn : n ≤ 40) (hg : ∀ i m, i < n → us i = true → m < ew (oh i) (sc i) m ∧ ew (oh i) (sc i) m ≤ m + 10086400) (h : gI us bg en sc oh bt a gl n FIN (d + 1, v, wv, pv, cv, sv, fv)) : gI us bg en sc oh bt a gl n FIN (gS us bg en sc oh bt a gl n (d + 1, v, wv, pv, cv, sv, fv)) := by
  obtain ⟨a1, a2, a3, a4, a5, a6, a7, K, k1, k2, k3, k4⟩ := h
  have a1' : d + 1 ≤ 5 := a1
  have a3' : v d = 4294967295 ∨ v d < n := a3 d rfl
  have a2' : ∀ j, j < d → v j < n := fun j hj => a2 j (by show j + 1 < d + 1; omega)
  have a4' : ∀ j, j < d + 1 → wv j ≤ j * 10086400 := a4
  have hi0 : oN (v d) ≤ n := by
    unfold oN
    split
    · omega
    · rcases a3' with q | q <;> omega
  have k1' : rep K pv cv sv fv := k1
  have k3' : FIN = (rmL us bg en sc oh bt a gl n v wv (d + 1)).foldl insK K := k3
  have k4' : ∀ r, r < K.1 → lexP v (d + 1) (K.2.2 r) := k4
  obtain ⟨p1, p2, p3, p4⟩ := nx_ok (okW us bg en bt a (pre v d)) (n - oN (v d)) (oN (v d))
  have eS : gS us bg en sc oh bt a gl n (d + 1, v, wv, pv, cv, sv, fv) = gT en sc oh gl n d v wv pv cv sv fv (nx (okW us bg en bt a (pre v d)) (n - oN (v d)) (oN (v d))) := rfl
  rw [eS]
  generalize nx (okW us bg en bt a (pre v d)) (n - oN (v d)) (oN (v d)) = p at p1 p2 p3 p4 ⊢
  have hsk : tl (enB us bg en sc oh bt a gl (enE us bg en sc oh bt a gl n (5 - (d + 1))) (pre v d) (wv d)) (n - oN (v d)) (oN (v d)) = tl (enB us bg en sc oh bt a gl (enE us bg en sc oh bt a gl n (5 - (d + 1))) (pre v d) (wv d)) (n - p) p := by
    have := tl_skip (f := enB us bg en sc oh bt a gl (enE us bg en sc oh bt a gl n (5 - (d + 1))) (pre v d) (wv d)) (n := n) (p - oN (v d)) (oN (v d)) (by omega) (fun j hj1 hj2 => by
      unfold enB
      rw [p3 j hj1 (by omega)]
      rfl)
    rw [show oN (v d) + (p - oN (v d)) = p by omega] at this
    exact this
  have hF : FIN = (tl (enB us bg en sc oh bt a gl (enE us bg en sc oh bt a gl n (5 - (d + 1))) (pre v d) (wv d)) (n - p) p ++ rmL us bg en sc oh bt a gl n v wv d).foldl insK K := by
    rw [k3', rmL_s, hsk]
  have hlex : ∀ r, r < K.1 → lexS (va_up v d p) d (K.2.2 r) := fun r hr => lex_1 (k4' r hr) p1
  have hvd : ∀ j, j < d → va_up v d p j < n := fun j hj => by rw [va_up_ne _ _ (by omega)]; exact a2' j hj
  have hpre : pre (va_up v d p) d = pre v d := pre_congr d (fun k hk => va_up_ne _ _ (by omega))
  unfold gT
  by_cases q1 : p = n
  · rw [if_pos q1]
    refine ⟨by show d ≤ 5; omega, fun j hj => hvd j (by have : j + 1 < d := hj; omega), fun j hj => Or.inr (hvd j (by have : j + 1 = d := hj; omega)), fun j hj => a4' j (by have : j < d := hj; omega), a5, a6, a7, K, k1', k2, ?_, fun r hr => lex_2 (hlex r hr) (fun j hj => Nat.lt_trans (hvd j hj) (by omega))⟩
    show FIN = (rmL us bg en sc oh bt a gl n (va_up v d p) wv d).foldl insK K
    rw [hF, rmL_congr (w := v) (wx := wv) d (fun j hj => va_up_ne _ _ (by omega)) (fun j hj => rfl), q1, Nat.sub_self]
    rfl
  · rw [if_neg q1]
    have hpn : p < n := by omega
    have hok := p4 (by omega)
    have hou := (ok_of hok).1
    have hew := hg p (wv d) hpn hou
    have hwd := a4' d (by omega)
    have hstep : tl (enB us bg en sc oh bt a gl (enE us bg en sc oh bt a gl n (5 - (d + 1))) (pre v d) (wv d)) (n - p) p = enB us bg en sc oh bt a gl (enE us bg en sc oh bt a gl n (5 - (d + 1))) (pre v d) (wv d) p ++ tl (enB us bg en sc oh bt a gl (enE us bg en sc oh bt a gl n (5 - (d + 1))) (pre v d) (wv d)) (n - (p + 1)) (p + 1) := by
      rw [show n - p = (n - (p + 1)) + 1 by omega]
      rfl
    have hwv : ∀ j, j < d + 1 → va_up wv (d + 1) (ew (oh p) (sc p) (wv d)) j = wv j := fun j hj => va_up_ne _ _ (by omega)
    have hrm : rmL us bg en sc oh bt a gl n (va_up v d p) (va_up wv (d + 1) (ew (oh p) (sc p) (wv d))) (d + 1) = tl (enB us bg en sc oh bt a gl (enE us bg en sc oh bt a gl n (5 - (d + 1))) (pre v d) (wv d)) (n - (p + 1)) (p + 1) ++ rmL us bg en sc oh bt a gl n v wv d := by
      rw [rmL_s, hpre, hwv d (by omega), va_up_self, rmL_congr (w := v) (wx := wv) d (fun j hj => va_up_ne _ _ (by omega)) (fun j hj => hwv j (by omega)), show oN p = p + 1 from if_neg (by omega)]
    have hvdd : va_up v d p d < 4294967295 := by rw [va_up_self]; omega
    have hvn : ∀ j, j < d + 1 → va_up v d p j < n := fun j hj => by
      by_cases e : j = d
      · subst e; rw [va_up_self]; exact hpn
      · exact hvd j (by omega)
    have htm : ∀ j, j < d + 2 → va_up wv (d + 1) (ew (oh p) (sc p) (wv d)) j ≤ j * 10086400 := fun j hj => by
      by_cases e : j = d + 1
      · subst e; rw [va_up_self]; omega
      · rw [va_up_ne _ _ e]; exact a4' j (by omega)
    have hwl : (p :: pre v d).length = d + 1 := by show (pre v d).length + 1 = d + 1; rw [pre_len]
    by_cases q2 : en p = gl
    · rw [if_pos q2, va_up_self]
      have hF2 : FIN = (tl (enB us bg en sc oh bt a gl (enE us bg en sc oh bt a gl n (5 - (d + 1))) (pre v d) (wv d)) (n - (p + 1)) (p + 1) ++ rmL us bg en sc oh bt a gl n v wv d).foldl insK (insK K (ew (oh p) (sc p) (wv d), p :: pre v d)) := by
        rw [hF, hstep]
        have : enB us bg en sc oh bt a gl (enE us bg en sc oh bt a gl n (5 - (d + 1))) (pre v d) (wv d) p = [(ew (oh p) (sc p) (wv d), p :: pre v d)] := by
          unfold enB
          rw [if_pos hok, if_pos q2]
        rw [this]
        rfl
      have hr := rep_mod (s := ew (oh p) (sc p) (wv d)) (tr := va_up v d p) k1' (by rw [hwl]; exact a1') nt_s
      rw [hwl] at hr
      refine ⟨a1', fun j hj => hvn j (by have : j + 1 < d + 1 := hj; omega), fun j hj => Or.inr (hvn j (by have : j + 1 = d + 1 := hj; omega)), fun j hj => htm j (by have : j < d + 1 := hj; omega), kmP_all (p := fun z => z < 40) a5 (fun j hj => by have := hvn j hj; omega), kmN_all (p := fun z => z ≤ 5) a6 a1', kmS_all (p := fun z => z ≤ 60000000) a7 (by omega), insK K (ew (oh p) (sc p) (wv d), p :: pre v d), hr, ins_srt k2, ?_, ?_⟩
      · show FIN = (rmL us bg en sc oh bt a gl n (va_up v d p) (va_up wv (d + 1) (ew (oh p) (sc p) (wv d))) (d + 1)).foldl insK _
        rw [hrm]
        exact hF2
      · refine ins_all (P := lexP (va_up v d p) (d + 1)) (fun r hr => lex_3 (hlex r hr) hvdd) (Or.inr ⟨d, by omega, by rw [hwl]; omega, fun j hj => ?_, ?_⟩)
        · exact (nt_s j (by rw [hwl]; omega)).symm
        · rw [if_neg (by omega), va_up_self, ← nt_s d (by rw [hwl]; omega), va_up_self, oN, if_neg (by omega)]
          omega
    · rw [if_neg q2]
      have hbody : enB us bg en sc oh bt a gl (enE us bg en sc oh bt a gl n (5 - (d + 1))) (pre v d) (wv d) p = enE us bg en sc oh bt a gl n (5 - (d + 1)) (p :: pre v d) (ew (oh p) (sc p) (wv d)) := by
        unfold enB
        rw [if_pos hok, if_neg q2]
      rw [hstep, hbody] at hF
      by_cases q3 : d + 1 < 5
      · rw [if_pos q3]
        refine ⟨by show d + 1 + 1 ≤ 5; omega, fun j hj => ?_, fun j hj => ?_, fun j hj => htm j hj, a5, a6, a7, K, k1', k2, ?_, fun r hr => lex_4 (hlex r hr)⟩
        · have hj' : j + 1 < d + 1 + 1 := hj
          show va_up (va_up v d p) (d + 1) 4294967295 j < n
          rw [va_up_ne _ _ (by omega)]
          exact hvn j (by omega)
        · have hj' : j + 1 = d + 1 + 1 := hj
          have : j = d + 1 := by omega
          subst this
          left
          exact va_up_self _ _ _
        · show FIN = (rmL us bg en sc oh bt a gl n (va_up (va_up v d p) (d + 1) 4294967295) (va_up wv (d + 1) (ew (oh p) (sc p) (wv d))) (d + 1 + 1)).foldl insK K
          have e1 : rmL us bg en sc oh bt a gl n (va_up (va_up v d p) (d + 1) 4294967295) (va_up wv (d + 1) (ew (oh p) (sc p) (wv d))) (d + 1 + 1) = tl (enB us bg en sc oh bt a gl (enE us bg en sc oh bt a gl n (5 - (d + 1 + 1))) (p :: pre v d) (ew (oh p) (sc p) (wv d))) n 0 ++ (tl (enB us bg en sc oh bt a gl (enE us bg en sc oh bt a gl n (5 - (d + 1))) (pre v d) (wv d)) (n - (p + 1)) (p + 1) ++ rmL us bg en sc oh bt a gl n v wv d) := by
            show tl (enB us bg en sc oh bt a gl (enE us bg en sc oh bt a gl n (5 - (d + 1 + 1))) (pre (va_up (va_up v d p) (d + 1) 4294967295) (d + 1)) (va_up wv (d + 1) (ew (oh p) (sc p) (wv d)) (d + 1))) (n - oN (va_up (va_up v d p) (d + 1) 4294967295 (d + 1))) (oN (va_up (va_up v d p) (d + 1) 4294967295 (d + 1))) ++ rmL us bg en sc oh bt a gl n (va_up (va_up v d p) (d + 1) 4294967295) (va_up wv (d + 1) (ew (oh p) (sc p) (wv d))) (d + 1) = _
            rw [rmL_congr (w := va_up v d p) (wx := va_up wv (d + 1) (ew (oh p) (sc p) (wv d))) (d + 1) (fun j hj => va_up_ne _ _ (by omega)) (fun j hj => rfl), hrm, va_up_self, va_up_self, show oN 4294967295 = 0 from rfl, Nat.sub_zero, pre_congr (w := va_up v d p) (d + 1) (fun k hk => va_up_ne _ _ (by omega))]
            have e2 : pre (va_up v d p) (d + 1) = p :: pre v d := by
              show va_up v d p d :: pre (va_up v d p) d = _
              rw [va_up_self, hpre]
            rw [e2]
          rw [e1, hF]
          have e3 : enE us bg en sc oh bt a gl n (5 - (d + 1)) (p :: pre v d) (ew (oh p) (sc p) (wv d)) = tl (enB us bg en sc oh bt a gl (enE us bg en sc oh bt a gl n (5 - (d + 1 + 1))) (p :: pre v d) (ew (oh p) (sc p) (wv d))) n 0 := by
            rw [show 5 - (d + 1) = (5 - (d + 1 + 1)) + 1 by omega]
            show hd _ n = _
            have := hd_tl (enB us bg en sc oh bt a gl (enE us bg en sc oh bt a gl n (5 - (d + 1 + 1))) (p :: pre v d) (ew (oh p) (sc p) (wv d))) n 0
            rw [Nat.zero_add] at this
            rw [← this]
            rfl
          rw [e3, List.append_assoc]
      · rw [if_neg q3]
        refine ⟨a1', fun j hj => hvn j (by have : j + 1 < d + 1 := hj; omega), fun j hj => Or.inr (hvn j (by have : j + 1 = d + 1 := hj; omega)), fun j hj => htm j (by have : j < d + 1 := hj; omega), a5, a6, a7, K, k1', k2, ?_, fun r hr => lex_3 (hlex r hr) hvdd⟩
        show FIN = (rmL us bg en sc oh bt a gl n (va_up v d p) (va_up wv (d + 1) (ew (oh p) (sc p) (wv d))) (d + 1)).foldl insK K
        rw [hrm, hF, show 5 - (d + 1) = 0 by omega]
        rfl
end GO
section GJ
variable (us : Nat → Bool) (bg en sc oh bt : Nat → Nat) (a gl n : Nat)
def gJ (FIN : KS) (F : Nat) (g0 g : GS) : Prop := gI us bg en sc oh bt a gl n FIN g ∧ ∃ f, ms n g.2.1 g.1 < f ∧ gR us bg en sc oh bt a gl n F g0 = gR us bg en sc oh bt a gl n f g
def goK : KS := (enE us bg en sc oh bt a gl n 5 [] 0).foldl insK (0, fun _ => 0, fun _ => [])
def goW (on wh bp bc bs : Nat → Nat) : GS := gR us bg en sc oh bt a gl n (ms n (va_up on 0 4294967295) 1 + 1) (1, va_up on 0 4294967295, va_up wh 0 0, bp, bc, bs, 0)
variable {us bg en sc oh bt a gl n}
theorem gI_init {on wh bp bc bs : Nat → Nat} (h1 : ∀ j, bp j < 40) (h2 : ∀ j, bc j ≤ 5) (h3 : ∀ j, bs j ≤ 60000000) : gI us bg en sc oh bt a gl n (goK us bg en sc oh bt a gl n) (1, va_up on 0 4294967295, va_up wh 0 0, bp, bc, bs, 0) := by
  refine ⟨by show 1 ≤ 5; omega, fun j hj => ?_, fun j hj => ?_, fun j hj => ?_, h1, h2, h3, (0, fun _ => 0, fun _ => []), ⟨rfl, by show 0 ≤ 5; omega, fun r hr => absurd hr (Nat.not_lt_zero _)⟩, fun i j _ hj => absurd hj (Nat.not_lt_zero _), ?_, fun r hr => absurd hr (Nat.not_lt_zero _)⟩
  · have : j + 1 < 1 := hj; omega
  · have hj' : j + 1 = 1 := hj
    have : j = 0 := by omega
    subst this
    exact Or.inl (show va_up on 0 4294967295 0 = 4294967295 from va_up_self _ _ _)
  · have hj' : j < 1 := hj
    have : j = 0 := by omega
    subst this
    show va_up wh 0 0 0 ≤ _
    rw [va_up_self]; exact Nat.zero_le _
  · show goK us bg en sc oh bt a gl n = (tl (enB us bg en sc oh bt a gl (enE us bg en sc oh bt a gl n 4) [] (va_up wh 0 0 0)) (n - oN (va_up on 0 4294967295 0)) (oN (va_up on 0 4294967295 0)) ++ []).foldl insK _
    rw [va_up_self, va_up_self, List.append_nil, show oN 4294967295 = 0 from rfl, Nat.sub_zero]
    have := hd_tl (enB us bg en sc oh bt a gl (enE us bg en sc oh bt a gl n 4) [] 0) n 0
    rw [Nat.zero_add] at this
    have e : tl (enB us bg en sc oh bt a gl (enE us bg en sc oh bt a gl n 4) [] 0) n 0 = enE us bg en sc oh bt a gl n 5 [] 0 := this
    rw [e]
    rfl
theorem gJ_init {on wh bp bc bs : Nat → Nat} (h1 : ∀ j, bp j < 40) (h2 : ∀ j, bc j ≤ 5) (h3 : ∀ j, bs j ≤ 60000000) : gJ us bg en sc oh bt a gl n (goK us bg en sc oh bt a gl n) (ms n (va_up on 0 4294967295) 1 + 1) (1, va_up on 0 4294967295, va_up wh 0 0, bp, bc, bs, 0) (0 + 1, va_up on 0 4294967295, va_up wh 0 0, bp, bc, bs, 0) :=
  ⟨gI_init h1 h2 h3, _, Nat.lt_succ_self _, rfl⟩
theorem gR_step {f : Nat} {g : GS} (h : g.1 ≠ 0) (hf : 0 < f) : gR us bg en sc oh bt a gl n f g = gR us bg en sc oh bt a gl n (f - 1) (gS us bg en sc oh bt a gl n g) := by
  obtain ⟨f, rfl⟩ : ∃ k, f = k + 1 := ⟨f - 1, by omega⟩
  show (if g.1 = 0 then g else gR us bg en sc oh bt a gl n f (gS us bg en sc oh bt a gl n g)) = _
  rw [if_neg h]
  rfl
theorem gN_le {FIN : KS} {d : Nat} {v wv pv cv sv : Nat → Nat} {fv : Nat} (h : gI us bg en sc oh bt a gl n FIN (d + 1, v, wv, pv, cv, sv, fv)) (hn : n ≤ 40) : d ≤ 4 ∧ oN (v d) ≤ n ∧ oN (v d) ≤ gN us bg en bt a n v d ∧ gN us bg en bt a n v d ≤ n := by
  have h1 : d + 1 ≤ 5 := h.1
  have h3 : v d = 4294967295 ∨ v d < n := h.2.2.1 d rfl
  have hi0 : oN (v d) ≤ n := by
    unfold oN
    split
    · omega
    · rcases h3 with q | q <;> omega
  obtain ⟨p1, p2, -, -⟩ := nx_ok (okW us bg en bt a (pre v d)) (n - oN (v d)) (oN (v d))
  exact ⟨by omega, hi0, p1, by unfold gN; omega⟩
theorem gJ_s {FIN : KS} {F : Nat} {g0 : GS} {d p : Nat} {v wv pv cv sv : Nat → Nat} {fv : Nat} (hn : n ≤ 40) (hg : ∀ i m, i < n → us i = true → m < ew (oh i) (sc i) m ∧ ew (oh i) (sc i) m ≤ m + 10086400) (h : gJ us bg en sc oh bt a gl n FIN F g0 (d + 1, v, wv, pv, cv, sv, fv)) (hp : gN us bg en bt a n v d = p) : gJ us bg en sc oh bt a gl n FIN F g0 (gT en sc oh gl n d v wv pv cv sv fv p) := by
  obtain ⟨h1, f, h2, h3⟩ := h
  have e : gS us bg en sc oh bt a gl n (d + 1, v, wv, pv, cv, sv, fv) = gT en sc oh gl n d v wv pv cv sv fv p := by
    show gT en sc oh gl n d v wv pv cv sv fv (gN us bg en bt a n v d) = _
    rw [hp]
  obtain ⟨b1, b2, b3, b4⟩ := gN_le h1 hn
  rw [hp] at b3 b4
  have hm := gT_ms (en := en) (sc := sc) (oh := oh) (gl := gl) (wv := wv) (pv := pv) (cv := cv) (sv := sv) (fv := fv) hn b1 b3 b4
  refine ⟨by rw [← e]; exact gI_step hn hg h1, f - 1, ?_, ?_⟩
  · have h2' : ms n v (d + 1) < f := h2
    omega
  · rw [h3, gR_step (by show d + 1 ≠ 0; omega) (by omega), e]
theorem gJ_m {FIN : KS} {F : Nat} {g0 : GS} {d p : Nat} {v wv pv cv sv : Nat → Nat} {fv : Nat} (hn : n ≤ 40) (h : gJ us bg en sc oh bt a gl n FIN F g0 (d + 1, v, wv, pv, cv, sv, fv)) (hp : gN us bg en bt a n v d = p) : ms n (gT en sc oh gl n d v wv pv cv sv fv p).2.1 (gT en sc oh gl n d v wv pv cv sv fv p).1 < ms n v (d + 1) := by
  obtain ⟨b1, b2, b3, b4⟩ := gN_le h.1 hn
  rw [hp] at b3 b4
  exact gT_ms hn b1 b3 b4
theorem gJ_end {FIN : KS} {F : Nat} {g0 g : GS} (h : gJ us bg en sc oh bt a gl n FIN F g0 g) (h0 : g.1 = 0) : gR us bg en sc oh bt a gl n F g0 = g := by
  obtain ⟨_, f, h2, h3⟩ := h
  rw [h3]
  obtain ⟨f, rfl⟩ : ∃ k, f = k + 1 := ⟨f - 1, by omega⟩
  exact if_pos h0
theorem gR_I {FIN : KS} (hn : n ≤ 40) (hg : ∀ i m, i < n → us i = true → m < ew (oh i) (sc i) m ∧ ew (oh i) (sc i) m ≤ m + 10086400) : ∀ f g, gI us bg en sc oh bt a gl n FIN g → ms n g.2.1 g.1 < f → gI us bg en sc oh bt a gl n FIN (gR us bg en sc oh bt a gl n f g) ∧ (gR us bg en sc oh bt a gl n f g).1 = 0 := by
  intro f
  induction f with
  | zero => intro g _ h; omega
  | succ f ih =>
    intro g h1 h2
    by_cases q : g.1 = 0
    · have e : gR us bg en sc oh bt a gl n (f + 1) g = g := if_pos q
      rw [e]; exact ⟨h1, q⟩
    · have e : gR us bg en sc oh bt a gl n (f + 1) g = gR us bg en sc oh bt a gl n f (gS us bg en sc oh bt a gl n g) := if_neg q
      rw [e]
      obtain ⟨e0, v, wv, pv, cv, sv, fv⟩ := g
      obtain ⟨d, rfl⟩ : ∃ k, e0 = k + 1 := ⟨e0 - 1, by have : e0 ≠ 0 := q; omega⟩
      obtain ⟨b1, b2, b3, b4⟩ := gN_le h1 hn
      refine ih _ (gI_step hn hg h1) ?_
      have hm := gT_ms (en := en) (sc := sc) (oh := oh) (gl := gl) (wv := wv) (pv := pv) (cv := cv) (sv := sv) (fv := fv) hn b1 b3 b4
      have h2' : ms n v (d + 1) < f + 1 := h2
      show ms n (gT en sc oh gl n d v wv pv cv sv fv (gN us bg en bt a n v d)).2.1 (gT en sc oh gl n d v wv pv cv sv fv (gN us bg en bt a n v d)).1 < f
      omega
theorem goW_ok {on wh bp bc bs : Nat → Nat} (hn : n ≤ 40) (hg : ∀ i m, i < n → us i = true → m < ew (oh i) (sc i) m ∧ ew (oh i) (sc i) m ≤ m + 10086400) (h1 : ∀ j, bp j < 40) (h2 : ∀ j, bc j ≤ 5) (h3 : ∀ j, bs j ≤ 60000000) :
    rep (goK us bg en sc oh bt a gl n) (goW us bg en sc oh bt a gl n on wh bp bc bs).2.2.2.1 (goW us bg en sc oh bt a gl n on wh bp bc bs).2.2.2.2.1 (goW us bg en sc oh bt a gl n on wh bp bc bs).2.2.2.2.2.1 (goW us bg en sc oh bt a gl n on wh bp bc bs).2.2.2.2.2.2 ∧
    (∀ j, (goW us bg en sc oh bt a gl n on wh bp bc bs).2.2.2.1 j < 40) ∧ (∀ j, (goW us bg en sc oh bt a gl n on wh bp bc bs).2.2.2.2.1 j ≤ 5) ∧ (∀ j, (goW us bg en sc oh bt a gl n on wh bp bc bs).2.2.2.2.2.1 j ≤ 60000000) := by
  obtain ⟨i1, i2⟩ := gR_I (FIN := goK us bg en sc oh bt a gl n) hn hg (ms n (va_up on 0 4294967295) 1 + 1) _ (gI_init (on := on) (wh := wh) h1 h2 h3) (Nat.lt_succ_self _)
  have e : goW us bg en sc oh bt a gl n on wh bp bc bs = gR us bg en sc oh bt a gl n (ms n (va_up on 0 4294967295) 1 + 1) (1, va_up on 0 4294967295, va_up wh 0 0, bp, bc, bs, 0) := by unfold goW; rfl
  rw [e]
  generalize gR us bg en sc oh bt a gl n (ms n (va_up on 0 4294967295) 1 + 1) (1, va_up on 0 4294967295, va_up wh 0 0, bp, bc, bs, 0) = g at i1 i2 ⊢
  obtain ⟨a1, a2, a3, a4, a5, a6, a7, K, k1, k2, k3, k4⟩ := i1
  rw [i2] at k3
  have k5 : goK us bg en sc oh bt a gl n = K := k3
  exact ⟨by rw [k5]; exact k1, a5, a6, a7⟩
theorem gI_keep {FIN : KS} {d p : Nat} {v wv pv cv sv : Nat → Nat} {fv : Nat} (h : gI us bg en sc oh bt a gl n FIN (d + 1, v, wv, pv, cv, sv, fv)) (hp : oN (v d) ≤ p) :
    fv ≤ 5 ∧ (∀ i j, i ≤ j → j < fv → sv i ≤ sv j) ∧ ∀ r, r < fv → ∃ i, i < d + 1 ∧ i < cv r ∧ (∀ j, j < i → va_up v d p j = pv (5 * r + j)) ∧ pv (5 * r + i) < va_up v d p i := by
  obtain ⟨a1, a2, a3, a4, a5, a6, a7, K, k1, k2, k3, k4⟩ := h
  obtain ⟨r1, r2, r3⟩ := k1
  have r1' : fv = K.1 := r1
  have r3' : ∀ r, r < K.1 → sv r = K.2.1 r ∧ cv r = (K.2.2 r).length ∧ (K.2.2 r).length ≤ 5 ∧ ∀ k, k < (K.2.2 r).length → pv (5 * r + k) = nt (K.2.2 r) k := r3
  refine ⟨by omega, fun i j hij hj => ?_, fun r hr => ?_⟩
  · rw [(r3' i (by omega)).1, (r3' j (by omega)).1]
    exact k2 i j hij (by omega)
  · obtain ⟨g1, g2, g3, g4⟩ := r3' r (by omega)
    obtain ⟨i, l1, l2, l3, l4⟩ := lex_1 (p := p) (k4 r (by omega)) hp
    refine ⟨i, by omega, by omega, fun j hj => ?_, ?_⟩
    · rw [g4 j (by omega)]; exact (l3 j hj).symm
    · rw [g4 i (by omega)]; exact l4
theorem gT_1 {d p : Nat} {v wv pv cv sv : Nat → Nat} {fv : Nat} (h : p = n) : gT en sc oh gl n d v wv pv cv sv fv p = (d, va_up v d p, wv, pv, cv, sv, fv) := if_pos h
theorem gT_2 {d p : Nat} {v wv pv cv sv : Nat → Nat} {fv : Nat} (h : ¬ p = n) (h2 : en p = gl) : gT en sc oh gl n d v wv pv cv sv fv p = (d + 1, va_up v d p, va_up wv (d + 1) (ew (oh p) (sc p) (wv d)), kmP pv (va_up v d p) sv (va_up wv (d + 1) (ew (oh p) (sc p) (wv d)) (d + 1)) fv (d + 1), kmN cv sv (va_up wv (d + 1) (ew (oh p) (sc p) (wv d)) (d + 1)) fv (d + 1), kmS sv (va_up wv (d + 1) (ew (oh p) (sc p) (wv d)) (d + 1)) fv, kpK sv (va_up wv (d + 1) (ew (oh p) (sc p) (wv d)) (d + 1)) fv) := by rw [gT, if_neg h, if_pos h2]
theorem gT_3 {d p : Nat} {v wv pv cv sv : Nat → Nat} {fv : Nat} (h : ¬ p = n) (h2 : ¬ en p = gl) (h3 : ¬ 5 ≤ d + 1) : gT en sc oh gl n d v wv pv cv sv fv p = (d + 1 + 1, va_up (va_up v d p) (d + 1) 4294967295, va_up wv (d + 1) (ew (oh p) (sc p) (wv d)), pv, cv, sv, fv) := by rw [gT, if_neg h, if_neg h2, if_pos (by omega)]
theorem gT_4 {d p : Nat} {v wv pv cv sv : Nat → Nat} {fv : Nat} (h : ¬ p = n) (h2 : ¬ en p = gl) (h3 : 5 ≤ d + 1) : gT en sc oh gl n d v wv pv cv sv fv p = (d + 1, va_up v d p, va_up wv (d + 1) (ew (oh p) (sc p) (wv d)), pv, cv, sv, fv) := by rw [gT, if_neg h, if_neg h2, if_neg (by omega)]
end GJ
theorem D_s (d : Nat) : nI (d + 1) - nI 1 = nI d := by rw [pk_sub (by omega)]; rfl
theorem de_of {e : Nat} (h : ¬ nI e - nI 1 < 0) : ∃ d, e = d + 1 := by
  cases e with
  | zero => exact absurd (by decide) h
  | succ d => exact ⟨d, rfl⟩
theorem d0_of {e : Nat} (he : e ≤ 5) (h : nI e - nI 1 < 0) : e = 0 := by
  cases e with
  | zero => rfl
  | succ d =>
    rw [D_s, Int32.lt_iff_toInt_lt, nI_toInt (by omega), Int32.toInt_zero] at h
    omega
theorem on_s (v : Nat) : nI (v + 1) = nI (oN v) := by
  unfold oN
  split
  · rename_i h; subst h; decide
  · rfl
section RowsD
variable {p : Program} {l : Launch} {e : Env} {R : Room} {s : State} {m : MethodId} {args : Array Value} {below : List Frame} {meth : Method} {c : Code} {H : Heap} {locs : List Loc} {cells slots : Nat} {Q : State → Prop}
variable {cc : ByteArray} {pc : Nat} {ls : Array Slot} {rest : List Value}
theorem rn_iincD (hexec : p.tables.exec = Jvm.exec) (hb : c.code = cc) {i nL k x : Nat} {lv lv' : List (Nat × Value)} (hdg : decode cc pc = .ok (.iinc i (-1), 3)) (h : lv_has ls nL lv) (hk : lv[k]? = some (i, .int (nI x))) (hn : i < nL) (hl : (i, Value.int (nI x - nI 1)) :: lv.filter (fun q => !(q.1 == i) && !(q.1 + 1 == i && q.2.category == 2)) = lv')
    (kk : ∀ ls', lv_has ls' nL lv' → W p l e R s m args below meth c H locs cells slots Q (F0 m (pc + 3) ls' rest)) : W p l e R s m args below meth c H locs cells slots Q (F0 m pc ls rest) :=
  lv_iinc hexec hb hdg h hk (show nI x + Int32.ofInt (-1) = nI x - nI 1 from by rw [Int32.sub_eq_add_neg]; congr 1) hn hl kk
end RowsD
