/-! ===== ways of few pieces, one behind the other: what both keep of them ===== -/
def nt : List Nat → Nat → Nat
  | [], _ => 0
  | x :: p, k => if k = p.length then x else nt p k
def pre (v : Nat → Nat) : Nat → List Nat
  | 0 => []
  | d + 1 => v d :: pre v d
theorem pre_len (v : Nat → Nat) : ∀ d, (pre v d).length = d := by
  intro d
  induction d with
  | zero => rfl
  | succ d ih => show (pre v d).length + 1 = d + 1; rw [ih]
theorem nt_pre (v : Nat → Nat) : ∀ d k, k < d → nt (pre v d) k = v k := by
  intro d
  induction d with
  | zero => intro k h; omega
  | succ d ih =>
    intro k h
    show (if k = (pre v d).length then v d else nt (pre v d) k) = v k
    rw [pre_len]
    by_cases e : k = d
    · rw [if_pos e, e]
    · rw [if_neg e, ih k (by omega)]
theorem pre_congr {v w : Nat → Nat} : ∀ d, (∀ k, k < d → v k = w k) → pre v d = pre w d := by
  intro d
  induction d with
  | zero => intro _; rfl
  | succ d ih =>
    intro h
    show v d :: pre v d = w d :: pre w d
    rw [h d (by omega), ih (fun k hk => h k (by omega))]
def plc (en : Nat → Nat) (a : Nat) : List Nat → Nat
  | [] => a
  | x :: _ => en x
def snB (en : Nat → Nat) (a : Nat) (p : List Nat) (pl : Nat) : Bool := decide (pl = a) || p.any (fun x => decide (en x = pl))
def brB (bt : Nat → Nat) (p : List Nat) (i : Nat) : Bool := match p with
  | [] => false
  | x :: _ => (bt x).testBit i
def okW (us : Nat → Bool) (bg en bt : Nat → Nat) (a : Nat) (p : List Nat) (i : Nat) : Bool := us i && (decide (bg i = plc en a p) && (!snB en a p (en i) && !brB bt p i))
theorem ok_of {us : Nat → Bool} {bg en bt : Nat → Nat} {a : Nat} {p : List Nat} {i : Nat} (h : okW us bg en bt a p i = true) : us i = true ∧ bg i = plc en a p ∧ snB en a p (en i) = false ∧ brB bt p i = false := by
  simpa [okW] using h
abbrev Wy1 : Type := Nat × List Nat
abbrev KS : Type := Nat × (Nat → Nat) × (Nat → List Nat)
def hd (f : Nat → List Wy1) : Nat → List Wy1
  | 0 => []
  | k + 1 => hd f k ++ f k
def tl (f : Nat → List Wy1) : Nat → Nat → List Wy1
  | 0, _ => []
  | c + 1, i => f i ++ tl f c (i + 1)
theorem hd_tl (f : Nat → List Wy1) : ∀ c i, hd f i ++ tl f c i = hd f (i + c) := by
  intro c
  induction c with
  | zero => intro i; show hd f i ++ [] = _; rw [List.append_nil]; rfl
  | succ c ih =>
    intro i
    show hd f i ++ (f i ++ tl f c (i + 1)) = hd f (i + (c + 1))
    rw [← List.append_assoc, show i + (c + 1) = i + 1 + c by omega]
    exact ih (i + 1)
def enB (us : Nat → Bool) (bg en sc oh bt : Nat → Nat) (a gl : Nat) (f : List Nat → Nat → List Wy1) (p : List Nat) (m i : Nat) : List Wy1 :=
  if okW us bg en bt a p i = true then (if en i = gl then [(ew (oh i) (sc i) m, i :: p)] else f (i :: p) (ew (oh i) (sc i) m)) else []
def enE (us : Nat → Bool) (bg en sc oh bt : Nat → Nat) (a gl n : Nat) : Nat → List Nat → Nat → List Wy1
  | 0, _, _ => []
  | d + 1, p, m => hd (enB us bg en sc oh bt a gl (enE us bg en sc oh bt a gl n d) p m) n
def insK (K : KS) (w : Wy1) : KS :=
  if rkF K.2.1 w.1 K.1 < 5 then (min (K.1 + 1) 5, (fun j => if j < rkF K.2.1 w.1 K.1 then K.2.1 j else if j = rkF K.2.1 w.1 K.1 then w.1 else K.2.1 (j - 1)), (fun j => if j < rkF K.2.1 w.1 K.1 then K.2.2 j else if j = rkF K.2.1 w.1 K.1 then w.2 else K.2.2 (j - 1))) else K
def rep (K : KS) (rp rn rs : Nat → Nat) (rk : Nat) : Prop :=
  rk = K.1 ∧ K.1 ≤ 5 ∧ ∀ r, r < K.1 → rs r = K.2.1 r ∧ rn r = (K.2.2 r).length ∧ (K.2.2 r).length ≤ 5 ∧ ∀ k, k < (K.2.2 r).length → rp (5 * r + k) = nt (K.2.2 r) k
theorem ffi_congr {p q : Nat → Bool} : ∀ c, (∀ r, r < c → p r = q r) → ffi p c = ffi q c := by
  intro c
  induction c with
  | zero => intro _; rfl
  | succ c ih =>
    intro h
    unfold ffi
    rw [ih (fun r hr => h r (by omega)), h c (by omega)]
theorem rkF_congr {f g : Nat → Nat} {t c : Nat} (h : ∀ r, r < c → f r = g r) : rkF f t c = rkF g t c := by
  unfold rkF
  rw [ffi_congr c (fun r hr => by rw [h r hr])]
theorem rkF_ok (f : Nat → Nat) (t c : Nat) : (∀ r, r < rkF f t c → f r ≤ t) ∧ (rkF f t c < c → t < f (rkF f t c)) := by
  unfold rkF
  have h := ffi_ok (p := fun r => decide (t < f r)) c
  cases e : ffi (fun r => decide (t < f r)) c with
  | none =>
    refine ⟨fun r hr => ?_, fun q => absurd q (Nat.lt_irrefl _)⟩
    have := of_decide_eq_false (h.2 e r hr)
    omega
  | some i =>
    obtain ⟨h1, h2, h3⟩ := h.1 i e
    refine ⟨fun r hr => ?_, fun _ => of_decide_eq_true h2⟩
    have := of_decide_eq_false (h3 r hr)
    omega
theorem rkF_eq {f : Nat → Nat} {t c k : Nat} (hk : k ≤ c) (h1 : ∀ r, r < k → f r ≤ t) (h2 : k < c → t < f k) : rkF f t c = k := by
  have h := rkF_ok f t c
  have hl := rkF_le f t c
  rcases Nat.lt_trichotomy (rkF f t c) k with q | q | q
  · have := h.2 (by omega)
    have := h1 _ q
    omega
  · exact q
  · have := h.1 k q
    have := h2 (by omega)
    omega
theorem rkF_mono {f : Nat → Nat} {e t c : Nat} (h : e ≤ t) : rkF f e c ≤ rkF f t c := by
  have h1 := rkF_ok f e c
  have h2 := rkF_ok f t c
  have hl := rkF_le f e c
  by_cases q : rkF f e c ≤ rkF f t c
  · exact q
  · have a := h1.1 (rkF f t c) (by omega)
    have b := h2.2 (by omega)
    omega
theorem rep_cls {K : KS} {rp rn rs tr : Nat → Nat} {rk s : Nat} {w : List Nat} (h : rep K rp rn rs rk) (hw : w.length ≤ 5) (ht : ∀ k, k < w.length → tr k = nt w k) : rep (insK K (s, w)) (kpP rp tr rs s rk w.length) (kpN rn rs s rk w.length) (kpS rs s rk) (kpK rs s rk) := by
  obtain ⟨h0, h1, h2⟩ := h
  subst h0
  have er : rkF rs s K.1 = rkF K.2.1 s K.1 := rkF_congr (fun r hr => (h2 r hr).1)
  have hle := rkF_le K.2.1 s K.1
  unfold kpP kpN kpS kpK insK
  rw [er]
  by_cases q : rkF K.2.1 s K.1 < 5
  · rw [if_pos q, if_pos q, if_pos q, if_pos q, if_pos q]
    generalize rkF K.2.1 s K.1 = r at hle q ⊢
    refine ⟨rfl, Nat.min_le_right _ _, fun j hj => ?_⟩
    have hj' : j < K.1 + 1 ∧ j < 5 := by
      have : j < min (K.1 + 1) 5 := hj
      omega
    show va_up (shF rs r) r s j = (if j < r then K.2.1 j else if j = r then s else K.2.1 (j - 1)) ∧ va_up (shF rn r) r w.length j = (if j < r then K.2.2 j else if j = r then w else K.2.2 (j - 1)).length ∧ (if j < r then K.2.2 j else if j = r then w else K.2.2 (j - 1)).length ≤ 5 ∧ ∀ k, k < (if j < r then K.2.2 j else if j = r then w else K.2.2 (j - 1)).length → va_cpy tr (shP rp r) 0 (r * 5) w.length (5 * j + k) = nt (if j < r then K.2.2 j else if j = r then w else K.2.2 (j - 1)) k
    by_cases e1 : j < r
    · have := h2 j (by omega)
      rw [if_pos e1, if_pos e1, va_up_ne _ _ (by omega), va_up_ne _ _ (by omega)]
      refine ⟨?_, ?_, this.2.2.1, fun k hk => ?_⟩
      · rw [shF, if_neg (by omega)]; exact this.1
      · rw [shF, if_neg (by omega)]; exact this.2.1
      · rw [va_cpy, if_neg (by omega), shP, if_neg (by omega)]; exact this.2.2.2 k hk
    · by_cases e2 : j = r
      · subst e2
        rw [if_neg e1, if_neg e1, if_pos rfl, if_pos rfl, va_up_self, va_up_self]
        refine ⟨rfl, rfl, hw, fun k hk => ?_⟩
        rw [va_cpy, if_pos (by omega), show 0 + (5 * j + k - j * 5) = k by omega]
        exact ht k hk
      · have := h2 (j - 1) (by omega)
        rw [if_neg e1, if_neg e1, if_neg e2, if_neg e2, va_up_ne _ _ e2, va_up_ne _ _ e2]
        refine ⟨?_, ?_, this.2.2.1, fun k hk => ?_⟩
        · rw [shF, if_pos (by omega)]; exact this.1
        · rw [shF, if_pos (by omega)]; exact this.2.1
        · have h5 := this.2.2.1
          rw [va_cpy, if_neg (by omega), shP, if_pos (by omega), show 5 * j + k - 5 = 5 * (j - 1) + k by omega]; exact this.2.2.2 k hk
  · rw [if_neg q, if_neg q, if_neg q, if_neg q, if_neg q]
    exact ⟨rfl, h1, h2⟩
/-! pruning -/
theorem ins_skip {K : KS} {e : Nat} (hK : ¬ rkF K.2.1 e K.1 < 5) : ∀ l : List Wy1, (∀ w ∈ l, e ≤ w.1) → l.foldl insK K = K := by
  intro l
  induction l with
  | nil => intro _; rfl
  | cons w l ih =>
    intro h
    have h1 := rkF_mono (f := K.2.1) (c := K.1) (h w (List.mem_cons_self ..))
    rw [List.foldl_cons, show insK K w = K from if_neg (by omega)]
    exact ih (fun z hz => h z (List.mem_cons_of_mem _ hz))
theorem hd_all {f : Nat → List Wy1} {P : Wy1 → Prop} : ∀ n, (∀ i, i < n → ∀ w ∈ f i, P w) → ∀ w ∈ hd f n, P w := by
  intro n
  induction n with
  | zero => intro _ w hw; cases hw
  | succ n ih =>
    intro h w hw
    rcases List.mem_append.mp hw with q | q
    · exact ih (fun i hi => h i (by omega)) w q
    · exact h n (by omega) w q
section EN
variable {us : Nat → Bool} {bg en sc oh bt : Nat → Nat} {a gl n : Nat}
theorem en_ge (hg : ∀ i m, i < n → us i = true → m < ew (oh i) (sc i) m) : ∀ d p m, ∀ w ∈ enE us bg en sc oh bt a gl n d p m, m ≤ w.1 := by
  intro d
  induction d with
  | zero => intro p m w hw; cases hw
  | succ d ih =>
    intro p m
    refine hd_all n (fun i hi w hw => ?_)
    unfold enB at hw
    split at hw
    · rename_i ho
      have g := hg i m hi (ok_of ho).1
      split at hw
      · rw [List.mem_singleton] at hw
        subst hw
        exact Nat.le_of_lt g
      · exact Nat.le_trans (Nat.le_of_lt g) (ih _ _ w hw)
    · cases hw
end EN
/-! the class's search keeps what the list of all ways says -/
def reX (K : KS) (x : XS) : Prop := rep K x.2.1 x.2.2.1 x.2.2.2.1 x.2.2.2.2
theorem sn_c (en : Nat → Nat) (a i y : Nat) (p : List Nat) : snB en a (i :: p) y = (snB en a p y || decide (en i = y)) := by
  unfold snB
  rw [List.any_cons]
  cases decide (y = a) <;> cases decide (en i = y) <;> simp
theorem cb_ok {usn : Nat} {us : Nat → Bool} {bg en bt tr : Nat → Nat} {a i vi : Nat} {p : List Nat} (hu : usn.testBit i = us i) (ht : ∀ k, k < p.length → tr k = nt p k) (hv : vi.testBit (en i) = snB en a p (en i)) : (cbB usn bg bt tr i (plc en a p) p.length = true ∧ vi.testBit (en i) = false) ↔ okW us bg en bt a p i = true := by
  have hbr : (decide (p.length = 0) || !(bt (tr (p.length - 1))).testBit i) = !brB bt p i := by
    cases p with
    | nil => rfl
    | cons x p =>
      have := ht p.length (Nat.lt_succ_self _)
      have e : nt (x :: p) p.length = x := if_pos rfl
      rw [e] at this
      show (decide (p.length + 1 = 0) || !(bt (tr (p.length + 1 - 1))).testBit i) = !(bt x).testBit i
      rw [show p.length + 1 - 1 = p.length by omega, this]
      simp
  unfold cbB okW
  rw [hbr, hu, hv]
  cases us i <;> cases decide (bg i = plc en a p) <;> cases snB en a p (en i) <;> cases brB bt p i <;> simp
theorem exF_rep {us : Nat → Bool} {bg en sc oh bt : Nat → Nat} {a gl n usn : Nat} (hus : ∀ i, i < n → usn.testBit i = us i) (hen : ∀ i, en i < 20) (hg : ∀ i m, i < n → us i = true → m < ew (oh i) (sc i) m) :
    ∀ d p m vi x K, p.length + d = 5 → (∀ k, k < p.length → x.1 k = nt p k) → vi < 1099511627776 → (∀ y, y < 20 → vi.testBit y = snB en a p y) → reX K x →
      reX ((enE us bg en sc oh bt a gl n d p m).foldl insK K) (exF bg en sc oh bt usn gl n d (plc en a p) m vi x) ∧ ∀ k, k < p.length → (exF bg en sc oh bt usn gl n d (plc en a p) m vi x).1 k = nt p k := by
  intro d
  induction d with
  | zero => intro p m vi x K hl ht hv1 hv hx; exact ⟨hx, ht⟩
  | succ d ih =>
    intro p m vi x K hl ht hv1 hv hx
    have hlen : 5 - (d + 1) = p.length := by omega
    show reX ((hd (enB us bg en sc oh bt a gl (enE us bg en sc oh bt a gl n d) p m) n).foldl insK K) (exI (exS (exF bg en sc oh bt usn gl n d) bg en sc oh bt usn gl (5 - (d + 1)) (plc en a p) m vi) x n) ∧ ∀ k, k < p.length → (exI (exS (exF bg en sc oh bt usn gl n d) bg en sc oh bt usn gl (5 - (d + 1)) (plc en a p) m vi) x n).1 k = nt p k
    rw [hlen]
    have main : ∀ j, j ≤ n → reX ((hd (enB us bg en sc oh bt a gl (enE us bg en sc oh bt a gl n d) p m) j).foldl insK K) (exI (exS (exF bg en sc oh bt usn gl n d) bg en sc oh bt usn gl p.length (plc en a p) m vi) x j) ∧ ∀ k, k < p.length → (exI (exS (exF bg en sc oh bt usn gl n d) bg en sc oh bt usn gl p.length (plc en a p) m vi) x j).1 k = nt p k := by
      intro j
      induction j with
      | zero => intro _; exact ⟨hx, ht⟩
      | succ j ihj =>
        intro hj
        obtain ⟨r1, r2⟩ := ihj (by omega)
        show reX ((hd (enB us bg en sc oh bt a gl (enE us bg en sc oh bt a gl n d) p m) j ++ enB us bg en sc oh bt a gl (enE us bg en sc oh bt a gl n d) p m j).foldl insK K) (exS (exF bg en sc oh bt usn gl n d) bg en sc oh bt usn gl p.length (plc en a p) m vi (exI (exS (exF bg en sc oh bt usn gl n d) bg en sc oh bt usn gl p.length (plc en a p) m vi) x j) j) ∧ ∀ k, k < p.length → (exS (exF bg en sc oh bt usn gl n d) bg en sc oh bt usn gl p.length (plc en a p) m vi (exI (exS (exF bg en sc oh bt usn gl n d) bg en sc oh bt usn gl p.length (plc en a p) m vi) x j) j).1 k = nt p k
        rw [List.foldl_append]
        generalize exI (exS (exF bg en sc oh bt usn gl n d) bg en sc oh bt usn gl p.length (plc en a p) m vi) x j = y at r1 r2 ⊢
        generalize (hd (enB us bg en sc oh bt a gl (enE us bg en sc oh bt a gl n d) p m) j).foldl insK K = K1 at r1 ⊢
        have hc := cb_ok (usn := usn) (us := us) (bg := bg) (en := en) (bt := bt) (tr := y.1) (a := a) (i := j) (vi := vi) (p := p) (hus j (by omega)) r2 (hv _ (hen j))
        unfold exS enB
        by_cases ho : okW us bg en bt a p j = true
        · rw [if_pos (hc.mpr ho), if_pos ho]
          have ht2 : ∀ k, k < (j :: p).length → va_up y.1 p.length j k = nt (j :: p) k := by
            intro k hk
            show _ = if k = p.length then j else nt p k
            by_cases e : k = p.length
            · rw [if_pos e, e, va_up_self]
            · rw [if_neg e, va_up_ne _ _ e]
              have : k < p.length + 1 := hk
              exact r2 k (by omega)
          have ht3 : ∀ k, k < p.length → va_up y.1 p.length j k = nt p k := fun k hk => by rw [va_up_ne _ _ (by omega)]; exact r2 k hk
          by_cases hgl : en j = gl
          · rw [if_pos hgl, if_pos hgl]
            refine ⟨?_, ht3⟩
            exact rep_cls (w := j :: p) r1 (by show p.length + 1 ≤ 5; omega) ht2
          · rw [if_neg hgl, if_neg hgl]
            by_cases hr : rkF y.2.2.2.1 (ew (oh j) (sc j) m) y.2.2.2.2 < 5
            · rw [if_pos hr]
              have hsn : ∀ z, z < 20 → (sB vi (en j) true).testBit z = snB en a (j :: p) z := by
                intro z hz
                have := hen j
                rw [sB_tb true (by omega) (by omega), sn_c, ← hv z hz]
                by_cases e : z = en j
                · subst e; simp
                · rw [if_neg e, decide_eq_false (fun q => e q.symm), Bool.or_false]
              obtain ⟨g1, g2⟩ := ih (j :: p) (ew (oh j) (sc j) m) (sB vi (en j) true) (va_up y.1 p.length j, y.2) K1 (by show p.length + 1 + d = 5; omega) ht2 (sB_lt (w := 40) true hv1 (by have := hen j; omega)) hsn r1
              refine ⟨g1, fun k hk => ?_⟩
              have g3 := g2 k (by show k < p.length + 1; omega)
              have g4 : nt (j :: p) k = nt p k := if_neg (by omega)
              rw [g4] at g3
              exact g3
            · rw [if_neg hr]
              refine ⟨?_, ht3⟩
              have e1 : rkF y.2.2.2.1 (ew (oh j) (sc j) m) y.2.2.2.2 = rkF K1.2.1 (ew (oh j) (sc j) m) K1.1 := by
                rw [r1.1]
                exact rkF_congr (fun r hr => (r1.2.2 r hr).1)
              rw [e1] at hr
              rw [ins_skip hr _ (en_ge hg d (j :: p) (ew (oh j) (sc j) m))]
              exact r1
        · rw [if_neg (fun q => ho (hc.mp q)), if_neg ho]
          exact ⟨r1, r2⟩
    exact main n (Nat.le_refl _)
