/-! ===== what holds between the class and the reference ===== -/
def LI (lv mw mh mk : Nat → Nat) (pc mc kc : Nat) (bg en sc wd ht oh bt : Nat → Nat) (co n : Nat) (re : Nat → Nat) (sa fm : Nat) (tr rp rn rs : Nat → Nat) (rk us gl : Nat) (nu : Nat → Nat) (rl : Nat) (sh ba : Nat → Bool) (rm nm bs bc bp on wh : Nat → Nat) (cd sl fo : Nat) : Prop :=
  (bGp lv mw mh mk pc mc kc) ∧ (bP bg en sc wd ht oh bt co n) ∧ (∀ j, re j ≤ 1152921504606846976) ∧ (∀ j, rs j ≤ 1152921504806846976) ∧ (∀ j, tr j < 40) ∧ (∀ j, rn j ≤ 5) ∧ (rl ≤ 40) ∧ (∀ i, i < n → 1 ≤ sc i) ∧ (∀ j, j < 40 → sh j = co.testBit j) ∧ (∀ j, n ≤ j → co.testBit j = false) ∧ (∀ f t, f < 40 → t < 40 → ba (40 * f + t) = (bt f).testBit t) ∧ (∀ f j, n ≤ f ∨ n ≤ j → (bt f).testBit j = false) ∧ (∀ j, bp j < 40) ∧ (∀ j, bc j ≤ 5) ∧ (∀ j, bs j ≤ 60000000) ∧ (sl = rl) ∧ (∀ i, i < rl → nm i = nu i)
section LIA
variable {lv mw mh mk : Nat → Nat} {pc mc kc : Nat} {bg en sc wd ht oh bt : Nat → Nat} {co n : Nat} {re : Nat → Nat} {sa fm : Nat} {tr rp rn rs : Nat → Nat} {rk us gl : Nat} {nu : Nat → Nat} {rl : Nat} {sh ba : Nat → Bool} {rm nm bs bc bp on wh : Nat → Nat} {cd sl fo : Nat}
theorem LI.hG (h : LI lv mw mh mk pc mc kc bg en sc wd ht oh bt co n re sa fm tr rp rn rs rk us gl nu rl sh ba rm nm bs bc bp on wh cd sl fo) : bGp lv mw mh mk pc mc kc := h.1
theorem LI.hB (h : LI lv mw mh mk pc mc kc bg en sc wd ht oh bt co n re sa fm tr rp rn rs rk us gl nu rl sh ba rm nm bs bc bp on wh cd sl fo) : bP bg en sc wd ht oh bt co n := h.2.1
theorem LI.hre (h : LI lv mw mh mk pc mc kc bg en sc wd ht oh bt co n re sa fm tr rp rn rs rk us gl nu rl sh ba rm nm bs bc bp on wh cd sl fo) : ∀ j, re j ≤ 1152921504606846976 := h.2.2.1
theorem LI.hrs (h : LI lv mw mh mk pc mc kc bg en sc wd ht oh bt co n re sa fm tr rp rn rs rk us gl nu rl sh ba rm nm bs bc bp on wh cd sl fo) : ∀ j, rs j ≤ 1152921504806846976 := h.2.2.2.1
theorem LI.htr (h : LI lv mw mh mk pc mc kc bg en sc wd ht oh bt co n re sa fm tr rp rn rs rk us gl nu rl sh ba rm nm bs bc bp on wh cd sl fo) : ∀ j, tr j < 40 := h.2.2.2.2.1
theorem LI.hrn (h : LI lv mw mh mk pc mc kc bg en sc wd ht oh bt co n re sa fm tr rp rn rs rk us gl nu rl sh ba rm nm bs bc bp on wh cd sl fo) : ∀ j, rn j ≤ 5 := h.2.2.2.2.2.1
theorem LI.hrl (h : LI lv mw mh mk pc mc kc bg en sc wd ht oh bt co n re sa fm tr rp rn rs rk us gl nu rl sh ba rm nm bs bc bp on wh cd sl fo) : rl ≤ 40 := h.2.2.2.2.2.2.1
theorem LI.hsc (h : LI lv mw mh mk pc mc kc bg en sc wd ht oh bt co n re sa fm tr rp rn rs rk us gl nu rl sh ba rm nm bs bc bp on wh cd sl fo) : ∀ i, i < n → 1 ≤ sc i := h.2.2.2.2.2.2.2.1
theorem LI.hsh (h : LI lv mw mh mk pc mc kc bg en sc wd ht oh bt co n re sa fm tr rp rn rs rk us gl nu rl sh ba rm nm bs bc bp on wh cd sl fo) : ∀ j, j < 40 → sh j = co.testBit j := h.2.2.2.2.2.2.2.2.1
theorem LI.hcz (h : LI lv mw mh mk pc mc kc bg en sc wd ht oh bt co n re sa fm tr rp rn rs rk us gl nu rl sh ba rm nm bs bc bp on wh cd sl fo) : ∀ j, n ≤ j → co.testBit j = false := h.2.2.2.2.2.2.2.2.2.1
theorem LI.hba (h : LI lv mw mh mk pc mc kc bg en sc wd ht oh bt co n re sa fm tr rp rn rs rk us gl nu rl sh ba rm nm bs bc bp on wh cd sl fo) : ∀ f t, f < 40 → t < 40 → ba (40 * f + t) = (bt f).testBit t := h.2.2.2.2.2.2.2.2.2.2.1
theorem LI.hbz (h : LI lv mw mh mk pc mc kc bg en sc wd ht oh bt co n re sa fm tr rp rn rs rk us gl nu rl sh ba rm nm bs bc bp on wh cd sl fo) : ∀ f j, n ≤ f ∨ n ≤ j → (bt f).testBit j = false := h.2.2.2.2.2.2.2.2.2.2.2.1
theorem LI.hbp (h : LI lv mw mh mk pc mc kc bg en sc wd ht oh bt co n re sa fm tr rp rn rs rk us gl nu rl sh ba rm nm bs bc bp on wh cd sl fo) : ∀ j, bp j < 40 := h.2.2.2.2.2.2.2.2.2.2.2.2.1
theorem LI.hbc (h : LI lv mw mh mk pc mc kc bg en sc wd ht oh bt co n re sa fm tr rp rn rs rk us gl nu rl sh ba rm nm bs bc bp on wh cd sl fo) : ∀ j, bc j ≤ 5 := h.2.2.2.2.2.2.2.2.2.2.2.2.2.1
theorem LI.hbs (h : LI lv mw mh mk pc mc kc bg en sc wd ht oh bt co n re sa fm tr rp rn rs rk us gl nu rl sh ba rm nm bs bc bp on wh cd sl fo) : ∀ j, bs j ≤ 60000000 := h.2.2.2.2.2.2.2.2.2.2.2.2.2.2.1
theorem LI.hsl (h : LI lv mw mh mk pc mc kc bg en sc wd ht oh bt co n re sa fm tr rp rn rs rk us gl nu rl sh ba rm nm bs bc bp on wh cd sl fo) : sl = rl := h.2.2.2.2.2.2.2.2.2.2.2.2.2.2.2.1
theorem LI.hnm (h : LI lv mw mh mk pc mc kc bg en sc wd ht oh bt co n re sa fm tr rp rn rs rk us gl nu rl sh ba rm nm bs bc bp on wh cd sl fo) : ∀ i, i < rl → nm i = nu i := h.2.2.2.2.2.2.2.2.2.2.2.2.2.2.2.2
theorem LI.all (hG : bGp lv mw mh mk pc mc kc) (hB : bP bg en sc wd ht oh bt co n) (hre : ∀ j, re j ≤ 1152921504606846976) (hrs : ∀ j, rs j ≤ 1152921504806846976) (htr : ∀ j, tr j < 40) (hrn : ∀ j, rn j ≤ 5) (hrl : rl ≤ 40) (hsc : ∀ i, i < n → 1 ≤ sc i) (hsh : ∀ j, j < 40 → sh j = co.testBit j) (hcz : ∀ j, n ≤ j → co.testBit j = false) (hba : ∀ f t, f < 40 → t < 40 → ba (40 * f + t) = (bt f).testBit t) (hbz : ∀ f j, n ≤ f ∨ n ≤ j → (bt f).testBit j = false) (hbp : ∀ j, bp j < 40) (hbc : ∀ j, bc j ≤ 5) (hbs : ∀ j, bs j ≤ 60000000) (hsl : sl = rl) (hnm : ∀ i, i < rl → nm i = nu i) : LI lv mw mh mk pc mc kc bg en sc wd ht oh bt co n re sa fm tr rp rn rs rk us gl nu rl sh ba rm nm bs bc bp on wh cd sl fo := ⟨hG, hB, hre, hrs, htr, hrn, hrl, hsc, hsh, hcz, hba, hbz, hbp, hbc, hbs, hsl, hnm⟩
end LIA
theorem LI_init : LI zN zN zN zN 0 0 0 zN zN zN zN zN zN zN 0 0 zN 0 0 zN zN zN zN 0 0 0 zN 0 zB zB zN zN zN zN zN zN zN 0 0 0 :=
  LI.all (⟨by decide, by decide, by decide, fun i => ⟨by show 0 < 10; decide, by show 0 ≤ 10000; decide, by show 0 ≤ 10000; decide, by show 0 < 20; decide⟩⟩) (⟨by decide, by decide, fun i => ⟨by show 0 < 20; decide, by show 0 < 20; decide, by show 0 ≤ 10000000; decide, by show 0 ≤ 10000; decide, by show 0 ≤ 10000; decide, by show 0 < 16777216; decide, by show 0 < 1099511627776; decide⟩⟩) (fun j => Nat.zero_le _) (fun j => Nat.zero_le _) (fun j => by show 0 < 40; decide) (fun j => Nat.zero_le _) (by decide) (fun i hi => absurd hi (Nat.not_lt_zero _)) (fun j _ => by rw [Nat.zero_testBit]; rfl) (fun j _ => Nat.zero_testBit _) (fun f t _ _ => by show false = (0 : Nat).testBit t; rw [Nat.zero_testBit]) (fun f j _ => Nat.zero_testBit _) (fun j => by show 0 < 40; decide) (fun j => Nat.zero_le _) (fun j => Nat.zero_le _) (rfl) (fun i hi => absurd hi (Nat.not_lt_zero _))
theorem cN_of {x : Int32} {n : Nat} (h : inB x n = true) (hn : n < 2147483648) : cN x < n := by
  obtain ⟨j, hj, ej⟩ := in_of h hn
  rw [ej, cN_n (by omega)]; exact hj
theorem cN_wi {x : Int32} {a b : Nat} (h : wiB x.toInt64 (lN a) (lN b) = true) (hb : b < 2147483648) (hab : a ≤ b) : a ≤ cN x ∧ cN x ≤ b := by
  obtain ⟨j, h1, h2, ej⟩ := wi_of h hb hab
  rw [ej, cN_n (by omega)]; exact ⟨h1, h2⟩
theorem cL_wi {x : Int64} {a b : Nat} (h : wiB x (lN a) (lN b) = true) (ha : a < 9223372036854775808) (hb : b < 9223372036854775808) : a ≤ cLn x ∧ cLn x ≤ b := by
  obtain ⟨j, h1, h2, ej⟩ := wl_of h ha hb
  rw [ej, cL_n (by omega)]; exact ⟨h1, h2⟩
theorem ite0 {c : Nat} {α : Type} {a b : α} (h : c = 0) : (if c = 0 then a else b) = a := if_pos h
theorem if_of {p : Prop} [Decidable p] {a b c : Nat} (h : (if p then a else b) = c) (hb : b ≠ c) : p ∧ a = c := by
  by_cases q : p
  · rw [if_pos q] at h; exact ⟨q, h⟩
  · rw [if_neg q] at h; exact absurd h hb
section INV
variable {lv mw mh mk : Nat → Nat} {pc mc kc : Nat} {bg en sc wd ht oh bt : Nat → Nat} {co n : Nat} {re : Nat → Nat} {sa fm : Nat} {tr rp rn rs : Nat → Nat} {rk us gl : Nat} {nu : Nat → Nat} {rl : Nat} {sh ba : Nat → Bool} {rm nm bs bc bp on wh : Nat → Nat} {cd sl fo : Nat}
theorem LI.any (h : LI lv mw mh mk pc mc kc bg en sc wd ht oh bt co n re sa fm tr rp rn rs rk us gl nu rl sh ba rm nm bs bc bp on wh cd sl fo) (sa' fm' rk' us' gl' cd' fo' : Nat) (rp' rm' on' wh' : Nat → Nat) : LI lv mw mh mk pc mc kc bg en sc wd ht oh bt co n re sa' fm' tr rp' rn rs rk' us' gl' nu rl sh ba rm' nm bs bc bp on' wh' cd' sl fo' :=
  LI.all (h.hG) (h.hB) (h.hre) (h.hrs) (h.htr) (h.hrn) (h.hrl) (h.hsc) (h.hsh) (h.hcz) (h.hba) (h.hbz) (h.hbp) (h.hbc) (h.hbs) (h.hsl) (h.hnm)
theorem LI.re' (h : LI lv mw mh mk pc mc kc bg en sc wd ht oh bt co n re sa fm tr rp rn rs rk us gl nu rl sh ba rm nm bs bc bp on wh cd sl fo) {re' : Nat → Nat} (h' : ∀ j, re' j ≤ 1152921504606846976) : LI lv mw mh mk pc mc kc bg en sc wd ht oh bt co n re' sa fm tr rp rn rs rk us gl nu rl sh ba rm nm bs bc bp on wh cd sl fo := LI.all (h.hG) (h.hB) (h') (h.hrs) (h.htr) (h.hrn) (h.hrl) (h.hsc) (h.hsh) (h.hcz) (h.hba) (h.hbz) (h.hbp) (h.hbc) (h.hbs) (h.hsl) (h.hnm)
theorem LI.row (h : LI lv mw mh mk pc mc kc bg en sc wd ht oh bt co n re sa fm tr rp rn rs rk us gl nu rl sh ba rm nm bs bc bp on wh cd sl fo) {nu' nm' : Nat → Nat} {rl' sl' : Nat} (h1 : rl' ≤ 40) (h2 : sl' = rl') (h3 : ∀ i, i < rl' → nm' i = nu' i) : LI lv mw mh mk pc mc kc bg en sc wd ht oh bt co n re sa fm tr rp rn rs rk us gl nu' rl' sh ba rm nm' bs bc bp on wh cd sl' fo := LI.all (h.hG) (h.hB) (h.hre) (h.hrs) (h.htr) (h.hrn) (h1) (h.hsc) (h.hsh) (h.hcz) (h.hba) (h.hbz) (h.hbp) (h.hbc) (h.hbs) (h2) (h3)
theorem LI_place (h : LI lv mw mh mk pc mc kc bg en sc wd ht oh bt co n re sa fm tr rp rn rs rk us gl nu rl sh ba rm nm bs bc bp on wh cd sl fo) {x : Int32} (hC : cdPl pc x = 0) : LI (va_up lv pc (cN x)) mw mh mk (pc + 1) mc kc bg en sc wd ht oh bt co n re sa fm tr rp rn rs rk us gl nu rl sh ba rm nm bs bc bp on wh cd sl fo := by
  obtain ⟨h1, h2⟩ := if_of hC (by decide)
  have h3 := (if_of h2 (by decide)).1
  have h4 := cN_wi h1 (by decide) (by decide)
  obtain ⟨g1, g2, g3, g4⟩ := h.hG
  refine LI.all (⟨by omega, g2, g3, fun i => ?_⟩) (h.hB) (h.hre) (h.hrs) (h.htr) (h.hrn) (h.hrl) (h.hsc) (h.hsh) (h.hcz) (h.hba) (h.hbz) (h.hbp) (h.hbc) (h.hbs) (h.hsl) (h.hnm)
  obtain ⟨k1, k2⟩ := g4 i
  refine ⟨?_, k2⟩
  unfold va_up
  split
  · omega
  · exact k1
theorem LI_mark (h : LI lv mw mh mk pc mc kc bg en sc wd ht oh bt co n re sa fm tr rp rn rs rk us gl nu rl sh ba rm nm bs bc bp on wh cd sl fo) {x : Int32} (hC : cdMa pc kc mk x = 0) : LI lv mw mh (va_up mk kc (cN x)) pc mc (kc + 1) bg en sc wd ht oh bt co n re sa fm tr rp rn rs rk us gl nu rl sh ba rm nm bs bc bp on wh cd sl fo := by
  obtain ⟨h1, h2⟩ := if_of hC (by decide)
  by_cases q : imB mk x kc = true
  · rw [if_pos q] at h2; exact absurd h2 (by decide)
  · rw [if_neg q] at h2
    have h3 := (if_of h2 (by decide)).1
    obtain ⟨g1, g2, g3, g4⟩ := h.hG
    have h4 := cN_of h1 (by omega)
    refine LI.all (⟨g1, g2, by omega, fun i => ?_⟩) (h.hB) (h.hre) (h.hrs) (h.htr) (h.hrn) (h.hrl) (h.hsc) (h.hsh) (h.hcz) (h.hba) (h.hbz) (h.hbp) (h.hbc) (h.hbs) (h.hsl) (h.hnm)
    obtain ⟨k1, k2, k3, k4⟩ := g4 i
    refine ⟨k1, k2, k3, ?_⟩
    unfold va_up
    split
    · omega
    · exact k4
theorem LI_mover (h : LI lv mw mh mk pc mc kc bg en sc wd ht oh bt co n re sa fm tr rp rn rs rk us gl nu rl sh ba rm nm bs bc bp on wh cd sl fo) {w : Int32} {v : Int64} (hC : cdMo mc w v = 0) : LI lv (va_up mw mc (cN w)) (va_up mh mc (cLn v)) mk pc (mc + 1) kc bg en sc wd ht oh bt co n re sa fm tr rp rn rs rk us gl nu rl sh ba rm nm bs bc bp on wh cd sl fo := by
  obtain ⟨h1, h2⟩ := if_of hC (by decide)
  have h3 := (if_of h2 (by decide)).1
  unfold szB at h1
  rw [Bool.and_eq_true] at h1
  have h4 := cN_wi h1.1 (by decide) (by decide)
  have h5 := cL_wi h1.2 (by decide) (by decide)
  obtain ⟨g1, g2, g3, g4⟩ := h.hG
  refine LI.all (⟨g1, by omega, g3, fun i => ?_⟩) (h.hB) (h.hre) (h.hrs) (h.htr) (h.hrn) (h.hrl) (h.hsc) (h.hsh) (h.hcz) (h.hba) (h.hbz) (h.hbp) (h.hbc) (h.hbs) (h.hsl) (h.hnm)
  obtain ⟨k1, k2, k3, k4⟩ := g4 i
  refine ⟨k1, ?_, ?_, k4⟩
  · unfold va_up
    split
    · omega
    · exact k2
  · unfold va_up
    split
    · omega
    · exact k3
theorem LI_limit (h : LI lv mw mh mk pc mc kc bg en sc wd ht oh bt co n re sa fm tr rp rn rs rk us gl nu rl sh ba rm nm bs bc bp on wh cd sl fo) {x w : Int32} {v : Int64} (hC : cdLi n x w v = 0) : LI lv mw mh mk pc mc kc bg en sc (va_up wd (cN x) (cN w)) (va_up ht (cN x) (cLn v)) oh bt co n re sa fm tr rp rn rs rk us gl nu rl sh ba rm nm bs bc bp on wh cd sl fo := by
  obtain ⟨⟨h0, h1⟩, -⟩ := if_of hC (by decide)
  unfold szB at h1
  rw [Bool.and_eq_true] at h1
  have h4 := cN_wi h1.1 (by decide) (by decide)
  have h5 := cL_wi h1.2 (by decide) (by decide)
  obtain ⟨g1, g2, g3⟩ := h.hB
  refine LI.all (h.hG) (⟨g1, g2, fun i => ?_⟩) (h.hre) (h.hrs) (h.htr) (h.hrn) (h.hrl) (h.hsc) (h.hsh) (h.hcz) (h.hba) (h.hbz) (h.hbp) (h.hbc) (h.hbs) (h.hsl) (h.hnm)
  obtain ⟨k1, k2, k3, k4, k5, k6, k7⟩ := g3 i
  refine ⟨k1, k2, k3, ?_, ?_, k6, k7⟩
  · unfold va_up
    split
    · omega
    · exact k4
  · unfold va_up
    split
    · omega
    · exact k5
theorem LI_add (h : LI lv mw mh mk pc mc kc bg en sc wd ht oh bt co n re sa fm tr rp rn rs rk us gl nu rl sh ba rm nm bs bc bp on wh cd sl fo) {a b s : Nat} (hn : n < 40) (ha : a < 20) (hb : b < 20) (hs1 : 1 ≤ s) (hs : s ≤ 10000000) : LI lv mw mh mk pc mc kc (va_up bg n a) (va_up en n b) (va_up sc n s) (va_up wd n 2000) (va_up ht n 3000) (va_up oh n 16777215) bt co (n + 1) re sa fm tr rp rn rs rk us gl nu rl sh ba rm nm bs bc bp on wh cd sl fo :=
  LI.all (h.hG) (bP_add h.hB hn ha hb hs) (h.hre) (h.hrs) (h.htr) (h.hrn) (h.hrl) (fun i hi => by
      by_cases e : i = n
      · subst e; rw [va_up_self]; exact hs1
      · rw [va_up_ne _ _ e]; exact h.hsc i (by omega)) (h.hsh) (fun j hj => h.hcz j (by omega)) (h.hba) (fun f j hj => h.hbz f j (by omega)) (h.hbp) (h.hbc) (h.hbs) (h.hsl) (h.hnm)
theorem LI_piece (h : LI lv mw mh mk pc mc kc bg en sc wd ht oh bt co n re sa fm tr rp rn rs rk us gl nu rl sh ba rm nm bs bc bp on wh cd sl fo) {x y : Int32} {ln sp : Int64} (hC : cdPi lv pc n x y ln sp = 0) : LI lv mw mh mk pc mc kc (va_up bg n (cN x)) (va_up en n (cN y)) (va_up sc n ((cLn ln + cLn sp - 1) / cLn sp)) (va_up wd n 2000) (va_up ht n 3000) (va_up oh n 16777215) bt co (n + 1) re sa fm tr rp rn rs rk us gl nu rl sh ba rm nm bs bc bp on wh cd sl fo := by
  obtain ⟨⟨h1, h2, h3, h4, h5, h6⟩, h7⟩ := if_of hC (by decide)
  by_cases q : sp = lN 0
  · rw [if_pos q] at h7; exact absurd h7 (by decide)
  · rw [if_neg q] at h7
    have h8 := (if_of h7 (by decide)).1
    have g1 := h.hG.1
    have b1 := cN_of h1 (by omega)
    have b2 := cN_of h2 (by omega)
    obtain ⟨a, a1, a2, ea⟩ := wl_of h5 (by decide) (by decide)
    obtain ⟨b, c1, c2, eb⟩ := wl_of h6 (by decide) (by decide)
    have e1 : cLn ln = a := by rw [ea]; exact cL_n (by omega)
    have e2 : cLn sp = b := by rw [eb]; exact cL_n (by omega)
    have hb0 : 0 < b := Nat.pos_of_ne_zero (fun z => q (by rw [eb, z]))
    rw [e1, e2]
    refine LI_add h h8 (by omega) (by omega) ?_ ?_
    · rw [Nat.le_div_iff_mul_le hb0]; omega
    · refine Nat.le_trans (Nat.div_le_of_le_mul (m := a + b - 1) (k := b) (n := a) ?_) (by omega)
      have : 1 * (a + b - 1) ≤ 1 * (a * b) := by
        have h10 : a + b ≤ a * b + 1 := by
          obtain ⟨a', rfl⟩ : ∃ k, a = k + 1 := ⟨a - 1, by omega⟩
          obtain ⟨b', rfl⟩ : ∃ k, b = k + 1 := ⟨b - 1, by omega⟩
          rw [Nat.add_mul, Nat.mul_add]
          omega
        omega
      rw [Nat.mul_comm b a]
      omega
theorem LI_lift (h : LI lv mw mh mk pc mc kc bg en sc wd ht oh bt co n re sa fm tr rp rn rs rk us gl nu rl sh ba rm nm bs bc bp on wh cd sl fo) {x y : Int32} {se : Int64} (hC : cdLf lv pc n x y se = 0) : LI lv mw mh mk pc mc kc (va_up (va_up bg n (cN x)) (n + 1) (cN y)) (va_up (va_up en n (cN y)) (n + 1) (cN x)) (va_up (va_up sc n (cLn se)) (n + 1) (cLn se)) (va_up (va_up wd n 2000) (n + 1) 2000) (va_up (va_up ht n 3000) (n + 1) 3000) (va_up (va_up oh n 16777215) (n + 1) 16777215) bt co (n + 1 + 1) re sa fm tr rp rn rs rk us gl nu rl sh ba rm nm bs bc bp on wh cd sl fo := by
  obtain ⟨⟨h1, h2, h3, h4⟩, h7⟩ := if_of hC (by decide)
  have h8 := (if_of h7 (by decide)).1
  have g1 := h.hG.1
  have b1 := cN_of h1 (by omega)
  have b2 := cN_of h2 (by omega)
  have b3 := cL_wi h4 (by decide) (by decide)
  exact LI_add (LI_add h (by omega) (by omega) (by omega) (by omega) (by omega)) (by omega) (by omega) (by omega) (by omega) (by omega)
theorem LI_closed (h : LI lv mw mh mk pc mc kc bg en sc wd ht oh bt co n re sa fm tr rp rn rs rk us gl nu rl sh ba rm nm bs bc bp on wh cd sl fo) {x : Int32} {b : Bool} (hC : cdCl n x = 0) : LI lv mw mh mk pc mc kc bg en sc wd ht oh bt (sB co (cN x) b) n re sa fm tr rp rn rs rk us gl nu rl (va_up sh (cN x) b) ba rm nm bs bc bp on wh cd sl fo := by
  obtain ⟨h1, -⟩ := if_of hC (by decide)
  obtain ⟨g1, g2, g3⟩ := h.hB
  have b1 := cN_of h1 (by omega)
  have tb := sB_tb (b := co) (k := cN x) b (by omega) (by omega)
  refine LI.all (h.hG) (⟨g1, sB_lt (w := 40) b g2 (by omega), g3⟩) (h.hre) (h.hrs) (h.htr) (h.hrn) (h.hrl) (h.hsc) (fun j hj => ?_) (fun j hj => ?_) (h.hba) (h.hbz) (h.hbp) (h.hbc) (h.hbs) (h.hsl) (h.hnm)
  · rw [tb]
    unfold va_up
    by_cases e : j = cN x
    · rw [if_pos e, if_pos e]
    · rw [if_neg e, if_neg e]; exact h.hsh j hj
  · rw [tb, if_neg (by omega)]; exact h.hcz j hj
theorem LI_turn (h : LI lv mw mh mk pc mc kc bg en sc wd ht oh bt co n re sa fm tr rp rn rs rk us gl nu rl sh ba rm nm bs bc bp on wh cd sl fo) {x y : Int32} {b : Bool} (hC : cdTu bg en n x y = 0) : LI lv mw mh mk pc mc kc bg en sc wd ht oh (va_up bt (cN x) (sB (bt (cN x)) (cN y) b)) co n re sa fm tr rp rn rs rk us gl nu rl sh (va_up ba (40 * cN x + cN y) b) rm nm bs bc bp on wh cd sl fo := by
  obtain ⟨⟨h1, h2, h3⟩, -⟩ := if_of hC (by decide)
  obtain ⟨g1, g2, g3⟩ := h.hB
  have b1 := cN_of h1 (by omega)
  have b2 := cN_of h2 (by omega)
  have hbx := (g3 (cN x)).2.2.2.2.2.2
  have tb := sB_tb (b := bt (cN x)) (k := cN y) b (by omega) (by omega)
  refine LI.all (h.hG) (bP_bt h.hB (sB_lt (w := 40) b hbx (by omega))) (h.hre) (h.hrs) (h.htr) (h.hrn) (h.hrl) (h.hsc) (h.hsh) (h.hcz) (fun f t hf ht9 => ?_) (fun f j hj => ?_) (h.hbp) (h.hbc) (h.hbs) (h.hsl) (h.hnm)
  · by_cases e : f = cN x
    · subst e
      rw [va_up_self, tb]
      by_cases e2 : t = cN y
      · subst e2; rw [va_up_self, if_pos rfl]
      · rw [va_up_ne _ _ (by omega), if_neg e2]; exact h.hba _ _ hf ht9
    · rw [va_up_ne _ _ (by omega), va_up_ne _ _ e]; exact h.hba _ _ hf ht9
  · by_cases e : f = cN x
    · subst e
      rw [va_up_self, tb, if_neg (by omega)]; exact h.hbz _ j hj
    · rw [va_up_ne _ _ e]; exact h.hbz _ j hj
theorem LI_door (h : LI lv mw mh mk pc mc kc bg en sc wd ht oh bt co n re sa fm tr rp rn rs rk us gl nu rl sh ba rm nm bs bc bp on wh cd sl fo) {x y : Int32} {b : Bool} (hC : cdDo n x y = 0) : LI lv mw mh mk pc mc kc bg en sc wd ht (va_up oh (cN x) (sB (oh (cN x)) (cN y) b)) bt co n re sa fm tr rp rn rs rk us gl nu rl sh ba rm nm bs bc bp on wh cd sl fo := by
  obtain ⟨⟨h1, h2⟩, -⟩ := if_of hC (by decide)
  obtain ⟨g1, g2, g3⟩ := h.hB
  have b2 := cN_wi h2 (by decide) (by decide)
  have hbx := (g3 (cN x)).2.2.2.2.2.1
  refine LI.all (h.hG) (⟨g1, g2, fun i => ?_⟩) (h.hre) (h.hrs) (h.htr) (h.hrn) (h.hrl) (h.hsc) (h.hsh) (h.hcz) (h.hba) (h.hbz) (h.hbp) (h.hbc) (h.hbs) (h.hsl) (h.hnm)
  obtain ⟨k1, k2, k3, k4, k5, k6, k7⟩ := g3 i
  refine ⟨k1, k2, k3, k4, k5, ?_, k7⟩
  unfold va_up
  split
  · exact sB_lt (w := 24) b hbx (by omega)
  · exact k6
/-! the answers -/
theorem pcn_hi {x w : Nat} (hx : x < 2 ^ w) : ∀ k, w ≤ k → pcn x k = pcn x w := by
  intro k
  induction k with
  | zero => intro h; rw [show w = 0 by omega]
  | succ k ih =>
    intro h
    by_cases e : w = k + 1
    · rw [e]
    · show pcn x k + (x.testBit k).toNat = _
      rw [ih (by omega), Nat.testBit_lt_two_pow (Nat.lt_of_lt_of_le hx (Nat.pow_le_pow_right (by decide) (by omega)))]
      rfl
theorem pcn_cut {x n : Nat} (h : ∀ j, n ≤ j → x.testBit j = false) : ∀ k, n ≤ k → pcn x k = pcn x n := by
  intro k
  induction k with
  | zero => intro q; rw [show n = 0 by omega]
  | succ k ih =>
    intro q
    by_cases e : n = k + 1
    · rw [e]
    · show pcn x k + (x.testBit k).toNat = _
      rw [ih (by omega), h k (by omega)]
      rfl
theorem pcn_cnt {x : Nat} {f : Nat → Bool} : ∀ k, (∀ j, j < k → f j = x.testBit j) → cntB f k = pcn x k := by
  intro k
  induction k with
  | zero => intro _; rfl
  | succ k ih =>
    intro h
    show cntB f k + (f k).toNat = pcn x k + (x.testBit k).toNat
    rw [ih (fun j hj => h j (by omega)), h k (by omega)]
theorem tI_n {j : Nat} (h : j < 2147483648) : (nI j).toInt64 = lN j := by
  apply Int64.toInt_inj.mp
  rw [Int32.toInt_toInt64, nI_toInt (by omega), pk_lT (by omega)]
theorem an_closed (h : LI lv mw mh mk pc mc kc bg en sc wd ht oh bt co n re sa fm tr rp rn rs rk us gl nu rl sh ba rm nm bs bc bp on wh cd sl fo) {x : Int32} {b : Bool} (hC : cdCl n x = 0) : lN (pcn (sB co (cN x) b) 64) = (nI (cntB (va_up sh (cN x) b) n)).toInt64 := by
  have h2 := LI_closed (b := b) h hC
  have hn := h.hB.1
  rw [pcn_cnt n (fun j hj => h2.hsh j (by omega)), tI_n (by have := pcn_le (sB co (cN x) b) n; omega), pcn_cut h2.hcz 64 (by omega)]
theorem an_turn (h : LI lv mw mh mk pc mc kc bg en sc wd ht oh bt co n re sa fm tr rp rn rs rk us gl nu rl sh ba rm nm bs bc bp on wh cd sl fo) {x y : Int32} {b : Bool} (hC : cdTu bg en n x y = 0) : lN ((((va_up bt (cN x) (sB (bt (cN x)) (cN y) b)) (cN y)).testBit (cN x)).toNat + b.toNat) = (nI (b.toNat + (va_up ba (40 * cN x + cN y) b (40 * cN y + cN x)).toNat)).toInt64 := by
  have h2 := LI_turn (b := b) h hC
  obtain ⟨⟨h1, h3, -⟩, -⟩ := if_of hC (by decide)
  have hn := h.hB.1
  have b1 := cN_of h1 (by omega)
  have b2 := cN_of h3 (by omega)
  rw [h2.hba (cN y) (cN x) (by omega) (by omega), tI_n, Nat.add_comm]
  have := Bool.toNat_le (((va_up bt (cN x) (sB (bt (cN x)) (cN y) b)) (cN y)).testBit (cN x))
  have := Bool.toNat_le b
  omega
theorem an_door (h : LI lv mw mh mk pc mc kc bg en sc wd ht oh bt co n re sa fm tr rp rn rs rk us gl nu rl sh ba rm nm bs bc bp on wh cd sl fo) {x y : Int32} {b : Bool} (hC : cdDo n x y = 0) : lN (pcn (sB (oh (cN x)) (cN y) b) 64) = (nI (pcn (sB (oh (cN x)) (cN y) b) 24)).toInt64 := by
  obtain ⟨⟨h1, h2⟩, -⟩ := if_of hC (by decide)
  have b2 := cN_wi h2 (by decide) (by decide)
  have hbx := (h.hB.2.2 (cN x)).2.2.2.2.2.1
  rw [pcn_hi (w := 24) (sB_lt (w := 24) b hbx (by omega)) 64 (by decide), tI_n]
  have := pcn_le (sB (oh (cN x)) (cN y) b) 24
  omega
theorem an_step (h : LI lv mw mh mk pc mc kc bg en sc wd ht oh bt co n re sa fm tr rp rn rs rk us gl nu rl sh ba rm nm bs bc bp on wh cd sl fo) (x : Int32) : atI nu rl x = atI nm sl x := by
  unfold atI
  rw [h.hsl]
  by_cases q : 0 ≤ x ∧ x < nI rl
  · rw [if_pos q, if_pos q]
    have := cN_of (decide_eq_true q) (by have := h.hrl; omega)
    exact congrArg nI (h.hnm _ this).symm
  · rw [if_neg q, if_neg q]
theorem cnt_blk {bt : Nat → Nat} {ba : Nat → Bool} (hba : ∀ f t, f < 40 → t < 40 → ba (40 * f + t) = (bt f).testBit t) {f : Nat} (hf : f < 40) : ∀ t, t ≤ 40 → cntB ba (40 * f + t) = cntB ba (40 * f) + pcn (bt f) t := by
  intro t
  induction t with
  | zero => intro _; rfl
  | succ t ih =>
    intro h
    show cntB ba (40 * f + t) + (ba (40 * f + t)).toNat = cntB ba (40 * f) + (pcn (bt f) t + ((bt f).testBit t).toNat)
    rw [ih (by omega), hba f t hf (by omega)]
    omega
theorem cnt_all {bt : Nat → Nat} {ba : Nat → Bool} (hba : ∀ f t, f < 40 → t < 40 → ba (40 * f + t) = (bt f).testBit t) (hb : ∀ f, bt f < 1099511627776) : ∀ k, k ≤ 40 → cntB ba (40 * k) = cbN bt k := by
  intro k
  induction k with
  | zero => intro _; rfl
  | succ k ih =>
    intro h
    have := cnt_blk hba (f := k) (by omega) 40 (Nat.le_refl _)
    rw [show 40 * (k + 1) = 40 * k + 40 by omega, this, ih (by omega)]
    show _ = cbN bt k + pcn (bt k) 64
    rw [pcn_hi (w := 40) (hb k) 64 (by decide)]
theorem cbN_cut {bt : Nat → Nat} {n : Nat} (h : ∀ f j, n ≤ f ∨ n ≤ j → (bt f).testBit j = false) : ∀ k, n ≤ k → cbN bt k = cbN bt n := by
  intro k
  induction k with
  | zero => intro q; rw [show n = 0 by omega]
  | succ k ih =>
    intro q
    by_cases e : n = k + 1
    · rw [e]
    · show cbN bt k + pcn (bt k) 64 = _
      rw [ih (by omega), pcn_cut (n := 0) (fun j _ => h k j (Or.inl (by omega))) 64 (by omega)]
      rfl
theorem an_count (h : LI lv mw mh mk pc mc kc bg en sc wd ht oh bt co n re sa fm tr rp rn rs rk us gl nu rl sh ba rm nm bs bc bp on wh cd sl fo) : cntB ba 1600 = cbN bt n := by
  have h1 := cnt_all h.hba (fun f => (h.hB.2.2 f).2.2.2.2.2.2) 40 (Nat.le_refl _)
  rw [show 1600 = 40 * 40 from rfl, h1, cbN_cut h.hbz 40 h.hB.1]
/-! way -/
theorem lsR_c (h : LI lv mw mh mk pc mc kc bg en sc wd ht oh bt co n re sa fm tr rp rn rs rk us gl nu rl sh ba rm nm bs bc bp on wh cd sl fo) {w v a b t : Nat} (hab : ¬ a = b) (ht0 : t ≤ 10000000) : ∀ i, i < n → lsR bg en sc wd ht oh bt co n w v a b t re i = cR bg en sc wd ht oh bt co n w v a t i := by
  intro i hi
  rw [lsR, if_neg hab]
  exact srch_cR h.hB h.hsc ht0 i hi
theorem an_ls (h : LI lv mw mh mk pc mc kc bg en sc wd ht oh bt co n re sa fm tr rp rn rs rk us gl nu rl sh ba rm nm bs bc bp on wh cd sl fo) {w v a b t : Nat} (ht0 : t ≤ 10000000) : lsV en (lsR bg en sc wd ht oh bt co n w v a b t re) n a b t = lsV en (cR bg en sc wd ht oh bt co n w v a t) n a b t := by
  unfold lsV
  by_cases e : a = b
  · rw [if_pos e, if_pos e]
  · rw [if_neg e, if_neg e]
    have hc := lsR_c (w := w) (v := v) h e ht0
    have hl := lpL_congr (en := en) (pl := b) n hc
    rw [hl]
    cases hx : (lpL en (cR bg en sc wd ht oh bt co n w v a t) b n).1 with
    | none => rfl
    | some x =>
      have := ((lpL_2 en (cR bg en sc wd ht oh bt co n w v a t) b n).2 x hx).1
      show lN (lsR bg en sc wd ht oh bt co n w v a b t re x) - lN t = lN (cR bg en sc wd ht oh bt co n w v a t x) - lN t
      rw [hc x this]
theorem pbO_congr {bg en sc oh bt R R' : Nat → Nat} {sa fm n : Nat} (h : ∀ i, i < n → R i = R' i) {x : Nat} (hx : x < n) : pbO bg en sc oh bt R sa fm n x = pbO bg en sc oh bt R' sa fm n x := by
  have e : ∀ i, i < n → pbP bg en sc oh bt R x i = pbP bg en sc oh bt R' x i := fun i hi => by unfold pbP; rw [h x hx, h i hi]
  unfold pbO
  rw [h x hx, ffi_congr n e]
theorem chT_le (pb : Nat → Option Nat) : ∀ k o, chT pb k o ≤ k := by
  intro k
  induction k with
  | zero => intro o; exact Nat.le_refl _
  | succ k ih =>
    intro o
    cases o with
    | none => exact Nat.zero_le _
    | some x => exact Nat.succ_le_succ (ih (pb x))
theorem itr_shift (pb : Nat → Option Nat) (x : Nat) : ∀ j, itr pb (some x) (j + 1) = itr pb (pb x) j := by
  intro j
  induction j with
  | zero => rfl
  | succ j ih =>
    show (itr pb (some x) (j + 1)).bind pb = (itr pb (pb x) j).bind pb
    rw [ih]
theorem wc_it {pb pb' : Nat → Option Nat} {n : Nat} (hp : ∀ x, x < n → pb x = pb' x) (hl : ∀ x y, x < n → pb' x = some y → y < n) : ∀ k o nu rl, (∀ x, o = some x → x < n) → rl + k ≤ 40 → (wcF pb k o nu rl).2 = rl + chT pb' k o ∧ (∀ j, j < chT pb' k o → (wcF pb k o nu rl).1 (rl + j) = (itr pb' o j).getD 0) ∧ ∀ j, j < rl → (wcF pb k o nu rl).1 j = nu j := by
  intro k
  induction k with
  | zero => intro o nu rl _ _; exact ⟨rfl, fun j hj => absurd hj (Nat.not_lt_zero _), fun j _ => rfl⟩
  | succ k ih =>
    intro o nu rl ho hk
    cases o with
    | none => exact ⟨rfl, fun j hj => absurd hj (Nat.not_lt_zero _), fun j _ => rfl⟩
    | some x =>
      have hx := ho x rfl
      have e1 : apF nu rl x = va_up nu rl x := if_pos (by omega)
      have e2 : apN rl = rl + 1 := if_pos (by omega)
      have e3 : wcF pb (k + 1) (some x) nu rl = wcF pb k (pb' x) (va_up nu rl x) (rl + 1) := by
        show wcF pb k (pb x) (apF nu rl x) (apN rl) = _
        rw [e1, e2, hp x hx]
      have e4 : chT pb' (k + 1) (some x) = chT pb' k (pb' x) + 1 := rfl
      rw [e3, e4]
      obtain ⟨i1, i2, i3⟩ := ih (pb' x) (va_up nu rl x) (rl + 1) (fun y hy => hl x y hx hy) (by omega)
      refine ⟨by omega, fun j hj => ?_, fun j hj => ?_⟩
      · cases j with
        | zero =>
          have h9 := i3 rl (by omega)
          rw [va_up_self] at h9
          exact h9
        | succ j =>
          rw [show rl + (j + 1) = rl + 1 + j by omega, i2 j (by omega), itr_shift]
      · rw [i3 j (by omega), va_up_ne _ _ (by omega)]
theorem an_way (h : LI lv mw mh mk pc mc kc bg en sc wd ht oh bt co n re sa fm tr rp rn rs rk us gl nu rl sh ba rm nm bs bc bp on wh cd sl fo) {w v a b t : Nat} (ht0 : t ≤ 10000000) :
    (wyF bg en sc oh bt (lsR bg en sc wd ht oh bt co n w v a b t re) (lsA sa a b) (lsM fm t a b) n a b t nu).2 ≤ 40 ∧ (wmN bg en sc oh bt (cR bg en sc wd ht oh bt co n w v a t) n a b t nm).2 = (wyF bg en sc oh bt (lsR bg en sc wd ht oh bt co n w v a b t re) (lsA sa a b) (lsM fm t a b) n a b t nu).2 ∧
    ∀ i, i < (wyF bg en sc oh bt (lsR bg en sc wd ht oh bt co n w v a b t re) (lsA sa a b) (lsM fm t a b) n a b t nu).2 → (wmN bg en sc oh bt (cR bg en sc wd ht oh bt co n w v a t) n a b t nm).1 i = (wyF bg en sc oh bt (lsR bg en sc wd ht oh bt co n w v a b t re) (lsA sa a b) (lsM fm t a b) n a b t nu).1 i := by
  have hv := an_ls (w := w) (v := v) (a := a) (b := b) h ht0
  by_cases q : ¬ a = b ∧ ¬ lsV en (cR bg en sc wd ht oh bt co n w v a t) n a b t = -1
  · have q2 : ¬ a = b ∧ ¬ lsV en (lsR bg en sc wd ht oh bt co n w v a b t re) n a b t = -1 := by rw [hv]; exact q
    have hc := lsR_c (w := w) (v := v) h q.1 ht0
    have hl := lpL_congr (en := en) (pl := b) n hc
    have eA : lsA sa a b = a := if_neg q.1
    have eM : lsM fm t a b = t := if_neg q.1
    have ho : ∀ x, (lpL en (cR bg en sc wd ht oh bt co n w v a t) b n).1 = some x → x < n := fun x hx => ((lpL_2 en _ b n).2 x hx).1
    obtain ⟨w1, w2, -⟩ := wc_it (pb := pbO bg en sc oh bt (lsR bg en sc wd ht oh bt co n w v a b t re) a t n) (pb' := pbO bg en sc oh bt (cR bg en sc wd ht oh bt co n w v a t) a t n) (n := n) (fun x hx => pbO_congr hc hx) (fun x y _ hy => (pbO_ok hy).1) 40 (lpL en (cR bg en sc wd ht oh bt co n w v a t) b n).1 nu 0 ho (by decide)
    have e1 : wyF bg en sc oh bt (lsR bg en sc wd ht oh bt co n w v a b t re) (lsA sa a b) (lsM fm t a b) n a b t nu = (tnF (wcF (pbO bg en sc oh bt (lsR bg en sc wd ht oh bt co n w v a b t re) a t n) 40 (lpL en (cR bg en sc wd ht oh bt co n w v a t) b n).1 nu 0).1 (wcF (pbO bg en sc oh bt (lsR bg en sc wd ht oh bt co n w v a b t re) a t n) 40 (lpL en (cR bg en sc wd ht oh bt co n w v a t) b n).1 nu 0).2, (wcF (pbO bg en sc oh bt (lsR bg en sc wd ht oh bt co n w v a b t re) a t n) 40 (lpL en (cR bg en sc wd ht oh bt co n w v a t) b n).1 nu 0).2) := by
      rw [eA, eM, wyF, if_pos q2, hl]
    have e2 : wmN bg en sc oh bt (cR bg en sc wd ht oh bt co n w v a t) n a b t nm = (fun i => if i < chT (pbO bg en sc oh bt (cR bg en sc wd ht oh bt co n w v a t) a t n) 40 (lpL en (cR bg en sc wd ht oh bt co n w v a t) b n).1 then (itr (pbO bg en sc oh bt (cR bg en sc wd ht oh bt co n w v a t) a t n) (lpL en (cR bg en sc wd ht oh bt co n w v a t) b n).1 (chT (pbO bg en sc oh bt (cR bg en sc wd ht oh bt co n w v a t) a t n) 40 (lpL en (cR bg en sc wd ht oh bt co n w v a t) b n).1 - 1 - i)).getD 0 else nm i, chT (pbO bg en sc oh bt (cR bg en sc wd ht oh bt co n w v a t) a t n) 40 (lpL en (cR bg en sc wd ht oh bt co n w v a t) b n).1) := if_pos q
    rw [e1, e2]
    generalize wcF (pbO bg en sc oh bt (lsR bg en sc wd ht oh bt co n w v a b t re) a t n) 40 (lpL en (cR bg en sc wd ht oh bt co n w v a t) b n).1 nu 0 = V at w1 w2 ⊢
    have hT := chT_le (pbO bg en sc oh bt (cR bg en sc wd ht oh bt co n w v a t) a t n) 40 (lpL en (cR bg en sc wd ht oh bt co n w v a t) b n).1
    generalize chT (pbO bg en sc oh bt (cR bg en sc wd ht oh bt co n w v a t) a t n) 40 (lpL en (cR bg en sc wd ht oh bt co n w v a t) b n).1 = T at w1 w2 hT ⊢
    have w1' : V.2 = T := by omega
    refine ⟨by show V.2 ≤ 40; omega, w1'.symm, fun i hi => ?_⟩
    have hi' : i < V.2 := hi
    show (if i < T then (itr _ _ (T - 1 - i)).getD 0 else nm i) = tnF V.1 V.2 i
    rw [if_pos (by omega), tnF, if_pos hi', w1']
    have := w2 (T - 1 - i) (by omega)
    rw [Nat.zero_add] at this
    exact this.symm
  · have q2 : ¬ (¬ a = b ∧ ¬ lsV en (lsR bg en sc wd ht oh bt co n w v a b t re) n a b t = -1) := by rw [hv]; exact q
    have e1 : wyF bg en sc oh bt (lsR bg en sc wd ht oh bt co n w v a b t re) (lsA sa a b) (lsM fm t a b) n a b t nu = (nu, 0) := if_neg q2
    have e2 : wmN bg en sc oh bt (cR bg en sc wd ht oh bt co n w v a t) n a b t nm = (nm, 0) := if_neg q
    rw [e1, e2]
    exact ⟨by show 0 ≤ 40; omega, rfl, fun i hi => absurd hi (Nat.not_lt_zero _)⟩
/-! k -/
theorem ww_it {rp nu : Nat → Nat} {z : Nat} : ∀ m, m ≤ 40 → (wwF rp z nu 0 m).2 = m ∧ ∀ j, j < m → (wwF rp z nu 0 m).1 j = rp (z * 5 + j) := by
  intro m
  induction m with
  | zero => intro _; exact ⟨rfl, fun j hj => absurd hj (Nat.not_lt_zero _)⟩
  | succ m ih =>
    intro h
    obtain ⟨i1, i2⟩ := ih (by omega)
    have e : wwF rp z nu 0 (m + 1) = (apF (wwF rp z nu 0 m).1 (wwF rp z nu 0 m).2 (rp (z * 5 + m)), apN (wwF rp z nu 0 m).2) := rfl
    rw [e, i1]
    refine ⟨if_pos (by omega), fun j hj => ?_⟩
    show apF (wwF rp z nu 0 m).1 m (rp (z * 5 + m)) j = _
    rw [show apF (wwF rp z nu 0 m).1 m (rp (z * 5 + m)) = va_up (wwF rp z nu 0 m).1 m (rp (z * 5 + m)) from if_pos (by omega)]
    by_cases q : j = m
    · subst q; rw [va_up_self]
    · rw [va_up_ne _ _ q]; exact i2 j (by omega)
theorem kx_rep (h : LI lv mw mh mk pc mc kc bg en sc wd ht oh bt co n re sa fm tr rp rn rs rk us gl nu rl sh ba rm nm bs bc bp on wh cd sl fo) {w v a b : Nat} (ha : a < 20) : reX (goK (usB wd ht oh co w v) bg en sc oh bt a b n) (kxS bg en sc wd ht oh bt co n w v a b tr rp rn rs) := by
  have hn := h.hB.1
  have hs := sB_tb (b := 0) (k := a) true (by decide) (by omega)
  exact (exF_rep (us := usB wd ht oh co w v) (usn := uM wd ht oh co w v n) (a := a) (fun i hi => uM_tb hn hi) (fun i => (h.hB.2.2 i).2.1) (fun i m hi hu => (uE_gt h.hB h.hsc i m hi hu).1) 5 [] 0 (sB 0 a true) (tr, rp, rn, rs, 0) (0, fun _ => 0, fun _ => []) rfl (fun k hk => absurd hk (Nat.not_lt_zero _)) (sB_lt (w := 40) true (by decide) (by omega)) (fun y _ => by
    rw [hs, Nat.zero_testBit]
    unfold snB
    by_cases e : y = a
    · simp [e]
    · simp [e]) ⟨rfl, by decide, fun r hr => absurd hr (Nat.not_lt_zero _)⟩).1
theorem an_k (h : LI lv mw mh mk pc mc kc bg en sc wd ht oh bt co n re sa fm tr rp rn rs rk us gl nu rl sh ba rm nm bs bc bp on wh cd sl fo) {w v a b z : Nat} {G : GS} (ha : a < 20) (hG : goW (usB wd ht oh co w v) bg en sc oh bt a b n on wh bp bc bs = G) :
    kV (kxS bg en sc wd ht oh bt co n w v a b tr rp rn rs) z = kmV G z ∧ (kwF (kxS bg en sc wd ht oh bt co n w v a b tr rp rn rs) z nu).2 ≤ 40 ∧ (kmW G z nm).2 = (kwF (kxS bg en sc wd ht oh bt co n w v a b tr rp rn rs) z nu).2 ∧ (∀ i, i < (kwF (kxS bg en sc wd ht oh bt co n w v a b tr rp rn rs) z nu).2 → (kmW G z nm).1 i = (kwF (kxS bg en sc wd ht oh bt co n w v a b tr rp rn rs) z nu).1 i) ∧
    okX (kxS bg en sc wd ht oh bt co n w v a b tr rp rn rs) ∧ (∀ j, G.2.2.2.1 j < 40) ∧ (∀ j, G.2.2.2.2.1 j ≤ 5) ∧ (∀ j, G.2.2.2.2.2.1 j ≤ 60000000) := by
  have r1 := kx_rep (w := w) (v := v) (b := b) h ha
  have r2 := goW_ok (us := usB wd ht oh co w v) (bg := bg) (en := en) (sc := sc) (oh := oh) (bt := bt) (a := a) (gl := b) (n := n) (on := on) (wh := wh) h.hB.1 (fun i m hi hu => uE_gt h.hB h.hsc i m hi hu) h.hbp h.hbc h.hbs
  rw [hG] at r2
  have hok := kx_ok (w := w) (h := v) (a := a) (b := b) (rp := rp) h.hB h.htr h.hrn h.hrs
  generalize kxS bg en sc wd ht oh bt co n w v a b tr rp rn rs = X at r1 hok ⊢
  generalize goK (usB wd ht oh co w v) bg en sc oh bt a b n = K at r1 r2
  obtain ⟨⟨m1, m2, m3⟩, m4, m5, m6⟩ := r2
  obtain ⟨x1, x2, x3⟩ := r1
  refine ⟨?_, ?_, ?_, ?_, hok, m4, m5, m6⟩
  · unfold kV kmV
    rw [x1, m1]
    by_cases q : z < K.1
    · rw [if_pos q, if_pos q, (x3 z q).1, (m3 z q).1]
    · rw [if_neg q, if_neg q]
  · unfold kwF
    split
    · have := (ww_it (rp := X.2.1) (nu := nu) (z := z) (X.2.2.1 z) (by have := hok.2.1 z; omega)).1
      have := hok.2.1 z
      omega
    · exact Nat.zero_le _
  · unfold kmW kwF
    rw [x1, m1]
    by_cases q : z < K.1
    · rw [if_pos q, if_pos q, (ww_it (rp := X.2.1) (nu := nu) (z := z) (X.2.2.1 z) (by have := hok.2.1 z; omega)).1, (x3 z q).2.1, (m3 z q).2.1]
    · rw [if_neg q, if_neg q]
  · unfold kmW kwF
    rw [x1, m1]
    by_cases q : z < K.1
    · rw [if_pos q, if_pos q]
      have hw := ww_it (rp := X.2.1) (nu := nu) (z := z) (X.2.2.1 z) (by have := hok.2.1 z; omega)
      intro i hi
      rw [hw.1] at hi
      rw [hw.2 i hi]
      have e1 := (x3 z q).2.1
      have e2 := (m3 z q).2.1
      show (if i < G.2.2.2.2.1 z then G.2.2.2.1 (5 * z + i) else nm i) = _
      rw [if_pos (by omega), (m3 z q).2.2.2 i (by omega), Nat.mul_comm z 5, (x3 z q).2.2.2 i (by omega)]
    · rw [if_neg q, if_neg q]
      intro i hi
      exact absurd hi (Nat.not_lt_zero _)
end INV
