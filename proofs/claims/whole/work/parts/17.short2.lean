/-! ===== the search for short ways, over numbers ===== -/
abbrev XS : Type := (Nat → Nat) × (Nat → Nat) × (Nat → Nat) × (Nat → Nat) × Nat
def exS (f : Nat → Nat → Nat → XS → XS) (bg en sc oh bt : Nat → Nat) (us gl len pl mo vi : Nat) (x : XS) (i : Nat) : XS :=
  if cbB us bg bt x.1 i pl len = true ∧ vi.testBit (en i) = false then
    (if en i = gl then (va_up x.1 len i, kpP x.2.1 (va_up x.1 len i) x.2.2.2.1 (ew (oh i) (sc i) mo) x.2.2.2.2 (len + 1), kpN x.2.2.1 x.2.2.2.1 (ew (oh i) (sc i) mo) x.2.2.2.2 (len + 1), kpS x.2.2.2.1 (ew (oh i) (sc i) mo) x.2.2.2.2, kpK x.2.2.2.1 (ew (oh i) (sc i) mo) x.2.2.2.2)
     else if rkF x.2.2.2.1 (ew (oh i) (sc i) mo) x.2.2.2.2 < 5 then f (en i) (ew (oh i) (sc i) mo) (sB vi (en i) true) (va_up x.1 len i, x.2)
     else (va_up x.1 len i, x.2))
  else x
def exI (g : XS → Nat → XS) (x : XS) : Nat → XS
  | 0 => x
  | k + 1 => g (exI g x k) k
def exF (bg en sc oh bt : Nat → Nat) (us gl n : Nat) : Nat → Nat → Nat → Nat → XS → XS
  | 0, _, _, _, x => x
  | d + 1, pl, mo, vi, x => exI (exS (exF bg en sc oh bt us gl n d) bg en sc oh bt us gl (5 - (d + 1)) pl mo vi) x n
def okX (x : XS) : Prop := (∀ j, x.1 j < 40) ∧ (∀ j, x.2.2.1 j ≤ 5) ∧ (∀ j, x.2.2.2.1 j ≤ 1152921504806846976) ∧ x.2.2.2.2 ≤ 5
theorem up_all {f : Nat → Nat} {p : Nat → Prop} {k v : Nat} (h : ∀ j, p (f j)) (hv : p v) : ∀ j, p (va_up f k v j) := by
  intro j
  unfold va_up
  split
  · exact hv
  · exact h j
theorem sh_all {f : Nat → Nat} {p : Nat → Prop} {k : Nat} (h : ∀ j, p (f j)) : ∀ j, p (shF f k j) := by
  intro j
  unfold shF
  split
  · exact h _
  · exact h j
theorem kpS_all {rs : Nat → Nat} {p : Nat → Prop} {t rk : Nat} (h : ∀ j, p (rs j)) (ht : p t) : ∀ j, p (kpS rs t rk j) := by
  unfold kpS
  split
  · exact up_all (sh_all h) ht
  · exact h
theorem kpN_all {rn rs : Nat → Nat} {p : Nat → Prop} {t rk len : Nat} (h : ∀ j, p (rn j)) (ht : p len) : ∀ j, p (kpN rn rs t rk len j) := by
  unfold kpN
  split
  · exact up_all (sh_all h) ht
  · exact h
theorem kpK_le {rs : Nat → Nat} {t rk : Nat} (h : rk ≤ 5) : kpK rs t rk ≤ 5 := by
  unfold kpK
  split <;> omega
theorem exI_ok {g : XS → Nat → XS} {n : Nat} (hg : ∀ x i, i < n → okX x → okX (g x i)) {x : XS} (hx : okX x) : ∀ k, k ≤ n → okX (exI g x k) := by
  intro k
  induction k with
  | zero => intro _; exact hx
  | succ k ih => intro h; exact hg _ k (by omega) (ih (by omega))
theorem ew_mo {oh sec m d : Nat} (hs : sec ≤ 10000000) (hd : d < 5) (hm : m + (d + 1) * 20000000 ≤ 1152921504706846976) : ew oh sec m + d * 20000000 ≤ 1152921504706846976 ∧ ew oh sec m ≤ 1152921504806846976 := by
  have h := ew_b oh sec m
  have hNV : NVc = 1152921504606846976 := rfl
  constructor <;> omega
theorem exF_ok {bg en sc wd ht oh bt : Nat → Nat} {co us gl n : Nat} (hB : bP bg en sc wd ht oh bt co n) : ∀ d pl mo vi x, d ≤ 5 → mo + d * 20000000 ≤ 1152921504706846976 → okX x → okX (exF bg en sc oh bt us gl n d pl mo vi x) := by
  intro d
  induction d with
  | zero => intro pl mo vi x _ _ h; exact h
  | succ d ih =>
    intro pl mo vi x hd hm hx
    refine exI_ok (n := n) (fun y i hi hy => ?_) hx n (Nat.le_refl _)
    have hn := hB.1
    have hbi := hB.2.2 i
    obtain ⟨e1, e2⟩ := ew_mo (oh := oh i) (sec := sc i) (m := mo) (d := d) (by omega) (by omega) hm
    obtain ⟨y1, y2, y3, y4⟩ := hy
    have t1 : ∀ j, va_up y.1 (5 - (d + 1)) i j < 40 := up_all (p := fun v => v < 40) y1 (by omega)
    unfold exS
    split
    · split
      · exact ⟨t1, kpN_all (p := fun v => v ≤ 5) y2 (by omega), kpS_all (p := fun v => v ≤ 1152921504806846976) y3 e2, kpK_le y4⟩
      · split
        · exact ih _ _ _ _ (by omega) e1 ⟨t1, y2, y3, y4⟩
        · exact ⟨t1, y2, y3, y4⟩
    · exact ⟨y1, y2, y3, y4⟩

def gbS (f : Nat → Nat → Nat → XS → XS) (en sc oh : Nat → Nat) (gl len mo vi : Nat) (x : XS) (i : Nat) : XS :=
  if en i = gl then (va_up x.1 len i, kpP x.2.1 (va_up x.1 len i) x.2.2.2.1 (ew (oh i) (sc i) mo) x.2.2.2.2 (len + 1), kpN x.2.2.1 x.2.2.2.1 (ew (oh i) (sc i) mo) x.2.2.2.2 (len + 1), kpS x.2.2.2.1 (ew (oh i) (sc i) mo) x.2.2.2.2, kpK x.2.2.2.1 (ew (oh i) (sc i) mo) x.2.2.2.2)
  else if rkF x.2.2.2.1 (ew (oh i) (sc i) mo) x.2.2.2.2 < 5 then f (en i) (ew (oh i) (sc i) mo) (sB vi (en i) true) (va_up x.1 len i, x.2)
  else (va_up x.1 len i, x.2)
theorem gbS_ok {bg en sc wd ht oh bt : Nat → Nat} {co us gl n : Nat} (hB : bP bg en sc wd ht oh bt co n) {d len mo vi i : Nat} {x : XS} (hd : d < 5) (hlen : len < 5) (hm : mo + (d + 1) * 20000000 ≤ 1152921504706846976) (hi : i < n) (hx : okX x) : okX (gbS (exF bg en sc oh bt us gl n d) en sc oh gl len mo vi x i) := by
  have hn := hB.1
  have hbi := hB.2.2 i
  obtain ⟨e1, e2⟩ := ew_mo (oh := oh i) (sec := sc i) (m := mo) (d := d) (by omega) (by omega) hm
  obtain ⟨y1, y2, y3, y4⟩ := hx
  have t1 : ∀ j, va_up x.1 len i j < 40 := up_all (p := fun v => v < 40) y1 (by omega)
  unfold gbS
  split
  · exact ⟨t1, kpN_all (p := fun v => v ≤ 5) y2 (by omega), kpS_all (p := fun v => v ≤ 1152921504806846976) y3 e2, kpK_le y4⟩
  · split
    · exact exF_ok hB _ _ _ _ _ (by omega) e1 ⟨t1, y2, y3, y4⟩
    · exact ⟨t1, y2, y3, y4⟩

section EX
variable {f : Nat → Nat → Nat → XS → XS} {bg en sc oh bt : Nat → Nat} {us gl len pl mo vi i k1 : Nat} {x0 : XS} {t1 p1 n1 s1 : Nat → Nat}
theorem ex_1 (h : (t1, p1, n1, s1, k1) = exI (exS f bg en sc oh bt us gl len pl mo vi) x0 i) (c : cbB us bg bt t1 i pl len = false) : (t1, p1, n1, s1, k1) = exI (exS f bg en sc oh bt us gl len pl mo vi) x0 (i + 1) := by
  show _ = exS f bg en sc oh bt us gl len pl mo vi (exI _ x0 i) i
  rw [← h]; simp [exS, c]
theorem ex_2 (h : (t1, p1, n1, s1, k1) = exI (exS f bg en sc oh bt us gl len pl mo vi) x0 i) (c : vi.testBit (en i) = true) : (t1, p1, n1, s1, k1) = exI (exS f bg en sc oh bt us gl len pl mo vi) x0 (i + 1) := by
  show _ = exS f bg en sc oh bt us gl len pl mo vi (exI _ x0 i) i
  rw [← h]; simp [exS, c]
theorem ex_3 (h : (t1, p1, n1, s1, k1) = exI (exS f bg en sc oh bt us gl len pl mo vi) x0 i) (c : cbB us bg bt t1 i pl len = true) (d : vi.testBit (en i) = false) {y : XS} (hy : y = gbS f en sc oh gl len mo vi (t1, p1, n1, s1, k1) i) : (y.1, y.2.1, y.2.2.1, y.2.2.2.1, y.2.2.2.2) = exI (exS f bg en sc oh bt us gl len pl mo vi) x0 (i + 1) := by
  show _ = exS f bg en sc oh bt us gl len pl mo vi (exI _ x0 i) i
  rw [← h]; unfold exS; rw [if_pos ⟨c, d⟩, hy]; rfl
theorem gb_1 (g : en i = gl) : gbS f en sc oh gl len mo vi (t1, p1, n1, s1, k1) i = (va_up t1 len i, kpP p1 (va_up t1 len i) s1 (ew (oh i) (sc i) mo) k1 (len + 1), kpN n1 s1 (ew (oh i) (sc i) mo) k1 (len + 1), kpS s1 (ew (oh i) (sc i) mo) k1, kpK s1 (ew (oh i) (sc i) mo) k1) := by
  unfold gbS; rw [if_pos g]
theorem gb_2 (g : ¬ en i = gl) (r : 5 ≤ rkF s1 (ew (oh i) (sc i) mo) k1) : gbS f en sc oh gl len mo vi (t1, p1, n1, s1, k1) i = (va_up t1 len i, p1, n1, s1, k1) := by
  unfold gbS; rw [if_neg g, if_neg (Nat.not_lt.mpr r)]
theorem gb_3 (g : ¬ en i = gl) (r : ¬ 5 ≤ rkF s1 (ew (oh i) (sc i) mo) k1) : gbS f en sc oh gl len mo vi (t1, p1, n1, s1, k1) i = f (en i) (ew (oh i) (sc i) mo) (sB vi (en i) true) (va_up t1 len i, p1, n1, s1, k1) := by
  unfold gbS; rw [if_neg g, if_pos (Nat.not_le.mp r)]
end EX

set_option maxHeartbeats 4000000 in
set_option maxRecDepth 100000 in
theorem ct_S_goBy (l : Launch) (dC : Nat → ClassId) (dI : Nat → Nat → Nat) (cI cJ cZ : ClassId) (d : Nat) (ihE : ∀ (qs : Nat → Nat) (tr rp rn rs : Nat → Nat) (rk us gl : Nat) (q : Nat → Nat) (bg en sc wd ht oh bt : Nat → Nat) (co n : Nat) (pl len mo vi : Nat) (sz : Nat) (hrk : rk ≤ 5) (hrs : ∀ j, rs j ≤ 1152921504806846976) (htr : ∀ j, tr j < 40) (hrn : ∀ j, rn j ≤ 5) (hB : bP bg en sc wd ht oh bt co n) (hpl : pl < 20) (hgl : gl < 20) (hld : len + d = 5) (hmo : mo + d * 20000000 ≤ 1152921504706846976) (hvi : vi < 1099511627776) (hus : us < 1099511627776), Met l yS_extend wsS_extend ({ frames := 4 + 2 * d, cells := 0, slots := 0, locals := 400 + 58 * d }) (PcW (dC, dI) (wS cI cJ cZ qs tr rp rn rs rk us gl ++ wP cI cJ cZ q bg en sc wd ht oh bt co n) (tyE cI cJ cZ) sz [.ref (qs 0), .ref (q 0), .int (nI pl), .int (nI len), .long (lN mo), .long (lN vi)]) (QwV (dC, dI) (wS cI cJ cZ qs ((exF bg en sc oh bt us gl n d pl mo vi (tr, rp, rn, rs, rk)).1) ((exF bg en sc oh bt us gl n d pl mo vi (tr, rp, rn, rs, rk)).2.1) ((exF bg en sc oh bt us gl n d pl mo vi (tr, rp, rn, rs, rk)).2.2.1) ((exF bg en sc oh bt us gl n d pl mo vi (tr, rp, rn, rs, rk)).2.2.2.1) ((exF bg en sc oh bt us gl n d pl mo vi (tr, rp, rn, rs, rk)).2.2.2.2) us gl ++ wP cI cJ cZ q bg en sc wd ht oh bt co n) (tyE cI cJ cZ) (va_A (wS cI cJ cZ qs tr rp rn rs rk us gl ++ wP cI cJ cZ q bg en sc wd ht oh bt co n) sz)) 0 0 (va_A (wS cI cJ cZ qs tr rp rn rs rk us gl ++ wP cI cJ cZ q bg en sc wd ht oh bt co n) sz)) : ∀ (qs : Nat → Nat) (tr rp rn rs : Nat → Nat) (rk us gl : Nat) (q : Nat → Nat) (bg en sc wd ht oh bt : Nat → Nat) (co n : Nat) (nb len mo vi : Nat) (sz : Nat) (hrk : rk ≤ 5) (hrs : ∀ j, rs j ≤ 1152921504806846976) (htr : ∀ j, tr j < 40) (hrn : ∀ j, rn j ≤ 5) (hB : bP bg en sc wd ht oh bt co n) (hnb : nb < n) (hgl : gl < 20) (hld : len + d = 4) (hmo : mo + (d + 1) * 20000000 ≤ 1152921504706846976) (hvi : vi < 1099511627776) (hus : us < 1099511627776), Met l yS_goBy wsS_goBy ({ frames := 5 + 2 * d, cells := 0, slots := 0, locals := 428 + 58 * d }) (PcW (dC, dI) (wS cI cJ cZ qs tr rp rn rs rk us gl ++ wP cI cJ cZ q bg en sc wd ht oh bt co n) (tyE cI cJ cZ) sz [.ref (qs 0), .ref (q 0), .int (nI nb), .int (nI len), .long (lN mo), .long (lN vi)]) (QwV (dC, dI) (wS cI cJ cZ qs ((gbS (exF bg en sc oh bt us gl n d) en sc oh gl len mo vi (tr, rp, rn, rs, rk) nb).1) ((gbS (exF bg en sc oh bt us gl n d) en sc oh gl len mo vi (tr, rp, rn, rs, rk) nb).2.1) ((gbS (exF bg en sc oh bt us gl n d) en sc oh gl len mo vi (tr, rp, rn, rs, rk) nb).2.2.1) ((gbS (exF bg en sc oh bt us gl n d) en sc oh gl len mo vi (tr, rp, rn, rs, rk) nb).2.2.2.1) ((gbS (exF bg en sc oh bt us gl n d) en sc oh gl len mo vi (tr, rp, rn, rs, rk) nb).2.2.2.2) us gl ++ wP cI cJ cZ q bg en sc wd ht oh bt co n) (tyE cI cJ cZ) (va_A (wS cI cJ cZ qs tr rp rn rs rk us gl ++ wP cI cJ cZ q bg en sc wd ht oh bt co n) sz)) 0 0 (va_A (wS cI cJ cZ qs tr rp rn rs rk us gl ++ wP cI cJ cZ q bg en sc wd ht oh bt co n) sz) := by
  intro qs tr rp rn rs rk us gl q bg en sc wd ht oh bt co n nb len mo vi sz hrk hrs htr hrn hB hnb hgl hld hmo hvi hus
  refine Met.ofW (cc := cS_goBy) (maxL := 11) (ret := none) (by decide) rfl ?_
  intro p e s m args below meth c s₁ B hml hv
  obtain ⟨rfl, hsz, hP, hK, hD0, hE⟩ := hv
  have hx := B.exec
  have hb := B.bytes
  have hr := B.returns
  have hts := atoms_spec (ws := wsS_goBy) B.pre
  have hg : ∀ w ∈ gw, w.before _ s = true := fun w h => hts w (List.mem_cons_of_mem _ h)
  have hown : s.vm.findClass nS = some m.cls := findClass_of_methodNamed B.named
  have hlocks := B.notSynchronized
  have hRd : 5 + 2 * d ≤ (headSpec wsS_goBy ({ frames := 5 + 2 * d, cells := 0, slots := 0, locals := 428 + 58 * d })).room.frames ∧ 428 + 58 * d ≤ (headSpec wsS_goBy ({ frames := 5 + 2 * d, cells := 0, slots := 0, locals := 428 + 58 * d })).room.locals := ⟨Nat.le_refl _, Nat.le_refl _⟩
  have hR : 4 ≤ (headSpec wsS_goBy ({ frames := 5 + 2 * d, cells := 0, slots := 0, locals := 428 + 58 * d })).room.frames ∧ 400 ≤ (headSpec wsS_goBy ({ frames := 5 + 2 * d, cells := 0, slots := 0, locals := 428 + 58 * d })).room.locals := ⟨Nat.le_trans (by omega) hRd.1, Nat.le_trans (by omega) hRd.2⟩
  have hcs : 0 ≤ (headSpec wsS_goBy ({ frames := 5 + 2 * d, cells := 0, slots := 0, locals := 428 + 58 * d })).room.cells ∧ 0 ≤ (headSpec wsS_goBy ({ frames := 5 + 2 * d, cells := 0, slots := 0, locals := 428 + 58 * d })).room.slots := ⟨Nat.zero_le _, Nat.zero_le _⟩
  subst hsz
  have hD := hD0.self (sz := s.heap.size)
  generalize hAe : va_A (wS cI cJ cZ qs tr rp rn rs rk us gl ++ wP cI cJ cZ q bg en sc wd ht oh bt co n) s.heap.size = A at hD ⊢
  have hA : ∀ q : Nat, s.heap.size ≤ q → A q := fun q h => by rw [← hAe]; exact Or.inr h
  obtain ⟨H, hH⟩ : ∃ H, H = s.heap := ⟨_, rfl⟩
  have hS : va_S A s.heap H [] := by rw [hH]; exact va_S.rf
  rw [← hH] at hP ⊢
  have hn := hB.1
  have hco := hB.2.1
  have hbi := hB.2.2
  have bi := hbi nb
  obtain ⟨e1, e2⟩ := ew_mo (oh := oh nb) (sec := sc nb) (m := mo) (d := d) (by omega) (by omega) hmo
  have ht2 : ∀ j, va_up tr len nb j < 40 := up_all (p := fun v => v < 40) htr (by omega)
  have hvs : sB vi (en nb) true < 1099511627776 := sB_lt (w := 40) true hvi (by omega)
  have hkF := rkF_le rs (ew (oh nb) (sc nb) mo) rk
  have hl := lv_entry ([.ref (qs 0), .ref (q 0), .int (nI nb), .int (nI len), .long (lN mo), .long (lN vi)]) (n := 11) (Nat.le_of_ble_eq_true rfl)
  rw [lg_entry_eq]
  generalize (lg_sl ([.ref (qs 0), .ref (q 0), .int (nI nb), .int (nI len), .long (lN mo), .long (lN vi)]) ++ List.replicate (11 - (lg_sl ([.ref (qs 0), .ref (q 0), .int (nI nb), .int (nI len), .long (lN mo), .long (lN vi)])).length) Slot.unset).toArray = ls at hl ⊢
  have hl : lv_has ls 11 [(0, .ref (qs 0)), (1, .ref (q 0)), (2, .int (nI nb)), (3, .int (nI len)), (4, .long (lN mo)), (6, .long (lN vi))] := hl
  refine lv_aload_n hx hb dS_goBy_0 rfl (lv_at hl 1 rfl) ?_
  refine va_get (D := (dC, dI)) (ci := 1) (v := .ref (q 2)) (C := nP) (T := TP) (N := 9) hx hb hg inP hown hK hP 5 rfl rfl 1 (by decide) (hg _ kS_53) (fun _ h9 => h9) rfl dS_goBy_1 ?_
  refine lv_iload_n hx hb dS_goBy_4 rfl (lv_at hl 2 rfl) ?_
  refine ga_i (f := en) hx hb hK hP 7 0 rfl rfl (by omega) (by decide) dS_goBy_5 ?_
  refine lv_istore (lv' := [(8, .int (nI (en nb))), (0, .ref (qs 0)), (1, .ref (q 0)), (2, .int (nI nb)), (3, .int (nI len)), (4, .long (lN mo)), (6, .long (lN vi))]) hx hb dS_goBy_6 hl (by decide) rfl (fun ls hl => ?_)
  refine lv_aload_n hx hb dS_goBy_8 rfl (lv_at hl 2 rfl) ?_
  refine lv_iload_n hx hb dS_goBy_9 rfl (lv_at hl 3 rfl) ?_
  refine lv_lload hx hb dS_goBy_10 (lv_at hl 5 rfl) ?_
  refine cpV_l (b := (q 0)) (C := nP) (As := [.int (nI nb), .long (lN mo)]) (rest := []) (post := fun r : Int64 => r = lN (ew (oh nb) (sc nb) mo)) ⟨hx, hb, hml, hown, hts⟩ (ct_P_endWhenUsedFrom l dC dI cI cJ cZ q bg en sc wd ht oh bt co n nb mo (hB) (by omega) (by omega)) (cwV 2 hts (gv kS_63 ki_P_endWhenUsedFrom ksel_P_endWhenUsedFrom kin_P kc_P_endWhenUsedFrom) rfl rfl rfl (by decide +kernel) ⟨Nat.le_trans (by decide) hR.1, Nat.le_trans (by decide) hR.2⟩) (va_recv hK hP (ci := 1) (q0 := 5) rfl rfl) (hP.sub (ws' := (wP cI cJ cZ q bg en sc wd ht oh bt co n)) [5, 6, 7, 8, 9, 10, 11, 12] rfl) hK hE rfl hl.1 rfl (Nat.le_of_ble_eq_true rfl) dS_goBy_12 hcs (fun r hr => ?_)
  subst hr
  refine lv_lstore (lv' := [(9, .long (lN (ew (oh nb) (sc nb) mo))), (8, .int (nI (en nb))), (0, .ref (qs 0)), (1, .ref (q 0)), (2, .int (nI nb)), (3, .int (nI len)), (4, .long (lN mo)), (6, .long (lN vi))]) hx hb dS_goBy_15 hl (by decide) rfl (fun ls hl => ?_)
  refine lv_aload_n hx hb dS_goBy_17 rfl (lv_at hl 2 rfl) ?_
  refine va_get (D := (dC, dI)) (ci := 3) (v := .ref (qs 1)) (C := nS) (T := TS) (N := 7) hx hb hg inS hown hK hP 0 rfl rfl 0 (by decide) (hg _ kS_9) (fun _ h9 => h9) rfl dS_goBy_18 ?_
  refine lv_iload_n hx hb dS_goBy_21 rfl (lv_at hl 5 rfl) ?_
  refine lv_iload_n hx hb dS_goBy_22 rfl (lv_at hl 4 rfl) ?_
  refine sa_i (f := tr) (v := nb) hx hb hK hP hD hS 1 0 rfl rfl (by omega) (by decide) dS_goBy_23 (fun H locs hP hD hS => ?_)
  have hP : va_P (dC, dI) vwCl (wS cI cJ cZ qs (va_up tr len nb) rp rn rs rk us gl ++ wP cI cJ cZ q bg en sc wd ht oh bt co n) H := hP
  have hD : va_D A (wS cI cJ cZ qs (va_up tr len nb) rp rn rs rk us gl ++ wP cI cJ cZ q bg en sc wd ht oh bt co n) := hD
  refine lv_iload hx hb dS_goBy_24 (lv_at hl 1 rfl) ?_
  refine lv_aload_n hx hb dS_goBy_26 rfl (lv_at hl 2 rfl) ?_
  refine va_get (D := (dC, dI)) (ci := 3) (v := .int (nI gl)) (C := nS) (T := TS) (N := 7) hx hb hg inS hown hK hP 0 rfl rfl 6 (by decide) (hg _ kS_29) (fun _ h9 => h9) rfl dS_goBy_27 ?_
  refine rn_icmp_ne (tgt := 45) hx hb dS_goBy_30 (by decide) (by omega) (by omega) (fun c30 => ?_) (fun c30 => ?_)
  · refine lv_aload_n hx hb dS_goBy_45 rfl (lv_at hl 2 rfl) ?_
    refine lv_lload hx hb dS_goBy_46 (lv_at hl 0 rfl) ?_
    refine cpV_i (b := (qs 0)) (C := nS) (As := [.long (lN (ew (oh nb) (sc nb) mo))]) (rest := []) (post := fun r : Int32 => r = nI (rkF rs (ew (oh nb) (sc nb) mo) rk)) ⟨hx, hb, hml, hown, hts⟩ (ct_S_rankOf l dC dI cI cJ cZ qs (va_up tr len nb) rp rn rs rk us gl (ew (oh nb) (sc nb) mo) (hrk) (hrs) (by omega)) (cwV 1 hts (gv kS_71 ki_S_rankOf ksel_S_rankOf kin_S kc_S_rankOf) rfl rfl rfl (by decide +kernel) ⟨Nat.le_trans (by decide) hR.1, Nat.le_trans (by decide) hR.2⟩) (va_recv hK hP (ci := 3) (q0 := 0) rfl rfl) (hP.sub (ws' := (wS cI cJ cZ qs (va_up tr len nb) rp rn rs rk us gl)) [0, 1, 2, 3, 4] rfl) hK hE rfl hl.1 rfl (Nat.le_of_ble_eq_true rfl) dS_goBy_48 hcs (fun r hr => ?_)
    subst hr
    refine rn_iconst hx hb 5 dS_goBy_51 (by decide) ?_
    refine rn_icmp_ge (tgt := 75) hx hb dS_goBy_52 (by decide) (by omega) (by omega) (fun c52 => ?_) (fun c52 => ?_)
    · have hP9 : va_P (dC, dI) vwCl (wS cI cJ cZ qs ((gbS (exF bg en sc oh bt us gl n d) en sc oh gl len mo vi (tr, rp, rn, rs, rk) nb).1) ((gbS (exF bg en sc oh bt us gl n d) en sc oh gl len mo vi (tr, rp, rn, rs, rk) nb).2.1) ((gbS (exF bg en sc oh bt us gl n d) en sc oh gl len mo vi (tr, rp, rn, rs, rk) nb).2.2.1) ((gbS (exF bg en sc oh bt us gl n d) en sc oh gl len mo vi (tr, rp, rn, rs, rk) nb).2.2.2.1) ((gbS (exF bg en sc oh bt us gl n d) en sc oh gl len mo vi (tr, rp, rn, rs, rk) nb).2.2.2.2) us gl ++ wP cI cJ cZ q bg en sc wd ht oh bt co n) H := by first | (rw [gb_1 c30]; exact hP) | (rw [gb_2 c30 c52]; exact hP) | (rw [gb_3 c30 c52]; exact hP)
      have hD9 : va_D A (wS cI cJ cZ qs ((gbS (exF bg en sc oh bt us gl n d) en sc oh gl len mo vi (tr, rp, rn, rs, rk) nb).1) ((gbS (exF bg en sc oh bt us gl n d) en sc oh gl len mo vi (tr, rp, rn, rs, rk) nb).2.1) ((gbS (exF bg en sc oh bt us gl n d) en sc oh gl len mo vi (tr, rp, rn, rs, rk) nb).2.2.1) ((gbS (exF bg en sc oh bt us gl n d) en sc oh gl len mo vi (tr, rp, rn, rs, rk) nb).2.2.2.1) ((gbS (exF bg en sc oh bt us gl n d) en sc oh gl len mo vi (tr, rp, rn, rs, rk) nb).2.2.2.2) us gl ++ wP cI cJ cZ q bg en sc wd ht oh bt co n) := by first | (rw [gb_1 c30]; exact hD) | (rw [gb_2 c30 c52]; exact hD) | (rw [gb_3 c30 c52]; exact hD)
      exact W.vret hx hb hr (fun t ht hW => ⟨⟨(), rfl, trivial, by rw [ht]; exact hP9, va_K.moved hW.alike hK, hD9⟩, hS.F ht⟩) hS.2.2 dS_goBy_75
    · refine lv_aload_n hx hb dS_goBy_55 rfl (lv_at hl 2 rfl) ?_
      refine lv_aload_n hx hb dS_goBy_56 rfl (lv_at hl 3 rfl) ?_
      refine lv_iload hx hb dS_goBy_57 (lv_at hl 1 rfl) ?_
      refine lv_iload_n hx hb dS_goBy_59 rfl (lv_at hl 5 rfl) ?_
      refine rn_iconst hx hb 1 dS_goBy_60 (by decide) ?_
      refine rn_iadd hx hb dS_goBy_61 ?_
      refine lv_lload hx hb dS_goBy_62 (lv_at hl 0 rfl) ?_
      refine lv_lload hx hb dS_goBy_64 (lv_at hl 7 rfl) ?_
      refine lv_iload hx hb dS_goBy_66 (lv_at hl 1 rfl) ?_
      refine rn_iconst hx hb 1 dS_goBy_68 (by decide) ?_
      refine cpN_l (As := [.long (lN vi), .int (nI (en nb)), .int (bI true)]) (rest := [.long (lN (ew (oh nb) (sc nb) mo)), .int (nI (len + 1)), .int (nI (en nb)), .ref (q 0), .ref (qs 0)]) (post := fun r : Int64 => r = lN (sB vi (en nb) true)) ⟨hx, hb, hml, hown, hts⟩ (ct_G_withBit l dC dI cI cJ cZ vi (en nb) true (by omega) (by omega)) ⟨va_cnB 3 hts (gi kc_G_withBit) rfl rfl rfl (hE _ kNS_36) (hg _ kin_G) (by decide +kernel) ⟨Nat.le_trans (by decide) hR.1, Nat.le_trans (by decide) hR.2⟩, hg _ ks_G_withBit, trivial⟩ (hP.sub (ws' := []) [] rfl) hK hE rfl hl.1 rfl (Nat.le_of_ble_eq_true rfl) dS_goBy_69 hcs (fun r hr => ?_)
      subst hr
      refine kwV_v (D := (dC, dI)) (b := (qs 0)) (C := nS) (As := [.ref (q 0), .int (nI (en nb)), .int (nI (len + 1)), .long (lN (ew (oh nb) (sc nb) mo)), .long (lN (sB vi (en nb) true))]) (rest := []) (wc := (wS cI cJ cZ qs (va_up tr len nb) rp rn rs rk us gl ++ wP cI cJ cZ q bg en sc wd ht oh bt co n)) (wr := []) (w1 := (wS cI cJ cZ qs ((exF bg en sc oh bt us gl n d (en nb) (ew (oh nb) (sc nb) mo) (sB vi (en nb) true) ((va_up tr len nb), rp, rn, rs, rk)).1) ((exF bg en sc oh bt us gl n d (en nb) (ew (oh nb) (sc nb) mo) (sB vi (en nb) true) ((va_up tr len nb), rp, rn, rs, rk)).2.1) ((exF bg en sc oh bt us gl n d (en nb) (ew (oh nb) (sc nb) mo) (sB vi (en nb) true) ((va_up tr len nb), rp, rn, rs, rk)).2.2.1) ((exF bg en sc oh bt us gl n d (en nb) (ew (oh nb) (sc nb) mo) (sB vi (en nb) true) ((va_up tr len nb), rp, rn, rs, rk)).2.2.2.1) ((exF bg en sc oh bt us gl n d (en nb) (ew (oh nb) (sc nb) mo) (sB vi (en nb) true) ((va_up tr len nb), rp, rn, rs, rk)).2.2.2.2) us gl ++ wP cI cJ cZ q bg en sc wd ht oh bt co n)) (wn := (wS cI cJ cZ qs ((exF bg en sc oh bt us gl n d (en nb) (ew (oh nb) (sc nb) mo) (sB vi (en nb) true) ((va_up tr len nb), rp, rn, rs, rk)).1) ((exF bg en sc oh bt us gl n d (en nb) (ew (oh nb) (sc nb) mo) (sB vi (en nb) true) ((va_up tr len nb), rp, rn, rs, rk)).2.1) ((exF bg en sc oh bt us gl n d (en nb) (ew (oh nb) (sc nb) mo) (sB vi (en nb) true) ((va_up tr len nb), rp, rn, rs, rk)).2.2.1) ((exF bg en sc oh bt us gl n d (en nb) (ew (oh nb) (sc nb) mo) (sB vi (en nb) true) ((va_up tr len nb), rp, rn, rs, rk)).2.2.2.1) ((exF bg en sc oh bt us gl n d (en nb) (ew (oh nb) (sc nb) mo) (sB vi (en nb) true) ((va_up tr len nb), rp, rn, rs, rk)).2.2.2.2) us gl ++ wP cI cJ cZ q bg en sc wd ht oh bt co n)) ⟨hx, hb, hml, hown, hts⟩ (ihE qs (va_up tr len nb) rp rn rs rk us gl q bg en sc wd ht oh bt co n (en nb) (len + 1) (ew (oh nb) (sc nb) mo) (sB vi (en nb) true) H.size (hrk) (hrs) (ht2) (hrn) (hB) (by omega) (hgl) (by omega) (e1) (by omega) (hus)) (cwV 5 hts (gv kS_40 ki_S_extend ksel_S_extend kin_S kc_S_extend) rfl rfl rfl (by decide +kernel) ⟨by have h9 := hRd.1; show 4 + 2 * d + 1 ≤ _; omega, by have h9 := hRd.2; show 8 + (9 + 11) + (400 + 58 * d) ≤ _; omega⟩) (va_recv hK hP (ci := 3) (q0 := 0) rfl rfl) hP hD hK hE hS hA [0, 1, 2, 3, 4, 5, 6, 7, 8, 9, 10, 11, 12] [] [0, 1, 2, 3, 4, 5, 6, 7, 8, 9, 10, 11, 12] rfl (by decide) rfl (by decide) (by decide) rfl (by decide) rfl hl.1 rfl (Nat.le_of_ble_eq_true rfl) dS_goBy_72 hcs (fun H locs hP hD hS => ?_)
      have hP9 : va_P (dC, dI) vwCl (wS cI cJ cZ qs ((gbS (exF bg en sc oh bt us gl n d) en sc oh gl len mo vi (tr, rp, rn, rs, rk) nb).1) ((gbS (exF bg en sc oh bt us gl n d) en sc oh gl len mo vi (tr, rp, rn, rs, rk) nb).2.1) ((gbS (exF bg en sc oh bt us gl n d) en sc oh gl len mo vi (tr, rp, rn, rs, rk) nb).2.2.1) ((gbS (exF bg en sc oh bt us gl n d) en sc oh gl len mo vi (tr, rp, rn, rs, rk) nb).2.2.2.1) ((gbS (exF bg en sc oh bt us gl n d) en sc oh gl len mo vi (tr, rp, rn, rs, rk) nb).2.2.2.2) us gl ++ wP cI cJ cZ q bg en sc wd ht oh bt co n) H := by first | (rw [gb_1 c30]; exact hP) | (rw [gb_2 c30 c52]; exact hP) | (rw [gb_3 c30 c52]; exact hP)
      have hD9 : va_D A (wS cI cJ cZ qs ((gbS (exF bg en sc oh bt us gl n d) en sc oh gl len mo vi (tr, rp, rn, rs, rk) nb).1) ((gbS (exF bg en sc oh bt us gl n d) en sc oh gl len mo vi (tr, rp, rn, rs, rk) nb).2.1) ((gbS (exF bg en sc oh bt us gl n d) en sc oh gl len mo vi (tr, rp, rn, rs, rk) nb).2.2.1) ((gbS (exF bg en sc oh bt us gl n d) en sc oh gl len mo vi (tr, rp, rn, rs, rk) nb).2.2.2.1) ((gbS (exF bg en sc oh bt us gl n d) en sc oh gl len mo vi (tr, rp, rn, rs, rk) nb).2.2.2.2) us gl ++ wP cI cJ cZ q bg en sc wd ht oh bt co n) := by first | (rw [gb_1 c30]; exact hD) | (rw [gb_2 c30 c52]; exact hD) | (rw [gb_3 c30 c52]; exact hD)
      exact W.vret hx hb hr (fun t ht hW => ⟨⟨(), rfl, trivial, by rw [ht]; exact hP9, va_K.moved hW.alike hK, hD9⟩, hS.F ht⟩) hS.2.2 dS_goBy_75
  · refine lv_aload_n hx hb dS_goBy_33 rfl (lv_at hl 2 rfl) ?_
    refine lv_iload_n hx hb dS_goBy_34 rfl (lv_at hl 5 rfl) ?_
    refine rn_iconst hx hb 1 dS_goBy_35 (by decide) ?_
    refine rn_iadd hx hb dS_goBy_36 ?_
    refine lv_lload hx hb dS_goBy_37 (lv_at hl 0 rfl) ?_
    refine kwV_v (D := (dC, dI)) (b := (qs 0)) (C := nS) (As := [.int (nI (len + 1)), .long (lN (ew (oh nb) (sc nb) mo))]) (rest := []) (wc := (wS cI cJ cZ qs (va_up tr len nb) rp rn rs rk us gl)) (wr := (wP cI cJ cZ q bg en sc wd ht oh bt co n)) (w1 := (wS cI cJ cZ qs (va_up tr len nb) (kpP rp (va_up tr len nb) rs (ew (oh nb) (sc nb) mo) rk (len + 1)) (kpN rn rs (ew (oh nb) (sc nb) mo) rk (len + 1)) (kpS rs (ew (oh nb) (sc nb) mo) rk) (kpK rs (ew (oh nb) (sc nb) mo) rk) us gl)) (wn := (wS cI cJ cZ qs (va_up tr len nb) (kpP rp (va_up tr len nb) rs (ew (oh nb) (sc nb) mo) rk (len + 1)) (kpN rn rs (ew (oh nb) (sc nb) mo) rk (len + 1)) (kpS rs (ew (oh nb) (sc nb) mo) rk) (kpK rs (ew (oh nb) (sc nb) mo) rk) us gl ++ wP cI cJ cZ q bg en sc wd ht oh bt co n)) ⟨hx, hb, hml, hown, hts⟩ (ct_S_keep l dC dI cI cJ cZ qs (va_up tr len nb) rp rn rs rk us gl (len + 1) (ew (oh nb) (sc nb) mo) H.size (hrk) (hrs) (ht2) (by omega) (by omega)) (cwV 2 hts (gv kS_67 ki_S_keep ksel_S_keep kin_S kc_S_keep) rfl rfl rfl (by decide +kernel) ⟨Nat.le_trans (by decide) hR.1, Nat.le_trans (by decide) hR.2⟩) (va_recv hK hP (ci := 3) (q0 := 0) rfl rfl) hP hD hK hE hS hA [0, 1, 2, 3, 4] [5, 6, 7, 8, 9, 10, 11, 12] [8, 9, 10, 11, 12, 0, 1, 2, 3, 4, 5, 6, 7] rfl (by decide) rfl (by decide) (by decide) rfl (by decide) rfl hl.1 rfl (Nat.le_of_ble_eq_true rfl) dS_goBy_39 hcs (fun H locs hP hD hS => ?_)
    refine lv_goto (tgt := 75) hx hb dS_goBy_42 (by decide) ?_
    have hP9 : va_P (dC, dI) vwCl (wS cI cJ cZ qs ((gbS (exF bg en sc oh bt us gl n d) en sc oh gl len mo vi (tr, rp, rn, rs, rk) nb).1) ((gbS (exF bg en sc oh bt us gl n d) en sc oh gl len mo vi (tr, rp, rn, rs, rk) nb).2.1) ((gbS (exF bg en sc oh bt us gl n d) en sc oh gl len mo vi (tr, rp, rn, rs, rk) nb).2.2.1) ((gbS (exF bg en sc oh bt us gl n d) en sc oh gl len mo vi (tr, rp, rn, rs, rk) nb).2.2.2.1) ((gbS (exF bg en sc oh bt us gl n d) en sc oh gl len mo vi (tr, rp, rn, rs, rk) nb).2.2.2.2) us gl ++ wP cI cJ cZ q bg en sc wd ht oh bt co n) H := by first | (rw [gb_1 c30]; exact hP) | (rw [gb_2 c30 c52]; exact hP) | (rw [gb_3 c30 c52]; exact hP)
    have hD9 : va_D A (wS cI cJ cZ qs ((gbS (exF bg en sc oh bt us gl n d) en sc oh gl len mo vi (tr, rp, rn, rs, rk) nb).1) ((gbS (exF bg en sc oh bt us gl n d) en sc oh gl len mo vi (tr, rp, rn, rs, rk) nb).2.1) ((gbS (exF bg en sc oh bt us gl n d) en sc oh gl len mo vi (tr, rp, rn, rs, rk) nb).2.2.1) ((gbS (exF bg en sc oh bt us gl n d) en sc oh gl len mo vi (tr, rp, rn, rs, rk) nb).2.2.2.1) ((gbS (exF bg en sc oh bt us gl n d) en sc oh gl len mo vi (tr, rp, rn, rs, rk) nb).2.2.2.2) us gl ++ wP cI cJ cZ q bg en sc wd ht oh bt co n) := by first | (rw [gb_1 c30]; exact hD) | (rw [gb_2 c30 c52]; exact hD) | (rw [gb_3 c30 c52]; exact hD)
    exact W.vret hx hb hr (fun t ht hW => ⟨⟨(), rfl, trivial, by rw [ht]; exact hP9, va_K.moved hW.alike hK, hD9⟩, hS.F ht⟩) hS.2.2 dS_goBy_75

set_option maxHeartbeats 4000000 in
set_option maxRecDepth 100000 in
theorem lp_S_extend {p : Program} {l : Launch} {e : Env} {R : Room} {s : State} {m : MethodId} {args : Array Value} {below : List Frame} {meth : Method} {c : Code} {cells slots : Nat} {Q : State → Prop} {dC : Nat → ClassId} {dI : Nat → Nat → Nat} {cI cJ cZ : ClassId} {A : Nat → Prop} (d : Nat) (qs : Nat → Nat) (tr rp rn rs : Nat → Nat) (rk us gl : Nat) (q : Nat → Nat) (bg en sc wd ht oh bt : Nat → Nat) (co n : Nat) (pl len mo vi : Nat) (hrk : rk ≤ 5) (hrs : ∀ j, rs j ≤ 1152921504806846976) (htr : ∀ j, tr j < 40) (hrn : ∀ j, rn j ≤ 5) (hB : bP bg en sc wd ht oh bt co n) (hpl : pl < 20) (hgl : gl < 20) (hld : len + d = 5) (hmo : mo + d * 20000000 ≤ 1152921504706846976) (hvi : vi < 1099511627776) (hus : us < 1099511627776) (hRd : 4 + 2 * d ≤ R.frames ∧ 400 + 58 * d ≤ R.locals) (ih : ∀ d9, d9 < d → ∀ (qs : Nat → Nat) (tr rp rn rs : Nat → Nat) (rk us gl : Nat) (q : Nat → Nat) (bg en sc wd ht oh bt : Nat → Nat) (co n : Nat) (pl len mo vi : Nat) (sz : Nat) (hrk : rk ≤ 5) (hrs : ∀ j, rs j ≤ 1152921504806846976) (htr : ∀ j, tr j < 40) (hrn : ∀ j, rn j ≤ 5) (hB : bP bg en sc wd ht oh bt co n) (hpl : pl < 20) (hgl : gl < 20) (hld : len + d9 = 5) (hmo : mo + d9 * 20000000 ≤ 1152921504706846976) (hvi : vi < 1099511627776) (hus : us < 1099511627776), Met l yS_extend wsS_extend ({ frames := 4 + 2 * d9, cells := 0, slots := 0, locals := 400 + 58 * d9 }) (PcW (dC, dI) (wS cI cJ cZ qs tr rp rn rs rk us gl ++ wP cI cJ cZ q bg en sc wd ht oh bt co n) (tyE cI cJ cZ) sz [.ref (qs 0), .ref (q 0), .int (nI pl), .int (nI len), .long (lN mo), .long (lN vi)]) (QwV (dC, dI) (wS cI cJ cZ qs ((exF bg en sc oh bt us gl n d9 pl mo vi (tr, rp, rn, rs, rk)).1) ((exF bg en sc oh bt us gl n d9 pl mo vi (tr, rp, rn, rs, rk)).2.1) ((exF bg en sc oh bt us gl n d9 pl mo vi (tr, rp, rn, rs, rk)).2.2.1) ((exF bg en sc oh bt us gl n d9 pl mo vi (tr, rp, rn, rs, rk)).2.2.2.1) ((exF bg en sc oh bt us gl n d9 pl mo vi (tr, rp, rn, rs, rk)).2.2.2.2) us gl ++ wP cI cJ cZ q bg en sc wd ht oh bt co n) (tyE cI cJ cZ) (va_A (wS cI cJ cZ qs tr rp rn rs rk us gl ++ wP cI cJ cZ q bg en sc wd ht oh bt co n) sz)) 0 0 (va_A (wS cI cJ cZ qs tr rp rn rs rk us gl ++ wP cI cJ cZ q bg en sc wd ht oh bt co n) sz))  (hx : p.tables.exec = Jvm.exec) (hb : c.code = cS_extend) (hml : c.maxLocals = 9) (hown : s.vm.findClass nS = some m.cls) (hts : ∀ w ∈ wsS_extend, w.before args s = true) (hK : va_K (dC, dI) vwCl (tyE cI cJ cZ) s) (hE : EV s) (hA : ∀ q : Nat, s.heap.size ≤ q → A q) (hR : 4 ≤ R.frames ∧ 400 ≤ R.locals) (hcs : cells ≤ R.cells ∧ slots ≤ R.slots)
    (kx0 : ∀ (i : Nat) (t1 : Nat → Nat) (p1 : Nat → Nat) (n1 : Nat → Nat) (s1 : Nat → Nat) (k1 : Nat) (hi : i ≤ n) (hl5 : len < 5) (hst : (t1, p1, n1, s1, k1) = exI (exS (exF bg en sc oh bt us gl n (d - 1)) bg en sc oh bt us gl len pl mo vi) (tr, rp, rn, rs, rk) i) (hok : okX (t1, p1, n1, s1, k1)) (hx0 : n ≤ i) (H : Heap) (locs : List Loc), va_P (dC, dI) vwCl (wS cI cJ cZ qs t1 p1 n1 s1 k1 us gl ++ wP cI cJ cZ q bg en sc wd ht oh bt co n) H → va_D A (wS cI cJ cZ qs t1 p1 n1 s1 k1 us gl ++ wP cI cJ cZ q bg en sc wd ht oh bt co n) → va_S A s.heap H locs → ∀ ls : Array Slot, lv_has ls 9 [(0, .ref (qs 0)), (1, .ref (q 0)), (2, .int (nI pl)), (3, .int (nI len)), (4, .long (lN mo)), (6, .long (lN vi)), (8, .int (nI i))] →  W p l e R s m args below meth c H locs cells slots Q (F0 m 63 ls []))
    : ∀ (fu : Nat) (i : Nat) (t1 : Nat → Nat) (p1 : Nat → Nat) (n1 : Nat → Nat) (s1 : Nat → Nat) (k1 : Nat) (hi : i ≤ n) (hl5 : len < 5) (hst : (t1, p1, n1, s1, k1) = exI (exS (exF bg en sc oh bt us gl n (d - 1)) bg en sc oh bt us gl len pl mo vi) (tr, rp, rn, rs, rk) i) (hok : okX (t1, p1, n1, s1, k1)), n - i < fu → ∀ (H : Heap) (locs : List Loc), va_P (dC, dI) vwCl (wS cI cJ cZ qs t1 p1 n1 s1 k1 us gl ++ wP cI cJ cZ q bg en sc wd ht oh bt co n) H → va_D A (wS cI cJ cZ qs t1 p1 n1 s1 k1 us gl ++ wP cI cJ cZ q bg en sc wd ht oh bt co n) → va_S A s.heap H locs → ∀ ls : Array Slot, lv_has ls 9 [(0, .ref (qs 0)), (1, .ref (q 0)), (2, .int (nI pl)), (3, .int (nI len)), (4, .long (lN mo)), (6, .long (lN vi)), (8, .int (nI i))] →  W p l e R s m args below meth c H locs cells slots Q (F0 m 9 ls []) := by
  have hg : ∀ w ∈ gw, w.before args s = true := fun w h => hts w (List.mem_cons_of_mem _ h)
  have hn := hB.1
  have hco := hB.2.1
  have hbi := hB.2.2
  intro fu
  induction fu with
  | zero => intro i t1 p1 n1 s1 k1 hi hl5 hst hok h0; exact absurd h0 (Nat.not_lt_zero _)
  | succ fu ihL =>
    intro i t1 p1 n1 s1 k1 hi hl5 hst hok hfu H locs hP hD hS ls hl
    refine lv_iload hx hb dS_extend_9 (lv_at hl 6 rfl) ?_
    refine lv_aload_n hx hb dS_extend_11 rfl (lv_at hl 1 rfl) ?_
    refine va_get (D := (dC, dI)) (ci := 1) (v := .int (nI n)) (C := nP) (T := TP) (N := 9) hx hb hg inP hown hK hP 5 rfl rfl 8 (by decide) (hg _ kS_44) (fun _ h9 => h9) rfl dS_extend_12 ?_
    refine rn_icmp_ge (tgt := 63) hx hb dS_extend_15 (by decide) (by omega) (by omega) (fun c15 => ?_) (fun c15 => ?_)
    · exact kx0 i t1 p1 n1 s1 k1 hi hl5 hst hok (by omega) H locs hP hD hS ls (lv_sub hl [0, 1, 2, 3, 4, 5, 6] rfl)
    · have bi := hbi i
      have hk1 : k1 ≤ 5 := hok.2.2.2
      have hs1 : ∀ j, s1 j ≤ 1152921504806846976 := hok.2.2.1
      have ht1 : ∀ j, t1 j < 40 := hok.1
      have hmo1 : mo + (d - 1 + 1) * 20000000 ≤ 1152921504706846976 := by rw [show d - 1 + 1 = d from by omega]; exact hmo
      refine lv_aload_n hx hb dS_extend_18 rfl (lv_at hl 0 rfl) ?_
      refine lv_aload_n hx hb dS_extend_19 rfl (lv_at hl 1 rfl) ?_
      refine lv_iload hx hb dS_extend_20 (lv_at hl 6 rfl) ?_
      refine lv_iload_n hx hb dS_extend_22 rfl (lv_at hl 2 rfl) ?_
      refine lv_iload_n hx hb dS_extend_23 rfl (lv_at hl 3 rfl) ?_
      refine cpV_i (b := (qs 0)) (C := nS) (As := [.ref (q 0), .int (nI i), .int (nI pl), .int (nI len)]) (rest := []) (post := fun r : Int32 => r = bI (cbB us bg bt t1 i pl len)) ⟨hx, hb, hml, hown, hts⟩ (ct_S_canBeNext l dC dI cI cJ cZ qs t1 p1 n1 s1 k1 us gl q bg en sc wd ht oh bt co n i pl len (hB) (by omega) (hpl) (by omega) (hus) (ht1)) (cwV 4 hts (gv kS_49 ki_S_canBeNext ksel_S_canBeNext kin_S kc_S_canBeNext) rfl rfl rfl (by decide +kernel) ⟨Nat.le_trans (by decide) hR.1, Nat.le_trans (by decide) hR.2⟩) (va_recv hK hP (ci := 3) (q0 := 0) rfl rfl) hP hK hE rfl hl.1 rfl (Nat.le_of_ble_eq_true rfl) dS_extend_24 hcs (fun r hr => ?_)
      subst hr
      refine rb_eq (tgt := 57) hx hb dS_extend_27 (by decide) (fun c27 => ?_) (fun c27 => ?_)
      · refine rn_iinc (lv' := [(8, .int (nI (i + 1))), (0, .ref (qs 0)), (1, .ref (q 0)), (2, .int (nI pl)), (3, .int (nI len)), (4, .long (lN mo)), (6, .long (lN vi))]) hx hb dS_extend_57 hl (k := 6) rfl (by decide) rfl (fun ls hl => ?_)
        refine lv_goto (tgt := 9) hx hb dS_extend_60 (by decide) ?_
        exact ihL (i + 1) t1 p1 n1 s1 k1 (by omega) (hl5) (by first | exact ex_1 hst c27 | exact ex_2 hst c42 | exact ex_3 hst c27 c42 rfl) (by first | exact hok | exact gbS_ok (x := (t1, p1, n1, s1, k1)) hB (by omega) hl5 hmo1 (by omega) hok) (by omega) H locs hP hD hS ls (lv_sub hl [1, 2, 3, 4, 5, 6, 0] rfl)
      · refine lv_lload hx hb dS_extend_30 (lv_at hl 5 rfl) ?_
        refine lv_aload_n hx hb dS_extend_32 rfl (lv_at hl 1 rfl) ?_
        refine va_get (D := (dC, dI)) (ci := 1) (v := .ref (q 2)) (C := nP) (T := TP) (N := 9) hx hb hg inP hown hK hP 5 rfl rfl 1 (by decide) (hg _ kS_53) (fun _ h9 => h9) rfl dS_extend_33 ?_
        refine lv_iload hx hb dS_extend_36 (lv_at hl 6 rfl) ?_
        refine ga_i (f := en) hx hb hK hP 7 0 rfl rfl (by omega) (by decide) dS_extend_38 ?_
        refine cpN_i (As := [.long (lN vi), .int (nI (en i))]) (rest := []) (post := fun r : Int32 => r = bI (vi.testBit (en i))) ⟨hx, hb, hml, hown, hts⟩ (ct_G_hasBit l dC dI cI cJ cZ vi (en i) (by omega) (by omega)) ⟨va_cnB 2 hts (gi kc_G_hasBit) rfl rfl rfl (hE _ kNS_56) (hg _ kin_G) (by decide +kernel) ⟨Nat.le_trans (by decide) hR.1, Nat.le_trans (by decide) hR.2⟩, hg _ ks_G_hasBit, trivial⟩ (hP.sub (ws' := []) [] rfl) hK hE rfl hl.1 rfl (Nat.le_of_ble_eq_true rfl) dS_extend_39 hcs (fun r hr => ?_)
        subst hr
        refine rb_ne (tgt := 57) hx hb dS_extend_42 (by decide) (fun c42 => ?_) (fun c42 => ?_)
        · refine rn_iinc (lv' := [(8, .int (nI (i + 1))), (0, .ref (qs 0)), (1, .ref (q 0)), (2, .int (nI pl)), (3, .int (nI len)), (4, .long (lN mo)), (6, .long (lN vi))]) hx hb dS_extend_57 hl (k := 6) rfl (by decide) rfl (fun ls hl => ?_)
          refine lv_goto (tgt := 9) hx hb dS_extend_60 (by decide) ?_
          exact ihL (i + 1) t1 p1 n1 s1 k1 (by omega) (hl5) (by first | exact ex_1 hst c27 | exact ex_2 hst c42 | exact ex_3 hst c27 c42 rfl) (by first | exact hok | exact gbS_ok (x := (t1, p1, n1, s1, k1)) hB (by omega) hl5 hmo1 (by omega) hok) (by omega) H locs hP hD hS ls (lv_sub hl [1, 2, 3, 4, 5, 6, 0] rfl)
        · refine lv_aload_n hx hb dS_extend_45 rfl (lv_at hl 0 rfl) ?_
          refine lv_aload_n hx hb dS_extend_46 rfl (lv_at hl 1 rfl) ?_
          refine lv_iload hx hb dS_extend_47 (lv_at hl 6 rfl) ?_
          refine lv_iload_n hx hb dS_extend_49 rfl (lv_at hl 3 rfl) ?_
          refine lv_lload hx hb dS_extend_50 (lv_at hl 4 rfl) ?_
          refine lv_lload hx hb dS_extend_52 (lv_at hl 5 rfl) ?_
          refine kwV_v (D := (dC, dI)) (b := (qs 0)) (C := nS) (As := [.ref (q 0), .int (nI i), .int (nI len), .long (lN mo), .long (lN vi)]) (rest := []) (wc := (wS cI cJ cZ qs t1 p1 n1 s1 k1 us gl ++ wP cI cJ cZ q bg en sc wd ht oh bt co n)) (wr := []) (w1 := (wS cI cJ cZ qs ((gbS (exF bg en sc oh bt us gl n (d - 1)) en sc oh gl len mo vi (t1, p1, n1, s1, k1) i).1) ((gbS (exF bg en sc oh bt us gl n (d - 1)) en sc oh gl len mo vi (t1, p1, n1, s1, k1) i).2.1) ((gbS (exF bg en sc oh bt us gl n (d - 1)) en sc oh gl len mo vi (t1, p1, n1, s1, k1) i).2.2.1) ((gbS (exF bg en sc oh bt us gl n (d - 1)) en sc oh gl len mo vi (t1, p1, n1, s1, k1) i).2.2.2.1) ((gbS (exF bg en sc oh bt us gl n (d - 1)) en sc oh gl len mo vi (t1, p1, n1, s1, k1) i).2.2.2.2) us gl ++ wP cI cJ cZ q bg en sc wd ht oh bt co n)) (wn := (wS cI cJ cZ qs ((gbS (exF bg en sc oh bt us gl n (d - 1)) en sc oh gl len mo vi (t1, p1, n1, s1, k1) i).1) ((gbS (exF bg en sc oh bt us gl n (d - 1)) en sc oh gl len mo vi (t1, p1, n1, s1, k1) i).2.1) ((gbS (exF bg en sc oh bt us gl n (d - 1)) en sc oh gl len mo vi (t1, p1, n1, s1, k1) i).2.2.1) ((gbS (exF bg en sc oh bt us gl n (d - 1)) en sc oh gl len mo vi (t1, p1, n1, s1, k1) i).2.2.2.1) ((gbS (exF bg en sc oh bt us gl n (d - 1)) en sc oh gl len mo vi (t1, p1, n1, s1, k1) i).2.2.2.2) us gl ++ wP cI cJ cZ q bg en sc wd ht oh bt co n)) ⟨hx, hb, hml, hown, hts⟩ (ct_S_goBy l dC dI cI cJ cZ (d - 1) (ih (d - 1) (by omega)) qs t1 p1 n1 s1 k1 us gl q bg en sc wd ht oh bt co n i len mo vi H.size (by omega) (hs1) (ht1) (hok.2.1) (hB) (by omega) (hgl) (by omega) (hmo1) (hvi) (hus)) (cwV 5 hts (gv kS_60 ki_S_goBy ksel_S_goBy kin_S kc_S_goBy) rfl rfl rfl (by decide +kernel) ⟨by have h9 := hRd.1; show 5 + 2 * (d - 1) + 1 ≤ _; omega, by have h9 := hRd.2; show 8 + (11 + 11) + (428 + 58 * (d - 1)) ≤ _; omega⟩) (va_recv hK hP (ci := 3) (q0 := 0) rfl rfl) hP hD hK hE hS hA [0, 1, 2, 3, 4, 5, 6, 7, 8, 9, 10, 11, 12] [] [0, 1, 2, 3, 4, 5, 6, 7, 8, 9, 10, 11, 12] rfl (by decide) rfl (by decide) (by decide) rfl (by decide) rfl hl.1 rfl (Nat.le_of_ble_eq_true rfl) dS_extend_54 hcs (fun H locs hP hD hS => ?_)
          refine rn_iinc (lv' := [(8, .int (nI (i + 1))), (0, .ref (qs 0)), (1, .ref (q 0)), (2, .int (nI pl)), (3, .int (nI len)), (4, .long (lN mo)), (6, .long (lN vi))]) hx hb dS_extend_57 hl (k := 6) rfl (by decide) rfl (fun ls hl => ?_)
          refine lv_goto (tgt := 9) hx hb dS_extend_60 (by decide) ?_
          exact ihL (i + 1) ((gbS (exF bg en sc oh bt us gl n (d - 1)) en sc oh gl len mo vi (t1, p1, n1, s1, k1) i).1) ((gbS (exF bg en sc oh bt us gl n (d - 1)) en sc oh gl len mo vi (t1, p1, n1, s1, k1) i).2.1) ((gbS (exF bg en sc oh bt us gl n (d - 1)) en sc oh gl len mo vi (t1, p1, n1, s1, k1) i).2.2.1) ((gbS (exF bg en sc oh bt us gl n (d - 1)) en sc oh gl len mo vi (t1, p1, n1, s1, k1) i).2.2.2.1) ((gbS (exF bg en sc oh bt us gl n (d - 1)) en sc oh gl len mo vi (t1, p1, n1, s1, k1) i).2.2.2.2) (by omega) (hl5) (by first | exact ex_1 hst c27 | exact ex_2 hst c42 | exact ex_3 hst c27 c42 rfl) (by first | exact hok | exact gbS_ok (x := (t1, p1, n1, s1, k1)) hB (by omega) hl5 hmo1 (by omega) hok) (by omega) H locs hP hD hS ls (lv_sub hl [1, 2, 3, 4, 5, 6, 0] rfl)

set_option maxHeartbeats 4000000 in
set_option maxRecDepth 100000 in
theorem ct_S_extend (l : Launch) (dC : Nat → ClassId) (dI : Nat → Nat → Nat) (cI cJ cZ : ClassId) : ∀ (d : Nat) (qs : Nat → Nat) (tr rp rn rs : Nat → Nat) (rk us gl : Nat) (q : Nat → Nat) (bg en sc wd ht oh bt : Nat → Nat) (co n : Nat) (pl len mo vi : Nat) (sz : Nat) (hrk : rk ≤ 5) (hrs : ∀ j, rs j ≤ 1152921504806846976) (htr : ∀ j, tr j < 40) (hrn : ∀ j, rn j ≤ 5) (hB : bP bg en sc wd ht oh bt co n) (hpl : pl < 20) (hgl : gl < 20) (hld : len + d = 5) (hmo : mo + d * 20000000 ≤ 1152921504706846976) (hvi : vi < 1099511627776) (hus : us < 1099511627776), Met l yS_extend wsS_extend ({ frames := 4 + 2 * d, cells := 0, slots := 0, locals := 400 + 58 * d }) (PcW (dC, dI) (wS cI cJ cZ qs tr rp rn rs rk us gl ++ wP cI cJ cZ q bg en sc wd ht oh bt co n) (tyE cI cJ cZ) sz [.ref (qs 0), .ref (q 0), .int (nI pl), .int (nI len), .long (lN mo), .long (lN vi)]) (QwV (dC, dI) (wS cI cJ cZ qs ((exF bg en sc oh bt us gl n d pl mo vi (tr, rp, rn, rs, rk)).1) ((exF bg en sc oh bt us gl n d pl mo vi (tr, rp, rn, rs, rk)).2.1) ((exF bg en sc oh bt us gl n d pl mo vi (tr, rp, rn, rs, rk)).2.2.1) ((exF bg en sc oh bt us gl n d pl mo vi (tr, rp, rn, rs, rk)).2.2.2.1) ((exF bg en sc oh bt us gl n d pl mo vi (tr, rp, rn, rs, rk)).2.2.2.2) us gl ++ wP cI cJ cZ q bg en sc wd ht oh bt co n) (tyE cI cJ cZ) (va_A (wS cI cJ cZ qs tr rp rn rs rk us gl ++ wP cI cJ cZ q bg en sc wd ht oh bt co n) sz)) 0 0 (va_A (wS cI cJ cZ qs tr rp rn rs rk us gl ++ wP cI cJ cZ q bg en sc wd ht oh bt co n) sz) := by
  intro d
  induction d using Nat.strongRecOn with
  | _ d ih =>
  intro qs tr rp rn rs rk us gl q bg en sc wd ht oh bt co n pl len mo vi sz hrk hrs htr hrn hB hpl hgl hld hmo hvi hus
  refine Met.ofW (cc := cS_extend) (maxL := 9) (ret := none) (by decide) rfl ?_
  intro p e s m args below meth c s₁ B hml hv
  obtain ⟨rfl, hsz, hP, hK, hD0, hE⟩ := hv
  have hx := B.exec
  have hb := B.bytes
  have hr := B.returns
  have hts := atoms_spec (ws := wsS_extend) B.pre
  have hg : ∀ w ∈ gw, w.before _ s = true := fun w h => hts w (List.mem_cons_of_mem _ h)
  have hown : s.vm.findClass nS = some m.cls := findClass_of_methodNamed B.named
  have hlocks := B.notSynchronized
  have hRd : 4 + 2 * d ≤ (headSpec wsS_extend ({ frames := 4 + 2 * d, cells := 0, slots := 0, locals := 400 + 58 * d })).room.frames ∧ 400 + 58 * d ≤ (headSpec wsS_extend ({ frames := 4 + 2 * d, cells := 0, slots := 0, locals := 400 + 58 * d })).room.locals := ⟨Nat.le_refl _, Nat.le_refl _⟩
  have hR : 4 ≤ (headSpec wsS_extend ({ frames := 4 + 2 * d, cells := 0, slots := 0, locals := 400 + 58 * d })).room.frames ∧ 400 ≤ (headSpec wsS_extend ({ frames := 4 + 2 * d, cells := 0, slots := 0, locals := 400 + 58 * d })).room.locals := ⟨Nat.le_trans (by omega) hRd.1, Nat.le_trans (by omega) hRd.2⟩
  have hcs : 0 ≤ (headSpec wsS_extend ({ frames := 4 + 2 * d, cells := 0, slots := 0, locals := 400 + 58 * d })).room.cells ∧ 0 ≤ (headSpec wsS_extend ({ frames := 4 + 2 * d, cells := 0, slots := 0, locals := 400 + 58 * d })).room.slots := ⟨Nat.zero_le _, Nat.zero_le _⟩
  subst hsz
  have hD := hD0.self (sz := s.heap.size)
  generalize hAe : va_A (wS cI cJ cZ qs tr rp rn rs rk us gl ++ wP cI cJ cZ q bg en sc wd ht oh bt co n) s.heap.size = A at hD ⊢
  have hA : ∀ q : Nat, s.heap.size ≤ q → A q := fun q h => by rw [← hAe]; exact Or.inr h
  obtain ⟨H, hH⟩ : ∃ H, H = s.heap := ⟨_, rfl⟩
  have hS : va_S A s.heap H [] := by rw [hH]; exact va_S.rf
  rw [← hH] at hP ⊢
  have hn := hB.1
  have hco := hB.2.1
  have hbi := hB.2.2
  have hl := lv_entry ([.ref (qs 0), .ref (q 0), .int (nI pl), .int (nI len), .long (lN mo), .long (lN vi)]) (n := 9) (Nat.le_of_ble_eq_true rfl)
  rw [lg_entry_eq]
  generalize (lg_sl ([.ref (qs 0), .ref (q 0), .int (nI pl), .int (nI len), .long (lN mo), .long (lN vi)]) ++ List.replicate (9 - (lg_sl ([.ref (qs 0), .ref (q 0), .int (nI pl), .int (nI len), .long (lN mo), .long (lN vi)])).length) Slot.unset).toArray = ls at hl ⊢
  have hl : lv_has ls 9 [(0, .ref (qs 0)), (1, .ref (q 0)), (2, .int (nI pl)), (3, .int (nI len)), (4, .long (lN mo)), (6, .long (lN vi))] := hl
  refine lv_iload_n hx hb dS_extend_0 rfl (lv_at hl 3 rfl) ?_
  refine rn_iconst hx hb 5 dS_extend_1 (by decide) ?_
  refine rn_icmp_lt (tgt := 6) hx hb dS_extend_2 (by decide) (by omega) (by omega) (fun c2 => ?_) (fun c2 => ?_)
  · refine rn_iconst hx hb 0 dS_extend_6 (by decide) ?_
    refine lv_istore (lv' := [(8, .int (nI 0)), (0, .ref (qs 0)), (1, .ref (q 0)), (2, .int (nI pl)), (3, .int (nI len)), (4, .long (lN mo)), (6, .long (lN vi))]) hx hb dS_extend_7 hl (by decide) rfl (fun ls hl => ?_)
    refine lp_S_extend d qs tr rp rn rs rk us gl q bg en sc wd ht oh bt co n pl len mo vi hrk hrs htr hrn hB hpl hgl hld hmo hvi hus hRd ih  hx hb hml hown hts hK hE hA (by first | exact hR | exact ⟨Nat.le_trans (by decide) hR.1, Nat.le_trans (by decide) hR.2⟩) hcs (fun i t1 p1 n1 s1 k1 hi hl5 hst hok hx0 H locs hP hD hS ls hl => ?_) ((n - 0) + 1) 0 tr rp rn rs rk (by omega) (c2) (rfl) (⟨htr, hrn, hrs, hrk⟩) (by omega) _ _ hP hD hS ls (lv_sub hl [1, 2, 3, 4, 5, 6, 0] rfl)
    have hP9 : va_P (dC, dI) vwCl (wS cI cJ cZ qs ((exF bg en sc oh bt us gl n d pl mo vi (tr, rp, rn, rs, rk)).1) ((exF bg en sc oh bt us gl n d pl mo vi (tr, rp, rn, rs, rk)).2.1) ((exF bg en sc oh bt us gl n d pl mo vi (tr, rp, rn, rs, rk)).2.2.1) ((exF bg en sc oh bt us gl n d pl mo vi (tr, rp, rn, rs, rk)).2.2.2.1) ((exF bg en sc oh bt us gl n d pl mo vi (tr, rp, rn, rs, rk)).2.2.2.2) us gl ++ wP cI cJ cZ q bg en sc wd ht oh bt co n) H := by rw [show exF bg en sc oh bt us gl n d pl mo vi (tr, rp, rn, rs, rk) = (t1, p1, n1, s1, k1) from by rw [hst, show i = n from by omega]; obtain ⟨d, rfl⟩ : ∃ k, d = k + 1 := ⟨d - 1, by omega⟩; show exI (exS (exF bg en sc oh bt us gl n d) bg en sc oh bt us gl (5 - (d + 1)) pl mo vi) _ n = _; rw [show 5 - (d + 1) = len from by omega]; rfl]; exact hP
    have hD9 : va_D A (wS cI cJ cZ qs ((exF bg en sc oh bt us gl n d pl mo vi (tr, rp, rn, rs, rk)).1) ((exF bg en sc oh bt us gl n d pl mo vi (tr, rp, rn, rs, rk)).2.1) ((exF bg en sc oh bt us gl n d pl mo vi (tr, rp, rn, rs, rk)).2.2.1) ((exF bg en sc oh bt us gl n d pl mo vi (tr, rp, rn, rs, rk)).2.2.2.1) ((exF bg en sc oh bt us gl n d pl mo vi (tr, rp, rn, rs, rk)).2.2.2.2) us gl ++ wP cI cJ cZ q bg en sc wd ht oh bt co n) := by rw [show exF bg en sc oh bt us gl n d pl mo vi (tr, rp, rn, rs, rk) = (t1, p1, n1, s1, k1) from by rw [hst, show i = n from by omega]; obtain ⟨d, rfl⟩ : ∃ k, d = k + 1 := ⟨d - 1, by omega⟩; show exI (exS (exF bg en sc oh bt us gl n d) bg en sc oh bt us gl (5 - (d + 1)) pl mo vi) _ n = _; rw [show 5 - (d + 1) = len from by omega]; rfl]; exact hD
    exact W.vret hx hb hr (fun t ht hW => ⟨⟨(), rfl, trivial, by rw [ht]; exact hP9, va_K.moved hW.alike hK, hD9⟩, hS.F ht⟩) hS.2.2 dS_extend_63
  · have hP9 : va_P (dC, dI) vwCl (wS cI cJ cZ qs ((exF bg en sc oh bt us gl n d pl mo vi (tr, rp, rn, rs, rk)).1) ((exF bg en sc oh bt us gl n d pl mo vi (tr, rp, rn, rs, rk)).2.1) ((exF bg en sc oh bt us gl n d pl mo vi (tr, rp, rn, rs, rk)).2.2.1) ((exF bg en sc oh bt us gl n d pl mo vi (tr, rp, rn, rs, rk)).2.2.2.1) ((exF bg en sc oh bt us gl n d pl mo vi (tr, rp, rn, rs, rk)).2.2.2.2) us gl ++ wP cI cJ cZ q bg en sc wd ht oh bt co n) H := by rw [show d = 0 from by omega]; exact hP
    have hD9 : va_D A (wS cI cJ cZ qs ((exF bg en sc oh bt us gl n d pl mo vi (tr, rp, rn, rs, rk)).1) ((exF bg en sc oh bt us gl n d pl mo vi (tr, rp, rn, rs, rk)).2.1) ((exF bg en sc oh bt us gl n d pl mo vi (tr, rp, rn, rs, rk)).2.2.1) ((exF bg en sc oh bt us gl n d pl mo vi (tr, rp, rn, rs, rk)).2.2.2.1) ((exF bg en sc oh bt us gl n d pl mo vi (tr, rp, rn, rs, rk)).2.2.2.2) us gl ++ wP cI cJ cZ q bg en sc wd ht oh bt co n) := by rw [show d = 0 from by omega]; exact hD
    exact W.vret hx hb hr (fun t ht hW => ⟨⟨(), rfl, trivial, by rw [ht]; exact hP9, va_K.moved hW.alike hK, hD9⟩, hS.F ht⟩) hS.2.2 dS_extend_5

set_option maxHeartbeats 4000000 in
set_option maxRecDepth 100000 in
theorem ct_S_search (l : Launch) (dC : Nat → ClassId) (dI : Nat → Nat → Nat) (cI cJ cZ : ClassId) (qs : Nat → Nat) (tr rp rn rs : Nat → Nat) (rk us gl : Nat) (q : Nat → Nat) (bg en sc wd ht oh bt : Nat → Nat) (co n : Nat) (us0 a b : Nat) (sz : Nat) (hrs : ∀ j, rs j ≤ 1152921504806846976) (htr : ∀ j, tr j < 40) (hrn : ∀ j, rn j ≤ 5) (hB : bP bg en sc wd ht oh bt co n) (ha : a < 20) (hb9 : b < 20) (hus : us0 < 1099511627776) : Met l yS_search wsS_search ({ frames := 15, cells := 0, slots := 0, locals := 718 }) (PcW (dC, dI) (wS cI cJ cZ qs tr rp rn rs rk us gl ++ wP cI cJ cZ q bg en sc wd ht oh bt co n) (tyE cI cJ cZ) sz [.ref (qs 0), .ref (q 0), .long (lN us0), .int (nI a), .int (nI b)]) (QwV (dC, dI) (wS cI cJ cZ qs ((exF bg en sc oh bt us0 b n 5 a 0 (sB 0 a true) (tr, rp, rn, rs, 0)).1) ((exF bg en sc oh bt us0 b n 5 a 0 (sB 0 a true) (tr, rp, rn, rs, 0)).2.1) ((exF bg en sc oh bt us0 b n 5 a 0 (sB 0 a true) (tr, rp, rn, rs, 0)).2.2.1) ((exF bg en sc oh bt us0 b n 5 a 0 (sB 0 a true) (tr, rp, rn, rs, 0)).2.2.2.1) ((exF bg en sc oh bt us0 b n 5 a 0 (sB 0 a true) (tr, rp, rn, rs, 0)).2.2.2.2) us0 b ++ wP cI cJ cZ q bg en sc wd ht oh bt co n) (tyE cI cJ cZ) (va_A (wS cI cJ cZ qs tr rp rn rs rk us gl ++ wP cI cJ cZ q bg en sc wd ht oh bt co n) sz)) 0 0 (va_A (wS cI cJ cZ qs tr rp rn rs rk us gl ++ wP cI cJ cZ q bg en sc wd ht oh bt co n) sz) := by
  refine Met.ofW (cc := cS_search) (maxL := 6) (ret := none) (by decide) rfl ?_
  intro p e s m args below meth c s₁ B hml hv
  obtain ⟨rfl, hsz, hP, hK, hD0, hE⟩ := hv
  have hx := B.exec
  have hb := B.bytes
  have hr := B.returns
  have hts := atoms_spec (ws := wsS_search) B.pre
  have hg : ∀ w ∈ gw, w.before _ s = true := fun w h => hts w (List.mem_cons_of_mem _ h)
  have hown : s.vm.findClass nS = some m.cls := findClass_of_methodNamed B.named
  have hlocks := B.notSynchronized
  have hR : 15 ≤ (headSpec wsS_search ({ frames := 15, cells := 0, slots := 0, locals := 718 })).room.frames ∧ 718 ≤ (headSpec wsS_search ({ frames := 15, cells := 0, slots := 0, locals := 718 })).room.locals := ⟨Nat.le_refl _, Nat.le_refl _⟩
  have hcs : 0 ≤ (headSpec wsS_search ({ frames := 15, cells := 0, slots := 0, locals := 718 })).room.cells ∧ 0 ≤ (headSpec wsS_search ({ frames := 15, cells := 0, slots := 0, locals := 718 })).room.slots := ⟨Nat.zero_le _, Nat.zero_le _⟩
  subst hsz
  have hD := hD0.self (sz := s.heap.size)
  generalize hAe : va_A (wS cI cJ cZ qs tr rp rn rs rk us gl ++ wP cI cJ cZ q bg en sc wd ht oh bt co n) s.heap.size = A at hD ⊢
  have hA : ∀ q : Nat, s.heap.size ≤ q → A q := fun q h => by rw [← hAe]; exact Or.inr h
  obtain ⟨H, hH⟩ : ∃ H, H = s.heap := ⟨_, rfl⟩
  have hS : va_S A s.heap H [] := by rw [hH]; exact va_S.rf
  rw [← hH] at hP ⊢
  have hsv : sB 0 a true < 1099511627776 := sB_lt (w := 40) true (by decide) (by omega)
  have hl := lv_entry ([.ref (qs 0), .ref (q 0), .long (lN us0), .int (nI a), .int (nI b)]) (n := 6) (Nat.le_of_ble_eq_true rfl)
  rw [lg_entry_eq]
  generalize (lg_sl ([.ref (qs 0), .ref (q 0), .long (lN us0), .int (nI a), .int (nI b)]) ++ List.replicate (6 - (lg_sl ([.ref (qs 0), .ref (q 0), .long (lN us0), .int (nI a), .int (nI b)])).length) Slot.unset).toArray = ls at hl ⊢
  have hl : lv_has ls 6 [(0, .ref (qs 0)), (1, .ref (q 0)), (2, .long (lN us0)), (4, .int (nI a)), (5, .int (nI b))] := hl
  refine lv_aload_n hx hb dS_search_0 rfl (lv_at hl 0 rfl) ?_
  refine lv_lload_n hx hb dS_search_1 rfl (lv_at hl 2 rfl) ?_
  refine va_put (D := (dC, dI)) (ci := 3) (v := .long (lN us0)) (ty := .long) (C := nS) (T := TS) (N := 7) hx hb hg inS tS tS_ok nmS hown hK hP hD hS 0 rfl rfl 5 (by decide) (hg _ kS_25) (fun _ h9 => h9) rfl (by decide +kernel) rfl rfl (Nat.le_of_ble_eq_true rfl) dS_search_2 (fun H locs hP hD hS => ?_)
  have hP : va_P (dC, dI) vwCl (wS cI cJ cZ qs tr rp rn rs rk us0 gl ++ wP cI cJ cZ q bg en sc wd ht oh bt co n) H := hP
  have hD : va_D A (wS cI cJ cZ qs tr rp rn rs rk us0 gl ++ wP cI cJ cZ q bg en sc wd ht oh bt co n) := hD
  refine lv_aload_n hx hb dS_search_5 rfl (lv_at hl 0 rfl) ?_
  refine lv_iload hx hb dS_search_6 (lv_at hl 4 rfl) ?_
  refine va_put (D := (dC, dI)) (ci := 3) (v := .int (nI b)) (ty := .int) (C := nS) (T := TS) (N := 7) hx hb hg inS tS tS_ok nmS hown hK hP hD hS 0 rfl rfl 6 (by decide) (hg _ kS_29) (fun _ h9 => h9) rfl (by decide +kernel) rfl rfl (Nat.le_of_ble_eq_true rfl) dS_search_8 (fun H locs hP hD hS => ?_)
  have hP : va_P (dC, dI) vwCl (wS cI cJ cZ qs tr rp rn rs rk us0 b ++ wP cI cJ cZ q bg en sc wd ht oh bt co n) H := hP
  have hD : va_D A (wS cI cJ cZ qs tr rp rn rs rk us0 b ++ wP cI cJ cZ q bg en sc wd ht oh bt co n) := hD
  refine lv_aload_n hx hb dS_search_11 rfl (lv_at hl 0 rfl) ?_
  refine rn_iconst hx hb 0 dS_search_12 (by decide) ?_
  refine va_put (D := (dC, dI)) (ci := 3) (v := .int (nI 0)) (ty := .int) (C := nS) (T := TS) (N := 7) hx hb hg inS tS tS_ok nmS hown hK hP hD hS 0 rfl rfl 4 (by decide) (hg _ kS_33) (fun _ h9 => h9) rfl (by decide +kernel) rfl rfl (Nat.le_of_ble_eq_true rfl) dS_search_13 (fun H locs hP hD hS => ?_)
  have hP : va_P (dC, dI) vwCl (wS cI cJ cZ qs tr rp rn rs 0 us0 b ++ wP cI cJ cZ q bg en sc wd ht oh bt co n) H := hP
  have hD : va_D A (wS cI cJ cZ qs tr rp rn rs 0 us0 b ++ wP cI cJ cZ q bg en sc wd ht oh bt co n) := hD
  refine lv_aload_n hx hb dS_search_16 rfl (lv_at hl 0 rfl) ?_
  refine lv_aload_n hx hb dS_search_17 rfl (lv_at hl 1 rfl) ?_
  refine lv_iload hx hb dS_search_18 (lv_at hl 3 rfl) ?_
  refine rn_iconst hx hb 0 dS_search_20 (by decide) ?_
  refine rn_lconst hx hb 0 dS_search_21 rfl ?_
  refine rn_lconst hx hb 0 dS_search_22 rfl ?_
  refine lv_iload hx hb dS_search_23 (lv_at hl 3 rfl) ?_
  refine rn_iconst hx hb 1 dS_search_25 (by decide) ?_
  refine cpN_l (As := [.long (lN 0), .int (nI a), .int (bI true)]) (rest := [.long (lN 0), .int (nI 0), .int (nI a), .ref (q 0), .ref (qs 0)]) (post := fun r : Int64 => r = lN (sB 0 a true)) ⟨hx, hb, hml, hown, hts⟩ (ct_G_withBit l dC dI cI cJ cZ 0 a true (by omega) (by omega)) ⟨va_cnB 3 hts (gi kc_G_withBit) rfl rfl rfl (hE _ kNS_36) (hg _ kin_G) (by decide +kernel) ⟨Nat.le_trans (by decide) hR.1, Nat.le_trans (by decide) hR.2⟩, hg _ ks_G_withBit, trivial⟩ (hP.sub (ws' := []) [] rfl) hK hE rfl hl.1 rfl (Nat.le_of_ble_eq_true rfl) dS_search_26 hcs (fun r hr => ?_)
  subst hr
  refine kwV_v (D := (dC, dI)) (b := (qs 0)) (C := nS) (As := [.ref (q 0), .int (nI a), .int (nI 0), .long (lN 0), .long (lN (sB 0 a true))]) (rest := []) (wc := (wS cI cJ cZ qs tr rp rn rs 0 us0 b ++ wP cI cJ cZ q bg en sc wd ht oh bt co n)) (wr := []) (w1 := (wS cI cJ cZ qs ((exF bg en sc oh bt us0 b n 5 a 0 (sB 0 a true) (tr, rp, rn, rs, 0)).1) ((exF bg en sc oh bt us0 b n 5 a 0 (sB 0 a true) (tr, rp, rn, rs, 0)).2.1) ((exF bg en sc oh bt us0 b n 5 a 0 (sB 0 a true) (tr, rp, rn, rs, 0)).2.2.1) ((exF bg en sc oh bt us0 b n 5 a 0 (sB 0 a true) (tr, rp, rn, rs, 0)).2.2.2.1) ((exF bg en sc oh bt us0 b n 5 a 0 (sB 0 a true) (tr, rp, rn, rs, 0)).2.2.2.2) us0 b ++ wP cI cJ cZ q bg en sc wd ht oh bt co n)) (wn := (wS cI cJ cZ qs ((exF bg en sc oh bt us0 b n 5 a 0 (sB 0 a true) (tr, rp, rn, rs, 0)).1) ((exF bg en sc oh bt us0 b n 5 a 0 (sB 0 a true) (tr, rp, rn, rs, 0)).2.1) ((exF bg en sc oh bt us0 b n 5 a 0 (sB 0 a true) (tr, rp, rn, rs, 0)).2.2.1) ((exF bg en sc oh bt us0 b n 5 a 0 (sB 0 a true) (tr, rp, rn, rs, 0)).2.2.2.1) ((exF bg en sc oh bt us0 b n 5 a 0 (sB 0 a true) (tr, rp, rn, rs, 0)).2.2.2.2) us0 b ++ wP cI cJ cZ q bg en sc wd ht oh bt co n)) ⟨hx, hb, hml, hown, hts⟩ (ct_S_extend l dC dI cI cJ cZ 5 qs tr rp rn rs 0 us0 b q bg en sc wd ht oh bt co n a 0 0 (sB 0 a true) H.size (by omega) (hrs) (htr) (hrn) (hB) (ha) (hb9) (by omega) (by omega) (by omega) (hus)) (cwV 5 hts (gv kS_40 ki_S_extend ksel_S_extend kin_S kc_S_extend) rfl rfl rfl (by decide +kernel) ⟨Nat.le_trans (by decide) hR.1, Nat.le_trans (by decide) hR.2⟩) (va_recv hK hP (ci := 3) (q0 := 0) rfl rfl) hP hD hK hE hS hA [0, 1, 2, 3, 4, 5, 6, 7, 8, 9, 10, 11, 12] [] [0, 1, 2, 3, 4, 5, 6, 7, 8, 9, 10, 11, 12] rfl (by decide) rfl (by decide) (by decide) rfl (by decide) rfl hl.1 rfl (Nat.le_of_ble_eq_true rfl) dS_search_29 hcs (fun H locs hP hD hS => ?_)
  have hP9 : va_P (dC, dI) vwCl (wS cI cJ cZ qs ((exF bg en sc oh bt us0 b n 5 a 0 (sB 0 a true) (tr, rp, rn, rs, 0)).1) ((exF bg en sc oh bt us0 b n 5 a 0 (sB 0 a true) (tr, rp, rn, rs, 0)).2.1) ((exF bg en sc oh bt us0 b n 5 a 0 (sB 0 a true) (tr, rp, rn, rs, 0)).2.2.1) ((exF bg en sc oh bt us0 b n 5 a 0 (sB 0 a true) (tr, rp, rn, rs, 0)).2.2.2.1) ((exF bg en sc oh bt us0 b n 5 a 0 (sB 0 a true) (tr, rp, rn, rs, 0)).2.2.2.2) us0 b ++ wP cI cJ cZ q bg en sc wd ht oh bt co n) H := by exact hP
  have hD9 : va_D A (wS cI cJ cZ qs ((exF bg en sc oh bt us0 b n 5 a 0 (sB 0 a true) (tr, rp, rn, rs, 0)).1) ((exF bg en sc oh bt us0 b n 5 a 0 (sB 0 a true) (tr, rp, rn, rs, 0)).2.1) ((exF bg en sc oh bt us0 b n 5 a 0 (sB 0 a true) (tr, rp, rn, rs, 0)).2.2.1) ((exF bg en sc oh bt us0 b n 5 a 0 (sB 0 a true) (tr, rp, rn, rs, 0)).2.2.2.1) ((exF bg en sc oh bt us0 b n 5 a 0 (sB 0 a true) (tr, rp, rn, rs, 0)).2.2.2.2) us0 b ++ wP cI cJ cZ q bg en sc wd ht oh bt co n) := by exact hD
  exact W.vret hx hb hr (fun t ht hW => ⟨⟨(), rfl, trivial, by rw [ht]; exact hP9, va_K.moved hW.alike hK, hD9⟩, hS.F ht⟩) hS.2.2 dS_search_32
