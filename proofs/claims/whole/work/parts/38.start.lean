/-! ===== the law: its start, and the claim ===== -/
theorem arr_of {A : Array Value} {s : State} {ty : FieldType} (h : (Cond.arrayClass ty).before A s = true) : ∃ cA : ClassId, ArrOfT s cA ty ∧ s.vm.findClass ("[" ++ ty.toString) = some cA := by
  obtain ⟨cA, k, comp, h1, h2, h3⟩ := Cond.arrayClass_spec h
  exact ⟨cA, fun n z => ⟨fun k h => (by cases h), k, h2, comp, h3⟩, h1⟩
theorem nt_of {l : Launch} (h : l.flags = flags0) : l.stackTraces = false := by
  rw [Launch.stackTraces, h]
  decide +kernel
theorem t_lU : Cond.laysStatic Bundle.tN "UNASSIGNED_STACK" Bundle.steD ∈ lw_tbl := List.mem_append_right _ (List.mem_of_getElem? (i := 232) (by decide +kernel))
theorem t_lS : Cond.laysStatic Bundle.tN "SUPPRESSED_SENTINEL" Bundle.listD ∈ lw_tbl := List.mem_append_right _ (List.mem_of_getElem? (i := 234) (by decide +kernel))
theorem t_iT : Cond.initialized Bundle.tN ∈ lw_tbl := List.mem_append_right _ (List.mem_of_getElem? (i := 7) (by decide +kernel))
theorem f_U : Cond.isRef (.static Bundle.tN "UNASSIGNED_STACK" Bundle.steD) ∈ flatC (Jvm.Cond.and given_1 narrow_1) := by decide +kernel
theorem f_S : Cond.isRef (.static Bundle.tN "SUPPRESSED_SENTINEL" Bundle.listD) ∈ flatC (Jvm.Cond.and given_1 narrow_1) := by decide +kernel
theorem f_N : ∀ q ∈ ncL, Cond.not (.castable q.1 q.2) ∈ flatC (Jvm.Cond.and given_1 narrow_1) := by decide +kernel
theorem st_EV {A : Array Value} {s : State} (h : ∀ w ∈ lw_tbl, w.before A s = true) : EV s := fun w hw => by
  have hq := h w (nwL_t w hw)
  obtain ⟨a, i, x, k, rfl⟩ := nwL_ok w hw
  exact va_Nw.of rfl hq
theorem st_EX {A : Array Value} {s : State} {cG : ClassId} (h : ∀ w ∈ lw_tbl, w.before A s = true) (hgv : (Jvm.Cond.and given_1 narrow_1).before A s = true) (hc : s.vm.findClass nG = some cG) : EX s := by
  have hf := flat_of_before _ hgv
  refine ⟨vx_Zqof (h _ t_lU) (h _ t_iT) (hf _ f_U) (fun _ _ h => h), vx_Zqof (h _ t_lS) (h _ t_iT) (hf _ f_S) (fun _ _ h => h), fun w hw => ?_, fun q hq => ?_⟩
  · have hq := h w (cwL_t w hw)
    rcases cwL_ok w hw with ⟨a, b, rfl⟩ | ⟨x, rfl⟩
    · exact va_Nw.of rfl hq
    · exact va_Nw.of rfl hq
  · have h1 := h _ (strL_t q hq)
    obtain ⟨-, -, -, a, -, -, -, -, -, he⟩ := Cond.stringRef_spec hc h1
    exact ⟨a, vk_R.of h1 he⟩
theorem st_NC {A : Array Value} {s : State} (hgv : (Jvm.Cond.and given_1 narrow_1).before A s = true) : NC s := fun q hq => va_Nc.of (flat_of_before _ hgv _ (f_N q hq))
set_option maxHeartbeats 4000000 in
set_option maxRecDepth 100000 in
theorem whole_start {p : Program} {e : Env} {s : State} {m : MethodId} {below : List Frame} {meth : Method} {c : Code} (l : Launch) (hl0 : l.stackTraces = false) {b L : Nat} {xs : Nat → Int32} (hL : L ≤ 3584) (C0 : lw_At p s m meth c b L xs) : W p l e room_1 s m #[Value.ref b] below meth c s.heap [] 0 0 (lw_Z below #[Value.ref b] s) (entryFrame m ([Value.ref b] : List Value).toArray 8) := by
  obtain ⟨hx, hb, hr, hml, hown, hts0, hXs, hbl, hlocks, hgv⟩ := id C0
  have hg : ∀ w ∈ gw, w.before #[Value.ref b] s = true := fun w h => hts0 w (List.mem_filter.mp h).1
  have hts : ∀ w ∈ (Cond.initialized nG :: gw), w.before #[Value.ref b] s = true := fun w h => (List.mem_cons.mp h).elim (fun e => by rw [e]; exact hg _ kin_G) (fun h => hg w h)
  have hown : s.vm.findClass nW = some m.cls := hown
  obtain ⟨c0, i0, k0⟩ := u_known (C := nG) (T := TG) (N := 11) (n := 11) hg inG (hg _ knew_G)
  obtain ⟨c1, i1, k1⟩ := u_known (C := nP) (T := TP) (N := 9) (n := 9) hg inP (hg _ knew_P)
  obtain ⟨c2, i2, k2⟩ := u_known (C := nL) (T := TL) (N := 3) (n := 3) hg inL (hg _ knew_L)
  obtain ⟨c3, i3, k3⟩ := u_known (C := nS) (T := TS) (N := 7) (n := 7) hg inS (hg _ knew_S)
  obtain ⟨c4, i4, k4⟩ := u_known (C := nR) (T := TR) (N := 2) (n := 2) hg inR (hg _ knew_R)
  obtain ⟨c5, i5, k5⟩ := u_known (C := nM) (T := TM) (N := 26) (n := 26) hg inM (hg _ knew_M)
  obtain ⟨dC, dI, hKc⟩ : ∃ (dC : Nat → ClassId) (dI : Nat → Nat → Nat), ∀ (k : Nat) (q : vw_C), vwCl[k]? = some q → u_Kn s q.1 q.2.1 q.2.2 (dC k) (dI k) := by
    refine ⟨fun k => if k = 0 then c0 else if k = 1 then c1 else if k = 2 then c2 else if k = 3 then c3 else if k = 4 then c4 else c5, fun k => if k = 0 then i0 else if k = 1 then i1 else if k = 2 then i2 else if k = 3 then i3 else if k = 4 then i4 else i5, ?_⟩
    intro k q hq
    match k, hq with
    | 0, hq => cases hq; exact k0
    | 1, hq => cases hq; exact k1
    | 2, hq => cases hq; exact k2
    | 3, hq => cases hq; exact k3
    | 4, hq => cases hq; exact k4
    | 5, hq => cases hq; exact k5
    | k + 6, hq => simp [vwCl] at hq
  obtain ⟨cI, aI, rI⟩ := arr_of (hg _ karr_int)
  obtain ⟨cJ, aJ, rJ⟩ := arr_of (hg _ karr_long)
  obtain ⟨cZ, aZ, rZ⟩ := arr_of (hg _ karr_boolean)
  have hK : va_K (dC, dI) vwCl (tyE cI cJ cZ) s := by
    refine ⟨hKc, fun k q h => ?_⟩
    match k, h with
    | 0, h => cases h; exact ⟨aI, rI⟩
    | 1, h => cases h; exact ⟨aJ, rJ⟩
    | 2, h => cases h; exact ⟨aZ, rZ⟩
    | k + 3, h => simp [tyE] at h
  have hE : EV s := st_EV hts0
  have hEX : EX s := st_EX hts0 hgv k0.2.1
  have hNC : NC s := st_NC hgv
  have E0 : lwE p l s m c dC dI cI cJ cZ b L xs := ⟨hx, hb, hml, hown, hts, hK, hE, hEX, hNC, hXs, hbl, hl0, hL⟩
  have hA : ∀ q : Nat, s.heap.size ≤ q → Aw s q := fun _ h => h
  have hS : va_S (Aw s) s.heap s.heap [] := va_S.rf
  have hP : va_P (dC, dI) vwCl [] s.heap := fun k q h => by simp at h
  have hD : va_D (Aw s) [] := ⟨fun i j p q h => by simp at h, fun k q h => by simp at h⟩
  have hl := lv_entry ([.ref b]) (n := 8) (Nat.le_of_ble_eq_true rfl)
  rw [lg_entry_eq]
  generalize (lg_sl ([.ref b]) ++ List.replicate (8 - (lg_sl ([.ref b])).length) Slot.unset).toArray = ls at hl ⊢
  have hl : lv_has ls 8 [(0, .ref b)] := hl
  refine va_new (ci := 0) (fs := [.null, .int (nI 0), .null, .null, .null, .int (nI 0), .null, .int (nI 0), .null, .null, .null]) (C := nG) (T := TG) (N := 11) hx hb hg inG tG tG_ok hown (hg _ kW_8) (hg _ knew_G) (hg _ kin_G) hK hP hD hS hA rfl (fun j hj => by rcases (show j = 0 ∨ j = 1 ∨ j = 2 ∨ j = 3 ∨ j = 4 ∨ j = 5 ∨ j = 6 ∨ j = 7 ∨ j = 8 ∨ j = 9 ∨ j = 10 by omega) with rfl | rfl | rfl | rfl | rfl | rfl | rfl | rfl | rfl | rfl | rfl <;> rfl) (Nat.le_of_ble_eq_true rfl) (Nat.le_of_ble_eq_true rfl) dW_law_0 (fun q0 H hP hD hS => ?_)
  have hP : va_P (dC, dI) vwCl [(q0, .inr (0, [.null, .int (nI 0), .null, .null, .null, .int (nI 0), .null, .int (nI 0), .null, .null, .null]))] H := hP
  have hD : va_D (Aw s) [(q0, .inr (0, [.null, .int (nI 0), .null, .null, .null, .int (nI 0), .null, .int (nI 0), .null, .null, .null]))] := hD
  refine lv_dup hx hb dW_law_3 rfl ?_
  refine kwI (D := (dC, dI)) (b := q0) (rest := [.ref q0]) (wc := [(q0, .inr (0, [.null, .int (nI 0), .null, .null, .null, .int (nI 0), .null, .int (nI 0), .null, .null, .null]))]) ⟨hx, hb, hml, hown, hts⟩ (ct_G_init l dC dI cI cJ cZ q0 H.size) (cwI 0 hts (gi kc_G_init) rfl rfl rfl (hg _ kin_G) (hg _ kW_70) (hg _ ki_G_init) rfl (by decide +kernel) ⟨(Nat.le_of_ble_eq_true rfl), (Nat.le_of_ble_eq_true rfl)⟩) hP hD hK hE hS hA [0] rfl (by decide) hl.1 rfl (Nat.le_of_ble_eq_true rfl) dW_law_4 ⟨(Nat.le_of_ble_eq_true rfl), (Nat.le_of_ble_eq_true rfl)⟩ (fun t H1 locs ht hvm hB hk1 hF hS => ?_)
  obtain ⟨qg, q, ql, qs, qr, hq0, hP1, hK1, hD1⟩ := hB
  subst hq0
  rw [ht] at hP1
  obtain ⟨hP, hD⟩ := va_join (wr := []) (w1 := (wG cI cJ cZ qg q ql qs qr zN zN zN zN 0 0 0 ++ wP cI cJ cZ q zN zN zN zN zN zN zN 0 0 ++ wL cI cJ cZ ql zN 0 0 ++ wS cI cJ cZ qs zN zN zN zN 0 0 0 ++ wR cI cJ cZ qr zN 0)) hP hD [0] [] rfl rfl (by decide) (by decide) hk1 hF hP1 hD1
  generalize H1 = H at hP hS ⊢
  have hP : va_P (dC, dI) vwCl (wG cI cJ cZ qg q ql qs qr zN zN zN zN 0 0 0 ++ wP cI cJ cZ q zN zN zN zN zN zN zN 0 0 ++ wL cI cJ cZ ql zN 0 0 ++ wS cI cJ cZ qs zN zN zN zN 0 0 0 ++ wR cI cJ cZ qr zN 0) H := hP
  have hD : va_D (Aw s) (wG cI cJ cZ qg q ql qs qr zN zN zN zN 0 0 0 ++ wP cI cJ cZ q zN zN zN zN zN zN zN 0 0 ++ wL cI cJ cZ ql zN 0 0 ++ wS cI cJ cZ qs zN zN zN zN 0 0 0 ++ wR cI cJ cZ qr zN 0) := hD
  refine lv_astore_n (lv' := [(1, .ref (qg 0)), (0, .ref b)]) hx hb dW_law_7 rfl hl (by decide) rfl (fun ls hl => ?_)
  refine va_new (ci := 5) (fs := [.int (nI 0), .int (nI 0), .null, .int (nI 0), .null, .null, .null, .null, .null, .null, .null, .null, .int (nI 0), .null, .null, .int (nI 0), .null, .null, .null, .int (nI 0), .null, .null, .null, .int (nI 0), .null, .null]) (C := nM) (T := TM) (N := 26) hx hb hg inM tM tM_ok hown (hg _ kW_71) (hg _ knew_M) (hg _ kin_M) hK hP hD hS hA rfl (fun j hj => by rcases (show j = 0 ∨ j = 1 ∨ j = 2 ∨ j = 3 ∨ j = 4 ∨ j = 5 ∨ j = 6 ∨ j = 7 ∨ j = 8 ∨ j = 9 ∨ j = 10 ∨ j = 11 ∨ j = 12 ∨ j = 13 ∨ j = 14 ∨ j = 15 ∨ j = 16 ∨ j = 17 ∨ j = 18 ∨ j = 19 ∨ j = 20 ∨ j = 21 ∨ j = 22 ∨ j = 23 ∨ j = 24 ∨ j = 25 by omega) with rfl | rfl | rfl | rfl | rfl | rfl | rfl | rfl | rfl | rfl | rfl | rfl | rfl | rfl | rfl | rfl | rfl | rfl | rfl | rfl | rfl | rfl | rfl | rfl | rfl | rfl <;> rfl) (Nat.le_of_ble_eq_true rfl) (Nat.le_of_ble_eq_true rfl) dW_law_8 (fun q0 H hP hD hS => ?_)
  refine lv_dup hx hb dW_law_11 rfl ?_
  refine kwI (D := (dC, dI)) (b := q0) (rest := [.ref q0]) (wc := [(q0, .inr (5, [.int (nI 0), .int (nI 0), .null, .int (nI 0), .null, .null, .null, .null, .null, .null, .null, .null, .int (nI 0), .null, .null, .int (nI 0), .null, .null, .null, .int (nI 0), .null, .null, .null, .int (nI 0), .null, .null]))]) ⟨hx, hb, hml, hown, hts⟩ (ct_M_init l dC dI cI cJ cZ q0 H.size) (cwI 0 hts (gi kc_M_init) rfl rfl rfl (hg _ kin_M) (hg _ kW_73) (hg _ ki_M_init) rfl (by decide +kernel) ⟨(Nat.le_of_ble_eq_true rfl), (Nat.le_of_ble_eq_true rfl)⟩) hP hD hK hE hS hA [22] rfl (by decide) hl.1 rfl (Nat.le_of_ble_eq_true rfl) dW_law_12 ⟨(Nat.le_of_ble_eq_true rfl), (Nat.le_of_ble_eq_true rfl)⟩ (fun t H1 locs ht hvm hB hk1 hF hS => ?_)
  obtain ⟨qm, hq0, hP1, hK1, hD1⟩ := hB
  subst hq0
  rw [ht] at hP1
  obtain ⟨hP, hD⟩ := va_join (wr := (wG cI cJ cZ qg q ql qs qr zN zN zN zN 0 0 0 ++ wP cI cJ cZ q zN zN zN zN zN zN zN 0 0 ++ wL cI cJ cZ ql zN 0 0 ++ wS cI cJ cZ qs zN zN zN zN 0 0 0 ++ wR cI cJ cZ qr zN 0)) (w1 := (wM cI cJ cZ qm zN zN zN zN zN zN zB zN zB zN zN zN zN zN zN zN zN zN zN 0 0 0 0 0 0 0)) hP hD [22] [0, 1, 2, 3, 4, 5, 6, 7, 8, 9, 10, 11, 12, 13, 14, 15, 16, 17, 18, 19, 20, 21] rfl rfl (by decide) (by decide) hk1 hF hP1 hD1
  generalize H1 = H at hP hS ⊢
  refine lv_astore_n (lv' := [(2, .ref (qm 0)), (1, .ref (qg 0)), (0, .ref b)]) hx hb dW_law_15 rfl hl (by decide) rfl (fun ls hl => ?_)
  refine rn_iconst hx hb 1 dW_law_16 (by decide) ?_
  refine nw_l hx hb (hg _ karr_long) hK hP hD hS hA (by decide) (Nat.le_of_ble_eq_true rfl) (Nat.le_of_ble_eq_true rfl) dW_law_17 (fun qo H hP hD hS => ?_)
  refine lv_astore_n (lv' := [(3, .ref qo), (2, .ref (qm 0)), (1, .ref (qg 0)), (0, .ref b)]) hx hb dW_law_19 rfl hl (by decide) rfl (fun ls hl => ?_)
  refine rn_iconst hx hb 0 dW_law_20 (by decide) ?_
  refine lv_istore (lv' := [(4, .int (nI 0)), (3, .ref qo), (2, .ref (qm 0)), (1, .ref (qg 0)), (0, .ref b)]) hx hb dW_law_21 hl (by decide) rfl (fun ls hl => ?_)
  exact lw_loop hr hlocks E0 L 0 (by omega) (Nat.zero_le _) zN zN zN zN 0 0 0 zN zN zN zN zN zN zN 0 0 zN 0 0 zN zN zN zN 0 0 0 zN 0 zB zB zN zN zN zN zN zN zN 0 0 0 (fun j => lN (zN j)) LI_init _ _ (by decide) (by decide) H _ hP hD hS ls (lv_sub hl [4, 3, 2, 1, 0] rfl)
set_option maxHeartbeats 4000000 in
theorem lw_walk (l : Launch) (hl0 : l.stackTraces = false) (b : Addr) (xs : List Int32) : MetFree l x (headSpec (Jvm.Cond.code x code maxLocals ret :: tables_1) room_1) (lw_P b xs) (fun _ _ _ _ _ => True) lw_Q := by
  refine MetFree.of_bodyS (code := code) (maxLocals := maxLocals) (ret := ret) (by decide) ?_ ?_
  · intro args s m h hn
    obtain ⟨meth, c, h1, h2, h3, h4, h5, h6, -, -⟩ := Cond.code_spec hn (atoms_spec (ws := Jvm.Cond.code x code maxLocals ret :: tables_1) h _ List.mem_cons_self)
    exact ⟨meth, c, h1, h2, h3, h4, h5, h6⟩
  · intro p e s m args below meth c s₁ B hml0 hP _
    obtain ⟨rfl, hx, hbd, hgv⟩ := hP
    obtain ⟨scr, harrAt, hlist, hof, hsmall⟩ := hx
    obtain ⟨hcb, hkn, -, -⟩ := State.arrayAt?_spec harrAt
    have hown : s.vm.findClass R_law = some m.cls := findClass_of_methodNamed B.named
    have hts0 : ∀ c ∈ (Jvm.Cond.code x code maxLocals ret :: tables_1), c.before #[Value.ref b] s = true := atoms_spec (ws := Jvm.Cond.code x code maxLocals ret :: tables_1) B.pre
    have hts : ∀ w ∈ lw_tbl, w.before #[Value.ref b] s = true := k2_hts_sels lw_privs (fun w hw => hts0 w (List.mem_cons_of_mem _ hw)) lw_privs_ok
    have hml : c.maxLocals = 8 := B.maxLocals_eq (hts0 _ List.mem_cons_self)
    have X₀ : Stand p l e room_1 s m #[Value.ref b] below meth c s₁ [] 0 0 := Stand.of_body B
    have hh0 : s₁.heap = s.heap := by rw [B.state]; rfl
    have hsz : scr.slots.size = xs.length := by rw [← Array.length_toList, hlist, List.length_map]
    have hval : ∀ j : Nat, j < xs.length → scr.slots[j]? = some (.int (xs.getD j 0)) := fun j hj => by
      rw [← Array.getElem?_toList, hlist]
      simp [hj]
    have hbl : b < s.heap.size := (Array.getElem?_eq_some_iff.mp hcb).1
    have hX : va_X b xs.length (fun j => xs.getD j 0) s s.heap := ⟨scr, hcb, hof, hkn, hsz, hval⟩
    have K : W p l e room_1 s m #[Value.ref b] below meth c s₁.heap [] 0 0 (lw_Z below #[Value.ref b] s) (entryFrame m ([Value.ref b] : List Value).toArray 8) := by
      rw [hh0]
      exact whole_start l hl0 hbd ⟨B.exec, B.bytes, B.returns, hml, hown, hts, hX, hbl, B.notSynchronized, hgv⟩
    obtain ⟨t, a1, o, b1, b2, b3⟩ := K s₁ rfl X₀
    exact ⟨t, o, a1, b1, b2, b3⟩
theorem lw_pre_spec {args : Array Value} {s : State} (h : (Jvm.Cond.and given_1 narrow_1).before args s = true) (hr : rest_1_c.before args s = true) : ∃ (b : Addr) (xs : List Int32), lw_P b xs args s := by
  have hs := flat_of_before _ h
  have hq := flat_of_before _ hr
  have hc : (Cond.count 1).before args s = true := hs _ (by decide +kernel)
  have harr : (Cond.arrayOf (.arg 0) .int).before args s = true := hs _ (by decide +kernel)
  have hle : (Cond.le (.length (.arg 0)) (.int 3584)).before args s = true := hs _ (by decide +kernel)
  have hlen : (Cond.isInt (.length (.arg 0))).before args s = true := hq _ (by decide +kernel)
  have hall : (Cond.all (.arg 0) (.isInt (.elem (.arg 0) (.index 0)))).before args s = true := hq _ (by decide +kernel)
  obtain ⟨b, xs, hb, hx⟩ := State.ints_of_pre rfl harr hlen hall
  have hsm : xs.length < 2 ^ 31 := hx.choose_spec.2.2.2
  have hev : (Term.length (.arg 0)).eval args s none [] s = some (.int xs.length.toInt32) := hx.length_eval hb
  have hv := Cond.le_ints hev (show (Term.int 3584).eval args s none [] s = some (.int 3584) from rfl)
  have hd : xs.length.toInt32 ≤ 3584 := by
    simpa [Cond.before, Cond.holds, hv] using hle
  have hN : xs.length ≤ 3584 := (Int32.ofNat_le_ofNat hsm (by decide)).mp (show Int32.ofNat xs.length ≤ Int32.ofNat 3584 from hd)
  exact ⟨b, xs, Cond.one_arg hc (show args[0]? = some (.ref b) from hb), hx, hN, h⟩
theorem lw_comes (l : Launch) (hl0 : l.stackTraces = false) : Comes l x (Jvm.Cond.code x code maxLocals ret :: tables_1) room_1 (fun tb e args s => Calls_1 tb e args s ∧ rest_1 tb e args s ∧ Pre_1 tb e args s)
    (fun _ _ args s o t => lw_Q args s o t) := by
  intro p e ha hc hk s m args below hf hfit hheap happ hpre
  obtain ⟨b, xs, hP⟩ := lw_pre_spec hpre.2.2 hpre.2.1
  obtain ⟨k, o, h1, h2, h3, hQ⟩ := lw_walk l hl0 b xs p e ha hc hk s m args below hf ((Spec.applies_iff_loose hf).mp happ).1 hP trivial
  exact ⟨k, o, h1, h2, h3, hQ⟩
theorem lw_frame {s t : State} {o : Outcome} {args : Array Value} (h : Framed s o t [] 601024 7293034) :
    Framed s o t (fieldLocs frame_1_writes args s ++ arrayLocs frame_1_arrays args s ++ staticLocs frame_1_statics s) 601024 7293034 := h
theorem lw_limb (L : Cond) (hL : ∀ (args : Array Value) (s t : State), L.after args s (.returned (some (.int 1))) t = true) :
    ArmFor flags0 classFile x code maxLocals ret World_1 tables_1 room_1 Calls_1 rest_1 Pre_1
      (fun tb e a s o t => postC L tb e a s o t ∧ Framed s o t (fieldLocs frame_1_writes a s ++ arrayLocs frame_1_arrays a s ++ staticLocs frame_1_statics s) 601024 7293034) := by
  intro l hfl _ _ p e ha hc hk s m args below hf hfit hheap happ hpre
  obtain ⟨k, o, h1, h2, h3, rfl, hF⟩ := lw_comes l (nt_of hfl) p e ha hc hk s m args below hf hfit hheap happ hpre
  exact ⟨k, _, h1, h2, h3, hL args s _, lw_frame hF⟩
theorem i_vc : Claimed_1_1 ∧ Claimed_1_2 := ⟨lw_limb limb_1_1 (fun args s t => by simp [limb_1_1, Cond.after, Cond.holds, Cond.value]), lw_limb limb_1_2 (fun args s t => Cond.after_iff.mpr (by
  first | (rw [show limb_1_2 = Cond.eq .result (.int 1) from rfl, Cond.eq_ints (x := 1) (y := 1) rfl rfl]; simp; done) | (simp [limb_1_2, Cond.value, Term.eval]; done)))⟩

