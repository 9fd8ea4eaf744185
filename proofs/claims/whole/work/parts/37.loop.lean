/-! ===== the law: its loop ===== -/
def R_law : String := "WayGraphLaw"
def lw_P (b : Addr) (xs : List Int32) (args : Array Value) (s : State) : Prop := args = #[.ref b] ∧ s.IntsAt b xs ∧ xs.length ≤ 3584 ∧ (Jvm.Cond.and given_1 narrow_1).before args s = true
def lw_Q (_ : Array Value) (s : State) (o : Outcome) (t : State) : Prop := o = .returned (some (.int 1)) ∧ Framed s o t [] 601024 7293034
def lw_Z (below : List Frame) (a : Array Value) (s : State) : State → Prop := fun t => ∃ o, t.status = .running ∧ Ended t below o ∧ lw_Q a s o t
/-- the law's own end, with 1 on the stack, nothing written that was there before, its room as the claim has it -/
theorem lw_ret {p : Program} {l : Launch} {e : Env} {s : State} {m : MethodId} {below : List Frame} {meth : Method} {c : Code} {b : Nat} (hx : p.tables.exec = Jvm.exec) (hb : c.code = code) (hr : meth.sig.returnType = ret) (hlocks : meth.locks = false) {pc : Nat} {H : Heap} {ls : Array Slot} (hdg : decode code pc = .ok (.ireturn, 1)) : W p l e room_1 s m #[Value.ref b] below meth c H [] 601024 7293034 (lw_Z below #[Value.ref b] s) (F0 m pc ls [.int 1]) := by
  intro T hT X
  obtain ⟨fs, hret, hrun, hended, hW, hframe⟩ := X.leave (v := some (.int 1)) (hlocks := hlocks) (fun h => by rw [hr] at h; cases h)
  have hmeth' : T.vm.method? m = some meth := X.method'
  refine ⟨T.setFrames fs, ?_, .returned (some (.int 1)), hrun, hended, rfl, ⟨_, rfl⟩, hW, hframe⟩
  jvm_step X.here [X.here.top, hx, hb, hdg, hmeth', hr, ret, narrow_b1]
  (try refine ⟨rfl, ?_⟩); (try refine ⟨rfl, ?_⟩)
  first | (intro acts; rw [hret _ acts rfl rfl rfl]) | rw [hret _ _ rfl rfl rfl]
  exact Steps.refl _
/-- what holds at the law's entry: the machine, the code, the tables' words (any of lw_tbl by 'hts w (by decide +kernel)'), the script of L ints xs at the cell b, what the Statement gives of the start (any of its parts by flat_of_before) -/
def lw_At (p : Program) (s : State) (m : MethodId) (meth : Method) (c : Code) (b L : Nat) (xs : Nat → Int32) : Prop :=
  p.tables.exec = Jvm.exec ∧ c.code = code ∧ meth.sig.returnType = ret ∧ c.maxLocals = 8 ∧ s.vm.findClass R_law = some m.cls ∧ (∀ w ∈ lw_tbl, w.before #[Value.ref b] s = true) ∧ va_X b L xs s s.heap ∧ b < s.heap.size ∧ meth.locks = false ∧ (Jvm.Cond.and given_1 narrow_1).before #[Value.ref b] s = true

set_option maxHeartbeats 4000000 in
set_option maxRecDepth 100000 in
theorem lw_loop {p : Program} {l : Launch} {e : Env} {s : State} {m : MethodId} {below : List Frame} {meth : Method} {c : Code} {dC : Nat → ClassId} {dI : Nat → Nat → Nat} {cI cJ cZ : ClassId} {bS L : Nat} {xs : Nat → Int32} (hret : meth.sig.returnType = ret) (hlocks : meth.locks = false) (E0 : lwE p l s m c dC dI cI cJ cZ bS L xs) {qg q ql qs qr qm : Nat → Nat} {qo : Nat} :
    ∀ (k i : Nat), L ≤ i + k → i ≤ L → ∀ (lv : Nat → Nat) (mw : Nat → Nat) (mh : Nat → Nat) (mk : Nat → Nat) (pc : Nat) (mc : Nat) (kc : Nat) (bg : Nat → Nat) (en : Nat → Nat) (sc : Nat → Nat) (wd : Nat → Nat) (ht : Nat → Nat) (oh : Nat → Nat) (bt : Nat → Nat) (co : Nat) (n : Nat) (re : Nat → Nat) (sa : Nat) (fm : Nat) (tr : Nat → Nat) (rp : Nat → Nat) (rn : Nat → Nat) (rs : Nat → Nat) (rk : Nat) (us : Nat) (gl : Nat) (nu : Nat → Nat) (rl : Nat) (sh : Nat → Bool) (ba : Nat → Bool) (rm : Nat → Nat) (nm : Nat → Nat) (bs : Nat → Nat) (bc : Nat → Nat) (bp : Nat → Nat) (on : Nat → Nat) (wh : Nat → Nat) (cd : Nat) (sl : Nat) (fo : Nat) (ov : Nat → Int64), LI lv mw mh mk pc mc kc bg en sc wd ht oh bt co n re sa fm tr rp rn rs rk us gl nu rl sh ba rm nm bs bc bp on wh cd sl fo → ∀ (cells slots : Nat), cells ≤ 100 + i → slots ≤ 10000 + 6 * i → ∀ (H : Heap) (locs : List Loc), va_P (dC, dI) vwCl (wG cI cJ cZ qg q ql qs qr lv mw mh mk pc mc kc ++ wP cI cJ cZ q bg en sc wd ht oh bt co n ++ wL cI cJ cZ ql re sa fm ++ wS cI cJ cZ qs tr rp rn rs rk us gl ++ wR cI cJ cZ qr nu rl ++ wM cI cJ cZ qm lv bg en sc wd ht sh oh ba mw mh mk rm nm bs bc bp on wh cd pc n mc kc sl fo ++ wO cI cJ cZ qo ov) H → va_D (Aw s) (wG cI cJ cZ qg q ql qs qr lv mw mh mk pc mc kc ++ wP cI cJ cZ q bg en sc wd ht oh bt co n ++ wL cI cJ cZ ql re sa fm ++ wS cI cJ cZ qs tr rp rn rs rk us gl ++ wR cI cJ cZ qr nu rl ++ wM cI cJ cZ qm lv bg en sc wd ht sh oh ba mw mh mk rm nm bs bc bp on wh cd pc n mc kc sl fo ++ wO cI cJ cZ qo ov) → va_S (Aw s) s.heap H locs → ∀ ls : Array Slot, lv_has ls 8 [(0, .ref bS), (1, .ref (qg 0)), (2, .ref (qm 0)), (3, .ref qo), (4, .int (nI i))] → W p l e room_1 s m #[Value.ref bS] below meth c H locs cells slots (lw_Z below #[Value.ref bS] s) (F0 m 23 ls []) := by
  obtain ⟨hx, hb, hml, hown, hts, hK, hE, hEX, hNC, hXs, hbl, hl0, hL⟩ := id E0
  intro k
  induction k using Nat.strongRecOn with
  | ind k ih =>
    intro i hk hiL lv mw mh mk pc mc kc bg en sc wd ht oh bt co n re sa fm tr rp rn rs rk us gl nu rl sh ba rm nm bs bc bp on wh cd sl fo ov hLI cells slots hc hs H locs hP hD hS ls hl
    refine lv_iload hx hb dW_law_23 (lv_at hl 4 rfl) ?_
    refine lv_aload_n hx hb dW_law_25 rfl (lv_at hl 0 rfl) ?_
    refine va_slen hx hb hXs hbl (Nat.not_le.mpr hbl) hS dW_law_26 ?_
    refine rn_bipush hx hb 7 dW_law_27 (by decide) ?_
    refine lv_isub hx hb dW_law_29 ?_
    refine lv_icmp_gt (tgt := 1449) hx hb dW_law_30 (by decide) (fun c30 => ?_) (fun c30 => ?_)
    · refine lv_iconst (v := 1) hx hb dW_law_1449 (by decide) ?_
      refine va_forget (fun q hq => hS.2.2 q hq) ?_
      refine W.widen (k := 601024) (n := 7293034) (by omega) (by omega) ?_
      exact lw_ret hx hb hret hlocks dW_law_1450
    · have hi : i + 7 ≤ L := len_of hL (by omega) c30
      refine lv_aload_n hx hb dW_law_33 rfl (lv_at hl 0 rfl) ?_
      refine lv_iload hx hb dW_law_34 (lv_at hl 4 rfl) ?_
      refine lx_s hx hb hXs hbl hS (by omega) (by omega) dW_law_36 ?_
      refine rn_bipush hx hb 15 dW_law_37 (by decide) ?_
      refine lv_iand hx hb dW_law_39 ?_
      obtain ⟨j, hj, ej⟩ := pk_andE (xs i) (m := nI 15) 4 (by decide)
      rw [ej]
      have kx : ∀ (lv : Nat → Nat) (mw : Nat → Nat) (mh : Nat → Nat) (mk : Nat → Nat) (pc : Nat) (mc : Nat) (kc : Nat) (bg : Nat → Nat) (en : Nat → Nat) (sc : Nat → Nat) (wd : Nat → Nat) (ht : Nat → Nat) (oh : Nat → Nat) (bt : Nat → Nat) (co : Nat) (n : Nat) (re : Nat → Nat) (sa : Nat) (fm : Nat) (tr : Nat → Nat) (rp : Nat → Nat) (rn : Nat → Nat) (rs : Nat → Nat) (rk : Nat) (us : Nat) (gl : Nat) (nu : Nat → Nat) (rl : Nat) (sh : Nat → Bool) (ba : Nat → Bool) (rm : Nat → Nat) (nm : Nat → Nat) (bs : Nat → Nat) (bc : Nat → Nat) (bp : Nat → Nat) (on : Nat → Nat) (wh : Nat → Nat) (cd : Nat) (sl : Nat) (fo : Nat) (ov : Nat → Int64), LI lv mw mh mk pc mc kc bg en sc wd ht oh bt co n re sa fm tr rp rn rs rk us gl nu rl sh ba rm nm bs bc bp on wh cd sl fo → ∀ (cells slots : Nat), cells ≤ 107 + i → slots ≤ 10042 + 6 * i → ∀ (H : Heap) (locs : List Loc), va_P (dC, dI) vwCl (wG cI cJ cZ qg q ql qs qr lv mw mh mk pc mc kc ++ wP cI cJ cZ q bg en sc wd ht oh bt co n ++ wL cI cJ cZ ql re sa fm ++ wS cI cJ cZ qs tr rp rn rs rk us gl ++ wR cI cJ cZ qr nu rl ++ wM cI cJ cZ qm lv bg en sc wd ht sh oh ba mw mh mk rm nm bs bc bp on wh cd pc n mc kc sl fo ++ wO cI cJ cZ qo ov) H → va_D (Aw s) (wG cI cJ cZ qg q ql qs qr lv mw mh mk pc mc kc ++ wP cI cJ cZ q bg en sc wd ht oh bt co n ++ wL cI cJ cZ ql re sa fm ++ wS cI cJ cZ qs tr rp rn rs rk us gl ++ wR cI cJ cZ qr nu rl ++ wM cI cJ cZ qm lv bg en sc wd ht sh oh ba mw mh mk rm nm bs bc bp on wh cd pc n mc kc sl fo ++ wO cI cJ cZ qo ov) → va_S (Aw s) s.heap H locs → ∀ ls : Array Slot, lv_has ls 8 [(0, .ref bS), (1, .ref (qg 0)), (2, .ref (qm 0)), (3, .ref qo), (4, .int (nI i))] → W p l e room_1 s m #[Value.ref bS] below meth c H locs cells slots (lw_Z below #[Value.ref bS] s) (F0 m 1443 ls []) := by
        intro lv mw mh mk pc mc kc bg en sc wd ht oh bt co n re sa fm tr rp rn rs rk us gl nu rl sh ba rm nm bs bc bp on wh cd sl fo ov hLI cells slots hc hs H locs hP hD hS ls hl
        refine lv_iinc (v := nI (i + 7)) (lv' := [(4, .int (nI (i + 7))), (0, .ref bS), (1, .ref (qg 0)), (2, .ref (qm 0)), (3, .ref qo)]) hx hb dW_law_1443 hl (k := 4) rfl (nI_7 i) (by decide) rfl (fun ls hl => ?_)
        refine lv_goto (tgt := 23) hx hb dW_law_1446 (by decide) ?_
        exact ih (k - 7) (by omega) (i + 7) (by omega) hi lv mw mh mk pc mc kc bg en sc wd ht oh bt co n re sa fm tr rp rn rs rk us gl nu rl sh ba rm nm bs bc bp on wh cd sl fo ov hLI cells slots (by omega) (by omega) H locs hP hD hS ls (lv_sub hl [1, 2, 3, 4, 0] rfl)
      have hj : j < 16 := hj
      rcases (show j = 0 ∨ j = 1 ∨ j = 2 ∨ j = 3 ∨ j = 4 ∨ j = 5 ∨ j = 6 ∨ j = 7 ∨ j = 8 ∨ j = 9 ∨ j = 10 ∨ j = 11 ∨ j = 12 ∨ j = 13 ∨ j = 14 ∨ j = 15 by omega) with rfl | rfl | rfl | rfl | rfl | rfl | rfl | rfl | rfl | rfl | rfl | rfl | rfl | rfl | rfl | rfl
      · exact lv_tableIn (off := 80) (tgt := 120) hx hb dW_law_40 (by decide) (by decide) (by decide) (by decide) (law_c0 E0 hi hc hs lv mw mh mk pc mc kc bg en sc wd ht oh bt co n re sa fm tr rp rn rs rk us gl nu rl sh ba rm nm bs bc bp on wh cd sl fo ov hLI kx H locs hP hD hS ls hl)
      · exact lv_tableIn (off := 136) (tgt := 176) hx hb dW_law_40 (by decide) (by decide) (by decide) (by decide) (law_c1 E0 hi hc hs lv mw mh mk pc mc kc bg en sc wd ht oh bt co n re sa fm tr rp rn rs rk us gl nu rl sh ba rm nm bs bc bp on wh cd sl fo ov hLI kx H locs hP hD hS ls hl)
      · exact lv_tableIn (off := 294) (tgt := 334) hx hb dW_law_40 (by decide) (by decide) (by decide) (by decide) (law_c2 E0 hi hc hs lv mw mh mk pc mc kc bg en sc wd ht oh bt co n re sa fm tr rp rn rs rk us gl nu rl sh ba rm nm bs bc bp on wh cd sl fo ov hLI kx H locs hP hD hS ls hl)
      · exact lv_tableIn (off := 406) (tgt := 446) hx hb dW_law_40 (by decide) (by decide) (by decide) (by decide) (law_c3 E0 hi hc hs lv mw mh mk pc mc kc bg en sc wd ht oh bt co n re sa fm tr rp rn rs rk us gl nu rl sh ba rm nm bs bc bp on wh cd sl fo ov hLI kx H locs hP hD hS ls hl)
      · exact lv_tableIn (off := 498) (tgt := 538) hx hb dW_law_40 (by decide) (by decide) (by decide) (by decide) (law_c4 E0 hi hc hs lv mw mh mk pc mc kc bg en sc wd ht oh bt co n re sa fm tr rp rn rs rk us gl nu rl sh ba rm nm bs bc bp on wh cd sl fo ov hLI kx H locs hP hD hS ls hl)
      · exact lv_tableIn (off := 598) (tgt := 638) hx hb dW_law_40 (by decide) (by decide) (by decide) (by decide) (law_c5 E0 hi hc hs lv mw mh mk pc mc kc bg en sc wd ht oh bt co n re sa fm tr rp rn rs rk us gl nu rl sh ba rm nm bs bc bp on wh cd sl fo ov hLI kx H locs hP hD hS ls hl)
      · exact lv_tableIn (off := 682) (tgt := 722) hx hb dW_law_40 (by decide) (by decide) (by decide) (by decide) (law_c6 E0 hi hc hs lv mw mh mk pc mc kc bg en sc wd ht oh bt co n re sa fm tr rp rn rs rk us gl nu rl sh ba rm nm bs bc bp on wh cd sl fo ov hLI kx H locs hP hD hS ls hl)
      · exact lv_tableIn (off := 778) (tgt := 818) hx hb dW_law_40 (by decide) (by decide) (by decide) (by decide) (law_c7 E0 hi hc hs lv mw mh mk pc mc kc bg en sc wd ht oh bt co n re sa fm tr rp rn rs rk us gl nu rl sh ba rm nm bs bc bp on wh cd sl fo ov hLI kx H locs hP hD hS ls hl)
      · exact lv_tableIn (off := 874) (tgt := 914) hx hb dW_law_40 (by decide) (by decide) (by decide) (by decide) (law_c8 E0 hi hc hs lv mw mh mk pc mc kc bg en sc wd ht oh bt co n re sa fm tr rp rn rs rk us gl nu rl sh ba rm nm bs bc bp on wh cd sl fo ov hLI kx H locs hP hD hS ls hl)
      · exact lv_tableIn (off := 997) (tgt := 1037) hx hb dW_law_40 (by decide) (by decide) (by decide) (by decide) (law_c9 E0 hi hc hs lv mw mh mk pc mc kc bg en sc wd ht oh bt co n re sa fm tr rp rn rs rk us gl nu rl sh ba rm nm bs bc bp on wh cd sl fo ov hLI kx H locs hP hD hS ls hl)
      · exact lv_tableIn (off := 1022) (tgt := 1062) hx hb dW_law_40 (by decide) (by decide) (by decide) (by decide) (law_c10 E0 hi hc hs lv mw mh mk pc mc kc bg en sc wd ht oh bt co n re sa fm tr rp rn rs rk us gl nu rl sh ba rm nm bs bc bp on wh cd sl fo ov hLI kx H locs hP hD hS ls hl)
      · exact lv_tableIn (off := 1109) (tgt := 1149) hx hb dW_law_40 (by decide) (by decide) (by decide) (by decide) (law_c11 E0 hi hc hs lv mw mh mk pc mc kc bg en sc wd ht oh bt co n re sa fm tr rp rn rs rk us gl nu rl sh ba rm nm bs bc bp on wh cd sl fo ov hLI kx H locs hP hD hS ls hl)
      · exact lv_tableIn (off := 1165) (tgt := 1205) hx hb dW_law_40 (by decide) (by decide) (by decide) (by decide) (law_c12 E0 hi hc hs lv mw mh mk pc mc kc bg en sc wd ht oh bt co n re sa fm tr rp rn rs rk us gl nu rl sh ba rm nm bs bc bp on wh cd sl fo ov hLI kx H locs hP hD hS ls hl)
      · exact lv_tableIn (off := 1232) (tgt := 1272) hx hb dW_law_40 (by decide) (by decide) (by decide) (by decide) (law_c13 E0 hi hc hs lv mw mh mk pc mc kc bg en sc wd ht oh bt co n re sa fm tr rp rn rs rk us gl nu rl sh ba rm nm bs bc bp on wh cd sl fo ov hLI kx H locs hP hD hS ls hl)
      · exact lv_tableIn (off := 1311) (tgt := 1351) hx hb dW_law_40 (by decide) (by decide) (by decide) (by decide) (law_c14 E0 hi hc hs lv mw mh mk pc mc kc bg en sc wd ht oh bt co n re sa fm tr rp rn rs rk us gl nu rl sh ba rm nm bs bc bp on wh cd sl fo ov hLI kx H locs hP hD hS ls hl)
      · exact lv_tableIn (off := 1378) (tgt := 1418) hx hb dW_law_40 (by decide) (by decide) (by decide) (by decide) (law_c15 E0 hi hc hs lv mw mh mk pc mc kc bg en sc wd ht oh bt co n re sa fm tr rp rn rs rk us gl nu rl sh ba rm nm bs bc bp on wh cd sl fo ov hLI kx H locs hP hD hS ls hl)
