/-! ===== calls of methods that only read: the heap stays ===== -/
def EV (U : State) : Prop := ∀ w ∈ nwL, va_Nw w U
theorem EV.warm {s U : State} (hW : s.WarmedH U.vm) (h : EV s) : EV U := fun w hw => by
  obtain ⟨a, i, x, q, rfl⟩ := nwL_ok w hw
  exact va_Nw.warmM hW (h _ hw)
theorem EV.same {u U : State} (hv : u.vm = U.vm) (h : EV u) : EV U := fun w hw => by
  obtain ⟨a, i, x, q, rfl⟩ := nwL_ok w hw
  exact va_Nw.same rfl hv (h _ hw)
abbrev PcR (D : va_G) (ws : va_W) (tys : List (ClassId × FieldType)) (av : List Value) : Array Value → State → Prop := va_Pc av (fun U => va_P D vwCl ws U.heap ∧ va_K D vwCl tys U ∧ EV U)
abbrev PcW (D : va_G) (ws : va_W) (tys : List (ClassId × FieldType)) (sz : Nat) (av : List Value) : Array Value → State → Prop := va_Pc av (fun U => U.heap.size = sz ∧ va_P D vwCl ws U.heap ∧ va_K D vwCl tys U ∧ va_D (fun _ => True) ws ∧ EV U)
theorem fbR {D : va_G} {ws : va_W} {tys : List (ClassId × FieldType)} {av : List Value} : FrameBlind (PcR D ws tys av) := fun a U g mk q => by
  obtain ⟨q0, qP, qK, qE⟩ := q
  exact ⟨q0, qP, va_K.moved (u := U) (U := U.calling g mk a) (Vm.Alike.refl U.vm) qK, EV.same (u := U) (U := U.calling g mk a) rfl qE⟩
theorem fbW {D : va_G} {ws : va_W} {tys : List (ClassId × FieldType)} {sz : Nat} {av : List Value} : FrameBlind (PcW D ws tys sz av) := fun a U g mk q => by
  obtain ⟨q0, q1, qP, qK, qD, qE⟩ := q
  exact ⟨q0, q1, qP, va_K.moved (u := U) (U := U.calling g mk a) (Vm.Alike.refl U.vm) qK, qD, EV.same (u := U) (U := U.calling g mk a) rfl qE⟩
section CallsR
variable {p : Program} {l : Launch} {e : Env} {R : Room} {s : State} {m : MethodId} {args : Array Value} {below : List Frame} {meth : Method} {c : Code} {H : Heap} {locs : List Loc} {cells slots : Nat} {Q : State → Prop}
variable {cc bytes : ByteArray} {pc : Nat} {ls : Array Slot} {rest st0 As : List Value} {D : va_G} {tc : List (ClassId × FieldType)} {wc : va_W} {a b : Nat} {y : MethodName} {wsc Ts : List Cond} {rm : Room} {maxL nL n index : Nat} {ret : Option FieldType} {own C host : String}
theorem cr_of {mc ms : Nat} {g : JFrame} {Qa : State → Outcome → State → Prop} {free : Addr → Prop} (h : va_Run p l e R s m args below meth c H locs cells slots mc ms g rest Qa free) : CallRun p l e R s m args below meth c H locs cells slots mc ms g rest Qa free := by
  intro T hT X
  obtain ⟨v, st₀, t, T', L, h0, X', hL, e1, e2, hq, st⟩ := h T hT X
  exact ⟨v, st₀, t, T', L, h0, X', hL, e1, hq, st⟩
theorem preR (hP : va_P D vwCl wc H) (hK : va_K D vwCl tc s) (hE : EV s) : PreS s H (PcR D wc tc As) As := ⟨fbR, fun U hU hW => ⟨rfl, by rw [hU]; exact hP, va_K.moved hW.alike hK, EV.warm hW hE⟩⟩
theorem preRV (hP : va_P D vwCl wc H) (hK : va_K D vwCl tc s) (hE : EV s) (hrc : ∃ cell : Cell, H[b]? = some cell ∧ cell.vm.isStatics = false ∧ s.vm.findClass C = some cell.cls) : PreV s H C b (PcR D wc tc (.ref b :: As)) As := ⟨fbR, hrc, fun U hU hW => ⟨rfl, by rw [hU]; exact hP, va_K.moved hW.alike hK, EV.warm hW hE⟩⟩
theorem cpS_i {post : Int32 → Prop} (S : CallFix p m c cc nL s args Ts own) (hM : Met l y wsc rm (PcR D wc tc As) (vp_Si post) 0 0 (fun _ => False)) (cw : CallB R s args own index y bytes maxL ret wsc rm 0 0 n ∧ (Cond.static y).before args s = true)
    (hP : va_P D vwCl wc H) (hK : va_K D vwCl tc s) (hE : EV s) (hn : As.length = n) (hl : ls.size = nL) (hst : st0 = As.reverse ++ rest) (hW : (rest.map fun v => v.category).sum ≤ 8) (hdg : decode cc pc = .ok (.invokestatic index, 3)) (hf : cells ≤ R.cells ∧ slots ≤ R.slots)
    (kk : ∀ r : Int32, post r → W p l e R s m args below meth c H locs cells slots Q (F0 m (pc + 3) ls (.int r :: rest))) : W p l e R s m args below meth c H locs cells slots Q (F0 m pc ls st0) := by
  subst hst
  exact vp_callSi (cr_of (va_runS (g := F0 m pc ls (As.reverse ++ rest)) S hM cw (preR hP hK hE) rfl hn hl rfl (lv_room hW) hdg hf)) kk
theorem cpS_l {post : Int64 → Prop} (S : CallFix p m c cc nL s args Ts own) (hM : Met l y wsc rm (PcR D wc tc As) (vp_Sl post) 0 0 (fun _ => False)) (cw : CallB R s args own index y bytes maxL ret wsc rm 0 0 n ∧ (Cond.static y).before args s = true)
    (hP : va_P D vwCl wc H) (hK : va_K D vwCl tc s) (hE : EV s) (hn : As.length = n) (hl : ls.size = nL) (hst : st0 = As.reverse ++ rest) (hW : (rest.map fun v => v.category).sum ≤ 8) (hdg : decode cc pc = .ok (.invokestatic index, 3)) (hf : cells ≤ R.cells ∧ slots ≤ R.slots)
    (kk : ∀ r : Int64, post r → W p l e R s m args below meth c H locs cells slots Q (F0 m (pc + 3) ls (.long r :: rest))) : W p l e R s m args below meth c H locs cells slots Q (F0 m pc ls st0) := by
  subst hst
  exact vp_callSl (cr_of (va_runS (g := F0 m pc ls (As.reverse ++ rest)) S hM cw (preR hP hK hE) rfl hn hl rfl (lv_room hW) hdg hf)) kk
theorem cpN_i {post : Int32 → Prop} (S : CallFix p m c cc nL s args Ts own) (hM : Met l y wsc rm (PcR D wc tc As) (vp_Si post) 0 0 (fun _ => False)) (cw : va_CN R s args own index y host bytes maxL ret wsc rm 0 0 n ∧ (Cond.static y).before args s = true ∧ True)
    (hP : va_P D vwCl wc H) (hK : va_K D vwCl tc s) (hE : EV s) (hn : As.length = n) (hl : ls.size = nL) (hst : st0 = As.reverse ++ rest) (hW : (rest.map fun v => v.category).sum ≤ 8) (hdg : decode cc pc = .ok (.invokestatic index, 3)) (hf : cells ≤ R.cells ∧ slots ≤ R.slots)
    (kk : ∀ r : Int32, post r → W p l e R s m args below meth c H locs cells slots Q (F0 m (pc + 3) ls (.int r :: rest))) : W p l e R s m args below meth c H locs cells slots Q (F0 m pc ls st0) := by
  subst hst
  exact vp_callSi (cr_of (va_runSN (g := F0 m pc ls (As.reverse ++ rest)) S hM cw (preR hP hK hE) rfl hn hl rfl (lv_room hW) hdg hf)) kk
theorem cpN_l {post : Int64 → Prop} (S : CallFix p m c cc nL s args Ts own) (hM : Met l y wsc rm (PcR D wc tc As) (vp_Sl post) 0 0 (fun _ => False)) (cw : va_CN R s args own index y host bytes maxL ret wsc rm 0 0 n ∧ (Cond.static y).before args s = true ∧ True)
    (hP : va_P D vwCl wc H) (hK : va_K D vwCl tc s) (hE : EV s) (hn : As.length = n) (hl : ls.size = nL) (hst : st0 = As.reverse ++ rest) (hW : (rest.map fun v => v.category).sum ≤ 8) (hdg : decode cc pc = .ok (.invokestatic index, 3)) (hf : cells ≤ R.cells ∧ slots ≤ R.slots)
    (kk : ∀ r : Int64, post r → W p l e R s m args below meth c H locs cells slots Q (F0 m (pc + 3) ls (.long r :: rest))) : W p l e R s m args below meth c H locs cells slots Q (F0 m pc ls st0) := by
  subst hst
  exact vp_callSl (cr_of (va_runSN (g := F0 m pc ls (As.reverse ++ rest)) S hM cw (preR hP hK hE) rfl hn hl rfl (lv_room hW) hdg hf)) kk
theorem cpV_i {post : Int32 → Prop} (S : CallFix p m c cc nL s args Ts own) (hM : Met l y wsc rm (PcR D wc tc (.ref b :: As)) (vp_Si post) 0 0 (fun _ => False)) (cw : CallW R s args own C index y bytes maxL ret wsc rm 0 0 n)
    (hrc : ∃ cell : Cell, H[b]? = some cell ∧ cell.vm.isStatics = false ∧ s.vm.findClass C = some cell.cls) (hP : va_P D vwCl wc H) (hK : va_K D vwCl tc s) (hE : EV s) (hn : As.length = n) (hl : ls.size = nL) (hst : st0 = As.reverse ++ .ref b :: rest) (hW : (rest.map fun v => v.category).sum ≤ 8) (hdg : decode cc pc = .ok (.invokevirtual index, 3)) (hf : cells ≤ R.cells ∧ slots ≤ R.slots)
    (kk : ∀ r : Int32, post r → W p l e R s m args below meth c H locs cells slots Q (F0 m (pc + 3) ls (.int r :: rest))) : W p l e R s m args below meth c H locs cells slots Q (F0 m pc ls st0) := by
  subst hst
  exact vp_callSi (cr_of (va_runV (g := F0 m pc ls (As.reverse ++ .ref b :: rest)) S hM cw (preRV hP hK hE hrc) rfl hn hl rfl (lv_room hW) hdg hf)) kk
theorem cpV_l {post : Int64 → Prop} (S : CallFix p m c cc nL s args Ts own) (hM : Met l y wsc rm (PcR D wc tc (.ref b :: As)) (vp_Sl post) 0 0 (fun _ => False)) (cw : CallW R s args own C index y bytes maxL ret wsc rm 0 0 n)
    (hrc : ∃ cell : Cell, H[b]? = some cell ∧ cell.vm.isStatics = false ∧ s.vm.findClass C = some cell.cls) (hP : va_P D vwCl wc H) (hK : va_K D vwCl tc s) (hE : EV s) (hn : As.length = n) (hl : ls.size = nL) (hst : st0 = As.reverse ++ .ref b :: rest) (hW : (rest.map fun v => v.category).sum ≤ 8) (hdg : decode cc pc = .ok (.invokevirtual index, 3)) (hf : cells ≤ R.cells ∧ slots ≤ R.slots)
    (kk : ∀ r : Int64, post r → W p l e R s m args below meth c H locs cells slots Q (F0 m (pc + 3) ls (.long r :: rest))) : W p l e R s m args below meth c H locs cells slots Q (F0 m pc ls st0) := by
  subst hst
  exact vp_callSl (cr_of (va_runV (g := F0 m pc ls (As.reverse ++ .ref b :: rest)) S hM cw (preRV hP hK hE hrc) rfl hn hl rfl (lv_room hW) hdg hf)) kk
end CallsR
