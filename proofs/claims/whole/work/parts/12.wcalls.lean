/-! ===== calls of methods that write: their cells change as said, the rest stays ===== -/
abbrev QwB (D : va_G) (w1 : va_W) (tys : List (ClassId × FieldType)) (A : Nat → Prop) : Unit → State → Prop := fun _ t => va_P D vwCl w1 t.heap ∧ va_K D vwCl tys t ∧ va_D A w1
abbrev QwV (D : va_G) (w1 : va_W) (tys : List (ClassId × FieldType)) (A : Nat → Prop) : Array Value → State → Outcome → State → Prop := va_Qv (fun _ : Unit => True) (QwB D w1 tys A) A
abbrev QwI (D : va_G) (r0 : Int32) (w1 : va_W) (tys : List (ClassId × FieldType)) (A : Nat → Prop) : Array Value → State → Outcome → State → Prop := va_Qi (fun r (_ : Unit) => r = r0) (QwB D w1 tys A) A
abbrev QwL (D : va_G) (r0 : Int64) (w1 : va_W) (tys : List (ClassId × FieldType)) (A : Nat → Prop) : Array Value → State → Outcome → State → Prop := va_Ql (fun r (_ : Unit) => r = r0) (QwB D w1 tys A) A
theorem fm_of {α : Type} {f : Nat → Option α} : ∀ {is : List Nat} {w : List α}, is.map f = w.map some → is.filterMap f = w := by
  intro is
  induction is with
  | nil => intro w h; cases w with
    | nil => rfl
    | cons a w => simp at h
  | cons i is ih =>
    intro w h
    cases w with
    | nil => simp at h
    | cons a w =>
      simp only [List.map_cons, List.cons.injEq] at h
      rw [List.filterMap_cons, h.1, ih h.2]
section CallsW
variable {p : Program} {l : Launch} {e : Env} {R : Room} {s : State} {m : MethodId} {args : Array Value} {below : List Frame} {meth : Method} {c : Code} {H : Heap} {locs : List Loc} {cells slots : Nat} {Q : State → Prop}
variable {cc bytes : ByteArray} {pc : Nat} {ls : Array Slot} {rest st0 As : List Value} {D : va_G} {tc : List (ClassId × FieldType)} {ws wc wr w1 wn : va_W} {b : Nat} {y : MethodName} {wsc Ts : List Cond} {rm : Room} {maxL nL n index mc ms : Nat} {ret : Option FieldType} {own C : String} {A : Nat → Prop}
theorem preWV {sz : Nat} (hsz : H.size = sz) (hP : va_P D vwCl wc H) (hK : va_K D vwCl tc s) (hD : va_D A wc) (hE : EV s) (hrc : ∃ cell : Cell, H[b]? = some cell ∧ cell.vm.isStatics = false ∧ s.vm.findClass C = some cell.cls) : PreV s H C b (PcW D wc tc sz (.ref b :: As)) As :=
  ⟨fbW, hrc, fun U hU hW => ⟨rfl, by rw [hU]; exact hsz, by rw [hU]; exact hP, va_K.moved hW.alike hK, hD.weaken (fun _ _ _ _ => trivial), EV.warm hW hE⟩⟩
theorem kw_join {t : State} {H1 : Heap} (ht : t.heap = H1) (hP : va_P D vwCl ws H) (hD : va_D A ws) (isC isR perm : List Nat) (hC : isC.map (fun i => ws[i]?) = wc.map some) (hRr : isR.map (fun i => ws[i]?) = wr.map some) (hnd : va_nd isR = true) (hdis : ∀ i ∈ isR, i ∉ isC) (hp : perm.map (fun i => (wr ++ w1)[i]?) = wn.map some) (hnp : va_nd perm = true)
    (hk1 : ∀ q : Nat, q < H.size → ¬ va_A wc H.size q → H1[q]? = H[q]?) (hF : ∀ q, va_A wc H.size q → A q) (hB : QwB D w1 tc (va_A wc H.size) () t) : va_P D vwCl wn H1 ∧ va_D A wn := by
  obtain ⟨hP1, -, hD1⟩ := hB
  rw [ht] at hP1
  obtain ⟨a1, a2⟩ := va_join hP hD isC isR hC hRr hnd hdis hk1 hF hP1 hD1
  exact ⟨a1.sub perm (fm_of hp), a2.sub perm hnp hp⟩
theorem kwV_v (S : CallFix p m c cc nL s args Ts own) (hM : Met l y wsc rm (PcW D wc tc H.size (.ref b :: As)) (QwV D w1 tc (va_A wc H.size)) mc ms (va_A wc H.size)) (cw : CallW R s args own C index y bytes maxL ret wsc rm mc ms n)
    (hrc : ∃ cell : Cell, H[b]? = some cell ∧ cell.vm.isStatics = false ∧ s.vm.findClass C = some cell.cls) (hP : va_P D vwCl ws H) (hD : va_D A ws) (hK : va_K D vwCl tc s) (hE : EV s) (hS : va_S A s.heap H locs) (hA : ∀ q, s.heap.size ≤ q → A q) (isC isR perm : List Nat) (hC : isC.map (fun i => ws[i]?) = wc.map some) (hnc : va_nd isC = true) (hRr : isR.map (fun i => ws[i]?) = wr.map some) (hnd : va_nd isR = true) (hdis : ∀ i ∈ isR, i ∉ isC) (hp : perm.map (fun i => (wr ++ w1)[i]?) = wn.map some) (hnp : va_nd perm = true)
    (hn : As.length = n) (hl : ls.size = nL) (hst : st0 = As.reverse ++ .ref b :: rest) (hW : (rest.map fun v => v.category).sum ≤ 8) (hdg : decode cc pc = .ok (.invokevirtual index, 3)) (hf : cells + mc ≤ R.cells ∧ slots + ms ≤ R.slots)
    (kk : ∀ (H1 : Heap) (locs1 : List Loc), va_P D vwCl wn H1 → va_D A wn → va_S A s.heap H1 locs1 → W p l e R s m args below meth c H1 locs1 (cells + mc) (slots + ms) Q (F0 m (pc + 3) ls rest)) : W p l e R s m args below meth c H locs cells slots Q (F0 m pc ls st0) := by
  subst hst
  have hF := va_free (wc := wc) hD hS hA isC hC
  refine va_callv (va_runV (g := F0 m pc ls (As.reverse ++ .ref b :: rest)) S hM cw (preWV rfl (hP.sub isC (fm_of hC)) hK (hD.sub isC hnc hC) hE hrc) rfl hn hl rfl (lv_room hW) hdg hf) hS (fun q _ h => hF q h) hF (fun u t H1 locs1 ht hvm hw hB hz1 hk1 hS1 => ?_)
  obtain ⟨a1, a2⟩ := kw_join ht hP hD isC isR perm hC hRr hnd hdis hp hnp hk1 hF hB
  exact kk H1 locs1 a1 a2 hS1
theorem kwV_i {r0 : Int32} (S : CallFix p m c cc nL s args Ts own) (hM : Met l y wsc rm (PcW D wc tc H.size (.ref b :: As)) (QwI D r0 w1 tc (va_A wc H.size)) mc ms (va_A wc H.size)) (cw : CallW R s args own C index y bytes maxL ret wsc rm mc ms n)
    (hrc : ∃ cell : Cell, H[b]? = some cell ∧ cell.vm.isStatics = false ∧ s.vm.findClass C = some cell.cls) (hP : va_P D vwCl ws H) (hD : va_D A ws) (hK : va_K D vwCl tc s) (hE : EV s) (hS : va_S A s.heap H locs) (hA : ∀ q, s.heap.size ≤ q → A q) (isC isR perm : List Nat) (hC : isC.map (fun i => ws[i]?) = wc.map some) (hnc : va_nd isC = true) (hRr : isR.map (fun i => ws[i]?) = wr.map some) (hnd : va_nd isR = true) (hdis : ∀ i ∈ isR, i ∉ isC) (hp : perm.map (fun i => (wr ++ w1)[i]?) = wn.map some) (hnp : va_nd perm = true)
    (hn : As.length = n) (hl : ls.size = nL) (hst : st0 = As.reverse ++ .ref b :: rest) (hW : (rest.map fun v => v.category).sum ≤ 8) (hdg : decode cc pc = .ok (.invokevirtual index, 3)) (hf : cells + mc ≤ R.cells ∧ slots + ms ≤ R.slots)
    (kk : ∀ (H1 : Heap) (locs1 : List Loc), va_P D vwCl wn H1 → va_D A wn → va_S A s.heap H1 locs1 → W p l e R s m args below meth c H1 locs1 (cells + mc) (slots + ms) Q (F0 m (pc + 3) ls (.int r0 :: rest))) : W p l e R s m args below meth c H locs cells slots Q (F0 m pc ls st0) := by
  subst hst
  have hF := va_free (wc := wc) hD hS hA isC hC
  refine va_calli (va_runV (g := F0 m pc ls (As.reverse ++ .ref b :: rest)) S hM cw (preWV rfl (hP.sub isC (fm_of hC)) hK (hD.sub isC hnc hC) hE hrc) rfl hn hl rfl (lv_room hW) hdg hf) hS (fun q _ h => hF q h) hF (fun r u t H1 locs1 ht hvm hw hB hz1 hk1 hS1 => ?_)
  obtain ⟨a1, a2⟩ := kw_join ht hP hD isC isR perm hC hRr hnd hdis hp hnp hk1 hF hB
  subst hw
  exact kk H1 locs1 a1 a2 hS1
theorem kwV_l {r0 : Int64} (S : CallFix p m c cc nL s args Ts own) (hM : Met l y wsc rm (PcW D wc tc H.size (.ref b :: As)) (QwL D r0 w1 tc (va_A wc H.size)) mc ms (va_A wc H.size)) (cw : CallW R s args own C index y bytes maxL ret wsc rm mc ms n)
    (hrc : ∃ cell : Cell, H[b]? = some cell ∧ cell.vm.isStatics = false ∧ s.vm.findClass C = some cell.cls) (hP : va_P D vwCl ws H) (hD : va_D A ws) (hK : va_K D vwCl tc s) (hE : EV s) (hS : va_S A s.heap H locs) (hA : ∀ q, s.heap.size ≤ q → A q) (isC isR perm : List Nat) (hC : isC.map (fun i => ws[i]?) = wc.map some) (hnc : va_nd isC = true) (hRr : isR.map (fun i => ws[i]?) = wr.map some) (hnd : va_nd isR = true) (hdis : ∀ i ∈ isR, i ∉ isC) (hp : perm.map (fun i => (wr ++ w1)[i]?) = wn.map some) (hnp : va_nd perm = true)
    (hn : As.length = n) (hl : ls.size = nL) (hst : st0 = As.reverse ++ .ref b :: rest) (hW : (rest.map fun v => v.category).sum ≤ 8) (hdg : decode cc pc = .ok (.invokevirtual index, 3)) (hf : cells + mc ≤ R.cells ∧ slots + ms ≤ R.slots)
    (kk : ∀ (H1 : Heap) (locs1 : List Loc), va_P D vwCl wn H1 → va_D A wn → va_S A s.heap H1 locs1 → W p l e R s m args below meth c H1 locs1 (cells + mc) (slots + ms) Q (F0 m (pc + 3) ls (.long r0 :: rest))) : W p l e R s m args below meth c H locs cells slots Q (F0 m pc ls st0) := by
  subst hst
  have hF := va_free (wc := wc) hD hS hA isC hC
  refine va_calll (va_runV (g := F0 m pc ls (As.reverse ++ .ref b :: rest)) S hM cw (preWV rfl (hP.sub isC (fm_of hC)) hK (hD.sub isC hnc hC) hE hrc) rfl hn hl rfl (lv_room hW) hdg hf) hS (fun q _ h => hF q h) hF (fun r u t H1 locs1 ht hvm hw hB hz1 hk1 hS1 => ?_)
  obtain ⟨a1, a2⟩ := kw_join ht hP hD isC isR perm hC hRr hnd hdis hp hnp hk1 hF hB
  subst hw
  exact kk H1 locs1 a1 a2 hS1
end CallsW
/-! worlds of the other groups -/
abbrev wL (cI cJ cZ : ClassId) (ql : Nat → Nat) (re : Nat → Nat) (sa fm : Nat) : va_W := [(ql 0, .inr (2, [.ref (ql 1), .int (nI sa), .long (lN fm)])), (ql 1, .inl (cJ, 40, .inr (.inl (fun j => lN (re j)))))]
abbrev wR (cI cJ cZ : ClassId) (qr : Nat → Nat) (nu : Nat → Nat) (rl : Nat) : va_W := [(qr 0, .inr (4, [.ref (qr 1), .int (nI rl)])), (qr 1, .inl (cI, 40, .inl (fun j => nI (nu j))))]
abbrev wS (cI cJ cZ : ClassId) (qs : Nat → Nat) (tr rp rn rs : Nat → Nat) (rk us gl : Nat) : va_W := [(qs 0, .inr (3, [.ref (qs 1), .ref (qs 2), .ref (qs 3), .ref (qs 4), .int (nI rk), .long (lN us), .int (nI gl)])), (qs 1, .inl (cI, 5, .inl (fun j => nI (tr j)))), (qs 2, .inl (cI, 25, .inl (fun j => nI (rp j)))), (qs 3, .inl (cI, 5, .inl (fun j => nI (rn j)))), (qs 4, .inl (cJ, 5, .inr (.inl (fun j => lN (rs j)))))]
abbrev wG (cI cJ cZ : ClassId) (qg q ql qs qr : Nat → Nat) (lv mw mh mk : Nat → Nat) (pc mc kc : Nat) : va_W := [(qg 0, .inr (0, [.ref (qg 1), .int (nI pc), .ref (q 0), .ref (qg 2), .ref (qg 3), .int (nI mc), .ref (qg 4), .int (nI kc), .ref (ql 0), .ref (qs 0), .ref (qr 0)])), (qg 1, .inl (cI, 20, .inl (fun j => nI (lv j)))), (qg 2, .inl (cI, 6, .inl (fun j => nI (mw j)))), (qg 3, .inl (cJ, 6, .inr (.inl (fun j => lN (mh j))))), (qg 4, .inl (cI, 8, .inl (fun j => nI (mk j))))]
