/-! ===== what a throw needs of the start ===== -/
abbrev xIA : String := "java/lang/IllegalArgumentException"
abbrev xUO : String := "java/lang/UnsupportedOperationException"
abbrev xAE : String := "java/lang/ArithmeticException"
abbrev xIS : String := "java/lang/IllegalStateException"
abbrev xnm : List String := ["java/lang/RuntimeException", "java/lang/Exception"]
def cwL : List Cond := [.castable xIA xIA, .castable xUO xUO, .castable xAE xAE, .castable xIS xIS, .declares ⟨"java/lang/RuntimeException", "<init>", "(Ljava/lang/String;)V"⟩, .declares ⟨"java/lang/Exception", "<init>", "(Ljava/lang/String;)V"⟩, .declares ⟨"java/lang/Throwable", "<init>", "(Ljava/lang/String;)V"⟩]
def strL : List (Nat × String) := [(59, "no such level"), (70, "no more places"), (77, "not two places of one level"), (83, "length or speed out of range"), (87, "/ by zero"), (93, "no more pieces"), (99, "not two places of different levels"), (101, "seconds out of range"), (110, "no such piece, or a limit out of range"), (118, "width or height out of range"), (123, "no more movers"), (129, "no such piece"), (151, "no such turn"), (162, "no such piece or hour"), (170, "no such mover, place or moment"), (189, "no such mover or place"), (191, "no such place"), (198, "marked before"), (204, "no more marks"), (206, "no such marked place"), (208, "no mover"), (212, "not two places, or no such rank"), (239, "nothing of that number is told")]
theorem cwL_ok : ∀ w ∈ cwL, (∃ (a b : String), w = .castable a b) ∨ ∃ x : MethodName, w = .declares x := by
  intro w hw
  simp only [cwL, List.mem_cons, List.not_mem_nil, or_false] at hw
  rcases hw with rfl | rfl | rfl | rfl | rfl | rfl | rfl <;> first | exact Or.inl ⟨_, _, rfl⟩ | exact Or.inr ⟨_, rfl⟩
theorem cwL_t : ∀ w ∈ cwL, w ∈ lw_tbl := by
  intro w hw
  simp only [cwL, List.mem_cons, List.not_mem_nil, or_false] at hw
  rcases hw with rfl | rfl | rfl | rfl | rfl | rfl | rfl
  · exact List.mem_append_right _ (List.mem_of_getElem? (i := 207) (by decide +kernel))
  · exact List.mem_append_right _ (List.mem_of_getElem? (i := 276) (by decide +kernel))
  · exact List.mem_append_right _ (List.mem_of_getElem? (i := 308) (by decide +kernel))
  · exact List.mem_append_right _ (List.mem_of_getElem? (i := 509) (by decide +kernel))
  · exact List.mem_append_right _ (List.mem_of_getElem? (i := 209) (by decide +kernel))
  · exact List.mem_append_right _ (List.mem_of_getElem? (i := 211) (by decide +kernel))
  · exact List.mem_append_right _ (List.mem_of_getElem? (i := 213) (by decide +kernel))
theorem strL_t : ∀ q ∈ strL, Cond.stringRef nG q.1 q.2 ∈ lw_tbl := by
  intro q hq
  simp only [strL, List.mem_cons, List.not_mem_nil, or_false] at hq
  rcases hq with rfl | rfl | rfl | rfl | rfl | rfl | rfl | rfl | rfl | rfl | rfl | rfl | rfl | rfl | rfl | rfl | rfl | rfl | rfl | rfl | rfl | rfl | rfl
  · exact List.mem_append_right _ (List.mem_of_getElem? (i := 247) (by decide +kernel))
  · exact List.mem_append_right _ (List.mem_of_getElem? (i := 283) (by decide +kernel))
  · exact List.mem_append_right _ (List.mem_of_getElem? (i := 302) (by decide +kernel))
  · exact List.mem_append_right _ (List.mem_of_getElem? (i := 305) (by decide +kernel))
  · exact List.mem_append_right _ (List.mem_of_getElem? (i := 315) (by decide +kernel))
  · exact List.mem_append_right _ (List.mem_of_getElem? (i := 322) (by decide +kernel))
  · exact List.mem_append_right _ (List.mem_of_getElem? (i := 336) (by decide +kernel))
  · exact List.mem_append_right _ (List.mem_of_getElem? (i := 337) (by decide +kernel))
  · exact List.mem_append_right _ (List.mem_of_getElem? (i := 352) (by decide +kernel))
  · exact List.mem_append_right _ (List.mem_of_getElem? (i := 360) (by decide +kernel))
  · exact List.mem_append_right _ (List.mem_of_getElem? (i := 361) (by decide +kernel))
  · exact List.mem_append_right _ (List.mem_of_getElem? (i := 377) (by decide +kernel))
  · exact List.mem_append_right _ (List.mem_of_getElem? (i := 390) (by decide +kernel))
  · exact List.mem_append_right _ (List.mem_of_getElem? (i := 406) (by decide +kernel))
  · exact List.mem_append_right _ (List.mem_of_getElem? (i := 418) (by decide +kernel))
  · exact List.mem_append_right _ (List.mem_of_getElem? (i := 493) (by decide +kernel))
  · exact List.mem_append_right _ (List.mem_of_getElem? (i := 502) (by decide +kernel))
  · exact List.mem_append_right _ (List.mem_of_getElem? (i := 516) (by decide +kernel))
  · exact List.mem_append_right _ (List.mem_of_getElem? (i := 523) (by decide +kernel))
  · exact List.mem_append_right _ (List.mem_of_getElem? (i := 531) (by decide +kernel))
  · exact List.mem_append_right _ (List.mem_of_getElem? (i := 532) (by decide +kernel))
  · exact List.mem_append_right _ (List.mem_of_getElem? (i := 541) (by decide +kernel))
  · exact List.mem_append_right _ (List.mem_of_getElem? (i := 589) (by decide +kernel))
def EX (U : State) : Prop := vx_Zq Bundle.tN "UNASSIGNED_STACK" Bundle.steD (fun _ => False) U U.heap ∧ vx_Zq Bundle.tN "SUPPRESSED_SENTINEL" Bundle.listD (fun _ => False) U U.heap ∧ (∀ w ∈ cwL, va_Nw w U) ∧ ∀ q ∈ strL, ∃ sa, vk_R nG q.1 q.2 sa U
theorem EX.at {s U : State} (h : EX s) (hU : U.heap = s.heap) (hW : s.WarmedH U.vm) : EX U := by
  obtain ⟨h1, h2, h3, h4⟩ := h
  refine ⟨by rw [hU]; exact vx_Zq.moved hW.alike h1, by rw [hU]; exact vx_Zq.moved hW.alike h2, fun w hw => ?_, fun q hq => ?_⟩
  · rcases cwL_ok w hw with ⟨a, b, rfl⟩ | ⟨x, rfl⟩
    · exact va_Nw.warmC hW (h3 _ hw)
    · exact va_Nw.warmD hW (h3 _ hw)
  · obtain ⟨sa, hs⟩ := h4 q hq
    exact ⟨sa, vk_R.warm hW hs⟩
theorem EX.calling {U : State} {g : JFrame} {mk : MethodId} {a : Array Value} (h : EX U) : EX (U.calling g mk a) := by
  obtain ⟨h1, h2, h3, h4⟩ := h
  refine ⟨vx_Zq.moved (u := U) (U := U.calling g mk a) (Vm.Alike.refl U.vm) h1, vx_Zq.moved (u := U) (U := U.calling g mk a) (Vm.Alike.refl U.vm) h2, fun w hw => ?_, fun q hq => ?_⟩
  · rcases cwL_ok w hw with ⟨c, d, rfl⟩ | ⟨x, rfl⟩
    · exact va_Nw.same (u := U) (U := U.calling g mk a) rfl rfl (h3 _ hw)
    · exact va_Nw.same (u := U) (U := U.calling g mk a) rfl rfl (h3 _ hw)
  · obtain ⟨sa, hs⟩ := h4 q hq
    exact ⟨sa, vk_R.same (u := U) (U := U.calling g mk a) rfl hs⟩
set_option maxRecDepth 100000 in
theorem at_IA : ∀ w ∈ vx_atS nG 61 xIA xnm, (goodWord w = true ∧ w ∈ lw_tbl) ∨ w ∈ cwL := by decide +kernel
set_option maxRecDepth 100000 in
theorem at_UO : ∀ w ∈ vx_atS nG 72 xUO xnm, (goodWord w = true ∧ w ∈ lw_tbl) ∨ w ∈ cwL := by decide +kernel
set_option maxRecDepth 100000 in
theorem at_AE : ∀ w ∈ vx_atS nG 89 xAE xnm, (goodWord w = true ∧ w ∈ lw_tbl) ∨ w ∈ cwL := by decide +kernel
set_option maxRecDepth 100000 in
theorem at_IS : ∀ w ∈ vx_atS nG 200 xIS xnm, (goodWord w = true ∧ w ∈ lw_tbl) ∨ w ∈ cwL := by decide +kernel
abbrev XCw (cd : Nat) (L : List (Nat × String)) : String → State → State → Prop := vx_X (fun _ : Unit => True) (fun E _ _ => (cd, E) ∈ L) (fun _ => False)
section Thr
variable {p : Program} {l : Launch} {e : Env} {R : Room} {s : State} {m : MethodId} {args : Array Value} {below : List Frame} {meth : Method} {c : Code} {Qc : Array Value → State → Outcome → State → Prop} {free : Addr → Prop}
theorem thr {cc : ByteArray} {pc : Nat} {ls : Array Slot} {rest : List Value} {cls text : String} {ik is ic : Nat} {cd : Nat} {L : List (Nat × String)} (hx : p.tables.exec = Jvm.exec) (hb : c.code = cc) (hl : l.stackTraces = false) (hown : s.vm.findClass nG = some m.cls) (hEX : EX s) (hg : ∀ w ∈ gw, w.before args s = true)
    (hcl : Cond.classLink nG ik cls ∈ gw) (hin : Cond.initialized cls ∈ gw) (hat : ∀ w ∈ vx_atS nG ic cls xnm, (goodWord w = true ∧ w ∈ lw_tbl) ∨ w ∈ cwL) (hfit : Bundle.fit cls = true) (hst : (is, text) ∈ strL) (hsize : ls.size = c.maxLocals)
    (d0 : decode cc pc = .ok (.new ik, 3)) (d3 : decode cc (pc + 3) = .ok (.dup, 1)) (d4 : decode cc (pc + 4) = .ok (.ldc is, 2)) (d6 : decode cc (pc + 6) = .ok (.invokespecial ic, 3)) (d9 : decode cc (pc + 9) = .ok (.athrow, 1))
    (hout : ∀ x ∈ c.exceptionTable.toList, False) (hRf : 5 < R.frames) (hRl : (rest.map fun v => v.category).sum + 82 ≤ R.locals) (hRc : 1 ≤ R.cells) (hRs : 6 ≤ R.slots) (hlocks : meth.locks = false) (hcd : (cd, cls) ∈ L) :
    W p l e R s m args below meth c s.heap [] 0 0 (vx_MQ below Qc (XCw cd L) args s 1 6 free) (F0 m pc ls rest) := by
  obtain ⟨hU, hN, hC, hT⟩ := hEX
  obtain ⟨sa, hsa⟩ := hT _ hst
  have hatb : ∀ w ∈ vx_atS nG ic cls xnm, w.before args s = true := fun w hw => by
    rcases hat w hw with ⟨a, b⟩ | h
    · exact hg w (List.mem_filter.mpr ⟨b, a⟩)
    · rcases cwL_ok w h with ⟨c1, c2, rfl⟩ | ⟨x, rfl⟩
      · exact va_Nw.use rfl (hC _ h)
      · exact va_Nw.use rfl (hC _ h)
  refine vx_throwS (A := fun _ => False) (names := xnm) (sa := sa) (text := text) hx hb hl hown hfit (by decide +kernel) (hg _ hcl) (hg _ hin) hsa hatb ?_ hU hN va_S.rf hsize d0 d3 d4 d6 d9 (fun x h => (hout x h).elim) hRf hRl (by omega) (by omega) hlocks ?_ (fun z h => by cases h) (Nat.le_refl _) (Nat.le_refl _)
  · intro w hw
    rcases List.mem_cons.mp hw with rfl | hw
    · rfl
    · rcases List.mem_cons.mp hw with rfl | hw
      · rfl
      · rcases hat w hw with ⟨a, _⟩ | h
        · unfold vx_ot; rw [a, Bool.or_true]
        · rcases cwL_ok w h with ⟨c1, c2, rfl⟩ | ⟨x, rfl⟩
          · rfl
          · rfl
  · intro t _ h1 h2
    exact ⟨(), trivial, hcd, h1, fun q hq _ => h2 q hq⟩
end Thr
