section
-- ===== PART A: goes FIRST, ahead of the names: the tables' words, and 'selects' of the private methods out of them =====
/-- a private method of a class that the tables say can be made, by its rows of tables_1 -/
def lw_okq (q : MethodName × Nat) : Prop := (q.1.cls ≠ "java/lang/invoke/MethodHandle" ∧ q.1.cls ≠ "java/lang/invoke/VarHandle") ∧ Cond.instantiable q.1.cls q.2 ∈ tables_1 ∧ Cond.privateMethod q.1 ∈ tables_1 ∧ Cond.instanceMethod q.1 ∈ tables_1
theorem lw_p0 : lw_okq (⟨"java/lang/Throwable", "fillInStackTrace", "(I)Ljava/lang/Throwable;"⟩, 6) := ⟨⟨by decide +kernel, by decide +kernel⟩, List.mem_of_getElem? (i := 245) (by decide +kernel), List.mem_of_getElem? (i := 243) (by decide +kernel), List.mem_of_getElem? (i := 244) (by decide +kernel)⟩
theorem lw_p1 : lw_okq (⟨"WayGraph", "hasPlace", "(I)Z"⟩, 11) := ⟨⟨by decide +kernel, by decide +kernel⟩, List.mem_of_getElem? (i := 18) (by decide +kernel), List.mem_of_getElem? (i := 299) (by decide +kernel), List.mem_of_getElem? (i := 300) (by decide +kernel)⟩
theorem lw_p2 : lw_okq (⟨"WayGraph", "hasMover", "(I)Z"⟩, 11) := ⟨⟨by decide +kernel, by decide +kernel⟩, List.mem_of_getElem? (i := 18) (by decide +kernel), List.mem_of_getElem? (i := 415) (by decide +kernel), List.mem_of_getElem? (i := 416) (by decide +kernel)⟩
theorem lw_p3 : lw_okq (⟨"WayGraph", "leastSeconds", "(IIIJ)J"⟩, 11) := ⟨⟨by decide +kernel, by decide +kernel⟩, List.mem_of_getElem? (i := 18) (by decide +kernel), List.mem_of_getElem? (i := 420) (by decide +kernel), List.mem_of_getElem? (i := 421) (by decide +kernel)⟩
theorem lw_p4 : lw_okq (⟨"WayGraph$LeastWays", "earliestOf", "(LWayGraph$Pieces;J)I"⟩, 3) := ⟨⟨by decide +kernel, by decide +kernel⟩, List.mem_of_getElem? (i := 77) (by decide +kernel), List.mem_of_getElem? (i := 445) (by decide +kernel), List.mem_of_getElem? (i := 446) (by decide +kernel)⟩
theorem lw_p5 : lw_okq (⟨"WayGraph$LeastWays", "goOnFrom", "(LWayGraph$Pieces;IJ)V"⟩, 3) := ⟨⟨by decide +kernel, by decide +kernel⟩, List.mem_of_getElem? (i := 77) (by decide +kernel), List.mem_of_getElem? (i := 450) (by decide +kernel), List.mem_of_getElem? (i := 451) (by decide +kernel)⟩
theorem lw_p6 : lw_okq (⟨"WayGraph$LeastWays", "pieceBefore", "(LWayGraph$Pieces;I)I"⟩, 3) := ⟨⟨by decide +kernel, by decide +kernel⟩, List.mem_of_getElem? (i := 77) (by decide +kernel), List.mem_of_getElem? (i := 479) (by decide +kernel), List.mem_of_getElem? (i := 480) (by decide +kernel)⟩
theorem lw_p7 : lw_okq (⟨"WayGraph", "isMarked", "(I)Z"⟩, 11) := ⟨⟨by decide +kernel, by decide +kernel⟩, List.mem_of_getElem? (i := 18) (by decide +kernel), List.mem_of_getElem? (i := 504) (by decide +kernel), List.mem_of_getElem? (i := 505) (by decide +kernel)⟩
theorem lw_p8 : lw_okq (⟨"WayGraph$ShortWays", "extend", "(LWayGraph$Pieces;IIJJ)V"⟩, 7) := ⟨⟨by decide +kernel, by decide +kernel⟩, List.mem_of_getElem? (i := 94) (by decide +kernel), List.mem_of_getElem? (i := 548) (by decide +kernel), List.mem_of_getElem? (i := 549) (by decide +kernel)⟩
theorem lw_p9 : lw_okq (⟨"WayGraph$ShortWays", "canBeNext", "(LWayGraph$Pieces;III)Z"⟩, 7) := ⟨⟨by decide +kernel, by decide +kernel⟩, List.mem_of_getElem? (i := 94) (by decide +kernel), List.mem_of_getElem? (i := 552) (by decide +kernel), List.mem_of_getElem? (i := 553) (by decide +kernel)⟩
theorem lw_p10 : lw_okq (⟨"WayGraph$ShortWays", "keep", "(IJ)V"⟩, 7) := ⟨⟨by decide +kernel, by decide +kernel⟩, List.mem_of_getElem? (i := 94) (by decide +kernel), List.mem_of_getElem? (i := 559) (by decide +kernel), List.mem_of_getElem? (i := 560) (by decide +kernel)⟩
theorem lw_p11 : lw_okq (⟨"WayGraph$ShortWays", "rankOf", "(J)I"⟩, 7) := ⟨⟨by decide +kernel, by decide +kernel⟩, List.mem_of_getElem? (i := 94) (by decide +kernel), List.mem_of_getElem? (i := 563) (by decide +kernel), List.mem_of_getElem? (i := 564) (by decide +kernel)⟩
theorem lw_p12 : lw_okq (⟨"WayGraphModel", "isPlace", "(I)Z"⟩, 26) := ⟨⟨by decide +kernel, by decide +kernel⟩, List.mem_of_getElem? (i := 587) (by decide +kernel), List.mem_of_getElem? (i := 689) (by decide +kernel), List.mem_of_getElem? (i := 690) (by decide +kernel)⟩
theorem lw_p13 : lw_okq (⟨"WayGraphModel", "add", "(IIJ)I"⟩, 26) := ⟨⟨by decide +kernel, by decide +kernel⟩, List.mem_of_getElem? (i := 587) (by decide +kernel), List.mem_of_getElem? (i := 695) (by decide +kernel), List.mem_of_getElem? (i := 696) (by decide +kernel)⟩
theorem lw_p14 : lw_okq (⟨"WayGraphModel", "isPiece", "(I)Z"⟩, 26) := ⟨⟨by decide +kernel, by decide +kernel⟩, List.mem_of_getElem? (i := 587) (by decide +kernel), List.mem_of_getElem? (i := 708) (by decide +kernel), List.mem_of_getElem? (i := 709) (by decide +kernel)⟩
theorem lw_p15 : lw_okq (⟨"WayGraphModel", "isMover", "(I)Z"⟩, 26) := ⟨⟨by decide +kernel, by decide +kernel⟩, List.mem_of_getElem? (i := 587) (by decide +kernel), List.mem_of_getElem? (i := 733) (by decide +kernel), List.mem_of_getElem? (i := 734) (by decide +kernel)⟩
def lw_privs_1 : List (MethodName × Nat) := [(⟨"java/lang/Throwable", "fillInStackTrace", "(I)Ljava/lang/Throwable;"⟩, 6), (⟨"WayGraph", "hasPlace", "(I)Z"⟩, 11), (⟨"WayGraph", "hasMover", "(I)Z"⟩, 11), (⟨"WayGraph", "leastSeconds", "(IIIJ)J"⟩, 11), (⟨"WayGraph$LeastWays", "earliestOf", "(LWayGraph$Pieces;J)I"⟩, 3), (⟨"WayGraph$LeastWays", "goOnFrom", "(LWayGraph$Pieces;IJ)V"⟩, 3), (⟨"WayGraph$LeastWays", "pieceBefore", "(LWayGraph$Pieces;I)I"⟩, 3), (⟨"WayGraph", "isMarked", "(I)Z"⟩, 11), (⟨"WayGraph$ShortWays", "extend", "(LWayGraph$Pieces;IIJJ)V"⟩, 7), (⟨"WayGraph$ShortWays", "canBeNext", "(LWayGraph$Pieces;III)Z"⟩, 7), (⟨"WayGraph$ShortWays", "keep", "(IJ)V"⟩, 7), (⟨"WayGraph$ShortWays", "rankOf", "(J)I"⟩, 7), (⟨"WayGraphModel", "isPlace", "(I)Z"⟩, 26), (⟨"WayGraphModel", "add", "(IIJ)I"⟩, 26), (⟨"WayGraphModel", "isPiece", "(I)Z"⟩, 26), (⟨"WayGraphModel", "isMover", "(I)Z"⟩, 26)]
theorem lw_r1 : ∀ q ∈ lw_privs_1, lw_okq q := List.forall_mem_cons.mpr ⟨lw_p0, List.forall_mem_cons.mpr ⟨lw_p1, List.forall_mem_cons.mpr ⟨lw_p2, List.forall_mem_cons.mpr ⟨lw_p3, List.forall_mem_cons.mpr ⟨lw_p4, List.forall_mem_cons.mpr ⟨lw_p5, List.forall_mem_cons.mpr ⟨lw_p6, List.forall_mem_cons.mpr ⟨lw_p7, List.forall_mem_cons.mpr ⟨lw_p8, List.forall_mem_cons.mpr ⟨lw_p9, List.forall_mem_cons.mpr ⟨lw_p10, List.forall_mem_cons.mpr ⟨lw_p11, List.forall_mem_cons.mpr ⟨lw_p12, List.forall_mem_cons.mpr ⟨lw_p13, List.forall_mem_cons.mpr ⟨lw_p14, List.forall_mem_cons.mpr ⟨lw_p15, fun _ h => absurd h List.not_mem_nil⟩⟩⟩⟩⟩⟩⟩⟩⟩⟩⟩⟩⟩⟩⟩⟩
theorem lw_p16 : lw_okq (⟨"WayGraphModel", "least", "(IIIJ)J"⟩, 26) := ⟨⟨by decide +kernel, by decide +kernel⟩, List.mem_of_getElem? (i := 587) (by decide +kernel), List.mem_of_getElem? (i := 737) (by decide +kernel), List.mem_of_getElem? (i := 738) (by decide +kernel)⟩
theorem lw_p17 : lw_okq (⟨"WayGraphModel", "reachAll", "(IIJ)V"⟩, 26) := ⟨⟨by decide +kernel, by decide +kernel⟩, List.mem_of_getElem? (i := 587) (by decide +kernel), List.mem_of_getElem? (i := 741) (by decide +kernel), List.mem_of_getElem? (i := 742) (by decide +kernel)⟩
theorem lw_p18 : lw_okq (⟨"WayGraphModel", "mayUse", "(II)Z"⟩, 26) := ⟨⟨by decide +kernel, by decide +kernel⟩, List.mem_of_getElem? (i := 587) (by decide +kernel), List.mem_of_getElem? (i := 745) (by decide +kernel), List.mem_of_getElem? (i := 746) (by decide +kernel)⟩
theorem lw_p19 : lw_okq (⟨"WayGraphModel", "use", "(IJ)J"⟩, 26) := ⟨⟨by decide +kernel, by decide +kernel⟩, List.mem_of_getElem? (i := 587) (by decide +kernel), List.mem_of_getElem? (i := 749) (by decide +kernel), List.mem_of_getElem? (i := 750) (by decide +kernel)⟩
theorem lw_p20 : lw_okq (⟨"WayGraphModel", "lower", "(III)Z"⟩, 26) := ⟨⟨by decide +kernel, by decide +kernel⟩, List.mem_of_getElem? (i := 587) (by decide +kernel), List.mem_of_getElem? (i := 756) (by decide +kernel), List.mem_of_getElem? (i := 757) (by decide +kernel)⟩
theorem lw_p21 : lw_okq (⟨"WayGraphModel", "follows", "(II)Z"⟩, 26) := ⟨⟨by decide +kernel, by decide +kernel⟩, List.mem_of_getElem? (i := 587) (by decide +kernel), List.mem_of_getElem? (i := 760) (by decide +kernel), List.mem_of_getElem? (i := 761) (by decide +kernel)⟩
theorem lw_p22 : lw_okq (⟨"WayGraphModel", "lastTo", "(I)I"⟩, 26) := ⟨⟨by decide +kernel, by decide +kernel⟩, List.mem_of_getElem? (i := 587) (by decide +kernel), List.mem_of_getElem? (i := 764) (by decide +kernel), List.mem_of_getElem? (i := 765) (by decide +kernel)⟩
theorem lw_p23 : lw_okq (⟨"WayGraphModel", "before", "(IIIJ)I"⟩, 26) := ⟨⟨by decide +kernel, by decide +kernel⟩, List.mem_of_getElem? (i := 587) (by decide +kernel), List.mem_of_getElem? (i := 768) (by decide +kernel), List.mem_of_getElem? (i := 769) (by decide +kernel)⟩
theorem lw_p24 : lw_okq (⟨"WayGraphModel", "goThrough", "(II)V"⟩, 26) := ⟨⟨by decide +kernel, by decide +kernel⟩, List.mem_of_getElem? (i := 587) (by decide +kernel), List.mem_of_getElem? (i := 793) (by decide +kernel), List.mem_of_getElem? (i := 794) (by decide +kernel)⟩
theorem lw_p25 : lw_okq (⟨"WayGraphModel", "mayGo", "(III)Z"⟩, 26) := ⟨⟨by decide +kernel, by decide +kernel⟩, List.mem_of_getElem? (i := 587) (by decide +kernel), List.mem_of_getElem? (i := 797) (by decide +kernel), List.mem_of_getElem? (i := 798) (by decide +kernel)⟩
theorem lw_p26 : lw_okq (⟨"WayGraphModel", "seen", "(III)Z"⟩, 26) := ⟨⟨by decide +kernel, by decide +kernel⟩, List.mem_of_getElem? (i := 587) (by decide +kernel), List.mem_of_getElem? (i := 801) (by decide +kernel), List.mem_of_getElem? (i := 802) (by decide +kernel)⟩
theorem lw_p27 : lw_okq (⟨"WayGraphModel", "keep", "(I)V"⟩, 26) := ⟨⟨by decide +kernel, by decide +kernel⟩, List.mem_of_getElem? (i := 587) (by decide +kernel), List.mem_of_getElem? (i := 805) (by decide +kernel), List.mem_of_getElem? (i := 806) (by decide +kernel)⟩
theorem lw_p28 : lw_okq (⟨"WayGraphModel", "isBetter", "(II)Z"⟩, 26) := ⟨⟨by decide +kernel, by decide +kernel⟩, List.mem_of_getElem? (i := 587) (by decide +kernel), List.mem_of_getElem? (i := 809) (by decide +kernel), List.mem_of_getElem? (i := 810) (by decide +kernel)⟩
def lw_privs_2 : List (MethodName × Nat) := [(⟨"WayGraphModel", "least", "(IIIJ)J"⟩, 26), (⟨"WayGraphModel", "reachAll", "(IIJ)V"⟩, 26), (⟨"WayGraphModel", "mayUse", "(II)Z"⟩, 26), (⟨"WayGraphModel", "use", "(IJ)J"⟩, 26), (⟨"WayGraphModel", "lower", "(III)Z"⟩, 26), (⟨"WayGraphModel", "follows", "(II)Z"⟩, 26), (⟨"WayGraphModel", "lastTo", "(I)I"⟩, 26), (⟨"WayGraphModel", "before", "(IIIJ)I"⟩, 26), (⟨"WayGraphModel", "goThrough", "(II)V"⟩, 26), (⟨"WayGraphModel", "mayGo", "(III)Z"⟩, 26), (⟨"WayGraphModel", "seen", "(III)Z"⟩, 26), (⟨"WayGraphModel", "keep", "(I)V"⟩, 26), (⟨"WayGraphModel", "isBetter", "(II)Z"⟩, 26)]
theorem lw_r2 : ∀ q ∈ lw_privs_2, lw_okq q := List.forall_mem_cons.mpr ⟨lw_p16, List.forall_mem_cons.mpr ⟨lw_p17, List.forall_mem_cons.mpr ⟨lw_p18, List.forall_mem_cons.mpr ⟨lw_p19, List.forall_mem_cons.mpr ⟨lw_p20, List.forall_mem_cons.mpr ⟨lw_p21, List.forall_mem_cons.mpr ⟨lw_p22, List.forall_mem_cons.mpr ⟨lw_p23, List.forall_mem_cons.mpr ⟨lw_p24, List.forall_mem_cons.mpr ⟨lw_p25, List.forall_mem_cons.mpr ⟨lw_p26, List.forall_mem_cons.mpr ⟨lw_p27, List.forall_mem_cons.mpr ⟨lw_p28, fun _ h => absurd h List.not_mem_nil⟩⟩⟩⟩⟩⟩⟩⟩⟩⟩⟩⟩⟩
def lw_privs : List (MethodName × Nat) := lw_privs_1 ++ (lw_privs_2)
def lw_tbl : List Cond := k2_sels lw_privs ++ tables_1
theorem lw_privs_ok : ∀ q ∈ lw_privs, lw_okq q := by
  show ∀ q ∈ lw_privs_1 ++ (lw_privs_2), lw_okq q
  exact List.forall_mem_append.mpr ⟨lw_r1, lw_r2⟩
end
section
/-! ===== BEGIN exceptions that leave a method, and their catching by the caller (launches without stack traces) ===== -/
section VXA
/-! The laws vx_back, vx_callV, vx_callS, vx_callSW, vx_throw0, vx_throwS follow proofs of the library, with one case more: JvmDerived/Free/Laws.lean (Back.of_free), Shelf42/LK1.lean (callV, callS), Shelf/KitTraced.lean (throwNew0V, throwNewS). -/
/-- where a method has thrown q: the class by its name, the cell, what was written, the world -/
def vx_T (XC : String → State → State → Prop) (st : State) (q : Addr) (t : State) (mc ms : Nat) (free : Addr → Prop) : Prop :=
  ∃ (E : String) (ce : Cell) (L : List Loc), XC E st t ∧ t.heap[q]? = some ce ∧ ce.vm = .none ∧ st.vm.findClass E = some ce.cls ∧ st.WarmedH t.vm ∧ st.sameButNew ({ t with vm := st.vm } : State) L mc ms ∧ ∀ z ∈ L, free z.base
def vx_Q (Qc : Array Value → State → Outcome → State → Prop) (XC : String → State → State → Prop) (mc ms : Nat) (free : Addr → Prop) : Array Value → State → Outcome → State → Prop := fun a st o t =>
  (Qc a st o t ∧ ∃ L, FrameEnd st o t L mc ms ∧ ∀ q ∈ L, free q.base) ∨ ∃ q, o = .threw q ∧ vx_T XC st q t mc ms free
/-- a callee that returns or throws -/
def vx_Met (l : Launch) (y : MethodName) (ws : List Cond) (rm : Room) (Pc : Array Value → State → Prop) (Qc : Array Value → State → Outcome → State → Prop) (XC : String → State → State → Prop) (mc ms : Nat) (free : Addr → Prop) : Prop :=
  MetFree l y (headSpec ws rm) Pc (fun _ _ _ _ _ => True) (vx_Q Qc XC mc ms free)
def vx_Post (XC : String → State → State → Prop) (mc ms : Nat) (free : Addr → Prop) : Pt → Array Value → Addr → Pt → Prop := fun A a q B =>
  ∃ (g : JFrame) (mk : MethodId) (t : State) (L : List Loc) (E : String) (ce : Cell), B.U.heap = t.heap ∧ B.U.vm = t.vm ∧ XC E (A.U.calling g mk a) t ∧ t.heap[q]? = some ce ∧ ce.vm = .none ∧ A.U.vm.findClass E = some ce.cls ∧ B.locs = A.locs ++ L ∧ (∀ z ∈ L, free z.base) ∧ B.cells = A.cells + mc ∧ B.slots = A.slots + ms
def vx_Back (l : Launch) (R : Room) (p : Program) (e : Env) (below : List Frame) (s : State) (sargs : Array Value) (y : MethodName) (len W9 : Nat)
    (Pre : Pt → Array Value → Prop) (Post : Pt → Array Value → Option Value → Pt → Prop) (PostX : Pt → Array Value → Addr → Pt → Prop) : Prop :=
  ∀ (m : MethodId) (meth : Method) (c : Code) (A : Pt) (g : JFrame) (ig : Instr) (mk : MethodId) (a : Array Value),
    Stand p l e R s m sargs below meth c A.U A.locs A.cells A.slots → g.method = m → g.locals.size = c.maxLocals → decode c.code g.pc = .ok (ig, len) →
    2 * g.monitorRoom + (g.stack.map fun v => v.category).sum ≤ W9 → A.U.methodNamed? y = some mk → Pre A a →
    (∃ (v : Option Value) (B : Pt), Stand p l e R s m sargs below meth c B.U B.locs B.cells B.slots ∧ Post A a v B ∧
      Steps p.tables e below (doInvoke e (A.U.setTop g) [] mk a).1 (B.U.setTop { g with pc := g.pc + len, stack := v.toList ++ g.stack })) ∨
    (∃ (q : Addr) (B : Pt), Stand p l e R s m sargs below meth c B.U B.locs B.cells B.slots ∧ PostX A a q B ∧
      Steps p.tables e below (doInvoke e (A.U.setTop g) [] mk a).1 ((B.U.setTop g).pushFrame (.throwing q)))
section Payer
variable {l : Launch} {R : Room} {p : Program} {e : Env} {below : List Frame} {s : State} {sargs : Array Value} {y : MethodName} {len W9 : Nat}
theorem vx_back {ws : List Cond} {rm : Room} {Pc : Array Value → State → Prop} {Qc : Array Value → State → Outcome → State → Prop} {XC : String → State → State → Prop} {mc ms : Nat} {free : Addr → Prop} {bytes : ByteArray} {maxL : Nat} {ret : Option FieldType}
    (hM : vx_Met l y ws rm Pc Qc XC mc ms free) (hblind : FrameBlind Pc) (hrc : rm.cells = mc) (hrs : rm.slots = ms)
    (hframes : rm.frames + 1 ≤ R.frames) (hlocals : W9 + (maxL + 11) + rm.locals ≤ R.locals)
    (hws : ∀ w ∈ ws, ∀ a' U, s.WarmedH U.vm → w.before a' U = true) (hcode : Cond.code y bytes maxL ret ∈ ws) (hinit : ∀ a' U, s.WarmedH U.vm → (Cond.initialized y.cls).before a' U = true) :
    vx_Back l R p e below s sargs y len W9 (PreOf R mc ms Pc) (PostOf Qc mc ms free) (vx_Post XC mc ms free) := by
  intro m meth c A g ig mk a X hg hsize hdg hW hn hp
  have h1 : (headSpec ws rm).pre.before a A.U = true := atoms_intro fun w hw => hws w hw _ _ X.warmed
  have h2 : (Cond.code y bytes maxL ret).before a A.U = true := hws _ hcode _ _ X.warmed
  have h3 : (Cond.initialized y.cls).before a A.U = true := hinit _ _ X.warmed
  have h4 : A.cells + (headSpec ws rm).room.cells ≤ R.cells := by rw [show (headSpec ws rm).room.cells = mc from hrc]; exact hp.1
  have h5 : A.slots + (headSpec ws rm).room.slots ≤ R.slots := by rw [show (headSpec ws rm).room.slots = ms from hrs]; exact hp.2.1
  have hPc : Pc a (A.U.calling g mk a) := hblind _ _ _ _ hp.2.2
  obtain ⟨U, Ls, c0, s0⟩ := A
  dsimp only [Pt.U, Pt.locs, Pt.cells, Pt.slots] at h1 h2 h3 h4 h5 X hn hPc ⊢
  obtain ⟨methY, cY, hmY, hcY, -, hlY, -, -, -, -⟩ := Cond.code_spec hn h2
  obtain ⟨kY, hkY, -⟩ := className_of_methodNamed hn
  have hinitY : kY.init = .initialized := Cond.initialized_spec (findClass_of_methodNamed hn) hkY h3
  have h : At U g.method c below := by rw [hg]; exact X.here
  have hlocals9 : W9 + (maxL + 11) + (headSpec ws rm).room.locals ≤ R.locals := hlocals
  have happ : (headSpec ws rm).appliesLoose y e.platform (U.calling g mk a) = true :=
    Spec.appliesLoose_calling (g := g) h hdg hn hkY hinitY
      (X.room_calling (g := g) (R' := (headSpec ws rm).room) hsize hmY hcY hframes (by rw [hlY]; omega) h4 h5) h1
  obtain ⟨mid, hmid⟩ := h.above
  have hfr : (U.setTop g).frames = (.java g :: mid) ++ below := by rw [State.frames_setTop' g h.top, hmid]; rfl
  obtain ⟨o, s₂, hsteps, -, hend, hq⟩ := Steps.callFree hM p X.admits X.cas X.clock (acts := []) hfr happ hPc trivial
  have hq' : vx_Q Qc XC mc ms free a (U.calling g mk a) o s₂ := hq
  rw [State.frames_setTop' g h.top] at hend
  obtain ⟨g₀, hg0⟩ := Option.isSome_iff_exists.mp h.top
  obtain ⟨r, hr⟩ := State.topJava?_eq_some.mp hg0
  have hr' : (({ U with heap := s₂.heap, slotsUsed := s₂.slotsUsed } : State).setVm s₂.vm).frames = .java g₀ :: r := hr
  rcases hq' with ⟨hqc, L, hfe, hL⟩ | ⟨q, rfl, E, ce, L, hx, hce, hcv, hcl, hW₂, hsm, hL⟩
  · obtain ⟨⟨v, rfl⟩, hW₂, e2, q2, q3, q4, q5, q6⟩ := id hfe
    have e3 : s₂ = ({ (U.calling g mk a).setFrames s₂.frames with heap := s₂.heap, slotsUsed := s₂.slotsUsed } : State).setVm s₂.vm := by
      have : s₂ = ({ s₂ with vm := (U.calling g mk a).vm } : State).setVm s₂.vm := rfl
      rw [e2] at this
      exact this
    obtain ⟨c₂, i₂, len₂, hc₂, hd₂, hf₂⟩ := hend
    have hW' : U.WarmedH s₂.vm := hW₂
    have hcc : c₂ = c := by
      have h1 : s₂.code? g.method = U.code? g.method := by
        rw [State.code?_eq, State.code?_eq, hW'.alike.method?]
      exact Option.some.inj (hc₂.symm.trans (h1.trans h.code))
    subst hcc
    have hlen : len₂ = len := by rw [hdg] at hd₂; cases hd₂; rfl
    subst hlen
    have hs₂ : s₂ = (({ U with heap := s₂.heap, slotsUsed := s₂.slotsUsed } : State).setVm s₂.vm).setTop { g with pc := g.pc + len₂, stack := v.toList ++ g.stack } := by
      refine e3.trans ?_
      rw [hf₂, State.calling_eq h.top, State.setFrames_setFrames, State.setTop_of_frames _ hr', hr]
      rfl
    have hsame : U.sameButNew ({ U with heap := s₂.heap, slotsUsed := s₂.slotsUsed } : State) L mc ms := by
      refine ⟨?_, q2, q3, q4, q5, q6⟩
      obtain ⟨t, ht, -⟩ := State.frames_cons hr
      show ({ U with heap := s₂.heap, slotsUsed := s₂.slotsUsed } : State) = { U.setFrames U.frames with heap := s₂.heap, slotsUsed := s₂.slotsUsed }
      rw [State.setFrames_self ht]
    subst hg
    refine Or.inl ⟨v, ⟨(({ U with heap := s₂.heap, slotsUsed := s₂.slotsUsed } : State).setVm s₂.vm), Ls ++ L, c0 + mc, s0 + ms⟩,
      ⟨X.admits, X.cas, X.clock, X.frames, X.room, X.hears, X.method, X.code, (X.here.setHeapUsed s₂.heap s₂.slotsUsed).setVm hW'.alike, X.tail, State.WarmedH.trans X.warmed hW', X.limits, X.bytes, X.same.trans (hsame.setVm s.vm)⟩,
      ⟨g, mk, s₂, L, rfl, rfl, hqc, rfl, hL, rfl, rfl⟩, ?_⟩
    show Steps p.tables e below _ ((({ U with heap := s₂.heap, slotsUsed := s₂.slotsUsed } : State).setVm s₂.vm).setTop { g with pc := g.pc + len₂, stack := v.toList ++ g.stack })
    rw [← hs₂]
    exact hsteps
  · obtain ⟨e2, q2, q3, q4, q5, q6⟩ := id hsm
    have e3 : s₂ = ({ (U.calling g mk a).setFrames s₂.frames with heap := s₂.heap, slotsUsed := s₂.slotsUsed } : State).setVm s₂.vm := by
      have : s₂ = ({ s₂ with vm := (U.calling g mk a).vm } : State).setVm s₂.vm := rfl
      rw [e2] at this
      exact this
    have hf₂ : s₂.frames = .throwing q :: .java g :: U.frames.tail := hend
    have hW' : U.WarmedH s₂.vm := hW₂
    have hs₂ : s₂ = ((({ U with heap := s₂.heap, slotsUsed := s₂.slotsUsed } : State).setVm s₂.vm).setTop g).pushFrame (.throwing q) := by
      refine e3.trans ?_
      rw [hf₂, State.calling_eq h.top, State.setFrames_setFrames, State.pushFrame, State.frames_setTop _ hr', State.setTop_of_frames _ hr', State.setFrames_setFrames, hr]
      rfl
    have hsame : U.sameButNew ({ U with heap := s₂.heap, slotsUsed := s₂.slotsUsed } : State) L mc ms := by
      refine ⟨?_, q2, q3, q4, q5, q6⟩
      obtain ⟨t, ht, -⟩ := State.frames_cons hr
      show ({ U with heap := s₂.heap, slotsUsed := s₂.slotsUsed } : State) = { U.setFrames U.frames with heap := s₂.heap, slotsUsed := s₂.slotsUsed }
      rw [State.setFrames_self ht]
    subst hg
    refine Or.inr ⟨q, ⟨(({ U with heap := s₂.heap, slotsUsed := s₂.slotsUsed } : State).setVm s₂.vm), Ls ++ L, c0 + mc, s0 + ms⟩,
      ⟨X.admits, X.cas, X.clock, X.frames, X.room, X.hears, X.method, X.code, (X.here.setHeapUsed s₂.heap s₂.slotsUsed).setVm hW'.alike, X.tail, State.WarmedH.trans X.warmed hW', X.limits, X.bytes, X.same.trans (hsame.setVm s.vm)⟩,
      ⟨g, mk, s₂, L, E, ce, rfl, rfl, hx, hce, hcv, hcl, rfl, hL, rfl, rfl⟩, ?_⟩
    show Steps p.tables e below _ (((({ U with heap := s₂.heap, slotsUsed := s₂.slotsUsed } : State).setVm s₂.vm).setTop g).pushFrame (.throwing q))
    rw [← hs₂]
    exact hsteps
end Payer
section Calls
variable {p : Program} {l : Launch} {e : Env} {R : Room} {s : State} {m : MethodId} {args : Array Value} {below : List Frame} {meth : Method} {c : Code} {T : State} {locs : List Loc} {cells slots : Nat}
theorem vx_callV (X : Stand p l e R s m args below meth c T locs cells slots) (hexec : p.tables.exec = Jvm.exec) {own C : String} {index : Nat} {y : MethodName} {bytes : ByteArray} {maxL : Nat} {ret : Option FieldType}
    (hown : s.vm.findClass own = some m.cls) (hlink : (Cond.methodLink own index y).before args s = true) (hinst : (Cond.instanceMethod y).before args s = true) (hsel : (Cond.selects C y y).before args s = true)
    (hcode : (Cond.code y bytes maxL ret).before args s = true) (hy : y.cls ≠ "java/lang/invoke/MethodHandle" ∧ y.cls ≠ "java/lang/invoke/VarHandle")
    {W9 : Nat} {Pre : Pt → Array Value → Prop} {Post : Pt → Array Value → Option Value → Pt → Prop} {PostX : Pt → Array Value → Addr → Pt → Prop} (hK : vx_Back l R p e below s args y 3 W9 Pre Post PostX)
    {b : Addr} {cellB : Cell} (hcell : T.heap[b]? = some cellB) (hobj : cellB.vm.isStatics = false) (hcls : s.vm.findClass C = some cellB.cls)
    {g : JFrame} (hg : g.method = m) (hsize : g.locals.size = c.maxLocals) {argsL rest : List Value} (hlen : ∀ sig, parseMethodDescriptor y.desc = some sig → argsL.length = sig.parameters.length)
    (hstack : g.stack = argsL.reverse ++ .ref b :: rest) (hW : 2 * g.monitorRoom + (rest.map fun v => v.category).sum ≤ W9) (hdg : decode c.code g.pc = .ok (.invokevirtual index, 3))
    (hpre : ∀ vm₁, s.WarmedH vm₁ → Pre ⟨T.setVm vm₁, locs, cells, slots⟩ (Value.ref b :: argsL).toArray) :
    (∃ (v : Option Value) (vm₁ : Vm) (B : Pt), s.WarmedH vm₁ ∧ Stand p l e R s m args below meth c B.U B.locs B.cells B.slots ∧ Post ⟨T.setVm vm₁, locs, cells, slots⟩ (Value.ref b :: argsL).toArray v B ∧
      ∀ target, Steps p.tables e below (B.U.setTop { g with pc := g.pc + 3, stack := v.toList ++ rest }) target → Steps p.tables e below (T.setTop g) target) ∨
    (∃ (q : Addr) (vm₁ : Vm) (B : Pt), s.WarmedH vm₁ ∧ Stand p l e R s m args below meth c B.U B.locs B.cells B.slots ∧ PostX ⟨T.setVm vm₁, locs, cells, slots⟩ (Value.ref b :: argsL).toArray q B ∧
      Steps p.tables e below (T.setTop g) ((B.U.setTop { g with stack := rest }).pushFrame (.throwing q))) := by
  obtain ⟨mk, methM, hnamed, hmethM, hstM, habM⟩ := Cond.instanceMethod_spec hinst
  obtain ⟨methM', cM, hmethM', -, -, -, -, -, -, hsigM⟩ := Cond.code_spec hnamed hcode
  cases hmethM.symm.trans hmethM'
  obtain ⟨c2, r2, m2, q1, q2, q3, q4, kP, hkP, hkPi⟩ := Cond.selects_spec hsel
  cases hcls.symm.trans q1
  cases (State.methodFound?_of_named hnamed hy).symm.trans q2
  cases hnamed.symm.trans q3
  have hselP : selectMethod e.platform s.vm cellB.cls mk = .method mk := by rw [Launch.admits_selectMethod X.admits]; exact q4
  obtain ⟨vm₁, X₁, hstep₁⟩ := X.invokevirtual hexec hown hlink hnamed hmethM hstM hkP hkPi hy (a := b) (cell := cellB) hcell
    (fun z h => by rw [h] at hobj; cases hobj) hselP hmethM habM hkP hkPi (g := g) hg (argsL := argsL) (rest := rest) (hlen _ hsigM) hstack hdg
  rcases hK m meth c ⟨T.setVm vm₁, locs, cells, slots⟩ { g with stack := rest } (.invokevirtual index) mk (Value.ref b :: argsL).toArray X₁ hg hsize hdg hW (X₁.named hnamed) (hpre vm₁ X₁.warmed) with ⟨v, B, X', hpost, hsteps⟩ | ⟨q, B, X', hpost, hsteps⟩
  · exact Or.inl ⟨v, vm₁, B, X₁.warmed, X', hpost, fun target h => hstep₁ _ fun acts => by rw [doInvoke_state]; exact hsteps.trans h⟩
  · exact Or.inr ⟨q, vm₁, B, X₁.warmed, X', hpost, hstep₁ _ fun acts => by rw [doInvoke_state]; exact hsteps⟩
theorem vx_callS (X : Stand p l e R s m args below meth c T locs cells slots) (hexec : p.tables.exec = Jvm.exec) {own : String} {index : Nat} {y : MethodName} {bytes : ByteArray} {maxL : Nat} {ret : Option FieldType}
    (hown : s.vm.findClass own = some m.cls) (hlink : (Cond.methodLink own index y).before args s = true) (hstat : (Cond.static y).before args s = true) (hinit : (Cond.initialized y.cls).before args s = true)
    (hcode : (Cond.code y bytes maxL ret).before args s = true) (hy : y.cls ≠ "java/lang/invoke/MethodHandle" ∧ y.cls ≠ "java/lang/invoke/VarHandle")
    {W9 : Nat} {Pre : Pt → Array Value → Prop} {Post : Pt → Array Value → Option Value → Pt → Prop} {PostX : Pt → Array Value → Addr → Pt → Prop} (hK : vx_Back l R p e below s args y 3 W9 Pre Post PostX)
    {g : JFrame} (hg : g.method = m) (hsize : g.locals.size = c.maxLocals) {argsL rest : List Value} (hlen : ∀ sig, parseMethodDescriptor y.desc = some sig → argsL.length = sig.parameters.length)
    (hstack : g.stack = argsL.reverse ++ rest) (hW : 2 * g.monitorRoom + (rest.map fun v => v.category).sum ≤ W9) (hdg : decode c.code g.pc = .ok (.invokestatic index, 3))
    (hpre : ∀ vm₁, s.WarmedH vm₁ → Pre ⟨T.setVm vm₁, locs, cells, slots⟩ argsL.toArray) :
    (∃ (v : Option Value) (vm₁ : Vm) (B : Pt), s.WarmedH vm₁ ∧ Stand p l e R s m args below meth c B.U B.locs B.cells B.slots ∧ Post ⟨T.setVm vm₁, locs, cells, slots⟩ argsL.toArray v B ∧
      ∀ target, Steps p.tables e below (B.U.setTop { g with pc := g.pc + 3, stack := v.toList ++ rest }) target → Steps p.tables e below (T.setTop g) target) ∨
    (∃ (q : Addr) (vm₁ : Vm) (B : Pt), s.WarmedH vm₁ ∧ Stand p l e R s m args below meth c B.U B.locs B.cells B.slots ∧ PostX ⟨T.setVm vm₁, locs, cells, slots⟩ argsL.toArray q B ∧
      Steps p.tables e below (T.setTop g) ((B.U.setTop { g with stack := rest }).pushFrame (.throwing q))) := by
  obtain ⟨mk, hnamed⟩ := Cond.code_named hcode
  obtain ⟨methM, cM, hmethM, -, -, -, -, -, -, hsigM⟩ := Cond.code_spec hnamed hcode
  have hstatic : methM.isStatic = true := Cond.static_spec hnamed hmethM hstat
  obtain ⟨kP, hkP, -⟩ := className_of_methodNamed hnamed
  have hinitP : kP.init = .initialized := Cond.initialized_spec (findClass_of_methodNamed hnamed) hkP hinit
  obtain ⟨vm₁, X₁, hstep₁⟩ := X.invokestatic hexec hown hlink hnamed hmethM hstatic hkP hinitP hy (g := g) hg (argsL := argsL) (rest := rest) (hlen _ hsigM) hstack hdg
  rcases hK m meth c ⟨T.setVm vm₁, locs, cells, slots⟩ { g with stack := rest } (.invokestatic index) mk argsL.toArray X₁ hg hsize hdg hW (X₁.named hnamed) (hpre vm₁ X₁.warmed) with ⟨v, B, X', hpost, hsteps⟩ | ⟨q, B, X', hpost, hsteps⟩
  · exact Or.inl ⟨v, vm₁, B, X₁.warmed, X', hpost, fun target h => hstep₁ _ fun acts => by rw [doInvoke_state]; exact hsteps.trans h⟩
  · exact Or.inr ⟨q, vm₁, B, X₁.warmed, X', hpost, hstep₁ _ fun acts => by rw [doInvoke_state]; exact hsteps⟩
end Calls
theorem vx_cls {s : State} {T : State} {vm₁ : Vm} {E : String} {k : ClassId} (hW : s.WarmedH vm₁) (h : (T.setVm vm₁).vm.findClass E = some k) : s.vm.findClass E = some k := by
  have h1 : vm₁.findClass E = some k := h
  rw [hW.alike.findClass] at h1
  exact h1
/-- the method's frame g, with q thrown over it -/
def vx_W (p : Program) (l : Launch) (e : Env) (R : Room) (s : State) (m : MethodId) (args : Array Value) (below : List Frame) (meth : Method) (c : Code) (H : Heap) (locs : List Loc) (cells slots : Nat) (Q : State → Prop) (g : JFrame) (q : Addr) : Prop :=
  ∀ T : State, T.heap = H → Stand p l e R s m args below meth c T locs cells slots → ∃ t, Steps p.tables e below ((T.setTop g).pushFrame (.throwing q)) t ∧ Q t
def vx_Run (p : Program) (l : Launch) (e : Env) (R : Room) (s : State) (m : MethodId) (args : Array Value) (below : List Frame) (meth : Method) (c : Code) (H : Heap) (locs : List Loc) (cells slots mc ms : Nat) (g : JFrame) (rest : List Value) (Qa : State → Outcome → State → Prop) (XC : String → State → State → Prop) (free : Addr → Prop) : Prop :=
  ∀ T : State, T.heap = H → Stand p l e R s m args below meth c T locs cells slots →
    (∃ (v : Option Value) (st₀ t T' : State) (L : List Loc), st₀.heap = H ∧ Stand p l e R s m args below meth c T' (locs ++ L) (cells + mc) (slots + ms) ∧ (∀ q ∈ L, free q.base) ∧ T'.heap = t.heap ∧ T'.vm = t.vm ∧ Qa st₀ (.returned v) t ∧
      Goes p e below T g T' { g with pc := g.pc + 3, stack := v.toList ++ rest }) ∨
    (∃ (q : Addr) (st₀ t T' : State) (L : List Loc) (E : String) (ce : Cell), st₀.heap = H ∧ Stand p l e R s m args below meth c T' (locs ++ L) (cells + mc) (slots + ms) ∧ (∀ z ∈ L, free z.base) ∧ T'.heap = t.heap ∧ T'.vm = t.vm ∧ XC E st₀ t ∧ t.heap[q]? = some ce ∧ ce.vm = .none ∧ s.vm.findClass E = some ce.cls ∧
      Steps p.tables e below (T.setTop g) ((T'.setTop { g with stack := rest }).pushFrame (.throwing q)))
def vx_X {S : Type} (px : S → Prop) (B : String → S → State → Prop) (A : Nat → Prop) : String → State → State → Prop := fun E st t => ∃ u : S, px u ∧ B E u t ∧ va_F A st t
section Runs
variable {p : Program} {l : Launch} {e : Env} {R : Room} {s : State} {m : MethodId} {args : Array Value} {below : List Frame} {meth : Method} {c : Code} {H : Heap} {locs : List Loc} {cells slots : Nat}
variable {y : MethodName} {bytes cc : ByteArray} {maxL nL mc ms n index : Nat} {ret : Option FieldType} {ws : List Cond} {rm : Room} {Pc : Array Value → State → Prop} {Qc : Array Value → State → Outcome → State → Prop} {XC : String → State → State → Prop} {free : Addr → Prop} {Ts : List Cond} {own C : String} {b : Addr} {As rest : List Value} {g : JFrame}
theorem vx_callBack (cb : CallB R s args own index y bytes maxL ret ws rm mc ms n) (hM : vx_Met l y ws rm Pc Qc XC mc ms free) (hbl : FrameBlind Pc) : vx_Back l R p e below s args y 3 8 (PreOf R mc ms Pc) (PostOf Qc mc ms free) (vx_Post XC mc ms free) := by
  obtain ⟨hrc, hrs, hfr, hlo, hws, hcw, -, hini, -⟩ := cb
  exact vx_back (bytes := bytes) (maxL := maxL) (ret := ret) hM hbl hrc hrs hfr hlo hws hcw (fun a' U hW => word_at hW (Or.inl (by first | rfl | simp [Cond.onTables, Cond.keeps, Cond.steady])) hini)
theorem vx_runV (S : CallFix p m c cc nL s args Ts own) (hM : vx_Met l y ws rm Pc Qc XC mc ms free) (cw : CallW R s args own C index y bytes maxL ret ws rm mc ms n) (hp : PreV s H C b Pc As)
    (hg : g.method = m) (hn : As.length = n) (hsize : g.locals.size = nL) (hstack : g.stack = As.reverse ++ .ref b :: rest) (hW : 2 * g.monitorRoom + (rest.map fun v => v.category).sum ≤ 8) (hdg : decode cc g.pc = .ok (.invokevirtual index, 3)) (hf : cells + mc ≤ R.cells ∧ slots + ms ≤ R.slots) :
    vx_Run p l e R s m args below meth c H locs cells slots mc ms g rest (Qc (Value.ref b :: As).toArray) XC free := by
  have hK : vx_Back l R p e below s args y 3 8 (PreOf R mc ms Pc) (PostOf Qc mc ms free) (vx_Post XC mc ms free) := vx_callBack cw.1 hM hp.1
  obtain ⟨⟨-, -, -, -, -, -, hcode, -, hy, hlen, hl⟩, hin, hse⟩ := cw
  obtain ⟨hx, hb, hml, ho, -⟩ := S
  obtain ⟨-, ⟨cellB, hcB, hoB, hclB⟩, hPc⟩ := hp
  intro T hT X
  rcases vx_callV X hx (C := C) (bytes := bytes) (maxL := maxL) (ret := ret) ho hl hin hse hcode hy hK (by rw [hT]; exact hcB) hoB hclB hg (hsize.trans hml.symm) (argsL := As) (rest := rest) (fun sig h => hn.trans (hlen sig h)) hstack hW (by rw [hb]; exact hdg)
    (fun vm₁ hW₁ => ⟨hf.1, hf.2, hPc (T.setVm vm₁) hT hW₁⟩) with ⟨v, vm₁, ⟨U', l2, c2, s2⟩, hW₁, X', ⟨g', mk, t, L, e1, e2, hq, h1, hL, h2, h3⟩, st⟩ | ⟨q, vm₁, ⟨U', l2, c2, s2⟩, hW₁, X', ⟨g', mk, t, L, E, ce, e1, e2, hq, hce, hcv, hcl, h1, hL, h2, h3⟩, st⟩
  · dsimp only [Pt.U, Pt.locs, Pt.cells, Pt.slots] at X' e1 e2 h1 h2 h3 st
    subst h1; subst h2; subst h3
    exact Or.inl ⟨v, (T.setVm vm₁).calling g' mk (Value.ref b :: As).toArray, t, U', L, hT, X', hL, e1, e2, hq, st⟩
  · dsimp only [Pt.U, Pt.locs, Pt.cells, Pt.slots] at X' e1 e2 h1 h2 h3 st hcl
    subst h1; subst h2; subst h3
    exact Or.inr ⟨q, (T.setVm vm₁).calling g' mk (Value.ref b :: As).toArray, t, U', L, E, ce, hT, X', hL, e1, e2, hq, hce, hcv, vx_cls hW₁ hcl, st⟩
theorem vx_runS (S : CallFix p m c cc nL s args Ts own) (hM : vx_Met l y ws rm Pc Qc XC mc ms free) (cw : CallB R s args own index y bytes maxL ret ws rm mc ms n ∧ (Cond.static y).before args s = true) (hp : PreS s H Pc As)
    (hg : g.method = m) (hn : As.length = n) (hsize : g.locals.size = nL) (hstack : g.stack = As.reverse ++ rest) (hW : 2 * g.monitorRoom + (rest.map fun v => v.category).sum ≤ 8) (hdg : decode cc g.pc = .ok (.invokestatic index, 3)) (hf : cells + mc ≤ R.cells ∧ slots + ms ≤ R.slots) :
    vx_Run p l e R s m args below meth c H locs cells slots mc ms g rest (Qc As.toArray) XC free := by
  have hK : vx_Back l R p e below s args y 3 8 (PreOf R mc ms Pc) (PostOf Qc mc ms free) (vx_Post XC mc ms free) := vx_callBack cw.1 hM hp.1
  obtain ⟨⟨-, -, -, -, -, -, hcode, hini, hy, hlen, hl⟩, hstt⟩ := cw
  obtain ⟨hx, hb, hml, ho, -⟩ := S
  intro T hT X
  rcases vx_callS X hx (bytes := bytes) (maxL := maxL) (ret := ret) ho hl hstt hini hcode hy hK hg (hsize.trans hml.symm) (argsL := As) (rest := rest) (fun sig h => hn.trans (hlen sig h)) hstack hW (by rw [hb]; exact hdg)
    (fun vm₁ hW₁ => ⟨hf.1, hf.2, hp.2 (T.setVm vm₁) hT hW₁⟩) with ⟨v, vm₁, ⟨U', l2, c2, s2⟩, hW₁, X', ⟨g', mk, t, L, e1, e2, hq, h1, hL, h2, h3⟩, st⟩ | ⟨q, vm₁, ⟨U', l2, c2, s2⟩, hW₁, X', ⟨g', mk, t, L, E, ce, e1, e2, hq, hce, hcv, hcl, h1, hL, h2, h3⟩, st⟩
  · dsimp only [Pt.U, Pt.locs, Pt.cells, Pt.slots] at X' e1 e2 h1 h2 h3 st
    subst h1; subst h2; subst h3
    exact Or.inl ⟨v, (T.setVm vm₁).calling g' mk As.toArray, t, U', L, hT, X', hL, e1, e2, hq, st⟩
  · dsimp only [Pt.U, Pt.locs, Pt.cells, Pt.slots] at X' e1 e2 h1 h2 h3 st hcl
    subst h1; subst h2; subst h3
    exact Or.inr ⟨q, (T.setVm vm₁).calling g' mk As.toArray, t, U', L, E, ce, hT, X', hL, e1, e2, hq, hce, hcv, vx_cls hW₁ hcl, st⟩
end Runs
section Rows
variable {p : Program} {l : Launch} {e : Env} {R : Room} {s : State} {m : MethodId} {args : Array Value} {below : List Frame} {meth : Method} {c : Code} {H : Heap} {locs : List Loc} {cells slots : Nat} {Q : State → Prop}
variable {mc ms : Nat} {free : Addr → Prop} {A0 A1 : Nat → Prop} {H0 : Heap} {a : Array Value} {pc : Nat} {ls : Array Slot} {st0 rest : List Value}
theorem vx_keep {st₀ t T' : State} {L : List Loc} (h0 : st₀.heap = H) (e1 : T'.heap = t.heap) (hS : va_S A0 H0 H locs) (hA : ∀ q, q < H.size → A1 q → A0 q) (hf : ∀ q, free q → A0 q) (hL : ∀ q ∈ L, free q.base) (hF : va_F A1 st₀ t) :
    H.size ≤ T'.heap.size ∧ (∀ q : Nat, q < H.size → ¬ A1 q → T'.heap[q]? = H[q]?) ∧ va_S A0 H0 T'.heap (locs ++ L) := by
  obtain ⟨hz, hk⟩ := hF
  rw [h0] at hz hk
  exact ⟨by rw [e1]; exact hz, fun q h1 h2 => by rw [e1]; exact hk q h1 h2,
    ⟨Nat.le_trans hS.1 (by rw [e1]; exact hz), fun q h1 h2 => by rw [e1, hk q (Nat.lt_of_lt_of_le h1 hS.1) (fun z => h2 (hA q (Nat.lt_of_lt_of_le h1 hS.1) z))]; exact hS.2.1 q h1 h2, fun q hq => by
      rcases List.mem_append.mp hq with h | h
      · exact hS.2.2 q h
      · exact hf _ (hL q h)⟩⟩
theorem vx_calli {S SX : Type} {post : Int32 → S → Prop} {px : SX → Prop} {B : S → State → Prop} {BX : String → SX → State → Prop} {AX : Nat → Prop} (hr : vx_Run p l e R s m args below meth c H locs cells slots mc ms (F0 m pc ls st0) rest (va_Qi post B A1 a) (vx_X px BX AX) free) (hS : va_S A0 H0 H locs) (hA : ∀ q, q < H.size → A1 q → A0 q) (hf : ∀ q, free q → A0 q) (hAX : ∀ q, q < H.size → AX q → A0 q)
    (kx : ∀ (E : String) (ce : Cell) (q9 : Addr) (u : SX) (t : State) (H1 : Heap) (locs1 : List Loc), t.heap = H1 → s.vm.Alike t.vm → px u → BX E u t → H.size ≤ H1.size → (∀ q : Nat, q < H.size → ¬ AX q → H1[q]? = H[q]?) → va_S A0 H0 H1 locs1 → H1[q9]? = some ce → ce.vm = .none → s.vm.findClass E = some ce.cls → vx_W p l e R s m args below meth c H1 locs1 (cells + mc) (slots + ms) Q (F0 m pc ls rest) q9)
    (kk : ∀ (r : Int32) (u : S) (t : State) (H1 : Heap) (locs1 : List Loc), t.heap = H1 → s.vm.Alike t.vm → post r u → B u t → H.size ≤ H1.size → (∀ q : Nat, q < H.size → ¬ A1 q → H1[q]? = H[q]?) → va_S A0 H0 H1 locs1 → W p l e R s m args below meth c H1 locs1 (cells + mc) (slots + ms) Q (F0 m (pc + 3) ls (.int r :: rest))) : W p l e R s m args below meth c H locs cells slots Q (F0 m pc ls st0) := by
  intro T hT X
  rcases hr T hT X with ⟨v, st₀, t, T', L, h0, X', hL, e1, e2, ⟨⟨r, u, hv, hp, hb⟩, hF⟩, st⟩ | ⟨q, st₀, t, T', L, E, ce, h0, X', hL, e1, e2, ⟨u, hp, hb, hF⟩, hce, hcv, hcl, st⟩
  · cases hv
    obtain ⟨k1, k2, k3⟩ := vx_keep h0 e1 hS hA hf hL hF
    obtain ⟨t2, a1, b1⟩ := kk r u t T'.heap (locs ++ L) e1.symm (by rw [← e2]; exact X'.warmed.alike) hp hb k1 k2 k3 T' rfl X'
    exact ⟨t2, st t2 a1, b1⟩
  · obtain ⟨k1, k2, k3⟩ := vx_keep h0 e1 hS hAX hf hL hF
    obtain ⟨t2, a1, b1⟩ := kx E ce q u t T'.heap (locs ++ L) e1.symm (by rw [← e2]; exact X'.warmed.alike) hp hb k1 k2 k3 (by rw [e1]; exact hce) hcv hcl T' rfl X'
    exact ⟨t2, st.trans a1, b1⟩
theorem vx_calll {S SX : Type} {post : Int64 → S → Prop} {px : SX → Prop} {B : S → State → Prop} {BX : String → SX → State → Prop} {AX : Nat → Prop} (hr : vx_Run p l e R s m args below meth c H locs cells slots mc ms (F0 m pc ls st0) rest (va_Ql post B A1 a) (vx_X px BX AX) free) (hS : va_S A0 H0 H locs) (hA : ∀ q, q < H.size → A1 q → A0 q) (hf : ∀ q, free q → A0 q) (hAX : ∀ q, q < H.size → AX q → A0 q)
    (kx : ∀ (E : String) (ce : Cell) (q9 : Addr) (u : SX) (t : State) (H1 : Heap) (locs1 : List Loc), t.heap = H1 → s.vm.Alike t.vm → px u → BX E u t → H.size ≤ H1.size → (∀ q : Nat, q < H.size → ¬ AX q → H1[q]? = H[q]?) → va_S A0 H0 H1 locs1 → H1[q9]? = some ce → ce.vm = .none → s.vm.findClass E = some ce.cls → vx_W p l e R s m args below meth c H1 locs1 (cells + mc) (slots + ms) Q (F0 m pc ls rest) q9)
    (kk : ∀ (r : Int64) (u : S) (t : State) (H1 : Heap) (locs1 : List Loc), t.heap = H1 → s.vm.Alike t.vm → post r u → B u t → H.size ≤ H1.size → (∀ q : Nat, q < H.size → ¬ A1 q → H1[q]? = H[q]?) → va_S A0 H0 H1 locs1 → W p l e R s m args below meth c H1 locs1 (cells + mc) (slots + ms) Q (F0 m (pc + 3) ls (.long r :: rest))) : W p l e R s m args below meth c H locs cells slots Q (F0 m pc ls st0) := by
  intro T hT X
  rcases hr T hT X with ⟨v, st₀, t, T', L, h0, X', hL, e1, e2, ⟨⟨r, u, hv, hp, hb⟩, hF⟩, st⟩ | ⟨q, st₀, t, T', L, E, ce, h0, X', hL, e1, e2, ⟨u, hp, hb, hF⟩, hce, hcv, hcl, st⟩
  · cases hv
    obtain ⟨k1, k2, k3⟩ := vx_keep h0 e1 hS hA hf hL hF
    obtain ⟨t2, a1, b1⟩ := kk r u t T'.heap (locs ++ L) e1.symm (by rw [← e2]; exact X'.warmed.alike) hp hb k1 k2 k3 T' rfl X'
    exact ⟨t2, st t2 a1, b1⟩
  · obtain ⟨k1, k2, k3⟩ := vx_keep h0 e1 hS hAX hf hL hF
    obtain ⟨t2, a1, b1⟩ := kx E ce q u t T'.heap (locs ++ L) e1.symm (by rw [← e2]; exact X'.warmed.alike) hp hb k1 k2 k3 (by rw [e1]; exact hce) hcv hcl T' rfl X'
    exact ⟨t2, st.trans a1, b1⟩
theorem vx_callf {S SX : Type} {post : UInt32 → S → Prop} {px : SX → Prop} {B : S → State → Prop} {BX : String → SX → State → Prop} {AX : Nat → Prop} (hr : vx_Run p l e R s m args below meth c H locs cells slots mc ms (F0 m pc ls st0) rest (va_Qf post B A1 a) (vx_X px BX AX) free) (hS : va_S A0 H0 H locs) (hA : ∀ q, q < H.size → A1 q → A0 q) (hf : ∀ q, free q → A0 q) (hAX : ∀ q, q < H.size → AX q → A0 q)
    (kx : ∀ (E : String) (ce : Cell) (q9 : Addr) (u : SX) (t : State) (H1 : Heap) (locs1 : List Loc), t.heap = H1 → s.vm.Alike t.vm → px u → BX E u t → H.size ≤ H1.size → (∀ q : Nat, q < H.size → ¬ AX q → H1[q]? = H[q]?) → va_S A0 H0 H1 locs1 → H1[q9]? = some ce → ce.vm = .none → s.vm.findClass E = some ce.cls → vx_W p l e R s m args below meth c H1 locs1 (cells + mc) (slots + ms) Q (F0 m pc ls rest) q9)
    (kk : ∀ (r : UInt32) (u : S) (t : State) (H1 : Heap) (locs1 : List Loc), t.heap = H1 → s.vm.Alike t.vm → post r u → B u t → H.size ≤ H1.size → (∀ q : Nat, q < H.size → ¬ A1 q → H1[q]? = H[q]?) → va_S A0 H0 H1 locs1 → W p l e R s m args below meth c H1 locs1 (cells + mc) (slots + ms) Q (F0 m (pc + 3) ls (.float r :: rest))) : W p l e R s m args below meth c H locs cells slots Q (F0 m pc ls st0) := by
  intro T hT X
  rcases hr T hT X with ⟨v, st₀, t, T', L, h0, X', hL, e1, e2, ⟨⟨r, u, hv, hp, hb⟩, hF⟩, st⟩ | ⟨q, st₀, t, T', L, E, ce, h0, X', hL, e1, e2, ⟨u, hp, hb, hF⟩, hce, hcv, hcl, st⟩
  · cases hv
    obtain ⟨k1, k2, k3⟩ := vx_keep h0 e1 hS hA hf hL hF
    obtain ⟨t2, a1, b1⟩ := kk r u t T'.heap (locs ++ L) e1.symm (by rw [← e2]; exact X'.warmed.alike) hp hb k1 k2 k3 T' rfl X'
    exact ⟨t2, st t2 a1, b1⟩
  · obtain ⟨k1, k2, k3⟩ := vx_keep h0 e1 hS hAX hf hL hF
    obtain ⟨t2, a1, b1⟩ := kx E ce q u t T'.heap (locs ++ L) e1.symm (by rw [← e2]; exact X'.warmed.alike) hp hb k1 k2 k3 (by rw [e1]; exact hce) hcv hcl T' rfl X'
    exact ⟨t2, st.trans a1, b1⟩
theorem vx_calld {S SX : Type} {post : UInt64 → S → Prop} {px : SX → Prop} {B : S → State → Prop} {BX : String → SX → State → Prop} {AX : Nat → Prop} (hr : vx_Run p l e R s m args below meth c H locs cells slots mc ms (F0 m pc ls st0) rest (va_Qd post B A1 a) (vx_X px BX AX) free) (hS : va_S A0 H0 H locs) (hA : ∀ q, q < H.size → A1 q → A0 q) (hf : ∀ q, free q → A0 q) (hAX : ∀ q, q < H.size → AX q → A0 q)
    (kx : ∀ (E : String) (ce : Cell) (q9 : Addr) (u : SX) (t : State) (H1 : Heap) (locs1 : List Loc), t.heap = H1 → s.vm.Alike t.vm → px u → BX E u t → H.size ≤ H1.size → (∀ q : Nat, q < H.size → ¬ AX q → H1[q]? = H[q]?) → va_S A0 H0 H1 locs1 → H1[q9]? = some ce → ce.vm = .none → s.vm.findClass E = some ce.cls → vx_W p l e R s m args below meth c H1 locs1 (cells + mc) (slots + ms) Q (F0 m pc ls rest) q9)
    (kk : ∀ (r : UInt64) (u : S) (t : State) (H1 : Heap) (locs1 : List Loc), t.heap = H1 → s.vm.Alike t.vm → post r u → B u t → H.size ≤ H1.size → (∀ q : Nat, q < H.size → ¬ A1 q → H1[q]? = H[q]?) → va_S A0 H0 H1 locs1 → W p l e R s m args below meth c H1 locs1 (cells + mc) (slots + ms) Q (F0 m (pc + 3) ls (.double r :: rest))) : W p l e R s m args below meth c H locs cells slots Q (F0 m pc ls st0) := by
  intro T hT X
  rcases hr T hT X with ⟨v, st₀, t, T', L, h0, X', hL, e1, e2, ⟨⟨r, u, hv, hp, hb⟩, hF⟩, st⟩ | ⟨q, st₀, t, T', L, E, ce, h0, X', hL, e1, e2, ⟨u, hp, hb, hF⟩, hce, hcv, hcl, st⟩
  · cases hv
    obtain ⟨k1, k2, k3⟩ := vx_keep h0 e1 hS hA hf hL hF
    obtain ⟨t2, a1, b1⟩ := kk r u t T'.heap (locs ++ L) e1.symm (by rw [← e2]; exact X'.warmed.alike) hp hb k1 k2 k3 T' rfl X'
    exact ⟨t2, st t2 a1, b1⟩
  · obtain ⟨k1, k2, k3⟩ := vx_keep h0 e1 hS hAX hf hL hF
    obtain ⟨t2, a1, b1⟩ := kx E ce q u t T'.heap (locs ++ L) e1.symm (by rw [← e2]; exact X'.warmed.alike) hp hb k1 k2 k3 (by rw [e1]; exact hce) hcv hcl T' rfl X'
    exact ⟨t2, st.trans a1, b1⟩
theorem vx_callv {S SX : Type} {post : S → Prop} {px : SX → Prop} {B : S → State → Prop} {BX : String → SX → State → Prop} {AX : Nat → Prop} (hr : vx_Run p l e R s m args below meth c H locs cells slots mc ms (F0 m pc ls st0) rest (va_Qv post B A1 a) (vx_X px BX AX) free) (hS : va_S A0 H0 H locs) (hA : ∀ q, q < H.size → A1 q → A0 q) (hf : ∀ q, free q → A0 q) (hAX : ∀ q, q < H.size → AX q → A0 q)
    (kx : ∀ (E : String) (ce : Cell) (q9 : Addr) (u : SX) (t : State) (H1 : Heap) (locs1 : List Loc), t.heap = H1 → s.vm.Alike t.vm → px u → BX E u t → H.size ≤ H1.size → (∀ q : Nat, q < H.size → ¬ AX q → H1[q]? = H[q]?) → va_S A0 H0 H1 locs1 → H1[q9]? = some ce → ce.vm = .none → s.vm.findClass E = some ce.cls → vx_W p l e R s m args below meth c H1 locs1 (cells + mc) (slots + ms) Q (F0 m pc ls rest) q9)
    (kk : ∀ (u : S) (t : State) (H1 : Heap) (locs1 : List Loc), t.heap = H1 → s.vm.Alike t.vm → post u → B u t → H.size ≤ H1.size → (∀ q : Nat, q < H.size → ¬ A1 q → H1[q]? = H[q]?) → va_S A0 H0 H1 locs1 → W p l e R s m args below meth c H1 locs1 (cells + mc) (slots + ms) Q (F0 m (pc + 3) ls (rest))) : W p l e R s m args below meth c H locs cells slots Q (F0 m pc ls st0) := by
  intro T hT X
  rcases hr T hT X with ⟨v, st₀, t, T', L, h0, X', hL, e1, e2, ⟨⟨u, hv, hp, hb⟩, hF⟩, st⟩ | ⟨q, st₀, t, T', L, E, ce, h0, X', hL, e1, e2, ⟨u, hp, hb, hF⟩, hce, hcv, hcl, st⟩
  · cases hv
    obtain ⟨k1, k2, k3⟩ := vx_keep h0 e1 hS hA hf hL hF
    obtain ⟨t2, a1, b1⟩ := kk u t T'.heap (locs ++ L) e1.symm (by rw [← e2]; exact X'.warmed.alike) hp hb k1 k2 k3 T' rfl X'
    exact ⟨t2, st t2 a1, b1⟩
  · obtain ⟨k1, k2, k3⟩ := vx_keep h0 e1 hS hAX hf hL hF
    obtain ⟨t2, a1, b1⟩ := kx E ce q u t T'.heap (locs ++ L) e1.symm (by rw [← e2]; exact X'.warmed.alike) hp hb k1 k2 k3 (by rw [e1]; exact hce) hcv hcl T' rfl X'
    exact ⟨t2, st.trans a1, b1⟩
/-- caught by the row x of this method's table; the rows ahead don't take it -/
theorem vx_catch {own name : String} {E : String} {ce : Cell} {q : Addr} (hown : s.vm.findClass own = some m.cls) (pre : List ExceptionTableEntry) (x : ExceptionTableEntry) (suf : List ExceptionTableEntry) (hsplit : c.exceptionTable.toList = pre ++ x :: suf)
    (hpass : ∀ z ∈ pre, covers z pc = false ∨ (z.catchType ≠ 0 ∧ ∃ nm : String, (Cond.classLink own z.catchType nm).before args s = true ∧ va_Nc E nm s)) (hx : covers x pc = true) (h0 : x.catchType ≠ 0)
    (hlink : (Cond.classLink own x.catchType name).before args s = true) (hcast : (Cond.castable E name).before args s = true) (hcell : H[q]? = some ce) (hv : ce.vm = .none) (hcl : s.vm.findClass E = some ce.cls)
    (kk : W p l e R s m args below meth c H locs cells slots Q (F0 m x.handlerPc ls [.ref q])) : vx_W p l e R s m args below meth c H locs cells slots Q (F0 m pc ls rest) q := by
  intro T hT X
  have hpl : e.platform.magicAccessors = ({} : Platform).magicAccessors := by rw [X.admits.platform]
  obtain ⟨c3, c4, hc3, hc4, hasg⟩ := Cond.castable_spec hcast
  cases Option.some.inj (hc3.symm.trans hcl)
  obtain ⟨c5, hc5, hcl5⟩ := Cond.classLink_spec hown hlink e.platform hpl
  cases Option.some.inj (hc4.symm.trans hc5)
  obtain ⟨vm', X', st⟩ := X.thenCaughtThrough q (g := F0 m pc ls rest) rfl (Steps.refl _) (by rw [hT]; exact hcell) (by rw [hv]; rfl) (by obtain ⟨k9, h9, -⟩ := Vm.findClass_spec hcl; exact ⟨k9, h9⟩) pre x suf hsplit
    (fun z hz => by
      rcases hpass z hz with h | ⟨hz0, nm, hl1, hn1⟩
      · exact Or.inl h
      · obtain ⟨c6, hc6, hcl6⟩ := Cond.classLink_spec hown hl1 e.platform hpl
        obtain ⟨a8, b8, h1, h2, h3⟩ := hn1
        cases Option.some.inj (h1.symm.trans hcl)
        cases Option.some.inj (h2.symm.trans hc6)
        exact Or.inr ⟨hz0, _, hcl6, h3⟩) hx (Or.inr ⟨h0, c4, hcl5, hasg⟩)
  obtain ⟨t, a1, b1⟩ := kk (T.setVm vm') hT X'
  exact ⟨t, st.trans a1, b1⟩
end Rows
section Ends
variable {p : Program} {l : Launch} {e : Env} {R : Room} {s : State} {m : MethodId} {args : Array Value} {below : List Frame} {meth : Method} {c : Code} {H : Heap} {locs : List Loc} {cells slots : Nat} {Q : State → Prop}
variable {mc ms : Nat} {free : Addr → Prop} {A0 A1 : Nat → Prop} {H0 : Heap} {a : Array Value} {ls : Array Slot} {st0 rest : List Value}
variable {Qc : Array Value → State → Outcome → State → Prop} {XC : String → State → State → Prop}
/-- what a body that may throw owes at its end -/
def vx_MQ (below : List Frame) (Qc : Array Value → State → Outcome → State → Prop) (XC : String → State → State → Prop) (a : Array Value) (s : State) (mc ms : Nat) (free : Addr → Prop) : State → Prop := fun t =>
  ∃ o, t.status = .running ∧ Ended t below o ∧ vx_Q Qc XC mc ms free a s o t
theorem vx_ret {g : JFrame} {mc ms : Nat} (k : W p l e R s m args below meth c H locs cells slots (MQ below Qc args s mc ms free) g) : W p l e R s m args below meth c H locs cells slots (vx_MQ below Qc XC args s mc ms free) g := by
  intro T hT X
  obtain ⟨t, a1, o, b1, b2, b3, b4⟩ := k T hT X
  exact ⟨t, a1, o, b1, b2, Or.inl ⟨b3, b4⟩⟩
/-- not caught here: it goes on to the caller -/
theorem vx_widen {g : JFrame} {q : Addr} {k n : Nat} (h1 : cells ≤ k) (h2 : slots ≤ n) (kk : vx_W p l e R s m args below meth c H locs k n Q g q) : vx_W p l e R s m args below meth c H locs cells slots Q g q := fun T hT X => kk T hT (stand_widen X h1 h2)
theorem vx_out {pc : Nat} {E : String} {ce : Cell} {q : Addr} {mc ms : Nat} (hout : ∀ x ∈ c.exceptionTable.toList, covers x pc = false) (hlocks : meth.locks = false) (hcell : H[q]? = some ce) (hv : ce.vm = .none) (hcl : s.vm.findClass E = some ce.cls)
    (hx : ∀ t : State, t.heap = H → s.vm.Alike t.vm → XC E s t) (hf : ∀ z ∈ locs, free z.base) (hc : cells ≤ mc) (hs : slots ≤ ms) :
    vx_W p l e R s m args below meth c H locs cells slots (vx_MQ below Qc XC args s mc ms free) (F0 m pc ls rest) q := by
  intro T hT X
  obtain ⟨st1, hrun, hend, hW, hsm⟩ := X.leaveThrown q (g := F0 m pc ls rest) rfl rfl rfl hout hlocks
  have hcell9 : (T.setFrames (.throwing q :: below)).heap[q]? = some ce := by
    show T.heap[q]? = some ce
    rw [hT]; exact hcell
  exact ⟨_, st1, .threw q, hrun, hend, Or.inr ⟨q, rfl, E, ce, locs, hx _ hT hW.alike, hcell9, hv, hcl, hW, hsm.mono hc hs, hf⟩⟩
theorem vx_frame {U : State} {k n : Nat} (h : s.sameButNew ({ U with vm := s.vm } : State) locs k n) : s.heap.size ≤ U.heap.size ∧ ∀ q : Nat, q < s.heap.size → (∀ z ∈ locs, z.base ≠ q) → U.heap[q]? = s.heap[q]? := by
  obtain ⟨-, h2, -, -, -, h6⟩ := h
  refine ⟨h2, fun q hq hz => ?_⟩
  obtain ⟨c9, e1, e2, e3, e4⟩ := h6 q _ (Array.getElem?_eq_getElem hq)
  have hs : c9.slots = (s.heap[q]).slots := Array.ext_getElem? fun i => e4 i fun hm => hz _ hm rfl
  have h9 : c9 = s.heap[q] := by
    rw [hs] at e2
    exact e2
  have e5 : U.heap[q]? = some c9 := e1
  rw [e5, h9, Array.getElem?_eq_getElem hq]
/-- the words of a throw but the four that speak of the heap -/
def vx_no (w : Cond) : Bool := decide (w ≠ .isRef (.static Bundle.tN "UNASSIGNED_STACK" Bundle.steD)) && decide (w ≠ .isRef (.static Bundle.tN "SUPPRESSED_SENTINEL" Bundle.listD)) && decide (w ≠ .laysStatic Bundle.tN "UNASSIGNED_STACK" Bundle.steD) && decide (w ≠ .laysStatic Bundle.tN "SUPPRESSED_SENTINEL" Bundle.listD)
def vx_at0 (own : String) (ic : Nat) (X : String) (names : List String) : List Cond := (Bundle.ownAtoms0 own ic X names).filter vx_no
def vx_atS (own : String) (ic : Nat) (X : String) (names : List String) : List Cond := (Bundle.ownAtoms own ic X names).filter vx_no
/-- a word that the tables alone decide, or a good one -/
def vx_ot (w : Cond) : Bool := w.onTables || goodWord w
theorem vx_ot_at {args a' : Array Value} {s U : State} {w : Cond} (hW : s.WarmedH U.vm) (hvm : s.vm = U.vm) (hg : vx_ot w = true) (h : w.before args s = true) : w.before a' U = true := by
  simp only [vx_ot, Bool.or_eq_true] at hg
  rcases hg with hg | hg
  · exact va_tabs hg hvm h
  · exact word_at hW (good_of_word hg) h
/-- a list's words: the good ones out of the method's own list, the others by premises of their own -/
theorem vx_hat {args : Array Value} {s : State} {L B : List Cond} (h1 : ∀ w ∈ L.filter goodWord, w.before args s = true) (h2 : ∀ w ∈ L.filter (fun w => !goodWord w), w ∈ B) (h3 : ∀ w ∈ B, w.before args s = true) : ∀ w ∈ L, w.before args s = true := by
  intro w hw
  by_cases g : goodWord w = true
  · exact h1 w (List.mem_filter.mpr ⟨hw, g⟩)
  · refine h3 w (h2 w (List.mem_filter.mpr ⟨hw, ?_⟩))
    show (!goodWord w) = true
    cases hgw : goodWord w
    · rfl
    · exact absurd hgw g
theorem vx_c {args : Array Value} {s : State} {w : Cond} {B : List Cond} (h : w.before args s = true) (t : ∀ w ∈ B, w.before args s = true) : ∀ w' ∈ w :: B, w'.before args s = true := fun w' h' => (List.mem_cons.mp h').elim (fun e => by rw [e]; exact h) (t w')
theorem vx_n {args : Array Value} {s : State} : ∀ w ∈ ([] : List Cond), w.before args s = true := fun _ h => nomatch h
theorem vx_own {args : Array Value} {s : State} {L : List Cond} (h1 : ∀ w ∈ L.filter vx_no, w.before args s = true)
    (hU : (Cond.isRef (.static Bundle.tN "UNASSIGNED_STACK" Bundle.steD)).before args s = true) (hN : (Cond.isRef (.static Bundle.tN "SUPPRESSED_SENTINEL" Bundle.listD)).before args s = true)
    (lU : (Cond.laysStatic Bundle.tN "UNASSIGNED_STACK" Bundle.steD).before args s = true) (lN : (Cond.laysStatic Bundle.tN "SUPPRESSED_SENTINEL" Bundle.listD).before args s = true) : ∀ w ∈ L, w.before args s = true := by
  intro w hw
  by_cases e1 : w = .isRef (.static Bundle.tN "UNASSIGNED_STACK" Bundle.steD)
  · rw [e1]; exact hU
  · by_cases e2 : w = .isRef (.static Bundle.tN "SUPPRESSED_SENTINEL" Bundle.listD)
    · rw [e2]; exact hN
    · by_cases e3 : w = .laysStatic Bundle.tN "UNASSIGNED_STACK" Bundle.steD
      · rw [e3]; exact lU
      · by_cases e4 : w = .laysStatic Bundle.tN "SUPPRESSED_SENTINEL" Bundle.listD
        · rw [e4]; exact lN
        · exact h1 w (List.mem_filter.mpr ⟨hw, by unfold vx_no; rw [decide_eq_true e1, decide_eq_true e2, decide_eq_true e3, decide_eq_true e4]; rfl⟩)
/-- where a static field lies, its class's statics cell in H -/
def vx_L (C n d : String) (A : Nat → Prop) (U : State) (H : Heap) : Prop := ∃ (c : ClassId) (k : Class) (i : Nat) (f : Field) (a : Nat) (cell : Cell), U.vm.findClass C = some c ∧ U.fieldFound? C n d = some (c, k, i, f) ∧ f.isStatic = true ∧ k.statics = some a ∧ H[a]? = some cell ∧ cell.vm.isStatics = true ∧ cell.cls = c ∧ f.slot < cell.slots.size ∧ k.staticTypes[f.slot]? = some f.type ∧ ¬ A a
theorem vx_L.moved {C n d : String} {A : Nat → Prop} {u U : State} {H : Heap} (hvm : u.vm.Alike U.vm) (h : vx_L C n d A u H) : vx_L C n d A U H := by
  obtain ⟨c, k, i, f, a, cell, h1, h2, h3, h4, h5, h6, h7, h8, h9, h10⟩ := h
  obtain ⟨k', hi', he⟩ := State.fieldFound?_setVm hvm h2
  exact ⟨c, k', i, f, a, cell, by rw [hvm.findClass]; exact h1, hi', h3, by rw [he]; exact h4, h5, h6, h7, h8, by rw [he]; exact h9, h10⟩
theorem vx_L.kept {C n d : String} {A : Nat → Prop} {U : State} {H H1 : Heap} (h : vx_L C n d A U H) (hq : ∀ a : Nat, a < H.size → ¬ A a → H1[a]? = H[a]?) : vx_L C n d A U H1 := by
  obtain ⟨c, k, i, f, a, cell, h1, h2, h3, h4, h5, h6, h7, h8, h9, h10⟩ := h
  exact ⟨c, k, i, f, a, cell, h1, h2, h3, h4, by rw [hq a (Array.getElem?_eq_some_iff.mp h5).1 h10]; exact h5, h6, h7, h8, h9, h10⟩
theorem vx_L.narrow {C n d : String} {A B : Nat → Prop} {U : State} {H : Heap} (h : vx_L C n d A U H) (hAB : ∀ q, B q → A q) : vx_L C n d B U H := by
  obtain ⟨c, k, i, f, a, cell, h1, h2, h3, h4, h5, h6, h7, h8, h9, h10⟩ := h
  exact ⟨c, k, i, f, a, cell, h1, h2, h3, h4, h5, h6, h7, h8, h9, fun z => h10 (hAB _ z)⟩
theorem vx_L.word {C n d : String} {A : Nat → Prop} {s : State} {args : Array Value} (h : vx_L C n d A s s.heap) : (Cond.laysStatic C n d).before args s = true := by
  obtain ⟨c, k, i, f, a, cell, h1, h2, h3, h4, h5, h6, h7, h8, h9, -⟩ := h
  show (Cond.laysStatic C n d).holds args s none s [] = true
  exact Cond.laysStatic_of h1 h2 h3 h4 h5 h6 h7 h8 h9
/-- .. and what it holds: null or some reference -/
def vx_Zq (C n d : String) (A : Nat → Prop) (U : State) (H : Heap) : Prop := va_Zq C n d A U H ∧ vx_L C n d A U H
theorem vx_Zq.moved {C n d : String} {A : Nat → Prop} {u U : State} {H : Heap} (hvm : u.vm.Alike U.vm) (h : vx_Zq C n d A u H) : vx_Zq C n d A U H := ⟨va_Zq.moved hvm h.1, vx_L.moved hvm h.2⟩
theorem vx_Zq.kept {C n d : String} {A : Nat → Prop} {U : State} {H H1 : Heap} (h : vx_Zq C n d A U H) (hq : ∀ a : Nat, a < H.size → ¬ A a → H1[a]? = H[a]?) : vx_Zq C n d A U H1 := ⟨va_Zq.kept h.1 hq, vx_L.kept h.2 hq⟩
theorem vx_Zq.narrow {C n d : String} {A B : Nat → Prop} {U : State} {H : Heap} (h : vx_Zq C n d A U H) (hAB : ∀ q, B q → A q) : vx_Zq C n d B U H := ⟨va_Zq.narrow h.1 hAB, vx_L.narrow h.2 hAB⟩
theorem vx_Zqof {args : Array Value} {s : State} {C n d : String} {A : Nat → Prop} (hl : (Cond.laysStatic C n d).before args s = true) (hini : (Cond.initialized C).before args s = true) (h : (Cond.isRef (.static C n d)).before args s = true) (hA : ∀ a : Nat, a < s.heap.size → ¬ A a) : vx_Zq C n d A s s.heap := by
  refine ⟨va_Zqof hl hini h hA, ?_⟩
  obtain ⟨c, k, i, f, a, cell, h1, h2, h3, h4, h5, h6, h7, h8, h9⟩ := Cond.laysStatic_spec hl
  exact ⟨c, k, i, f, a, cell, h1, h2, h3, h4, h5, h6, h7, h8, h9, hA a (Array.getElem?_eq_some_iff.mp h5).1⟩
theorem vx_isRef {C n d : String} {v : Value} {A : Nat → Prop} {s : State} {args : Array Value} (h : va_Z C n d v A s s.heap) (hv : v.isRef = true) : (Cond.isRef (.static C n d)).before args s = true := by
  obtain ⟨cf, kf, fi, f, a, cell, h1, h2, h3, h4, h5, h6, h7, -⟩ := h
  have he : (Term.static C n d).eval args s none [] s = some v := by
    simp [Term.eval, State.fieldNamed?, h1, h2, h4, h5, h6, h7]
  simp only [Cond.before, Cond.holds, Cond.value, he]
  cases v <;> simp_all [Value.isRef]
theorem vx_isRefq {C n d : String} {A : Nat → Prop} {s : State} {args : Array Value} (h : va_Zq C n d A s s.heap) : (Cond.isRef (.static C n d)).before args s = true := by
  rcases h with h | ⟨t, h⟩
  · exact vx_isRef h rfl
  · exact vx_isRef h rfl
/-- the same frame, seen from here: as if the method were called anew in this heap -/
theorem vx_rebase {T : State} (X : Stand p l e R s m args below meth c T locs cells slots) {R' : Room} (hf : R'.frames ≤ R.frames) (hl : R'.locals ≤ R.locals) (hc : cells + R'.cells ≤ R.cells) (hs : slots + R'.slots ≤ R.slots) :
    Stand p l e R' ((T.setVm s.vm).setFrames (.invoking m args :: below)) m args below meth c T [] 0 0 := by
  have htop : (T.setVm s.vm).topJava?.isSome := X.here.top
  have hF : ((T.setVm s.vm).setFrames (.invoking m args :: below)).frames = .invoking m args :: below := State.frames_setFrames _ (State.cur_lt_of_top htop)
  obtain ⟨g₀, hg0⟩ := Option.isSome_iff_exists.mp htop
  obtain ⟨r, hr⟩ := State.topJava?_eq_some.mp hg0
  have hl9 : e.platform.stackLimits (T.setVm s.vm).me = e.platform.stackLimits s.me := X.limits
  have hb9 : (T.setVm s.vm).me.stackBytes = s.me.stackBytes := X.bytes
  refine ⟨X.admits, X.cas, X.clock, hF, ?_, X.hears, X.method, X.code, X.here, X.tail, X.warmed, ?_, ?_, ?_⟩
  · have h := X.room
    have hU : ((T.setVm s.vm).setFrames (.invoking m args :: below)).localsInUse = s.localsInUse := by
      rw [State.localsInUse_invoking hF (meth := meth) (c := c) X.method X.code, State.localsInUse_invoking X.frames X.method X.code]
    simp only [State.hasRoom, Bool.and_eq_true, decide_eq_true_eq] at h ⊢
    obtain ⟨⟨⟨⟨h1, h2, h3, h4, h5, h6⟩, h7⟩, h8⟩, h9⟩ := h
    rw [X.frames, List.length_cons] at h2 h3
    have q1 := X.heapSize
    have q2 := X.used
    simp only [hF, hU, List.length_cons, State.stackLimits_setFrames, State.stackBytes_setFrames, hl9, hb9]
    refine ⟨⟨⟨⟨by omega, by omega, by omega, by omega, by omega, h6⟩, ?_⟩, ?_⟩, X.book⟩
    · show T.heap.size + R'.cells ≤ e.platform.maxCells
      omega
    · show T.slotsUsed + R'.slots ≤ e.platform.maxSlots
      omega
  · rw [State.stackLimits_setFrames]; rfl
  · rw [State.stackBytes_setFrames]; rfl
  · refine ⟨?_, Nat.le_refl _, Nat.le_refl _, ?_, ?_, fun a c9 h9 => ⟨c9, h9, rfl, rfl, fun _ _ => rfl⟩⟩
    · obtain ⟨t, ht, -⟩ := State.frames_cons hr
      show T.setVm s.vm = { ((T.setVm s.vm).setFrames (.invoking m args :: below)).setFrames (T.setVm s.vm).frames with heap := T.heap, slotsUsed := T.slotsUsed }
      rw [State.setFrames_setFrames, State.setFrames_self ht]
      rfl
    · show T.slotsUsed = T.slotsUsed + ((T.heap.toList.drop T.heap.size).map (·.slots.size)).sum
      rw [List.drop_eq_nil_of_le (Nat.le_of_eq Array.length_toList)]
      rfl
    · show ((T.heap.toList.drop T.heap.size).map (·.slots.size)).sum ≤ 0
      rw [List.drop_eq_nil_of_le (Nat.le_of_eq Array.length_toList)]
      exact Nat.le_refl _
/-- 'throw new E()': new; dup; invokespecial; athrow -/
theorem vx_throw0 {cc : ByteArray} {pc : Nat} (hexec : p.tables.exec = Jvm.exec) (hb : c.code = cc) (hl : l.stackTraces = false) {own cls : String} {names : List String} {ik ic mc ms : Nat} {A : Nat → Prop}
    (hown : s.vm.findClass own = some m.cls) (hcls : Bundle.fit cls = true) (hnames : ∀ n ∈ names, Bundle.fit n = true)
    (hk : (Cond.classLink own ik cls).before args s = true) (hini : (Cond.initialized cls).before args s = true) (hat : ∀ w ∈ vx_at0 own ic cls names, w.before args s = true)
    (hgood : ∀ w ∈ Cond.classLink own ik cls :: Cond.initialized cls :: vx_at0 own ic cls names, vx_ot w = true)
    (hU : vx_Zq Bundle.tN "UNASSIGNED_STACK" Bundle.steD A s s.heap) (hN : vx_Zq Bundle.tN "SUPPRESSED_SENTINEL" Bundle.listD A s s.heap) (hS : va_S A s.heap H locs) (hsize : ls.size = c.maxLocals)
    (d0 : decode cc pc = .ok (.new ik, 3)) (d3 : decode cc (pc + 3) = .ok (.dup, 1)) (d4 : decode cc (pc + 4) = .ok (.invokespecial ic, 3)) (d7 : decode cc (pc + 7) = .ok (.athrow, 1))
    (hout : ∀ x ∈ c.exceptionTable.toList, covers x (pc + 7) = false)
    (hRframes : names.length + 3 < R.frames) (hRlocals : (rest.map fun v => v.category).sum + (13 * (names.length + 1) + 42) ≤ R.locals) (hRcells : cells + 1 ≤ R.cells) (hRslots : slots + 6 ≤ R.slots) (hlocks : meth.locks = false)
    (hx : ∀ t : State, s.vm.Alike t.vm → H.size ≤ t.heap.size → (∀ q : Nat, q < H.size → t.heap[q]? = H[q]?) → XC cls s t)
    (hf : ∀ z ∈ locs, free z.base) (hc : cells + 1 ≤ mc) (hs : slots + 6 ≤ ms) :
    W p l e R s m args below meth c H locs cells slots (vx_MQ below Qc XC args s mc ms free) (F0 m pc ls rest) := by
  intro T hT X
  have htr : e.platform.stackTraces = false := (show e.platform.stackTraces = l.stackTraces by rw [X.admits.platform]).trans hl
  have Y := vx_rebase X (R' := { frames := R.frames, locals := R.locals, cells := 1, slots := 6 }) (Nat.le_refl _) (Nat.le_refl _) hRcells hRslots
  obtain ⟨s', hA⟩ : ∃ z, z = (T.setVm s.vm).setFrames (.invoking m args :: below) := ⟨_, rfl⟩
  rw [← hA] at Y
  have hvm : s'.vm = s.vm := by rw [hA]; rfl
  have hhp : s'.heap = H := by rw [hA]; exact hT
  have hW0 : s.WarmedH s'.vm := by rw [hvm]; exact State.WarmedH.refl s
  have hat' : ∀ w ∈ vx_at0 own ic cls names, w.before args s' = true := fun w hw => vx_ot_at hW0 hvm.symm (hgood w (List.mem_cons_of_mem _ (List.mem_cons_of_mem _ hw))) (hat w hw)
  have hk' : (Cond.classLink own ik cls).before args s' = true := vx_ot_at hW0 hvm.symm (hgood _ List.mem_cons_self) hk
  have hini' : (Cond.initialized cls).before args s' = true := vx_ot_at hW0 hvm.symm (hgood _ (List.mem_cons_of_mem _ List.mem_cons_self)) hini
  have hU' : vx_Zq Bundle.tN "UNASSIGNED_STACK" Bundle.steD A s' s'.heap := by rw [hhp]; exact vx_Zq.moved hW0.alike (hU.kept hS.2.1)
  have hN' : vx_Zq Bundle.tN "SUPPRESSED_SENTINEL" Bundle.listD A s' s'.heap := by rw [hhp]; exact vx_Zq.moved hW0.alike (hN.kept hS.2.1)
  have h : ∀ w ∈ Bundle.ownAtoms0 own ic cls names, w.before args s' = true := vx_own hat' (vx_isRefq hU'.1) (vx_isRefq hN'.1) hU'.2.word hN'.2.word
  have hown' : s'.vm.findClass own = some m.cls := by rw [hvm]; exact hown
  have hins : (Cond.instantiable cls 6).before args s' = true := h _ (by simp [Bundle.ownAtoms0])
  obtain ⟨vm₁, cX, kX, hfX, hkX, -, -, X₁, st1⟩ := Y.newCold hexec (own := own) (C := cls) (index := ik) (n := 6) hown' hk' hins hini'
    (g := F0 m pc ls rest) rfl (by rw [hb]; exact d0) (Nat.le_refl _) (Nat.le_refl _)
  generalize hT1 : (T.setVm vm₁).pushCell { cls := cX, slots := kX.instanceTypes.map defaultValue, vm := .none } = T1 at X₁ st1
  have hcat : (Value.ref T.heap.size).category = 1 := rfl
  have hcellA : T1.heap[T.heap.size]? = some (freshCell cX kX) := by rw [← hT1]; exact State.heap_pushCell_size _ _
  have d3' : decode c.code (pc + 3) = .ok (.dup, 1) := by rw [hb]; exact d3
  obtain ⟨U, hsteps, hrun, hend, hW, hsame, ce, hce, hO⟩ := X₁.ctorThrow0 hexec htr (own := own) (cls := cls) (names := names) (ic := ic) hown' hcls hnames h (fun x hx => nomatch hx) hfX hkX hcellA (by rw [hhp, hT]; exact Nat.le_refl _)
    (g := { method := m, pc := pc + 4, locals := ls, stack := .ref T.heap.size :: .ref T.heap.size :: rest, locked := none }) rfl hsize rfl rfl (rest := rest) rfl
    (by rw [hb]; exact d4) (by rw [hb]; exact d7) hout hRframes (by simp only [List.map_cons, List.sum_cons, hcat]; omega) hlocks
  obtain ⟨f1, f2⟩ := vx_frame hsame
  rw [hhp] at f1 f2
  have hWs : s.WarmedH U.vm := State.WarmedH.trans hW0 hW
  have hcl : s.vm.findClass cls = some ce.cls := by
    have h9 := hO.cls
    rw [hvm] at h9
    exact h9
  have hall : s.sameButNew ({ U with vm := s.vm } : State) locs mc ms := by
    subst hA
    obtain ⟨e1, e2⟩ := hsame
    rw [State.setFrames_setFrames] at e1
    have h2 : (T.setVm s.vm).sameButNew ({ U with vm := s.vm } : State) [] (0 + 1) (0 + 6) := ⟨e1, e2⟩
    have h3 := X.same.trans h2
    rw [List.append_nil] at h3
    exact h3.mono hc hs
  refine ⟨U, ?_, .threw T.heap.size, hrun, hend, Or.inr ⟨T.heap.size, rfl, cls, ce, locs, hx U hWs.alike f1 (fun q hq => f2 q hq (fun z hz => nomatch hz)), hce, hO.vm, hcl, hWs, hall, hf⟩⟩
  refine st1 _ ?_
  show Steps p.tables e below (T1.setTop { method := m, pc := pc + 3, locals := ls, stack := .ref T.heap.size :: rest, locked := none }) _
  jvm_step X₁.here [X₁.here.top, hexec, d3', Value.category]
  exact hsteps
/-- 'throw new E("text")': new; dup; ldc; invokespecial; athrow -/
theorem vx_throwS {cc : ByteArray} {pc : Nat} (hexec : p.tables.exec = Jvm.exec) (hb : c.code = cc) (hl : l.stackTraces = false) {own cls text : String} {names : List String} {ik is ic mc ms sa : Nat} {A : Nat → Prop}
    (hown : s.vm.findClass own = some m.cls) (hcls : Bundle.fit cls = true) (hnames : ∀ n ∈ names, Bundle.fit n = true)
    (hk : (Cond.classLink own ik cls).before args s = true) (hini : (Cond.initialized cls).before args s = true) (hstr : vk_R own is text sa s) (hat : ∀ w ∈ vx_atS own ic cls names, w.before args s = true)
    (hgood : ∀ w ∈ Cond.classLink own ik cls :: Cond.initialized cls :: vx_atS own ic cls names, vx_ot w = true)
    (hU : vx_Zq Bundle.tN "UNASSIGNED_STACK" Bundle.steD A s s.heap) (hN : vx_Zq Bundle.tN "SUPPRESSED_SENTINEL" Bundle.listD A s s.heap) (hS : va_S A s.heap H locs) (hsize : ls.size = c.maxLocals)
    (d0 : decode cc pc = .ok (.new ik, 3)) (d3 : decode cc (pc + 3) = .ok (.dup, 1)) (d4 : decode cc (pc + 4) = .ok (.ldc is, 2)) (d6 : decode cc (pc + 6) = .ok (.invokespecial ic, 3)) (d9 : decode cc (pc + 9) = .ok (.athrow, 1))
    (hout : ∀ x ∈ c.exceptionTable.toList, covers x (pc + 9) = false)
    (hRframes : names.length + 3 < R.frames) (hRlocals : (rest.map fun v => v.category).sum + (13 * (names.length + 1) + 43) ≤ R.locals) (hRcells : cells + 1 ≤ R.cells) (hRslots : slots + 6 ≤ R.slots) (hlocks : meth.locks = false)
    (hx : ∀ t : State, s.vm.Alike t.vm → H.size ≤ t.heap.size → (∀ q : Nat, q < H.size → t.heap[q]? = H[q]?) → XC cls s t)
    (hf : ∀ z ∈ locs, free z.base) (hc : cells + 1 ≤ mc) (hs : slots + 6 ≤ ms) :
    W p l e R s m args below meth c H locs cells slots (vx_MQ below Qc XC args s mc ms free) (F0 m pc ls rest) := by
  intro T hT X
  have htr : e.platform.stackTraces = false := (show e.platform.stackTraces = l.stackTraces by rw [X.admits.platform]).trans hl
  have Y := vx_rebase X (R' := { frames := R.frames, locals := R.locals, cells := 1, slots := 6 }) (Nat.le_refl _) (Nat.le_refl _) hRcells hRslots
  obtain ⟨s', hA⟩ : ∃ z, z = (T.setVm s.vm).setFrames (.invoking m args :: below) := ⟨_, rfl⟩
  rw [← hA] at Y
  have hvm : s'.vm = s.vm := by rw [hA]; rfl
  have hhp : s'.heap = H := by rw [hA]; exact hT
  have hW0 : s.WarmedH s'.vm := by rw [hvm]; exact State.WarmedH.refl s
  have hat' : ∀ w ∈ vx_atS own ic cls names, w.before args s' = true := fun w hw => vx_ot_at hW0 hvm.symm (hgood w (List.mem_cons_of_mem _ (List.mem_cons_of_mem _ hw))) (hat w hw)
  have hk' : (Cond.classLink own ik cls).before args s' = true := vx_ot_at hW0 hvm.symm (hgood _ List.mem_cons_self) hk
  have hini' : (Cond.initialized cls).before args s' = true := vx_ot_at hW0 hvm.symm (hgood _ (List.mem_cons_of_mem _ List.mem_cons_self)) hini
  have hU' : vx_Zq Bundle.tN "UNASSIGNED_STACK" Bundle.steD A s' s'.heap := by rw [hhp]; exact vx_Zq.moved hW0.alike (hU.kept hS.2.1)
  have hN' : vx_Zq Bundle.tN "SUPPRESSED_SENTINEL" Bundle.listD A s' s'.heap := by rw [hhp]; exact vx_Zq.moved hW0.alike (hN.kept hS.2.1)
  have h : ∀ w ∈ Bundle.ownAtoms own ic cls names, w.before args s' = true := vx_own hat' (vx_isRefq hU'.1) (vx_isRefq hN'.1) hU'.2.word hN'.2.word
  have hown' : s'.vm.findClass own = some m.cls := by rw [hvm]; exact hown
  have hins : (Cond.instantiable cls 6).before args s' = true := h _ (by simp [Bundle.ownAtoms])
  obtain ⟨vm₁, cX, kX, hfX, hkX, -, -, X₁, st1⟩ := Y.newCold hexec (own := own) (C := cls) (index := ik) (n := 6) hown' hk' hins hini'
    (g := F0 m pc ls rest) rfl (by rw [hb]; exact d0) (Nat.le_refl _) (Nat.le_refl _)
  generalize hT1 : (T.setVm vm₁).pushCell { cls := cX, slots := kX.instanceTypes.map defaultValue, vm := .none } = T1 at X₁ st1
  have hcat : (Value.ref T.heap.size).category = 1 := rfl
  have hcellA : T1.heap[T.heap.size]? = some (freshCell cX kX) := by rw [← hT1]; exact State.heap_pushCell_size _ _
  have d3' : decode c.code (pc + 3) = .ok (.dup, 1) := by rw [hb]; exact d3
  have d4' : decode c.code (pc + 4) = .ok (.ldc is, 2) := by rw [hb]; exact d4
  have hstr' : vk_R own is text sa s' := vk_R.warm hW0 hstr
  obtain ⟨U, hsteps, hrun, hend, hW, hsame, ce, hce, hO⟩ := X₁.ctorThrowS hexec htr (own := own) (cls := cls) (names := names) (ic := ic) hown' hcls hnames h (fun x hx => nomatch hx) hfX hkX hcellA (by rw [hhp, hT]; exact Nat.le_refl _) (msg := .ref sa) rfl
    (g := { method := m, pc := pc + 6, locals := ls, stack := .ref sa :: .ref T.heap.size :: .ref T.heap.size :: rest, locked := none }) rfl hsize rfl rfl (rest := rest) rfl
    (by rw [hb]; exact d6) (by rw [hb]; exact d9) hout hRframes (by simp only [List.map_cons, List.sum_cons, hcat]; omega) hlocks
  obtain ⟨f1, f2⟩ := vx_frame hsame
  rw [hhp] at f1 f2
  have hWs : s.WarmedH U.vm := State.WarmedH.trans hW0 hW
  have hcl : s.vm.findClass cls = some ce.cls := by
    have h9 := hO.cls
    rw [hvm] at h9
    exact h9
  have hall : s.sameButNew ({ U with vm := s.vm } : State) locs mc ms := by
    subst hA
    obtain ⟨e1, e2⟩ := hsame
    rw [State.setFrames_setFrames] at e1
    have h2 : (T.setVm s.vm).sameButNew ({ U with vm := s.vm } : State) [] (0 + 1) (0 + 6) := ⟨e1, e2⟩
    have h3 := X.same.trans h2
    rw [List.append_nil] at h3
    exact h3.mono hc hs
  refine ⟨U, ?_, .threw T.heap.size, hrun, hend, Or.inr ⟨T.heap.size, rfl, cls, ce, locs, hx U hWs.alike f1 (fun q hq => f2 q hq (fun z hz => nomatch hz)), hce, hO.vm, hcl, hWs, hall, hf⟩⟩
  refine st1 _ ?_
  show Steps p.tables e below (T1.setTop { method := m, pc := pc + 3, locals := ls, stack := .ref T.heap.size :: rest, locked := none }) _
  jvm_step X₁.here [X₁.here.top, hexec, d3', Value.category]
  exact X₁.ldcString hexec (own := own) (text := text) (index := is) (a := sa) hown' hstr'.1 hstr'.2
    (g := { method := m, pc := pc + 4, locals := ls, stack := .ref T.heap.size :: .ref T.heap.size :: rest, locked := none }) rfl d4' _ hsteps
/-- 'throw new E("text")', the text by a wide index -/
theorem vx_throwSW {cc : ByteArray} {pc : Nat} (hexec : p.tables.exec = Jvm.exec) (hb : c.code = cc) (hl : l.stackTraces = false) {own cls text : String} {names : List String} {ik is ic mc ms sa : Nat} {A : Nat → Prop}
    (hown : s.vm.findClass own = some m.cls) (hcls : Bundle.fit cls = true) (hnames : ∀ n ∈ names, Bundle.fit n = true)
    (hk : (Cond.classLink own ik cls).before args s = true) (hini : (Cond.initialized cls).before args s = true) (hstr : vk_R own is text sa s) (hat : ∀ w ∈ vx_atS own ic cls names, w.before args s = true)
    (hgood : ∀ w ∈ Cond.classLink own ik cls :: Cond.initialized cls :: vx_atS own ic cls names, vx_ot w = true)
    (hU : vx_Zq Bundle.tN "UNASSIGNED_STACK" Bundle.steD A s s.heap) (hN : vx_Zq Bundle.tN "SUPPRESSED_SENTINEL" Bundle.listD A s s.heap) (hS : va_S A s.heap H locs) (hsize : ls.size = c.maxLocals)
    (d0 : decode cc pc = .ok (.new ik, 3)) (d3 : decode cc (pc + 3) = .ok (.dup, 1)) (d4 : decode cc (pc + 4) = .ok (.ldc_w is, 3)) (d7 : decode cc (pc + 7) = .ok (.invokespecial ic, 3)) (d10 : decode cc (pc + 10) = .ok (.athrow, 1))
    (hout : ∀ x ∈ c.exceptionTable.toList, covers x (pc + 10) = false)
    (hRframes : names.length + 3 < R.frames) (hRlocals : (rest.map fun v => v.category).sum + (13 * (names.length + 1) + 43) ≤ R.locals) (hRcells : cells + 1 ≤ R.cells) (hRslots : slots + 6 ≤ R.slots) (hlocks : meth.locks = false)
    (hx : ∀ t : State, s.vm.Alike t.vm → H.size ≤ t.heap.size → (∀ q : Nat, q < H.size → t.heap[q]? = H[q]?) → XC cls s t)
    (hf : ∀ z ∈ locs, free z.base) (hc : cells + 1 ≤ mc) (hs : slots + 6 ≤ ms) :
    W p l e R s m args below meth c H locs cells slots (vx_MQ below Qc XC args s mc ms free) (F0 m pc ls rest) := by
  intro T hT X
  have htr : e.platform.stackTraces = false := (show e.platform.stackTraces = l.stackTraces by rw [X.admits.platform]).trans hl
  have Y := vx_rebase X (R' := { frames := R.frames, locals := R.locals, cells := 1, slots := 6 }) (Nat.le_refl _) (Nat.le_refl _) hRcells hRslots
  obtain ⟨s', hA⟩ : ∃ z, z = (T.setVm s.vm).setFrames (.invoking m args :: below) := ⟨_, rfl⟩
  rw [← hA] at Y
  have hvm : s'.vm = s.vm := by rw [hA]; rfl
  have hhp : s'.heap = H := by rw [hA]; exact hT
  have hW0 : s.WarmedH s'.vm := by rw [hvm]; exact State.WarmedH.refl s
  have hat' : ∀ w ∈ vx_atS own ic cls names, w.before args s' = true := fun w hw => vx_ot_at hW0 hvm.symm (hgood w (List.mem_cons_of_mem _ (List.mem_cons_of_mem _ hw))) (hat w hw)
  have hk' : (Cond.classLink own ik cls).before args s' = true := vx_ot_at hW0 hvm.symm (hgood _ List.mem_cons_self) hk
  have hini' : (Cond.initialized cls).before args s' = true := vx_ot_at hW0 hvm.symm (hgood _ (List.mem_cons_of_mem _ List.mem_cons_self)) hini
  have hU' : vx_Zq Bundle.tN "UNASSIGNED_STACK" Bundle.steD A s' s'.heap := by rw [hhp]; exact vx_Zq.moved hW0.alike (hU.kept hS.2.1)
  have hN' : vx_Zq Bundle.tN "SUPPRESSED_SENTINEL" Bundle.listD A s' s'.heap := by rw [hhp]; exact vx_Zq.moved hW0.alike (hN.kept hS.2.1)
  have h : ∀ w ∈ Bundle.ownAtoms own ic cls names, w.before args s' = true := vx_own hat' (vx_isRefq hU'.1) (vx_isRefq hN'.1) hU'.2.word hN'.2.word
  have hown' : s'.vm.findClass own = some m.cls := by rw [hvm]; exact hown
  have hins : (Cond.instantiable cls 6).before args s' = true := h _ (by simp [Bundle.ownAtoms])
  obtain ⟨vm₁, cX, kX, hfX, hkX, -, -, X₁, st1⟩ := Y.newCold hexec (own := own) (C := cls) (index := ik) (n := 6) hown' hk' hins hini'
    (g := F0 m pc ls rest) rfl (by rw [hb]; exact d0) (Nat.le_refl _) (Nat.le_refl _)
  generalize hT1 : (T.setVm vm₁).pushCell { cls := cX, slots := kX.instanceTypes.map defaultValue, vm := .none } = T1 at X₁ st1
  have hcat : (Value.ref T.heap.size).category = 1 := rfl
  have hcellA : T1.heap[T.heap.size]? = some (freshCell cX kX) := by rw [← hT1]; exact State.heap_pushCell_size _ _
  have d3' : decode c.code (pc + 3) = .ok (.dup, 1) := by rw [hb]; exact d3
  have d4' : decode c.code (pc + 4) = .ok (.ldc_w is, 3) := by rw [hb]; exact d4
  have hstr' : vk_R own is text sa s' := vk_R.warm hW0 hstr
  obtain ⟨U, hsteps, hrun, hend, hW, hsame, ce, hce, hO⟩ := X₁.ctorThrowS hexec htr (own := own) (cls := cls) (names := names) (ic := ic) hown' hcls hnames h (fun x hx => nomatch hx) hfX hkX hcellA (by rw [hhp, hT]; exact Nat.le_refl _) (msg := .ref sa) rfl
    (g := { method := m, pc := pc + 7, locals := ls, stack := .ref sa :: .ref T.heap.size :: .ref T.heap.size :: rest, locked := none }) rfl hsize rfl rfl (rest := rest) rfl
    (by rw [hb]; exact d7) (by rw [hb]; exact d10) hout hRframes (by simp only [List.map_cons, List.sum_cons, hcat]; omega) hlocks
  obtain ⟨f1, f2⟩ := vx_frame hsame
  rw [hhp] at f1 f2
  have hWs : s.WarmedH U.vm := State.WarmedH.trans hW0 hW
  have hcl : s.vm.findClass cls = some ce.cls := by
    have h9 := hO.cls
    rw [hvm] at h9
    exact h9
  have hall : s.sameButNew ({ U with vm := s.vm } : State) locs mc ms := by
    subst hA
    obtain ⟨e1, e2⟩ := hsame
    rw [State.setFrames_setFrames] at e1
    have h2 : (T.setVm s.vm).sameButNew ({ U with vm := s.vm } : State) [] (0 + 1) (0 + 6) := ⟨e1, e2⟩
    have h3 := X.same.trans h2
    rw [List.append_nil] at h3
    exact h3.mono hc hs
  refine ⟨U, ?_, .threw T.heap.size, hrun, hend, Or.inr ⟨T.heap.size, rfl, cls, ce, locs, hx U hWs.alike f1 (fun q hq => f2 q hq (fun z hz => nomatch hz)), hce, hO.vm, hcl, hWs, hall, hf⟩⟩
  refine st1 _ ?_
  show Steps p.tables e below (T1.setTop { method := m, pc := pc + 3, locals := ls, stack := .ref T.heap.size :: rest, locked := none }) _
  jvm_step X₁.here [X₁.here.top, hexec, d3', Value.category]
  exact X₁.ldcStringW hexec (own := own) (text := text) (index := is) (a := sa) hown' hstr'.1 hstr'.2
    (g := { method := m, pc := pc + 4, locals := ls, stack := .ref T.heap.size :: .ref T.heap.size :: rest, locked := none }) rfl d4' _ hsteps
end Ends
section Bodies
variable {l : Launch}
theorem vx_ofW {y : MethodName} {ws ws' : List Cond} {rm : Room} {Pc : Array Value → State → Prop} {Qc : Array Value → State → Outcome → State → Prop} {XC : String → State → State → Prop} {mc ms : Nat} {free : Addr → Prop} {cc : ByteArray} {maxL : Nat} {ret : Option FieldType}
    (hy : plainName y.cls = true) (hw : ws = Cond.code y cc maxL ret :: ws')
    (body : ∀ p e s m args below meth c s₁, BodyLoose p l y (headSpec ws rm) cc maxL ret e s m args below meth c s₁ → c.maxLocals = maxL → (∀ x ∈ c.exceptionTable.toList, False) → Pc args s →
      W p l e (headSpec ws rm).room s m args below meth c s.heap [] 0 0 (vx_MQ below Qc XC args s mc ms free) (entryFrame m args maxL)) : vx_Met l y ws rm Pc Qc XC mc ms free := by
  refine MetFree.of_bodyS (code := cc) (maxLocals := maxL) (ret := ret) hy ?_ ?_
  · intro args s m h hn
    obtain ⟨meth, c, h1, h2, h3, h4, h5, h6, -, -⟩ := Cond.code_spec hn (atoms_spec (ws := ws) h _ (by rw [hw]; exact List.mem_cons_self))
    exact ⟨meth, c, h1, h2, h3, h4, h5, h6⟩
  · intro p e s m args below meth c s₁ B hml hP _
    have hh0 : s₁.heap = s.heap := by rw [B.state]; rfl
    have ht : ∀ x ∈ c.exceptionTable.toList, False := by
      obtain ⟨meth9, c9, h1, h2, -, -, -, -, h7, -⟩ := Cond.code_spec B.named (atoms_spec (ws := ws) B.pre _ (by rw [hw]; exact List.mem_cons_self))
      cases Option.some.inj (h1.symm.trans B.method)
      cases Option.some.inj (h2.symm.trans (Stand.of_body B).code)
      intro x hx
      rw [Array.isEmpty_iff.mp h7] at hx
      cases hx
    obtain ⟨t, a1, o, b1, b2, b3⟩ := body p e s m args below meth c s₁ B hml ht hP s₁ hh0 (Stand.of_body B)
    exact ⟨t, o, a1, b1, b2, b3⟩
/-- the table of a body with handlers -/
theorem vx_table {p : Program} {x y : MethodName} {S : Spec} {cc bytes : ByteArray} {maxL maxL' : Nat} {ret ret' : Option FieldType} {e : Env} {s s₁ : State} {m : MethodId} {args : Array Value} {below : List Frame} {meth : Method} {c : Code} {hh : List (Nat × Nat × Nat × Nat)}
    (B : BodyLoose p l y S cc maxL ret e s m args below meth c s₁) (h : (Cond.codeWith y bytes maxL' ret' hh).before args s = true) : c.exceptionTable.toList = tableOf hh := by
  obtain ⟨m9, meth9, c9, hn9, h1, h2, -, -, h6, -⟩ := Cond.codeWith_spec h
  cases Option.some.inj (hn9.symm.trans B.named)
  cases Option.some.inj (h1.symm.trans B.method)
  cases Option.some.inj (h2.symm.trans (Stand.of_body B).code)
  rw [← h6, table_eq]
end Bodies
end VXA
/-! ===== END ===== -/
/-! ===== BEGIN a static call of a method with an exception table ===== -/
section VXS
variable {p : Program} {l : Launch} {e : Env} {R : Room} {s : State} {m : MethodId} {args : Array Value} {below : List Frame} {meth : Method} {c : Code} {T : State} {H : Heap} {locs : List Loc} {cells slots : Nat}
abbrev vx_CSW (R : Room) (s : State) (args : Array Value) (own : String) (index : Nat) (y : MethodName) (bytes : ByteArray) (maxL : Nat) (ret : Option FieldType) (hh : List (Nat × Nat × Nat × Nat)) (ws : List Cond) (rm : Room) (mc ms n : Nat) : Prop :=
  (rm.cells = mc ∧ rm.slots = ms ∧ rm.frames + 1 ≤ R.frames ∧ 8 + (maxL + 11) + rm.locals ≤ R.locals ∧ (∀ w ∈ ws, ∀ (a' : Array Value) (U : State), s.WarmedH U.vm → w.before a' U = true) ∧ Cond.codeWith y bytes maxL ret hh ∈ ws) ∧
  (Cond.codeWith y bytes maxL ret hh).before args s = true ∧ (Cond.initialized y.cls).before args s = true ∧ (y.cls ≠ "java/lang/invoke/MethodHandle" ∧ y.cls ≠ "java/lang/invoke/VarHandle") ∧
  (∀ sig, parseMethodDescriptor y.desc = some sig → n = sig.parameters.length) ∧ (Cond.methodLink own index y).before args s = true ∧ (Cond.static y).before args s = true
theorem vx_cwSW {own : String} {index maxL mc ms : Nat} {y : MethodName} {bytes : ByteArray} {ret : Option FieldType} {hh : List (Nat × Nat × Nat × Nat)} {Ts ws ws' : List Cond} {rm : Room} (n : Nat) (ht : ∀ w ∈ Ts, w.before args s = true) (hT : GoodIn Ts (va_wsS own index y ws)) (hw : ws = Cond.codeWith y bytes maxL ret hh :: ws') (hrc : rm.cells = mc) (hrs : rm.slots = ms)
    (hd : y.cls ≠ "java/lang/invoke/MethodHandle" ∧ y.cls ≠ "java/lang/invoke/VarHandle" ∧ (parseMethodDescriptor y.desc).map (fun d => d.parameters.length) = some n) (hR : rm.frames + 1 ≤ R.frames ∧ 8 + (maxL + 11) + rm.locals ≤ R.locals) :
    vx_CSW R s args own index y bytes maxL ret hh ws rm mc ms n := by
  have ok : ∀ w ∈ va_wsS own index y ws, w.before args s = true := fun w h => ht w (hT w h).1
  have hG : GoodIn Ts ws := fun w h => hT w (by unfold va_wsS; exact List.mem_append_right _ h)
  have hc : Cond.codeWith y bytes maxL ret hh ∈ ws := by rw [hw]; exact List.mem_cons_self
  refine ⟨⟨hrc, hrs, hR.1, hR.2, pay_in ht hG, hc⟩, ht _ (hG _ hc).1, ok _ (by simp [va_wsS]), ⟨hd.1, hd.2.1⟩, fun sig h => ?_, ok _ (by simp [va_wsS]), ok _ (by simp [va_wsS])⟩
  have h2 := hd.2.2
  rw [h] at h2
  exact (Option.some.inj h2).symm
theorem vx_callSW (X : Stand p l e R s m args below meth c T locs cells slots) (hexec : p.tables.exec = Jvm.exec) {own : String} {index : Nat} {y : MethodName} {bytes : ByteArray} {maxL : Nat} {ret : Option FieldType} {hh : List (Nat × Nat × Nat × Nat)}
    (hown : s.vm.findClass own = some m.cls) (hlink : (Cond.methodLink own index y).before args s = true) (hstat : (Cond.static y).before args s = true) (hinit : (Cond.initialized y.cls).before args s = true)
    (hcode : (Cond.codeWith y bytes maxL ret hh).before args s = true) (hy : y.cls ≠ "java/lang/invoke/MethodHandle" ∧ y.cls ≠ "java/lang/invoke/VarHandle")
    {W9 : Nat} {Pre : Pt → Array Value → Prop} {Post : Pt → Array Value → Option Value → Pt → Prop} (hK : Back l R p e below s args y 3 W9 Pre Post)
    {g : JFrame} (hg : g.method = m) (hsize : g.locals.size = c.maxLocals) {argsL rest : List Value} (hlen : ∀ sig, parseMethodDescriptor y.desc = some sig → argsL.length = sig.parameters.length)
    (hstack : g.stack = argsL.reverse ++ rest) (hW : 2 * g.monitorRoom + (rest.map fun v => v.category).sum ≤ W9) (hdg : decode c.code g.pc = .ok (.invokestatic index, 3))
    (hpre : ∀ vm₁, s.WarmedH vm₁ → Pre ⟨T.setVm vm₁, locs, cells, slots⟩ argsL.toArray) :
    ∃ (v : Option Value) (vm₁ : Vm) (B : Pt), s.WarmedH vm₁ ∧ Stand p l e R s m args below meth c B.U B.locs B.cells B.slots ∧ Post ⟨T.setVm vm₁, locs, cells, slots⟩ argsL.toArray v B ∧
      ∀ target, Steps p.tables e below (B.U.setTop { g with pc := g.pc + 3, stack := v.toList ++ rest }) target → Steps p.tables e below (T.setTop g) target := by
  obtain ⟨mk, methM, cM, hnamed, hmethM, -, -, -, -, -, -, hsigM⟩ := Cond.codeWith_spec hcode
  have hstatic : methM.isStatic = true := Cond.static_spec hnamed hmethM hstat
  obtain ⟨kP, hkP, -⟩ := className_of_methodNamed hnamed
  have hinitP : kP.init = .initialized := Cond.initialized_spec (findClass_of_methodNamed hnamed) hkP hinit
  obtain ⟨vm₁, X₁, hstep₁⟩ := X.invokestatic hexec hown hlink hnamed hmethM hstatic hkP hinitP hy (g := g) hg (argsL := argsL) (rest := rest) (hlen _ hsigM) hstack hdg
  obtain ⟨v, B, X', hpost, hsteps⟩ := hK m meth c ⟨T.setVm vm₁, locs, cells, slots⟩ { g with stack := rest } (.invokestatic index) mk argsL.toArray X₁ hg hsize hdg hW (X₁.named hnamed) (hpre vm₁ X₁.warmed)
  exact ⟨v, vm₁, B, X₁.warmed, X', hpost, fun target h => hstep₁ _ fun acts => by rw [doInvoke_state]; exact hsteps.trans h⟩
theorem vx_runSW {y : MethodName} {bytes cc : ByteArray} {maxL nL mc ms n index : Nat} {ret : Option FieldType} {hh : List (Nat × Nat × Nat × Nat)} {ws : List Cond} {rm : Room} {Pc : Array Value → State → Prop} {Qc : Array Value → State → Outcome → State → Prop} {free : Addr → Prop} {Ts : List Cond} {own : String} {As rest : List Value} {g : JFrame}
    (S : CallFix p m c cc nL s args Ts own) (hM : Met l y ws rm Pc Qc mc ms free) (cw : vx_CSW R s args own index y bytes maxL ret hh ws rm mc ms n) (hp : PreS s H Pc As)
    (hg : g.method = m) (hn : As.length = n) (hsize : g.locals.size = nL) (hstack : g.stack = As.reverse ++ rest) (hW : 2 * g.monitorRoom + (rest.map fun v => v.category).sum ≤ 8) (hdg : decode cc g.pc = .ok (.invokestatic index, 3)) (hf : cells + mc ≤ R.cells ∧ slots + ms ≤ R.slots) :
    va_Run p l e R s m args below meth c H locs cells slots mc ms g rest (Qc As.toArray) (free) := by
  obtain ⟨⟨hrc, hrs, hfr, hlo, hws, hcw⟩, hcode, hini, hy, hlen, hl, hstt⟩ := cw
  have hK : Back l R p e below s args y 3 8 (PreOf R mc ms Pc) (PostOf Qc mc ms free) := va_backW (hh := hh) (bytes := bytes) (maxL := maxL) (ret := ret) hM hp.1 hrc hrs hfr hlo hws hcw (fun a' U hW => word_at hW (Or.inl (by first | rfl | simp [Cond.onTables, Cond.keeps, Cond.steady])) hini)
  obtain ⟨hx, hb, hml, ho, -⟩ := S
  intro T hT X
  obtain ⟨v, vm₁, ⟨U', l2, c2, s2⟩, hW₁, X', ⟨g', mk, t, L, e1, e2, hq, h1, hL, h2, h3⟩, st⟩ := vx_callSW X hx (hh := hh) (bytes := bytes) (maxL := maxL) (ret := ret) ho hl hstt hini hcode hy hK hg (hsize.trans hml.symm) (argsL := As) (rest := rest) (fun sig h => hn.trans (hlen sig h)) hstack hW (by rw [hb]; exact hdg)
    (fun vm₁ hW₁ => ⟨hf.1, hf.2, hp.2 (T.setVm vm₁) hT hW₁⟩)
  dsimp only [Pt.U, Pt.locs, Pt.cells, Pt.slots] at X' e1 e2 h1 h2 h3 st
  subst h1; subst h2; subst h3
  exact ⟨v, (T.setVm vm₁).calling g' mk As.toArray, t, U', L, hT, X', hL, e1, e2, hq, st⟩
/-- not caught here, past rows that name other classes: it goes on to the caller -/
theorem vx_outP {p : Program} {l : Launch} {e : Env} {R : Room} {s : State} {m : MethodId} {args : Array Value} {below : List Frame} {meth : Method} {c : Code} {H : Heap} {locs : List Loc} {cells slots : Nat} {free : Addr → Prop} {ls : Array Slot} {rest : List Value} {Qc : Array Value → State → Outcome → State → Prop} {XC : String → State → State → Prop}
    {pc : Nat} {own E : String} {ce : Cell} {q : Addr} {mc ms : Nat} (hown : s.vm.findClass own = some m.cls) (hlocks : meth.locks = false)
    (hpass : ∀ z ∈ c.exceptionTable.toList, covers z pc = false ∨ (z.catchType ≠ 0 ∧ ∃ nm : String, (Cond.classLink own z.catchType nm).before args s = true ∧ va_Nc E nm s)) (hcell : H[q]? = some ce) (hv : ce.vm = .none) (hcl : s.vm.findClass E = some ce.cls)
    (hx : ∀ t : State, t.heap = H → s.vm.Alike t.vm → XC E s t) (hf : ∀ z ∈ locs, free z.base) (hc : cells ≤ mc) (hs : slots ≤ ms) :
    vx_W p l e R s m args below meth c H locs cells slots (vx_MQ below Qc XC args s mc ms free) (F0 m pc ls rest) q := by
  intro T hT X
  have hpl : e.platform.magicAccessors = ({} : Platform).magicAccessors := by rw [X.admits.platform]
  obtain ⟨vm', hW', X', st⟩ := X.outThrough hlocks q (g := F0 m pc ls rest) rfl rfl rfl (cell := ce) (by rw [hT]; exact hcell) (by rw [hv]; rfl)
    (by obtain ⟨k9, h9, -⟩ := Vm.findClass_spec hcl; exact ⟨k9, h9⟩) (fun z hz => by
      rcases hpass z hz with h | ⟨hz0, nm, hl1, hn1⟩
      · exact Or.inl h
      · obtain ⟨c6, hc6, hcl6⟩ := Cond.classLink_spec hown hl1 e.platform hpl
        obtain ⟨a8, b8, h1, h2, h3⟩ := hn1
        cases Option.some.inj (h1.symm.trans hcl)
        cases Option.some.inj (h2.symm.trans hc6)
        exact Or.inr ⟨hz0, _, hcl6, h3⟩)
  obtain ⟨g₀, hfr⟩ := X'.frames_eq
  have hcell9 : ((T.setVm vm').setFrames (.throwing q :: below)).heap[q]? = some ce := by
    show T.heap[q]? = some ce
    rw [hT]; exact hcell
  have hend : Ended ((T.setVm vm').setFrames (.throwing q :: below)) below (.threw q) := State.frames_setFrames _ (State.cur_lt_of_frames hfr)
  refine ⟨(T.setVm vm').setFrames (.throwing q :: below), ?_, .threw q, X'.here.running, hend, Or.inr ⟨q, rfl, E, ce, locs, hx _ hT (X'.ends _).1.alike, hcell9, hv, hcl, (X'.ends _).1, (X'.ends _).2.mono hc hs, hf⟩⟩
  rw [X.pushThrowing_eq]
  exact st
/-- a thing of a world lies in the heap -/
theorem vx_lt {D : va_G} {cl : List vw_C} {ws : va_W} {H1 : Heap} (h : va_P D cl ws H1) {k : Nat} {q : Nat × va_E} (hk : ws[k]? = some q) : q.1 < H1.size := (h k q hk).lt
end VXS
/-! ===== END ===== -/
end
section
/-! ===== names of my own: classes, methods, words by their places in the tables ===== -/
def gw : List Cond := lw_tbl.filter goodWord
theorem gw_i {w : Cond} (h : w ∈ tables_1) (hg : goodWord w = true) : w ∈ gw := List.mem_filter.mpr ⟨List.mem_append_right _ h, hg⟩
theorem gw_p {w : Cond} (h : w ∈ k2_sels lw_privs) (hg : goodWord w = true) : w ∈ gw := List.mem_filter.mpr ⟨List.mem_append_left _ h, hg⟩
theorem gw_t {w : Cond} (h : w ∈ gw) : w ∈ lw_tbl := (List.mem_filter.mp h).1
theorem gw_g {w : Cond} (h : w ∈ gw) : (w.onTables && w.keeps) = true ∨ ∃ ty, w = .arrayClass ty := good_of_word (List.mem_filter.mp h).2
abbrev nG : String := "WayGraph"
def TG : u_T := fun k => match k with
  | 0 => ("WayGraph", "levels", "[I", true)
  | 1 => ("WayGraph", "placeCount", "I", false)
  | 2 => ("WayGraph", "pieces", "LWayGraph$Pieces;", true)
  | 3 => ("WayGraph", "moverWidths", "[I", true)
  | 4 => ("WayGraph", "moverHeights", "[J", true)
  | 5 => ("WayGraph", "moverCount", "I", false)
  | 6 => ("WayGraph", "markedPlaces", "[I", true)
  | 7 => ("WayGraph", "markCount", "I", false)
  | 8 => ("WayGraph", "leastWays", "LWayGraph$LeastWays;", true)
  | 9 => ("WayGraph", "shortWays", "LWayGraph$ShortWays;", true)
  | _ => ("WayGraph", "lastTold", "LWayGraph$Row;", true)
def tG : Nat → FieldType := fun k => match k with
  | 0 => .array .int
  | 1 => .int
  | 2 => .object "WayGraph$Pieces"
  | 3 => .array .int
  | 4 => .array .long
  | 5 => .int
  | 6 => .array .int
  | 7 => .int
  | 8 => .object "WayGraph$LeastWays"
  | 9 => .object "WayGraph$ShortWays"
  | _ => .object "WayGraph$Row"
theorem nmG : ∀ a, a < 11 → ∀ b, b < 11 → a ≠ b → (TG a).2.1 ≠ (TG b).2.1 := by decide +kernel
theorem tG_ok : ∀ k, k < 11 → parseFieldDescriptor (TG k).2.2.1 = some (tG k) := by decide +kernel
abbrev nP : String := "WayGraph$Pieces"
def TP : u_T := fun k => match k with
  | 0 => ("WayGraph$Pieces", "begins", "[I", true)
  | 1 => ("WayGraph$Pieces", "ends", "[I", true)
  | 2 => ("WayGraph$Pieces", "seconds", "[J", true)
  | 3 => ("WayGraph$Pieces", "widths", "[I", true)
  | 4 => ("WayGraph$Pieces", "heights", "[J", true)
  | 5 => ("WayGraph$Pieces", "openHours", "[J", true)
  | 6 => ("WayGraph$Pieces", "barredTurns", "[J", true)
  | 7 => ("WayGraph$Pieces", "closedOnes", "J", false)
  | _ => ("WayGraph$Pieces", "size", "I", false)
def tP : Nat → FieldType := fun k => match k with
  | 0 => .array .int
  | 1 => .array .int
  | 2 => .array .long
  | 3 => .array .int
  | 4 => .array .long
  | 5 => .array .long
  | 6 => .array .long
  | 7 => .long
  | _ => .int
theorem nmP : ∀ a, a < 9 → ∀ b, b < 9 → a ≠ b → (TP a).2.1 ≠ (TP b).2.1 := by decide +kernel
theorem tP_ok : ∀ k, k < 9 → parseFieldDescriptor (TP k).2.2.1 = some (tP k) := by decide +kernel
abbrev nL : String := "WayGraph$LeastWays"
def TL : u_T := fun k => match k with
  | 0 => ("WayGraph$LeastWays", "reached", "[J", true)
  | 1 => ("WayGraph$LeastWays", "start", "I", false)
  | _ => ("WayGraph$LeastWays", "firstMoment", "J", false)
def tL : Nat → FieldType := fun k => match k with
  | 0 => .array .long
  | 1 => .int
  | _ => .long
theorem nmL : ∀ a, a < 3 → ∀ b, b < 3 → a ≠ b → (TL a).2.1 ≠ (TL b).2.1 := by decide +kernel
theorem tL_ok : ∀ k, k < 3 → parseFieldDescriptor (TL k).2.2.1 = some (tL k) := by decide +kernel
abbrev nS : String := "WayGraph$ShortWays"
def TS : u_T := fun k => match k with
  | 0 => ("WayGraph$ShortWays", "trail", "[I", true)
  | 1 => ("WayGraph$ShortWays", "rankedPieces", "[I", true)
  | 2 => ("WayGraph$ShortWays", "rankedLengths", "[I", true)
  | 3 => ("WayGraph$ShortWays", "rankedSeconds", "[J", true)
  | 4 => ("WayGraph$ShortWays", "ranked", "I", false)
  | 5 => ("WayGraph$ShortWays", "usable", "J", false)
  | _ => ("WayGraph$ShortWays", "goal", "I", false)
def tS : Nat → FieldType := fun k => match k with
  | 0 => .array .int
  | 1 => .array .int
  | 2 => .array .int
  | 3 => .array .long
  | 4 => .int
  | 5 => .long
  | _ => .int
theorem nmS : ∀ a, a < 7 → ∀ b, b < 7 → a ≠ b → (TS a).2.1 ≠ (TS b).2.1 := by decide +kernel
theorem tS_ok : ∀ k, k < 7 → parseFieldDescriptor (TS k).2.2.1 = some (tS k) := by decide +kernel
abbrev nR : String := "WayGraph$Row"
def TR : u_T := fun k => match k with
  | 0 => ("WayGraph$Row", "numbers", "[I", true)
  | _ => ("WayGraph$Row", "length", "I", false)
def tR : Nat → FieldType := fun k => match k with
  | 0 => .array .int
  | _ => .int
theorem nmR : ∀ a, a < 2 → ∀ b, b < 2 → a ≠ b → (TR a).2.1 ≠ (TR b).2.1 := by decide +kernel
theorem tR_ok : ∀ k, k < 2 → parseFieldDescriptor (TR k).2.2.1 = some (tR k) := by decide +kernel
abbrev nM : String := "WayGraphModel"
def TM : u_T := fun k => match k with
  | 0 => ("WayGraphModel", "code", "I", false)
  | 1 => ("WayGraphModel", "places", "I", false)
  | 2 => ("WayGraphModel", "level", "[I", true)
  | 3 => ("WayGraphModel", "pieces", "I", false)
  | 4 => ("WayGraphModel", "from", "[I", true)
  | 5 => ("WayGraphModel", "to", "[I", true)
  | 6 => ("WayGraphModel", "seconds", "[J", true)
  | 7 => ("WayGraphModel", "wide", "[I", true)
  | 8 => ("WayGraphModel", "high", "[I", true)
  | 9 => ("WayGraphModel", "shut", "[Z", true)
  | 10 => ("WayGraphModel", "hours", "[I", true)
  | 11 => ("WayGraphModel", "barred", "[Z", true)
  | 12 => ("WayGraphModel", "movers", "I", false)
  | 13 => ("WayGraphModel", "moverWide", "[I", true)
  | 14 => ("WayGraphModel", "moverHigh", "[I", true)
  | 15 => ("WayGraphModel", "marks", "I", false)
  | 16 => ("WayGraphModel", "marked", "[I", true)
  | 17 => ("WayGraphModel", "reached", "[J", true)
  | 18 => ("WayGraphModel", "steps", "[I", true)
  | 19 => ("WayGraphModel", "stepCount", "I", false)
  | 20 => ("WayGraphModel", "bestSeconds", "[J", true)
  | 21 => ("WayGraphModel", "bestCount", "[I", true)
  | 22 => ("WayGraphModel", "bestPieces", "[I", true)
  | 23 => ("WayGraphModel", "found", "I", false)
  | 24 => ("WayGraphModel", "on", "[I", true)
  | _ => ("WayGraphModel", "when", "[J", true)
def tM : Nat → FieldType := fun k => match k with
  | 0 => .int
  | 1 => .int
  | 2 => .array .int
  | 3 => .int
  | 4 => .array .int
  | 5 => .array .int
  | 6 => .array .long
  | 7 => .array .int
  | 8 => .array .int
  | 9 => .array .boolean
  | 10 => .array .int
  | 11 => .array .boolean
  | 12 => .int
  | 13 => .array .int
  | 14 => .array .int
  | 15 => .int
  | 16 => .array .int
  | 17 => .array .long
  | 18 => .array .int
  | 19 => .int
  | 20 => .array .long
  | 21 => .array .int
  | 22 => .array .int
  | 23 => .int
  | 24 => .array .int
  | _ => .array .long
theorem nmM : ∀ a, a < 26 → ∀ b, b < 26 → a ≠ b → (TM a).2.1 ≠ (TM b).2.1 := by decide +kernel
theorem tM_ok : ∀ k, k < 26 → parseFieldDescriptor (TM k).2.2.1 = some (tM k) := by decide +kernel
abbrev nW : String := "WayGraphLaw"
abbrev nJL : String := "java/lang/Long"
abbrev nJM : String := "java/lang/Math"
abbrev vwCl : List vw_C := [(nG, TG, 11), (nP, TP, 9), (nL, TL, 3), (nS, TS, 7), (nR, TR, 2), (nM, TM, 26)]
abbrev cG_init : ByteArray := prog_1_method_1_code
def yG_init : MethodName := ⟨nG, "<init>", "()V"⟩
def wsG_init : List Cond := Cond.code yG_init cG_init 1 none :: gw
abbrev cP_init : ByteArray := prog_3_method_1_code
def yP_init : MethodName := ⟨nP, "<init>", "()V"⟩
def wsP_init : List Cond := Cond.code yP_init cP_init 1 none :: gw
abbrev cL_init : ByteArray := prog_2_method_1_code
def yL_init : MethodName := ⟨nL, "<init>", "()V"⟩
def wsL_init : List Cond := Cond.code yL_init cL_init 1 none :: gw
abbrev cS_init : ByteArray := prog_5_method_1_code
def yS_init : MethodName := ⟨nS, "<init>", "()V"⟩
def wsS_init : List Cond := Cond.code yS_init cS_init 1 none :: gw
abbrev cR_init : ByteArray := prog_4_method_1_code
def yR_init : MethodName := ⟨nR, "<init>", "()V"⟩
def wsR_init : List Cond := Cond.code yR_init cR_init 1 none :: gw
abbrev cG_step : ByteArray := prog_1_method_11_code
def yG_step : MethodName := ⟨nG, "step", "(I)I"⟩
def wsG_step : List Cond := Cond.code yG_step cG_step 2 (some .int) :: gw
abbrev cR_at : ByteArray := prog_4_method_5_code
def yR_at : MethodName := ⟨nR, "at", "(I)I"⟩
def wsR_at : List Cond := Cond.code yR_at cR_at 2 (some .int) :: gw
abbrev cG_count : ByteArray := prog_1_method_17_code
def yG_count : MethodName := ⟨nG, "count", "(I)I"⟩
def wsG_count : List Cond := Cond.code yG_count cG_count 2 (some .int) :: gw
abbrev cP_countBarredTurns : ByteArray := prog_3_method_5_code
def yP_countBarredTurns : MethodName := ⟨nP, "countBarredTurns", "()I"⟩
def wsP_countBarredTurns : List Cond := Cond.code yP_countBarredTurns cP_countBarredTurns 3 (some .int) :: gw
abbrev cJL_bitCount : ByteArray := prog_12_method_50_code
def yJL_bitCount : MethodName := ⟨nJL, "bitCount", "(J)I"⟩
def wsJL_bitCount : List Cond := Cond.code yJL_bitCount cJL_bitCount 2 (some .int) :: gw
abbrev cW_place : ByteArray := method_3_code
def yW_place : MethodName := ⟨nW, "place", "(LWayGraph;I[J)I"⟩
def wsW_place : List Cond := Cond.codeWith yW_place cW_place 4 (some .int) [(0, 9, 12, 13), (0, 9, 15, 15)] :: gw
abbrev cG_place : ByteArray := prog_1_method_2_code
def yG_place : MethodName := ⟨nG, "place", "(I)I"⟩
def wsG_place : List Cond := Cond.code yG_place cG_place 2 (some .int) :: gw
abbrev cG_within : ByteArray := prog_1_method_23_code
def yG_within : MethodName := ⟨nG, "within", "(JJJ)Z"⟩
def wsG_within : List Cond := Cond.code yG_within cG_within 6 (some .boolean) :: gw
abbrev cW_piece : ByteArray := method_4_code
def yW_piece : MethodName := ⟨nW, "piece", "(LWayGraph;IIJJ[J)I"⟩
def wsW_piece : List Cond := Cond.codeWith yW_piece cW_piece 9 (some .int) [(0, 14, 17, 13), (0, 14, 21, 21), (0, 14, 25, 15)] :: gw
abbrev cG_piece : ByteArray := prog_1_method_3_code
def yG_piece : MethodName := ⟨nG, "piece", "(IIJJ)I"⟩
def wsG_piece : List Cond := Cond.code yG_piece cG_piece 7 (some .int) :: gw
abbrev cG_hasPlace : ByteArray := prog_1_method_18_code
def yG_hasPlace : MethodName := ⟨nG, "hasPlace", "(I)Z"⟩
def wsG_hasPlace : List Cond := Cond.code yG_hasPlace cG_hasPlace 2 (some .boolean) :: gw
abbrev cP_add : ByteArray := prog_3_method_3_code
def yP_add : MethodName := ⟨nP, "add", "(IIJ)I"⟩
def wsP_add : List Cond := Cond.code yP_add cP_add 5 (some .int) :: gw
abbrev cW_lift : ByteArray := method_5_code
def yW_lift : MethodName := ⟨nW, "lift", "(LWayGraph;IIJ[J)I"⟩
def wsW_lift : List Cond := Cond.codeWith yW_lift cW_lift 7 (some .int) [(0, 12, 15, 13), (0, 12, 19, 15)] :: gw
abbrev cG_lift : ByteArray := prog_1_method_4_code
def yG_lift : MethodName := ⟨nG, "lift", "(IIJ)I"⟩
def wsG_lift : List Cond := Cond.code yG_lift cG_lift 6 (some .int) :: gw
abbrev cW_limit : ByteArray := method_6_code
def yW_limit : MethodName := ⟨nW, "limit", "(LWayGraph;IIJ)I"⟩
def wsW_limit : List Cond := Cond.codeWith yW_limit cW_limit 6 (some .int) [(0, 7, 10, 13)] :: gw
abbrev cG_limit : ByteArray := prog_1_method_5_code
def yG_limit : MethodName := ⟨nG, "limit", "(IIJ)V"⟩
def wsG_limit : List Cond := Cond.code yG_limit cG_limit 5 none :: gw
abbrev cP_has : ByteArray := prog_3_method_2_code
def yP_has : MethodName := ⟨nP, "has", "(I)Z"⟩
def wsP_has : List Cond := Cond.code yP_has cP_has 2 (some .boolean) :: gw
abbrev cG_isSize : ByteArray := prog_1_method_22_code
def yG_isSize : MethodName := ⟨nG, "isSize", "(JJ)Z"⟩
def wsG_isSize : List Cond := Cond.code yG_isSize cG_isSize 4 (some .boolean) :: gw
abbrev cW_mover : ByteArray := method_7_code
def yW_mover : MethodName := ⟨nW, "mover", "(LWayGraph;IJ[J)I"⟩
def wsW_mover : List Cond := Cond.codeWith yW_mover cW_mover 6 (some .int) [(0, 11, 14, 13), (0, 11, 18, 15)] :: gw
abbrev cG_mover : ByteArray := prog_1_method_6_code
def yG_mover : MethodName := ⟨nG, "mover", "(IJ)I"⟩
def wsG_mover : List Cond := Cond.code yG_mover cG_mover 4 (some .int) :: gw
abbrev cP_anyFits : ByteArray := prog_3_method_7_code
def yP_anyFits : MethodName := ⟨nP, "anyFits", "(IJ)Z"⟩
def wsP_anyFits : List Cond := Cond.code yP_anyFits cP_anyFits 5 (some .boolean) :: gw
abbrev cP_fits : ByteArray := prog_3_method_6_code
def yP_fits : MethodName := ⟨nP, "fits", "(IIJ)Z"⟩
def wsP_fits : List Cond := Cond.code yP_fits cP_fits 5 (some .boolean) :: gw
abbrev cW_closed : ByteArray := method_8_code
def yW_closed : MethodName := ⟨nW, "closed", "(LWayGraph;IZ[J)I"⟩
def wsW_closed : List Cond := Cond.codeWith yW_closed cW_closed 5 (some .int) [(0, 10, 13, 13)] :: gw
abbrev cG_closed : ByteArray := prog_1_method_7_code
def yG_closed : MethodName := ⟨nG, "closed", "(IZ)I"⟩
def wsG_closed : List Cond := Cond.code yG_closed cG_closed 3 (some .int) :: gw
abbrev cG_withBit : ByteArray := prog_1_method_25_code
def yG_withBit : MethodName := ⟨nG, "withBit", "(JIZ)J"⟩
def wsG_withBit : List Cond := Cond.code yG_withBit cG_withBit 6 (some .long) :: gw
abbrev cW_turn : ByteArray := method_9_code
def yW_turn : MethodName := ⟨nW, "turn", "(LWayGraph;IIZ[J)I"⟩
def wsW_turn : List Cond := Cond.codeWith yW_turn cW_turn 6 (some .int) [(0, 12, 15, 13)] :: gw
abbrev cG_turn : ByteArray := prog_1_method_8_code
def yG_turn : MethodName := ⟨nG, "turn", "(IIZ)I"⟩
def wsG_turn : List Cond := Cond.code yG_turn cG_turn 5 (some .int) :: gw
abbrev cP_isBarred : ByteArray := prog_3_method_4_code
def yP_isBarred : MethodName := ⟨nP, "isBarred", "(II)Z"⟩
def wsP_isBarred : List Cond := Cond.code yP_isBarred cP_isBarred 3 (some .boolean) :: gw
abbrev cG_hasBit : ByteArray := prog_1_method_24_code
def yG_hasBit : MethodName := ⟨nG, "hasBit", "(JI)Z"⟩
def wsG_hasBit : List Cond := Cond.code yG_hasBit cG_hasBit 3 (some .boolean) :: gw
abbrev cW_door : ByteArray := method_10_code
def yW_door : MethodName := ⟨nW, "door", "(LWayGraph;IIZ[J)I"⟩
def wsW_door : List Cond := Cond.codeWith yW_door cW_door 6 (some .int) [(0, 12, 15, 13)] :: gw
abbrev cG_door : ByteArray := prog_1_method_9_code
def yG_door : MethodName := ⟨nG, "door", "(IIZ)I"⟩
def wsG_door : List Cond := Cond.code yG_door cG_door 4 (some .int) :: gw
abbrev cW_way : ByteArray := method_11_code
def yW_way : MethodName := ⟨nW, "way", "(LWayGraph;IIIJ[J)I"⟩
def wsW_way : List Cond := Cond.codeWith yW_way cW_way 8 (some .int) [(0, 13, 16, 13)] :: gw
abbrev cG_way : ByteArray := prog_1_method_10_code
def yG_way : MethodName := ⟨nG, "way", "(IIIJ)J"⟩
def wsG_way : List Cond := Cond.code yG_way cG_way 8 (some .long) :: gw
abbrev cG_hasMover : ByteArray := prog_1_method_19_code
def yG_hasMover : MethodName := ⟨nG, "hasMover", "(I)Z"⟩
def wsG_hasMover : List Cond := Cond.code yG_hasMover cG_hasMover 2 (some .boolean) :: gw
abbrev cG_leastSeconds : ByteArray := prog_1_method_21_code
def yG_leastSeconds : MethodName := ⟨nG, "leastSeconds", "(IIIJ)J"⟩
def wsG_leastSeconds : List Cond := Cond.code yG_leastSeconds cG_leastSeconds 9 (some .long) :: gw
abbrev cP_usableBy : ByteArray := prog_3_method_8_code
def yP_usableBy : MethodName := ⟨nP, "usableBy", "(IJ)J"⟩
def wsP_usableBy : List Cond := Cond.code yP_usableBy cP_usableBy 8 (some .long) :: gw
abbrev cL_search : ByteArray := prog_2_method_2_code
def yL_search : MethodName := ⟨nL, "search", "(LWayGraph$Pieces;JIJ)V"⟩
def wsL_search : List Cond := Cond.code yL_search cL_search 11 none :: gw
abbrev cP_endWhenUsedFrom : ByteArray := prog_3_method_10_code
def yP_endWhenUsedFrom : MethodName := ⟨nP, "endWhenUsedFrom", "(IJ)J"⟩
def wsP_endWhenUsedFrom : List Cond := Cond.code yP_endWhenUsedFrom cP_endWhenUsedFrom 8 (some .long) :: gw
abbrev cJM_max_J : ByteArray := prog_13_method_66_code
def yJM_max_J : MethodName := ⟨nJM, "max", "(JJ)J"⟩
def wsJM_max_J : List Cond := Cond.code yJM_max_J cJM_max_J 4 (some .long) :: gw
abbrev cL_earliestOf : ByteArray := prog_2_method_3_code
def yL_earliestOf : MethodName := ⟨nL, "earliestOf", "(LWayGraph$Pieces;J)I"⟩
def wsL_earliestOf : List Cond := Cond.code yL_earliestOf cL_earliestOf 8 (some .int) :: gw
abbrev cL_goOnFrom : ByteArray := prog_2_method_4_code
def yL_goOnFrom : MethodName := ⟨nL, "goOnFrom", "(LWayGraph$Pieces;IJ)V"⟩
def wsL_goOnFrom : List Cond := Cond.code yL_goOnFrom cL_goOnFrom 8 none :: gw
abbrev cP_canFollow : ByteArray := prog_3_method_9_code
def yP_canFollow : MethodName := ⟨nP, "canFollow", "(II)Z"⟩
def wsP_canFollow : List Cond := Cond.code yP_canFollow cP_canFollow 3 (some .boolean) :: gw
abbrev cJM_min_J : ByteArray := prog_13_method_70_code
def yJM_min_J : MethodName := ⟨nJM, "min", "(JJ)J"⟩
def wsJM_min_J : List Cond := Cond.code yJM_min_J cJM_min_J 4 (some .long) :: gw
abbrev cL_lastPieceTo : ByteArray := prog_2_method_5_code
def yL_lastPieceTo : MethodName := ⟨nL, "lastPieceTo", "(LWayGraph$Pieces;I)I"⟩
def wsL_lastPieceTo : List Cond := Cond.code yL_lastPieceTo cL_lastPieceTo 7 (some .int) :: gw
abbrev cR_clear : ByteArray := prog_4_method_2_code
def yR_clear : MethodName := ⟨nR, "clear", "()V"⟩
def wsR_clear : List Cond := Cond.code yR_clear cR_clear 1 none :: gw
abbrev cL_writeWayTo : ByteArray := prog_2_method_6_code
def yL_writeWayTo : MethodName := ⟨nL, "writeWayTo", "(LWayGraph$Pieces;ILWayGraph$Row;)V"⟩
def wsL_writeWayTo : List Cond := Cond.code yL_writeWayTo cL_writeWayTo 6 none :: gw
abbrev cR_append : ByteArray := prog_4_method_3_code
def yR_append : MethodName := ⟨nR, "append", "(I)V"⟩
def wsR_append : List Cond := Cond.code yR_append cR_append 2 none :: gw
abbrev cL_pieceBefore : ByteArray := prog_2_method_7_code
def yL_pieceBefore : MethodName := ⟨nL, "pieceBefore", "(LWayGraph$Pieces;I)I"⟩
def wsL_pieceBefore : List Cond := Cond.code yL_pieceBefore cL_pieceBefore 4 (some .int) :: gw
abbrev cR_turnRound : ByteArray := prog_4_method_4_code
def yR_turnRound : MethodName := ⟨nR, "turnRound", "()V"⟩
def wsR_turnRound : List Cond := Cond.code yR_turnRound cR_turnRound 4 none :: gw
abbrev cW_reaches : ByteArray := method_12_code
def yW_reaches : MethodName := ⟨nW, "reaches", "(LWayGraph;III[J)I"⟩
def wsW_reaches : List Cond := Cond.codeWith yW_reaches cW_reaches 6 (some .int) [(0, 19, 22, 13)] :: gw
abbrev cG_reaches : ByteArray := prog_1_method_12_code
def yG_reaches : MethodName := ⟨nG, "reaches", "(III)Z"⟩
def wsG_reaches : List Cond := Cond.code yG_reaches cG_reaches 4 (some .boolean) :: gw
abbrev cW_mark : ByteArray := method_13_code
def yW_mark : MethodName := ⟨nW, "mark", "(LWayGraph;I[J)I"⟩
def wsW_mark : List Cond := Cond.codeWith yW_mark cW_mark 4 (some .int) [(0, 9, 12, 13), (0, 9, 15, 57), (0, 9, 18, 15)] :: gw
abbrev cG_mark : ByteArray := prog_1_method_13_code
def yG_mark : MethodName := ⟨nG, "mark", "(I)I"⟩
def wsG_mark : List Cond := Cond.code yG_mark cG_mark 2 (some .int) :: gw
abbrev cG_isMarked : ByteArray := prog_1_method_20_code
def yG_isMarked : MethodName := ⟨nG, "isMarked", "(I)Z"⟩
def wsG_isMarked : List Cond := Cond.code yG_isMarked cG_isMarked 3 (some .boolean) :: gw
abbrev cW_table : ByteArray := method_14_code
def yW_table : MethodName := ⟨nW, "table", "(LWayGraph;II[J)I"⟩
def wsW_table : List Cond := Cond.codeWith yW_table cW_table 5 (some .int) [(0, 9, 12, 13), (0, 9, 16, 57)] :: gw
abbrev cG_table : ByteArray := prog_1_method_14_code
def yG_table : MethodName := ⟨nG, "table", "(II)J"⟩
def wsG_table : List Cond := Cond.code yG_table cG_table 3 (some .long) :: gw
abbrev cW_k : ByteArray := method_15_code
def yW_k : MethodName := ⟨nW, "k", "(LWayGraph;III[J)I"⟩
def wsW_k : List Cond := Cond.codeWith yW_k cW_k 6 (some .int) [(0, 11, 14, 13), (0, 11, 18, 57)] :: gw
abbrev cG_k : ByteArray := prog_1_method_15_code
def yG_k : MethodName := ⟨nG, "k", "(III)J"⟩
def wsG_k : List Cond := Cond.code yG_k cG_k 4 (some .long) :: gw
abbrev cS_search : ByteArray := prog_5_method_2_code
def yS_search : MethodName := ⟨nS, "search", "(LWayGraph$Pieces;JII)V"⟩
def wsS_search : List Cond := Cond.code yS_search cS_search 6 none :: gw
abbrev cS_extend : ByteArray := prog_5_method_3_code
def yS_extend : MethodName := ⟨nS, "extend", "(LWayGraph$Pieces;IIJJ)V"⟩
def wsS_extend : List Cond := Cond.code yS_extend cS_extend 12 none :: gw
abbrev cS_canBeNext : ByteArray := prog_5_method_4_code
def yS_canBeNext : MethodName := ⟨nS, "canBeNext", "(LWayGraph$Pieces;III)Z"⟩
def wsS_canBeNext : List Cond := Cond.code yS_canBeNext cS_canBeNext 5 (some .boolean) :: gw
abbrev cS_keep : ByteArray := prog_5_method_6_code
def yS_keep : MethodName := ⟨nS, "keep", "(IJ)V"⟩
def wsS_keep : List Cond := Cond.code yS_keep cS_keep 6 none :: gw
abbrev cS_rankOf : ByteArray := prog_5_method_5_code
def yS_rankOf : MethodName := ⟨nS, "rankOf", "(J)I"⟩
def wsS_rankOf : List Cond := Cond.code yS_rankOf cS_rankOf 4 (some .int) :: gw
abbrev cJM_min_I : ByteArray := prog_13_method_69_code
def yJM_min_I : MethodName := ⟨nJM, "min", "(II)I"⟩
def wsJM_min_I : List Cond := Cond.code yJM_min_I cJM_min_I 2 (some .int) :: gw
abbrev cS_writeWay : ByteArray := prog_5_method_7_code
def yS_writeWay : MethodName := ⟨nS, "writeWay", "(ILWayGraph$Row;)V"⟩
def wsS_writeWay : List Cond := Cond.code yS_writeWay cS_writeWay 4 none :: gw
abbrev cW_told : ByteArray := method_16_code
def yW_told : MethodName := ⟨nW, "told", "(LWayGraph;II[J)I"⟩
def wsW_told : List Cond := Cond.codeWith yW_told cW_told 5 (some .int) [(0, 9, 12, 13)] :: gw
abbrev cG_told : ByteArray := prog_1_method_16_code
def yG_told : MethodName := ⟨nG, "told", "(II)J"⟩
def wsG_told : List Cond := Cond.code yG_told cG_told 3 (some .long) :: gw
abbrev cM_init : ByteArray := prog_7_method_1_code
def yM_init : MethodName := ⟨nM, "<init>", "()V"⟩
def wsM_init : List Cond := Cond.code yM_init cM_init 1 none :: gw
abbrev cM_thrown : ByteArray := prog_7_method_2_code
def yM_thrown : MethodName := ⟨nM, "thrown", "()I"⟩
def wsM_thrown : List Cond := Cond.code yM_thrown cM_thrown 1 (some .int) :: gw
abbrev cM_place : ByteArray := prog_7_method_6_code
def yM_place : MethodName := ⟨nM, "place", "(I)I"⟩
def wsM_place : List Cond := Cond.code yM_place cM_place 2 (some .int) :: gw
abbrev cM_in : ByteArray := prog_7_method_3_code
def yM_in : MethodName := ⟨nM, "in", "(JJJ)Z"⟩
def wsM_in : List Cond := Cond.code yM_in cM_in 6 (some .boolean) :: gw
abbrev cM_piece : ByteArray := prog_7_method_8_code
def yM_piece : MethodName := ⟨nM, "piece", "(IIJJ)I"⟩
def wsM_piece : List Cond := Cond.code yM_piece cM_piece 8 (some .int) :: gw
abbrev cM_isPlace : ByteArray := prog_7_method_4_code
def yM_isPlace : MethodName := ⟨nM, "isPlace", "(I)Z"⟩
def wsM_isPlace : List Cond := Cond.code yM_isPlace cM_isPlace 2 (some .boolean) :: gw
abbrev cM_add : ByteArray := prog_7_method_7_code
def yM_add : MethodName := ⟨nM, "add", "(IIJ)I"⟩
def wsM_add : List Cond := Cond.code yM_add cM_add 5 (some .int) :: gw
abbrev cM_lift : ByteArray := prog_7_method_9_code
def yM_lift : MethodName := ⟨nM, "lift", "(IIJ)I"⟩
def wsM_lift : List Cond := Cond.code yM_lift cM_lift 7 (some .int) :: gw
abbrev cM_limit : ByteArray := prog_7_method_10_code
def yM_limit : MethodName := ⟨nM, "limit", "(IIJ)V"⟩
def wsM_limit : List Cond := Cond.code yM_limit cM_limit 5 none :: gw
abbrev cM_isPiece : ByteArray := prog_7_method_5_code
def yM_isPiece : MethodName := ⟨nM, "isPiece", "(I)Z"⟩
def wsM_isPiece : List Cond := Cond.code yM_isPiece cM_isPiece 2 (some .boolean) :: gw
abbrev cM_mover : ByteArray := prog_7_method_11_code
def yM_mover : MethodName := ⟨nM, "mover", "(IJ)I"⟩
def wsM_mover : List Cond := Cond.code yM_mover cM_mover 6 (some .int) :: gw
abbrev cM_closed : ByteArray := prog_7_method_12_code
def yM_closed : MethodName := ⟨nM, "closed", "(IZ)I"⟩
def wsM_closed : List Cond := Cond.code yM_closed cM_closed 5 (some .int) :: gw
abbrev cM_turn : ByteArray := prog_7_method_13_code
def yM_turn : MethodName := ⟨nM, "turn", "(IIZ)I"⟩
def wsM_turn : List Cond := Cond.code yM_turn cM_turn 5 (some .int) :: gw
abbrev cM_door : ByteArray := prog_7_method_14_code
def yM_door : MethodName := ⟨nM, "door", "(IIZ)I"⟩
def wsM_door : List Cond := Cond.code yM_door cM_door 6 (some .int) :: gw
abbrev cM_way : ByteArray := prog_7_method_24_code
def yM_way : MethodName := ⟨nM, "way", "(IIIJ)J"⟩
def wsM_way : List Cond := Cond.code yM_way cM_way 10 (some .long) :: gw
abbrev cM_isMover : ByteArray := prog_7_method_23_code
def yM_isMover : MethodName := ⟨nM, "isMover", "(I)Z"⟩
def wsM_isMover : List Cond := Cond.code yM_isMover cM_isMover 2 (some .boolean) :: gw
abbrev cM_least : ByteArray := prog_7_method_22_code
def yM_least : MethodName := ⟨nM, "least", "(IIIJ)J"⟩
def wsM_least : List Cond := Cond.code yM_least cM_least 7 (some .long) :: gw
abbrev cM_reachAll : ByteArray := prog_7_method_18_code
def yM_reachAll : MethodName := ⟨nM, "reachAll", "(IIJ)V"⟩
def wsM_reachAll : List Cond := Cond.code yM_reachAll cM_reachAll 8 none :: gw
abbrev cM_mayUse : ByteArray := prog_7_method_15_code
def yM_mayUse : MethodName := ⟨nM, "mayUse", "(II)Z"⟩
def wsM_mayUse : List Cond := Cond.code yM_mayUse cM_mayUse 3 (some .boolean) :: gw
abbrev cM_use : ByteArray := prog_7_method_16_code
def yM_use : MethodName := ⟨nM, "use", "(IJ)J"⟩
def wsM_use : List Cond := Cond.code yM_use cM_use 6 (some .long) :: gw
abbrev cM_lower : ByteArray := prog_7_method_19_code
def yM_lower : MethodName := ⟨nM, "lower", "(III)Z"⟩
def wsM_lower : List Cond := Cond.code yM_lower cM_lower 6 (some .boolean) :: gw
abbrev cM_follows : ByteArray := prog_7_method_17_code
def yM_follows : MethodName := ⟨nM, "follows", "(II)Z"⟩
def wsM_follows : List Cond := Cond.code yM_follows cM_follows 3 (some .boolean) :: gw
abbrev cM_lastTo : ByteArray := prog_7_method_20_code
def yM_lastTo : MethodName := ⟨nM, "lastTo", "(I)I"⟩
def wsM_lastTo : List Cond := Cond.code yM_lastTo cM_lastTo 4 (some .int) :: gw
abbrev cM_before : ByteArray := prog_7_method_21_code
def yM_before : MethodName := ⟨nM, "before", "(IIIJ)I"⟩
def wsM_before : List Cond := Cond.code yM_before cM_before 7 (some .int) :: gw
abbrev cM_step : ByteArray := prog_7_method_25_code
def yM_step : MethodName := ⟨nM, "step", "(I)I"⟩
def wsM_step : List Cond := Cond.code yM_step cM_step 2 (some .int) :: gw
abbrev cM_reaches : ByteArray := prog_7_method_26_code
def yM_reaches : MethodName := ⟨nM, "reaches", "(III)Z"⟩
def wsM_reaches : List Cond := Cond.code yM_reaches cM_reaches 4 (some .boolean) :: gw
abbrev cM_mark : ByteArray := prog_7_method_27_code
def yM_mark : MethodName := ⟨nM, "mark", "(I)I"⟩
def wsM_mark : List Cond := Cond.code yM_mark cM_mark 4 (some .int) :: gw
abbrev cM_table : ByteArray := prog_7_method_28_code
def yM_table : MethodName := ⟨nM, "table", "(II)J"⟩
def wsM_table : List Cond := Cond.code yM_table cM_table 3 (some .long) :: gw
abbrev cM_k : ByteArray := prog_7_method_34_code
def yM_k : MethodName := ⟨nM, "k", "(III)J"⟩
def wsM_k : List Cond := Cond.code yM_k cM_k 5 (some .long) :: gw
abbrev cM_goThrough : ByteArray := prog_7_method_33_code
def yM_goThrough : MethodName := ⟨nM, "goThrough", "(II)V"⟩
def wsM_goThrough : List Cond := Cond.code yM_goThrough cM_goThrough 5 none :: gw
abbrev cM_mayGo : ByteArray := prog_7_method_30_code
def yM_mayGo : MethodName := ⟨nM, "mayGo", "(III)Z"⟩
def wsM_mayGo : List Cond := Cond.code yM_mayGo cM_mayGo 5 (some .boolean) :: gw
abbrev cM_seen : ByteArray := prog_7_method_29_code
def yM_seen : MethodName := ⟨nM, "seen", "(III)Z"⟩
def wsM_seen : List Cond := Cond.code yM_seen cM_seen 6 (some .boolean) :: gw
abbrev cM_keep : ByteArray := prog_7_method_32_code
def yM_keep : MethodName := ⟨nM, "keep", "(I)V"⟩
def wsM_keep : List Cond := Cond.code yM_keep cM_keep 5 none :: gw
abbrev cM_isBetter : ByteArray := prog_7_method_31_code
def yM_isBetter : MethodName := ⟨nM, "isBetter", "(II)Z"⟩
def wsM_isBetter : List Cond := Cond.code yM_isBetter cM_isBetter 4 (some .boolean) :: gw
abbrev cM_told : ByteArray := prog_7_method_35_code
def yM_told : MethodName := ⟨nM, "told", "(II)J"⟩
def wsM_told : List Cond := Cond.code yM_told cM_told 3 (some .long) :: gw
abbrev cM_count : ByteArray := prog_7_method_36_code
def yM_count : MethodName := ⟨nM, "count", "(I)I"⟩
def wsM_count : List Cond := Cond.code yM_count cM_count 4 (some .int) :: gw
abbrev cW_law : ByteArray := code
def yW_law : MethodName := ⟨nW, "law", "([I)Z"⟩
theorem kin_W : Cond.initialized "WayGraphLaw" ∈ gw := gw_i (List.mem_of_getElem? (i := 0) (by decide +kernel)) rfl
theorem kin_G : Cond.initialized "WayGraph" ∈ gw := gw_i (List.mem_of_getElem? (i := 1) (by decide +kernel)) rfl
theorem kin_P : Cond.initialized "WayGraph$Pieces" ∈ gw := gw_i (List.mem_of_getElem? (i := 2) (by decide +kernel)) rfl
theorem kin_L : Cond.initialized "WayGraph$LeastWays" ∈ gw := gw_i (List.mem_of_getElem? (i := 3) (by decide +kernel)) rfl
theorem kin_S : Cond.initialized "WayGraph$ShortWays" ∈ gw := gw_i (List.mem_of_getElem? (i := 4) (by decide +kernel)) rfl
theorem kin_R : Cond.initialized "WayGraph$Row" ∈ gw := gw_i (List.mem_of_getElem? (i := 5) (by decide +kernel)) rfl
theorem kin_M : Cond.initialized "WayGraphModel" ∈ gw := gw_i (List.mem_of_getElem? (i := 6) (by decide +kernel)) rfl
theorem kin_Throwable : Cond.initialized "java/lang/Throwable" ∈ gw := gw_i (List.mem_of_getElem? (i := 7) (by decide +kernel)) rfl
theorem kin_Exception : Cond.initialized "java/lang/Exception" ∈ gw := gw_i (List.mem_of_getElem? (i := 8) (by decide +kernel)) rfl
theorem kin_RuntimeException : Cond.initialized "java/lang/RuntimeException" ∈ gw := gw_i (List.mem_of_getElem? (i := 9) (by decide +kernel)) rfl
theorem kin_IllegalArgumentException : Cond.initialized "java/lang/IllegalArgumentException" ∈ gw := gw_i (List.mem_of_getElem? (i := 10) (by decide +kernel)) rfl
theorem kin_UnsupportedOperationException : Cond.initialized "java/lang/UnsupportedOperationException" ∈ gw := gw_i (List.mem_of_getElem? (i := 11) (by decide +kernel)) rfl
theorem kin_ArithmeticException : Cond.initialized "java/lang/ArithmeticException" ∈ gw := gw_i (List.mem_of_getElem? (i := 12) (by decide +kernel)) rfl
theorem kin_JL : Cond.initialized "java/lang/Long" ∈ gw := gw_i (List.mem_of_getElem? (i := 13) (by decide +kernel)) rfl
theorem kin_JM : Cond.initialized "java/lang/Math" ∈ gw := gw_i (List.mem_of_getElem? (i := 14) (by decide +kernel)) rfl
theorem kin_IllegalStateException : Cond.initialized "java/lang/IllegalStateException" ∈ gw := gw_i (List.mem_of_getElem? (i := 15) (by decide +kernel)) rfl
theorem kin_System : Cond.initialized "java/lang/System" ∈ gw := gw_i (List.mem_of_getElem? (i := 16) (by decide +kernel)) rfl
theorem kW_8 : Cond.classLink nW 8 "WayGraph" ∈ gw := gw_i (List.mem_of_getElem? (i := 17) (by decide +kernel)) rfl
theorem knew_G : Cond.instantiable "WayGraph" 11 ∈ gw := gw_i (List.mem_of_getElem? (i := 18) (by decide +kernel)) rfl
theorem kW_70 : Cond.methodLink nW 70 yG_init ∈ gw := gw_i (List.mem_of_getElem? (i := 19) (by decide +kernel)) rfl
theorem ki_G_init : Cond.instanceMethod yG_init ∈ gw := gw_i (List.mem_of_getElem? (i := 20) (by decide +kernel)) rfl
theorem kc_G_init : Cond.code yG_init cG_init 1 none ∈ gw := gw_i (List.mem_of_getElem? (i := 21) (by decide +kernel)) rfl
theorem kG_3 : Cond.methodLink nG 3 ⟨"java/lang/Object", "<init>", "()V"⟩ ∈ gw := gw_i (List.mem_of_getElem? (i := 22) (by decide +kernel)) rfl
theorem ki_obj : Cond.instanceMethod objectInit ∈ gw := gw_i (List.mem_of_getElem? (i := 23) (by decide +kernel)) rfl
theorem kc_obj : Cond.code objectInit ⟨#[0xb1]⟩ 1 none ∈ gw := gw_i (List.mem_of_getElem? (i := 24) (by decide +kernel)) rfl
theorem kG_13 : Cond.classLink nG 13 "WayGraph$Pieces" ∈ gw := gw_i (List.mem_of_getElem? (i := 25) (by decide +kernel)) rfl
theorem knew_P : Cond.instantiable "WayGraph$Pieces" 9 ∈ gw := gw_i (List.mem_of_getElem? (i := 26) (by decide +kernel)) rfl
theorem kG_15 : Cond.methodLink nG 15 yP_init ∈ gw := gw_i (List.mem_of_getElem? (i := 27) (by decide +kernel)) rfl
theorem ki_P_init : Cond.instanceMethod yP_init ∈ gw := gw_i (List.mem_of_getElem? (i := 28) (by decide +kernel)) rfl
theorem kc_P_init : Cond.code yP_init cP_init 1 none ∈ gw := gw_i (List.mem_of_getElem? (i := 29) (by decide +kernel)) rfl
theorem kP_3 : Cond.methodLink nP 3 ⟨"java/lang/Object", "<init>", "()V"⟩ ∈ gw := gw_i (List.mem_of_getElem? (i := 30) (by decide +kernel)) rfl
theorem kP_9 : Cond.fieldLink nP 9 "WayGraph$Pieces" "begins" "[I" ∈ gw := gw_i (List.mem_of_getElem? (i := 31) (by decide +kernel)) rfl
theorem kL_32 : Cond.fieldLink nL 32 "WayGraph$Pieces" "begins" "[I" ∈ gw := gw_i (List.mem_of_getElem? (i := 32) (by decide +kernel)) rfl
theorem kS_72 : Cond.fieldLink nS 72 "WayGraph$Pieces" "begins" "[I" ∈ gw := gw_i (List.mem_of_getElem? (i := 33) (by decide +kernel)) rfl
theorem kG_145 : Cond.fieldLink nG 145 "WayGraph$Pieces" "begins" "[I" ∈ gw := gw_i (List.mem_of_getElem? (i := 34) (by decide +kernel)) rfl
theorem kP_15 : Cond.fieldLink nP 15 "WayGraph$Pieces" "ends" "[I" ∈ gw := gw_i (List.mem_of_getElem? (i := 35) (by decide +kernel)) rfl
theorem kS_49 : Cond.fieldLink nS 49 "WayGraph$Pieces" "ends" "[I" ∈ gw := gw_i (List.mem_of_getElem? (i := 36) (by decide +kernel)) rfl
theorem kL_64 : Cond.fieldLink nL 64 "WayGraph$Pieces" "ends" "[I" ∈ gw := gw_i (List.mem_of_getElem? (i := 37) (by decide +kernel)) rfl
theorem kG_148 : Cond.fieldLink nG 148 "WayGraph$Pieces" "ends" "[I" ∈ gw := gw_i (List.mem_of_getElem? (i := 38) (by decide +kernel)) rfl
theorem kP_18 : Cond.fieldLink nP 18 "WayGraph$Pieces" "seconds" "[J" ∈ gw := gw_i (List.mem_of_getElem? (i := 39) (by decide +kernel)) rfl
theorem kG_232 : Cond.fieldLink nG 232 "WayGraph$Pieces" "seconds" "[J" ∈ gw := gw_i (List.mem_of_getElem? (i := 40) (by decide +kernel)) rfl
theorem kP_22 : Cond.fieldLink nP 22 "WayGraph$Pieces" "widths" "[I" ∈ gw := gw_i (List.mem_of_getElem? (i := 41) (by decide +kernel)) rfl
theorem kG_112 : Cond.fieldLink nG 112 "WayGraph$Pieces" "widths" "[I" ∈ gw := gw_i (List.mem_of_getElem? (i := 42) (by decide +kernel)) rfl
theorem kP_25 : Cond.fieldLink nP 25 "WayGraph$Pieces" "heights" "[J" ∈ gw := gw_i (List.mem_of_getElem? (i := 43) (by decide +kernel)) rfl
theorem kG_115 : Cond.fieldLink nG 115 "WayGraph$Pieces" "heights" "[J" ∈ gw := gw_i (List.mem_of_getElem? (i := 44) (by decide +kernel)) rfl
theorem kP_28 : Cond.fieldLink nP 28 "WayGraph$Pieces" "openHours" "[J" ∈ gw := gw_i (List.mem_of_getElem? (i := 45) (by decide +kernel)) rfl
theorem kG_164 : Cond.fieldLink nG 164 "WayGraph$Pieces" "openHours" "[J" ∈ gw := gw_i (List.mem_of_getElem? (i := 46) (by decide +kernel)) rfl
theorem kP_31 : Cond.fieldLink nP 31 "WayGraph$Pieces" "barredTurns" "[J" ∈ gw := gw_i (List.mem_of_getElem? (i := 47) (by decide +kernel)) rfl
theorem kG_153 : Cond.fieldLink nG 153 "WayGraph$Pieces" "barredTurns" "[J" ∈ gw := gw_i (List.mem_of_getElem? (i := 48) (by decide +kernel)) rfl
theorem kG_131 : Cond.fieldLink nG 131 "WayGraph$Pieces" "closedOnes" "J" ∈ gw := gw_i (List.mem_of_getElem? (i := 49) (by decide +kernel)) rfl
theorem kP_56 : Cond.fieldLink nP 56 "WayGraph$Pieces" "closedOnes" "J" ∈ gw := gw_i (List.mem_of_getElem? (i := 50) (by decide +kernel)) rfl
theorem kP_34 : Cond.fieldLink nP 34 "WayGraph$Pieces" "size" "I" ∈ gw := gw_i (List.mem_of_getElem? (i := 51) (by decide +kernel)) rfl
theorem kL_23 : Cond.fieldLink nL 23 "WayGraph$Pieces" "size" "I" ∈ gw := gw_i (List.mem_of_getElem? (i := 52) (by decide +kernel)) rfl
theorem kS_44 : Cond.fieldLink nS 44 "WayGraph$Pieces" "size" "I" ∈ gw := gw_i (List.mem_of_getElem? (i := 53) (by decide +kernel)) rfl
theorem kG_90 : Cond.fieldLink nG 90 "WayGraph$Pieces" "size" "I" ∈ gw := gw_i (List.mem_of_getElem? (i := 54) (by decide +kernel)) rfl
theorem karr_int : Cond.arrayClass .int ∈ gw := gw_i (List.mem_of_getElem? (i := 74) (by decide +kernel)) rfl
theorem karr_long : Cond.arrayClass .long ∈ gw := gw_i (List.mem_of_getElem? (i := 75) (by decide +kernel)) rfl
theorem kG_30 : Cond.classLink nG 30 "WayGraph$LeastWays" ∈ gw := gw_i (List.mem_of_getElem? (i := 76) (by decide +kernel)) rfl
theorem knew_L : Cond.instantiable "WayGraph$LeastWays" 3 ∈ gw := gw_i (List.mem_of_getElem? (i := 77) (by decide +kernel)) rfl
theorem kG_32 : Cond.methodLink nG 32 yL_init ∈ gw := gw_i (List.mem_of_getElem? (i := 78) (by decide +kernel)) rfl
theorem ki_L_init : Cond.instanceMethod yL_init ∈ gw := gw_i (List.mem_of_getElem? (i := 79) (by decide +kernel)) rfl
theorem kc_L_init : Cond.code yL_init cL_init 1 none ∈ gw := gw_i (List.mem_of_getElem? (i := 80) (by decide +kernel)) rfl
theorem kL_3 : Cond.methodLink nL 3 ⟨"java/lang/Object", "<init>", "()V"⟩ ∈ gw := gw_i (List.mem_of_getElem? (i := 81) (by decide +kernel)) rfl
theorem kL_9 : Cond.fieldLink nL 9 "WayGraph$LeastWays" "reached" "[J" ∈ gw := gw_i (List.mem_of_getElem? (i := 82) (by decide +kernel)) rfl
theorem kG_252 : Cond.fieldLink nG 252 "WayGraph$LeastWays" "reached" "[J" ∈ gw := gw_i (List.mem_of_getElem? (i := 83) (by decide +kernel)) rfl
theorem kL_15 : Cond.fieldLink nL 15 "WayGraph$LeastWays" "start" "I" ∈ gw := gw_i (List.mem_of_getElem? (i := 84) (by decide +kernel)) rfl
theorem kL_19 : Cond.fieldLink nL 19 "WayGraph$LeastWays" "firstMoment" "J" ∈ gw := gw_i (List.mem_of_getElem? (i := 85) (by decide +kernel)) rfl
theorem kG_37 : Cond.classLink nG 37 "WayGraph$ShortWays" ∈ gw := gw_i (List.mem_of_getElem? (i := 93) (by decide +kernel)) rfl
theorem knew_S : Cond.instantiable "WayGraph$ShortWays" 7 ∈ gw := gw_i (List.mem_of_getElem? (i := 94) (by decide +kernel)) rfl
theorem kG_39 : Cond.methodLink nG 39 yS_init ∈ gw := gw_i (List.mem_of_getElem? (i := 95) (by decide +kernel)) rfl
theorem ki_S_init : Cond.instanceMethod yS_init ∈ gw := gw_i (List.mem_of_getElem? (i := 96) (by decide +kernel)) rfl
theorem kc_S_init : Cond.code yS_init cS_init 1 none ∈ gw := gw_i (List.mem_of_getElem? (i := 97) (by decide +kernel)) rfl
theorem kS_3 : Cond.methodLink nS 3 ⟨"java/lang/Object", "<init>", "()V"⟩ ∈ gw := gw_i (List.mem_of_getElem? (i := 98) (by decide +kernel)) rfl
theorem kS_9 : Cond.fieldLink nS 9 "WayGraph$ShortWays" "trail" "[I" ∈ gw := gw_i (List.mem_of_getElem? (i := 99) (by decide +kernel)) rfl
theorem kS_15 : Cond.fieldLink nS 15 "WayGraph$ShortWays" "rankedPieces" "[I" ∈ gw := gw_i (List.mem_of_getElem? (i := 100) (by decide +kernel)) rfl
theorem kS_18 : Cond.fieldLink nS 18 "WayGraph$ShortWays" "rankedLengths" "[I" ∈ gw := gw_i (List.mem_of_getElem? (i := 101) (by decide +kernel)) rfl
theorem kS_21 : Cond.fieldLink nS 21 "WayGraph$ShortWays" "rankedSeconds" "[J" ∈ gw := gw_i (List.mem_of_getElem? (i := 102) (by decide +kernel)) rfl
theorem kG_229 : Cond.fieldLink nG 229 "WayGraph$ShortWays" "rankedSeconds" "[J" ∈ gw := gw_i (List.mem_of_getElem? (i := 103) (by decide +kernel)) rfl
theorem kS_33 : Cond.fieldLink nS 33 "WayGraph$ShortWays" "ranked" "I" ∈ gw := gw_i (List.mem_of_getElem? (i := 104) (by decide +kernel)) rfl
theorem kG_222 : Cond.fieldLink nG 222 "WayGraph$ShortWays" "ranked" "I" ∈ gw := gw_i (List.mem_of_getElem? (i := 105) (by decide +kernel)) rfl
theorem kS_25 : Cond.fieldLink nS 25 "WayGraph$ShortWays" "usable" "J" ∈ gw := gw_i (List.mem_of_getElem? (i := 106) (by decide +kernel)) rfl
theorem kS_29 : Cond.fieldLink nS 29 "WayGraph$ShortWays" "goal" "I" ∈ gw := gw_i (List.mem_of_getElem? (i := 107) (by decide +kernel)) rfl
theorem kG_44 : Cond.classLink nG 44 "WayGraph$Row" ∈ gw := gw_i (List.mem_of_getElem? (i := 123) (by decide +kernel)) rfl
theorem knew_R : Cond.instantiable "WayGraph$Row" 2 ∈ gw := gw_i (List.mem_of_getElem? (i := 124) (by decide +kernel)) rfl
theorem kG_46 : Cond.methodLink nG 46 yR_init ∈ gw := gw_i (List.mem_of_getElem? (i := 125) (by decide +kernel)) rfl
theorem ki_R_init : Cond.instanceMethod yR_init ∈ gw := gw_i (List.mem_of_getElem? (i := 126) (by decide +kernel)) rfl
theorem kc_R_init : Cond.code yR_init cR_init 1 none ∈ gw := gw_i (List.mem_of_getElem? (i := 127) (by decide +kernel)) rfl
theorem kR_3 : Cond.methodLink nR 3 ⟨"java/lang/Object", "<init>", "()V"⟩ ∈ gw := gw_i (List.mem_of_getElem? (i := 128) (by decide +kernel)) rfl
theorem kR_9 : Cond.fieldLink nR 9 "WayGraph$Row" "numbers" "[I" ∈ gw := gw_i (List.mem_of_getElem? (i := 129) (by decide +kernel)) rfl
theorem kR_15 : Cond.fieldLink nR 15 "WayGraph$Row" "length" "I" ∈ gw := gw_i (List.mem_of_getElem? (i := 130) (by decide +kernel)) rfl
theorem kG_9 : Cond.fieldLink nG 9 "WayGraph" "levels" "[I" ∈ gw := gw_i (List.mem_of_getElem? (i := 136) (by decide +kernel)) rfl
theorem kG_64 : Cond.fieldLink nG 64 "WayGraph" "placeCount" "I" ∈ gw := gw_i (List.mem_of_getElem? (i := 137) (by decide +kernel)) rfl
theorem kG_16 : Cond.fieldLink nG 16 "WayGraph" "pieces" "LWayGraph$Pieces;" ∈ gw := gw_i (List.mem_of_getElem? (i := 138) (by decide +kernel)) rfl
theorem kG_20 : Cond.fieldLink nG 20 "WayGraph" "moverWidths" "[I" ∈ gw := gw_i (List.mem_of_getElem? (i := 139) (by decide +kernel)) rfl
theorem kG_23 : Cond.fieldLink nG 23 "WayGraph" "moverHeights" "[J" ∈ gw := gw_i (List.mem_of_getElem? (i := 140) (by decide +kernel)) rfl
theorem kG_120 : Cond.fieldLink nG 120 "WayGraph" "moverCount" "I" ∈ gw := gw_i (List.mem_of_getElem? (i := 141) (by decide +kernel)) rfl
theorem kG_27 : Cond.fieldLink nG 27 "WayGraph" "markedPlaces" "[I" ∈ gw := gw_i (List.mem_of_getElem? (i := 142) (by decide +kernel)) rfl
theorem kG_201 : Cond.fieldLink nG 201 "WayGraph" "markCount" "I" ∈ gw := gw_i (List.mem_of_getElem? (i := 143) (by decide +kernel)) rfl
theorem kG_33 : Cond.fieldLink nG 33 "WayGraph" "leastWays" "LWayGraph$LeastWays;" ∈ gw := gw_i (List.mem_of_getElem? (i := 144) (by decide +kernel)) rfl
theorem kG_40 : Cond.fieldLink nG 40 "WayGraph" "shortWays" "LWayGraph$ShortWays;" ∈ gw := gw_i (List.mem_of_getElem? (i := 145) (by decide +kernel)) rfl
theorem kG_47 : Cond.fieldLink nG 47 "WayGraph" "lastTold" "LWayGraph$Row;" ∈ gw := gw_i (List.mem_of_getElem? (i := 146) (by decide +kernel)) rfl
theorem kW_117 : Cond.methodLink nW 117 yG_step ∈ gw := gw_i (List.mem_of_getElem? (i := 170) (by decide +kernel)) rfl
theorem ki_G_step : Cond.instanceMethod yG_step ∈ gw := gw_i (List.mem_of_getElem? (i := 171) (by decide +kernel)) rfl
theorem ksel_G_step : Cond.selects nG yG_step yG_step ∈ gw := gw_i (List.mem_of_getElem? (i := 172) (by decide +kernel)) rfl
theorem kc_G_step : Cond.code yG_step cG_step 2 (some .int) ∈ gw := gw_i (List.mem_of_getElem? (i := 173) (by decide +kernel)) rfl
theorem kG_185 : Cond.methodLink nG 185 yR_at ∈ gw := gw_i (List.mem_of_getElem? (i := 174) (by decide +kernel)) rfl
theorem ki_R_at : Cond.instanceMethod yR_at ∈ gw := gw_i (List.mem_of_getElem? (i := 175) (by decide +kernel)) rfl
theorem ksel_R_at : Cond.selects nR yR_at yR_at ∈ gw := gw_i (List.mem_of_getElem? (i := 176) (by decide +kernel)) rfl
theorem kc_R_at : Cond.code yR_at cR_at 2 (some .int) ∈ gw := gw_i (List.mem_of_getElem? (i := 177) (by decide +kernel)) rfl
theorem kW_138 : Cond.methodLink nW 138 yG_count ∈ gw := gw_i (List.mem_of_getElem? (i := 178) (by decide +kernel)) rfl
theorem ki_G_count : Cond.instanceMethod yG_count ∈ gw := gw_i (List.mem_of_getElem? (i := 179) (by decide +kernel)) rfl
theorem ksel_G_count : Cond.selects nG yG_count yG_count ∈ gw := gw_i (List.mem_of_getElem? (i := 180) (by decide +kernel)) rfl
theorem kc_G_count : Cond.code yG_count cG_count 2 (some .int) ∈ gw := gw_i (List.mem_of_getElem? (i := 181) (by decide +kernel)) rfl
theorem kG_241 : Cond.methodLink nG 241 yP_countBarredTurns ∈ gw := gw_i (List.mem_of_getElem? (i := 182) (by decide +kernel)) rfl
theorem ki_P_countBarredTurns : Cond.instanceMethod yP_countBarredTurns ∈ gw := gw_i (List.mem_of_getElem? (i := 183) (by decide +kernel)) rfl
theorem ksel_P_countBarredTurns : Cond.selects nP yP_countBarredTurns yP_countBarredTurns ∈ gw := gw_i (List.mem_of_getElem? (i := 184) (by decide +kernel)) rfl
theorem kc_P_countBarredTurns : Cond.code yP_countBarredTurns cP_countBarredTurns 3 (some .int) ∈ gw := gw_i (List.mem_of_getElem? (i := 185) (by decide +kernel)) rfl
theorem kP_46 : Cond.methodLink nP 46 yJL_bitCount ∈ gw := gw_i (List.mem_of_getElem? (i := 186) (by decide +kernel)) rfl
theorem ks_JL_bitCount : Cond.static yJL_bitCount ∈ gw := gw_i (List.mem_of_getElem? (i := 187) (by decide +kernel)) rfl
theorem kc_JL_bitCount : Cond.code yJL_bitCount cJL_bitCount 2 (some .int) ∈ gw := gw_i (List.mem_of_getElem? (i := 188) (by decide +kernel)) rfl
theorem kJL_314 : Cond.constantLong nJL 314 (6148914691236517205) ∈ gw := gw_i (List.mem_of_getElem? (i := 189) (by decide +kernel)) rfl
theorem kJL_316 : Cond.constantLong nJL 316 (3689348814741910323) ∈ gw := gw_i (List.mem_of_getElem? (i := 190) (by decide +kernel)) rfl
theorem kJL_318 : Cond.constantLong nJL 318 (1085102592571150095) ∈ gw := gw_i (List.mem_of_getElem? (i := 191) (by decide +kernel)) rfl
theorem kW_74 : Cond.methodLink nW 74 yW_place ∈ gw := gw_i (List.mem_of_getElem? (i := 192) (by decide +kernel)) rfl
theorem ks_W_place : Cond.static yW_place ∈ gw := gw_i (List.mem_of_getElem? (i := 193) (by decide +kernel)) rfl
theorem kc_W_place : Cond.codeWith yW_place cW_place 4 (some .int) [(0, 9, 12, 13), (0, 9, 15, 15)] ∈ gw := gw_i (List.mem_of_getElem? (i := 194) (by decide +kernel)) rfl
theorem kW_13 : Cond.classLink nW 13 "java/lang/IllegalArgumentException" ∈ gw := gw_i (List.mem_of_getElem? (i := 195) (by decide +kernel)) rfl
theorem kW_15 : Cond.classLink nW 15 "java/lang/UnsupportedOperationException" ∈ gw := gw_i (List.mem_of_getElem? (i := 196) (by decide +kernel)) rfl
theorem kW_7 : Cond.methodLink nW 7 yG_place ∈ gw := gw_i (List.mem_of_getElem? (i := 197) (by decide +kernel)) rfl
theorem ki_G_place : Cond.instanceMethod yG_place ∈ gw := gw_i (List.mem_of_getElem? (i := 198) (by decide +kernel)) rfl
theorem ksel_G_place : Cond.selects nG yG_place yG_place ∈ gw := gw_i (List.mem_of_getElem? (i := 199) (by decide +kernel)) rfl
theorem kc_G_place : Cond.code yG_place cG_place 2 (some .int) ∈ gw := gw_i (List.mem_of_getElem? (i := 200) (by decide +kernel)) rfl
theorem kG_51 : Cond.constantLong nG 51 (9) ∈ gw := gw_i (List.mem_of_getElem? (i := 201) (by decide +kernel)) rfl
theorem kG_53 : Cond.methodLink nG 53 yG_within ∈ gw := gw_i (List.mem_of_getElem? (i := 202) (by decide +kernel)) rfl
theorem ks_G_within : Cond.static yG_within ∈ gw := gw_i (List.mem_of_getElem? (i := 203) (by decide +kernel)) rfl
theorem kc_G_within : Cond.code yG_within cG_within 6 (some .boolean) ∈ gw := gw_i (List.mem_of_getElem? (i := 204) (by decide +kernel)) rfl
theorem kG_57 : Cond.classLink nG 57 "java/lang/IllegalArgumentException" ∈ gw := gw_i (List.mem_of_getElem? (i := 205) (by decide +kernel)) rfl
theorem kG_61 : Cond.methodLink nG 61 ⟨"java/lang/IllegalArgumentException", "<init>", "(Ljava/lang/String;)V"⟩ ∈ gw := gw_i (List.mem_of_getElem? (i := 248) (by decide +kernel)) rfl
theorem karr_byte : Cond.arrayClass .byte ∈ gw := gw_i (List.mem_of_getElem? (i := 273) (by decide +kernel)) rfl
theorem kG_68 : Cond.classLink nG 68 "java/lang/UnsupportedOperationException" ∈ gw := gw_i (List.mem_of_getElem? (i := 274) (by decide +kernel)) rfl
theorem kG_72 : Cond.methodLink nG 72 ⟨"java/lang/UnsupportedOperationException", "<init>", "(Ljava/lang/String;)V"⟩ ∈ gw := gw_i (List.mem_of_getElem? (i := 284) (by decide +kernel)) rfl
theorem kW_86 : Cond.methodLink nW 86 yW_piece ∈ gw := gw_i (List.mem_of_getElem? (i := 290) (by decide +kernel)) rfl
theorem ks_W_piece : Cond.static yW_piece ∈ gw := gw_i (List.mem_of_getElem? (i := 291) (by decide +kernel)) rfl
theorem kc_W_piece : Cond.codeWith yW_piece cW_piece 9 (some .int) [(0, 14, 17, 13), (0, 14, 21, 21), (0, 14, 25, 15)] ∈ gw := gw_i (List.mem_of_getElem? (i := 292) (by decide +kernel)) rfl
theorem kW_21 : Cond.classLink nW 21 "java/lang/ArithmeticException" ∈ gw := gw_i (List.mem_of_getElem? (i := 293) (by decide +kernel)) rfl
theorem kW_17 : Cond.methodLink nW 17 yG_piece ∈ gw := gw_i (List.mem_of_getElem? (i := 294) (by decide +kernel)) rfl
theorem ki_G_piece : Cond.instanceMethod yG_piece ∈ gw := gw_i (List.mem_of_getElem? (i := 295) (by decide +kernel)) rfl
theorem ksel_G_piece : Cond.selects nG yG_piece yG_piece ∈ gw := gw_i (List.mem_of_getElem? (i := 296) (by decide +kernel)) rfl
theorem kc_G_piece : Cond.code yG_piece cG_piece 7 (some .int) ∈ gw := gw_i (List.mem_of_getElem? (i := 297) (by decide +kernel)) rfl
theorem kG_73 : Cond.methodLink nG 73 yG_hasPlace ∈ gw := gw_i (List.mem_of_getElem? (i := 298) (by decide +kernel)) rfl
theorem ki_G_hasPlace : Cond.instanceMethod yG_hasPlace ∈ gw := gw_i (List.mem_of_getElem? (i := 300) (by decide +kernel)) rfl
theorem kc_G_hasPlace : Cond.code yG_hasPlace cG_hasPlace 2 (some .boolean) ∈ gw := gw_i (List.mem_of_getElem? (i := 301) (by decide +kernel)) rfl
theorem kG_79 : Cond.constantLong nG 79 (10000000) ∈ gw := gw_i (List.mem_of_getElem? (i := 303) (by decide +kernel)) rfl
theorem kG_81 : Cond.constantLong nG 81 (10000) ∈ gw := gw_i (List.mem_of_getElem? (i := 304) (by decide +kernel)) rfl
theorem kG_85 : Cond.classLink nG 85 "java/lang/ArithmeticException" ∈ gw := gw_i (List.mem_of_getElem? (i := 306) (by decide +kernel)) rfl
theorem kG_89 : Cond.methodLink nG 89 ⟨"java/lang/ArithmeticException", "<init>", "(Ljava/lang/String;)V"⟩ ∈ gw := gw_i (List.mem_of_getElem? (i := 316) (by decide +kernel)) rfl
theorem kG_95 : Cond.methodLink nG 95 yP_add ∈ gw := gw_i (List.mem_of_getElem? (i := 323) (by decide +kernel)) rfl
theorem ki_P_add : Cond.instanceMethod yP_add ∈ gw := gw_i (List.mem_of_getElem? (i := 324) (by decide +kernel)) rfl
theorem ksel_P_add : Cond.selects nP yP_add yP_add ∈ gw := gw_i (List.mem_of_getElem? (i := 325) (by decide +kernel)) rfl
theorem kc_P_add : Cond.code yP_add cP_add 5 (some .int) ∈ gw := gw_i (List.mem_of_getElem? (i := 326) (by decide +kernel)) rfl
theorem kP_38 : Cond.constantLong nP 38 (3000) ∈ gw := gw_i (List.mem_of_getElem? (i := 327) (by decide +kernel)) rfl
theorem kP_40 : Cond.constantLong nP 40 (16777215) ∈ gw := gw_i (List.mem_of_getElem? (i := 328) (by decide +kernel)) rfl
theorem kW_90 : Cond.methodLink nW 90 yW_lift ∈ gw := gw_i (List.mem_of_getElem? (i := 329) (by decide +kernel)) rfl
theorem ks_W_lift : Cond.static yW_lift ∈ gw := gw_i (List.mem_of_getElem? (i := 330) (by decide +kernel)) rfl
theorem kc_W_lift : Cond.codeWith yW_lift cW_lift 7 (some .int) [(0, 12, 15, 13), (0, 12, 19, 15)] ∈ gw := gw_i (List.mem_of_getElem? (i := 331) (by decide +kernel)) rfl
theorem kW_23 : Cond.methodLink nW 23 yG_lift ∈ gw := gw_i (List.mem_of_getElem? (i := 332) (by decide +kernel)) rfl
theorem ki_G_lift : Cond.instanceMethod yG_lift ∈ gw := gw_i (List.mem_of_getElem? (i := 333) (by decide +kernel)) rfl
theorem ksel_G_lift : Cond.selects nG yG_lift yG_lift ∈ gw := gw_i (List.mem_of_getElem? (i := 334) (by decide +kernel)) rfl
theorem kc_G_lift : Cond.code yG_lift cG_lift 6 (some .int) ∈ gw := gw_i (List.mem_of_getElem? (i := 335) (by decide +kernel)) rfl
theorem kW_94 : Cond.methodLink nW 94 yW_limit ∈ gw := gw_i (List.mem_of_getElem? (i := 338) (by decide +kernel)) rfl
theorem ks_W_limit : Cond.static yW_limit ∈ gw := gw_i (List.mem_of_getElem? (i := 339) (by decide +kernel)) rfl
theorem kc_W_limit : Cond.codeWith yW_limit cW_limit 6 (some .int) [(0, 7, 10, 13)] ∈ gw := gw_i (List.mem_of_getElem? (i := 340) (by decide +kernel)) rfl
theorem kW_27 : Cond.methodLink nW 27 yG_limit ∈ gw := gw_i (List.mem_of_getElem? (i := 341) (by decide +kernel)) rfl
theorem ki_G_limit : Cond.instanceMethod yG_limit ∈ gw := gw_i (List.mem_of_getElem? (i := 342) (by decide +kernel)) rfl
theorem ksel_G_limit : Cond.selects nG yG_limit yG_limit ∈ gw := gw_i (List.mem_of_getElem? (i := 343) (by decide +kernel)) rfl
theorem kc_G_limit : Cond.code yG_limit cG_limit 5 none ∈ gw := gw_i (List.mem_of_getElem? (i := 344) (by decide +kernel)) rfl
theorem kG_103 : Cond.methodLink nG 103 yP_has ∈ gw := gw_i (List.mem_of_getElem? (i := 345) (by decide +kernel)) rfl
theorem ki_P_has : Cond.instanceMethod yP_has ∈ gw := gw_i (List.mem_of_getElem? (i := 346) (by decide +kernel)) rfl
theorem ksel_P_has : Cond.selects nP yP_has yP_has ∈ gw := gw_i (List.mem_of_getElem? (i := 347) (by decide +kernel)) rfl
theorem kc_P_has : Cond.code yP_has cP_has 2 (some .boolean) ∈ gw := gw_i (List.mem_of_getElem? (i := 348) (by decide +kernel)) rfl
theorem kG_106 : Cond.methodLink nG 106 yG_isSize ∈ gw := gw_i (List.mem_of_getElem? (i := 349) (by decide +kernel)) rfl
theorem ks_G_isSize : Cond.static yG_isSize ∈ gw := gw_i (List.mem_of_getElem? (i := 350) (by decide +kernel)) rfl
theorem kc_G_isSize : Cond.code yG_isSize cG_isSize 4 (some .boolean) ∈ gw := gw_i (List.mem_of_getElem? (i := 351) (by decide +kernel)) rfl
theorem kW_98 : Cond.methodLink nW 98 yW_mover ∈ gw := gw_i (List.mem_of_getElem? (i := 353) (by decide +kernel)) rfl
theorem ks_W_mover : Cond.static yW_mover ∈ gw := gw_i (List.mem_of_getElem? (i := 354) (by decide +kernel)) rfl
theorem kc_W_mover : Cond.codeWith yW_mover cW_mover 6 (some .int) [(0, 11, 14, 13), (0, 11, 18, 15)] ∈ gw := gw_i (List.mem_of_getElem? (i := 355) (by decide +kernel)) rfl
theorem kW_31 : Cond.methodLink nW 31 yG_mover ∈ gw := gw_i (List.mem_of_getElem? (i := 356) (by decide +kernel)) rfl
theorem ki_G_mover : Cond.instanceMethod yG_mover ∈ gw := gw_i (List.mem_of_getElem? (i := 357) (by decide +kernel)) rfl
theorem ksel_G_mover : Cond.selects nG yG_mover yG_mover ∈ gw := gw_i (List.mem_of_getElem? (i := 358) (by decide +kernel)) rfl
theorem kc_G_mover : Cond.code yG_mover cG_mover 4 (some .int) ∈ gw := gw_i (List.mem_of_getElem? (i := 359) (by decide +kernel)) rfl
theorem kG_125 : Cond.methodLink nG 125 yP_anyFits ∈ gw := gw_i (List.mem_of_getElem? (i := 362) (by decide +kernel)) rfl
theorem ki_P_anyFits : Cond.instanceMethod yP_anyFits ∈ gw := gw_i (List.mem_of_getElem? (i := 363) (by decide +kernel)) rfl
theorem ksel_P_anyFits : Cond.selects nP yP_anyFits yP_anyFits ∈ gw := gw_i (List.mem_of_getElem? (i := 364) (by decide +kernel)) rfl
theorem kc_P_anyFits : Cond.code yP_anyFits cP_anyFits 5 (some .boolean) ∈ gw := gw_i (List.mem_of_getElem? (i := 365) (by decide +kernel)) rfl
theorem kP_52 : Cond.methodLink nP 52 yP_fits ∈ gw := gw_i (List.mem_of_getElem? (i := 366) (by decide +kernel)) rfl
theorem ki_P_fits : Cond.instanceMethod yP_fits ∈ gw := gw_i (List.mem_of_getElem? (i := 367) (by decide +kernel)) rfl
theorem ksel_P_fits : Cond.selects nP yP_fits yP_fits ∈ gw := gw_i (List.mem_of_getElem? (i := 368) (by decide +kernel)) rfl
theorem kc_P_fits : Cond.code yP_fits cP_fits 5 (some .boolean) ∈ gw := gw_i (List.mem_of_getElem? (i := 369) (by decide +kernel)) rfl
theorem kW_102 : Cond.methodLink nW 102 yW_closed ∈ gw := gw_i (List.mem_of_getElem? (i := 370) (by decide +kernel)) rfl
theorem ks_W_closed : Cond.static yW_closed ∈ gw := gw_i (List.mem_of_getElem? (i := 371) (by decide +kernel)) rfl
theorem kc_W_closed : Cond.codeWith yW_closed cW_closed 5 (some .int) [(0, 10, 13, 13)] ∈ gw := gw_i (List.mem_of_getElem? (i := 372) (by decide +kernel)) rfl
theorem kW_35 : Cond.methodLink nW 35 yG_closed ∈ gw := gw_i (List.mem_of_getElem? (i := 373) (by decide +kernel)) rfl
theorem ki_G_closed : Cond.instanceMethod yG_closed ∈ gw := gw_i (List.mem_of_getElem? (i := 374) (by decide +kernel)) rfl
theorem ksel_G_closed : Cond.selects nG yG_closed yG_closed ∈ gw := gw_i (List.mem_of_getElem? (i := 375) (by decide +kernel)) rfl
theorem kc_G_closed : Cond.code yG_closed cG_closed 3 (some .int) ∈ gw := gw_i (List.mem_of_getElem? (i := 376) (by decide +kernel)) rfl
theorem kG_135 : Cond.methodLink nG 135 yG_withBit ∈ gw := gw_i (List.mem_of_getElem? (i := 378) (by decide +kernel)) rfl
theorem ks_G_withBit : Cond.static yG_withBit ∈ gw := gw_i (List.mem_of_getElem? (i := 379) (by decide +kernel)) rfl
theorem kc_G_withBit : Cond.code yG_withBit cG_withBit 6 (some .long) ∈ gw := gw_i (List.mem_of_getElem? (i := 380) (by decide +kernel)) rfl
theorem kG_179 : Cond.constantLong nG 179 (-1) ∈ gw := gw_i (List.mem_of_getElem? (i := 381) (by decide +kernel)) rfl
theorem kG_139 : Cond.methodLink nG 139 yJL_bitCount ∈ gw := gw_i (List.mem_of_getElem? (i := 382) (by decide +kernel)) rfl
theorem kW_106 : Cond.methodLink nW 106 yW_turn ∈ gw := gw_i (List.mem_of_getElem? (i := 383) (by decide +kernel)) rfl
theorem ks_W_turn : Cond.static yW_turn ∈ gw := gw_i (List.mem_of_getElem? (i := 384) (by decide +kernel)) rfl
theorem kc_W_turn : Cond.codeWith yW_turn cW_turn 6 (some .int) [(0, 12, 15, 13)] ∈ gw := gw_i (List.mem_of_getElem? (i := 385) (by decide +kernel)) rfl
theorem kW_39 : Cond.methodLink nW 39 yG_turn ∈ gw := gw_i (List.mem_of_getElem? (i := 386) (by decide +kernel)) rfl
theorem ki_G_turn : Cond.instanceMethod yG_turn ∈ gw := gw_i (List.mem_of_getElem? (i := 387) (by decide +kernel)) rfl
theorem ksel_G_turn : Cond.selects nG yG_turn yG_turn ∈ gw := gw_i (List.mem_of_getElem? (i := 388) (by decide +kernel)) rfl
theorem kc_G_turn : Cond.code yG_turn cG_turn 5 (some .int) ∈ gw := gw_i (List.mem_of_getElem? (i := 389) (by decide +kernel)) rfl
theorem kG_156 : Cond.methodLink nG 156 yP_isBarred ∈ gw := gw_i (List.mem_of_getElem? (i := 391) (by decide +kernel)) rfl
theorem ki_P_isBarred : Cond.instanceMethod yP_isBarred ∈ gw := gw_i (List.mem_of_getElem? (i := 392) (by decide +kernel)) rfl
theorem ksel_P_isBarred : Cond.selects nP yP_isBarred yP_isBarred ∈ gw := gw_i (List.mem_of_getElem? (i := 393) (by decide +kernel)) rfl
theorem kc_P_isBarred : Cond.code yP_isBarred cP_isBarred 3 (some .boolean) ∈ gw := gw_i (List.mem_of_getElem? (i := 394) (by decide +kernel)) rfl
theorem ks_G_hasBit : Cond.static yG_hasBit ∈ gw := gw_i (List.mem_of_getElem? (i := 396) (by decide +kernel)) rfl
theorem kc_G_hasBit : Cond.code yG_hasBit cG_hasBit 3 (some .boolean) ∈ gw := gw_i (List.mem_of_getElem? (i := 397) (by decide +kernel)) rfl
theorem kW_110 : Cond.methodLink nW 110 yW_door ∈ gw := gw_i (List.mem_of_getElem? (i := 398) (by decide +kernel)) rfl
theorem ks_W_door : Cond.static yW_door ∈ gw := gw_i (List.mem_of_getElem? (i := 399) (by decide +kernel)) rfl
theorem kc_W_door : Cond.codeWith yW_door cW_door 6 (some .int) [(0, 12, 15, 13)] ∈ gw := gw_i (List.mem_of_getElem? (i := 400) (by decide +kernel)) rfl
theorem kW_43 : Cond.methodLink nW 43 yG_door ∈ gw := gw_i (List.mem_of_getElem? (i := 401) (by decide +kernel)) rfl
theorem ki_G_door : Cond.instanceMethod yG_door ∈ gw := gw_i (List.mem_of_getElem? (i := 402) (by decide +kernel)) rfl
theorem ksel_G_door : Cond.selects nG yG_door yG_door ∈ gw := gw_i (List.mem_of_getElem? (i := 403) (by decide +kernel)) rfl
theorem kc_G_door : Cond.code yG_door cG_door 4 (some .int) ∈ gw := gw_i (List.mem_of_getElem? (i := 404) (by decide +kernel)) rfl
theorem kG_160 : Cond.constantLong nG 160 (23) ∈ gw := gw_i (List.mem_of_getElem? (i := 405) (by decide +kernel)) rfl
theorem kW_113 : Cond.methodLink nW 113 yW_way ∈ gw := gw_i (List.mem_of_getElem? (i := 407) (by decide +kernel)) rfl
theorem ks_W_way : Cond.static yW_way ∈ gw := gw_i (List.mem_of_getElem? (i := 408) (by decide +kernel)) rfl
theorem kc_W_way : Cond.codeWith yW_way cW_way 8 (some .int) [(0, 13, 16, 13)] ∈ gw := gw_i (List.mem_of_getElem? (i := 409) (by decide +kernel)) rfl
theorem kW_46 : Cond.methodLink nW 46 yG_way ∈ gw := gw_i (List.mem_of_getElem? (i := 410) (by decide +kernel)) rfl
theorem ki_G_way : Cond.instanceMethod yG_way ∈ gw := gw_i (List.mem_of_getElem? (i := 411) (by decide +kernel)) rfl
theorem ksel_G_way : Cond.selects nG yG_way yG_way ∈ gw := gw_i (List.mem_of_getElem? (i := 412) (by decide +kernel)) rfl
theorem kc_G_way : Cond.code yG_way cG_way 8 (some .long) ∈ gw := gw_i (List.mem_of_getElem? (i := 413) (by decide +kernel)) rfl
theorem kG_167 : Cond.methodLink nG 167 yG_hasMover ∈ gw := gw_i (List.mem_of_getElem? (i := 414) (by decide +kernel)) rfl
theorem ki_G_hasMover : Cond.instanceMethod yG_hasMover ∈ gw := gw_i (List.mem_of_getElem? (i := 416) (by decide +kernel)) rfl
theorem kc_G_hasMover : Cond.code yG_hasMover cG_hasMover 2 (some .boolean) ∈ gw := gw_i (List.mem_of_getElem? (i := 417) (by decide +kernel)) rfl
theorem kG_172 : Cond.methodLink nG 172 yG_leastSeconds ∈ gw := gw_i (List.mem_of_getElem? (i := 419) (by decide +kernel)) rfl
theorem ki_G_leastSeconds : Cond.instanceMethod yG_leastSeconds ∈ gw := gw_i (List.mem_of_getElem? (i := 421) (by decide +kernel)) rfl
theorem kc_G_leastSeconds : Cond.code yG_leastSeconds cG_leastSeconds 9 (some .long) ∈ gw := gw_i (List.mem_of_getElem? (i := 422) (by decide +kernel)) rfl
theorem kG_214 : Cond.methodLink nG 214 yP_usableBy ∈ gw := gw_i (List.mem_of_getElem? (i := 423) (by decide +kernel)) rfl
theorem ki_P_usableBy : Cond.instanceMethod yP_usableBy ∈ gw := gw_i (List.mem_of_getElem? (i := 424) (by decide +kernel)) rfl
theorem ksel_P_usableBy : Cond.selects nP yP_usableBy yP_usableBy ∈ gw := gw_i (List.mem_of_getElem? (i := 425) (by decide +kernel)) rfl
theorem kc_P_usableBy : Cond.code yP_usableBy cP_usableBy 8 (some .long) ∈ gw := gw_i (List.mem_of_getElem? (i := 426) (by decide +kernel)) rfl
theorem kG_245 : Cond.methodLink nG 245 yL_search ∈ gw := gw_i (List.mem_of_getElem? (i := 428) (by decide +kernel)) rfl
theorem ki_L_search : Cond.instanceMethod yL_search ∈ gw := gw_i (List.mem_of_getElem? (i := 429) (by decide +kernel)) rfl
theorem ksel_L_search : Cond.selects nL yL_search yL_search ∈ gw := gw_i (List.mem_of_getElem? (i := 430) (by decide +kernel)) rfl
theorem kc_L_search : Cond.code yL_search cL_search 11 none ∈ gw := gw_i (List.mem_of_getElem? (i := 431) (by decide +kernel)) rfl
theorem kL_36 : Cond.methodLink nL 36 yP_endWhenUsedFrom ∈ gw := gw_i (List.mem_of_getElem? (i := 433) (by decide +kernel)) rfl
theorem ki_P_endWhenUsedFrom : Cond.instanceMethod yP_endWhenUsedFrom ∈ gw := gw_i (List.mem_of_getElem? (i := 434) (by decide +kernel)) rfl
theorem ksel_P_endWhenUsedFrom : Cond.selects nP yP_endWhenUsedFrom yP_endWhenUsedFrom ∈ gw := gw_i (List.mem_of_getElem? (i := 435) (by decide +kernel)) rfl
theorem kc_P_endWhenUsedFrom : Cond.code yP_endWhenUsedFrom cP_endWhenUsedFrom 8 (some .long) ∈ gw := gw_i (List.mem_of_getElem? (i := 436) (by decide +kernel)) rfl
theorem kP_68 : Cond.constantLong nP 68 (3600) ∈ gw := gw_i (List.mem_of_getElem? (i := 437) (by decide +kernel)) rfl
theorem kP_70 : Cond.constantLong nP 70 (24) ∈ gw := gw_i (List.mem_of_getElem? (i := 438) (by decide +kernel)) rfl
theorem kP_72 : Cond.methodLink nP 72 yJM_max_J ∈ gw := gw_i (List.mem_of_getElem? (i := 439) (by decide +kernel)) rfl
theorem ks_JM_max_J : Cond.static yJM_max_J ∈ gw := gw_i (List.mem_of_getElem? (i := 440) (by decide +kernel)) rfl
theorem kc_JM_max_J : Cond.code yJM_max_J cJM_max_J 4 (some .long) ∈ gw := gw_i (List.mem_of_getElem? (i := 441) (by decide +kernel)) rfl
theorem kP_78 : Cond.constantLong nP 78 (1152921504606846976) ∈ gw := gw_i (List.mem_of_getElem? (i := 442) (by decide +kernel)) rfl
theorem kL_40 : Cond.constantLong nL 40 (1152921504606846976) ∈ gw := gw_i (List.mem_of_getElem? (i := 443) (by decide +kernel)) rfl
theorem kL_42 : Cond.methodLink nL 42 yL_earliestOf ∈ gw := gw_i (List.mem_of_getElem? (i := 444) (by decide +kernel)) rfl
theorem ki_L_earliestOf : Cond.instanceMethod yL_earliestOf ∈ gw := gw_i (List.mem_of_getElem? (i := 446) (by decide +kernel)) rfl
theorem kc_L_earliestOf : Cond.code yL_earliestOf cL_earliestOf 8 (some .int) ∈ gw := gw_i (List.mem_of_getElem? (i := 447) (by decide +kernel)) rfl
theorem kL_50 : Cond.methodLink nL 50 yL_goOnFrom ∈ gw := gw_i (List.mem_of_getElem? (i := 449) (by decide +kernel)) rfl
theorem ki_L_goOnFrom : Cond.instanceMethod yL_goOnFrom ∈ gw := gw_i (List.mem_of_getElem? (i := 451) (by decide +kernel)) rfl
theorem kc_L_goOnFrom : Cond.code yL_goOnFrom cL_goOnFrom 8 none ∈ gw := gw_i (List.mem_of_getElem? (i := 452) (by decide +kernel)) rfl
theorem kL_54 : Cond.methodLink nL 54 yP_canFollow ∈ gw := gw_i (List.mem_of_getElem? (i := 453) (by decide +kernel)) rfl
theorem ki_P_canFollow : Cond.instanceMethod yP_canFollow ∈ gw := gw_i (List.mem_of_getElem? (i := 454) (by decide +kernel)) rfl
theorem ksel_P_canFollow : Cond.selects nP yP_canFollow yP_canFollow ∈ gw := gw_i (List.mem_of_getElem? (i := 455) (by decide +kernel)) rfl
theorem kc_P_canFollow : Cond.code yP_canFollow cP_canFollow 3 (some .boolean) ∈ gw := gw_i (List.mem_of_getElem? (i := 456) (by decide +kernel)) rfl
theorem kP_64 : Cond.methodLink nP 64 yP_isBarred ∈ gw := gw_i (List.mem_of_getElem? (i := 457) (by decide +kernel)) rfl
theorem kL_58 : Cond.methodLink nL 58 yJM_min_J ∈ gw := gw_i (List.mem_of_getElem? (i := 458) (by decide +kernel)) rfl
theorem ks_JM_min_J : Cond.static yJM_min_J ∈ gw := gw_i (List.mem_of_getElem? (i := 459) (by decide +kernel)) rfl
theorem kc_JM_min_J : Cond.code yJM_min_J cJM_min_J 4 (some .long) ∈ gw := gw_i (List.mem_of_getElem? (i := 460) (by decide +kernel)) rfl
theorem kG_248 : Cond.methodLink nG 248 yL_lastPieceTo ∈ gw := gw_i (List.mem_of_getElem? (i := 461) (by decide +kernel)) rfl
theorem ki_L_lastPieceTo : Cond.instanceMethod yL_lastPieceTo ∈ gw := gw_i (List.mem_of_getElem? (i := 462) (by decide +kernel)) rfl
theorem ksel_L_lastPieceTo : Cond.selects nL yL_lastPieceTo yL_lastPieceTo ∈ gw := gw_i (List.mem_of_getElem? (i := 463) (by decide +kernel)) rfl
theorem kc_L_lastPieceTo : Cond.code yL_lastPieceTo cL_lastPieceTo 7 (some .int) ∈ gw := gw_i (List.mem_of_getElem? (i := 464) (by decide +kernel)) rfl
theorem kG_176 : Cond.methodLink nG 176 yR_clear ∈ gw := gw_i (List.mem_of_getElem? (i := 465) (by decide +kernel)) rfl
theorem ki_R_clear : Cond.instanceMethod yR_clear ∈ gw := gw_i (List.mem_of_getElem? (i := 466) (by decide +kernel)) rfl
theorem ksel_R_clear : Cond.selects nR yR_clear yR_clear ∈ gw := gw_i (List.mem_of_getElem? (i := 467) (by decide +kernel)) rfl
theorem kc_R_clear : Cond.code yR_clear cR_clear 1 none ∈ gw := gw_i (List.mem_of_getElem? (i := 468) (by decide +kernel)) rfl
theorem kG_181 : Cond.methodLink nG 181 yL_writeWayTo ∈ gw := gw_i (List.mem_of_getElem? (i := 469) (by decide +kernel)) rfl
theorem ki_L_writeWayTo : Cond.instanceMethod yL_writeWayTo ∈ gw := gw_i (List.mem_of_getElem? (i := 470) (by decide +kernel)) rfl
theorem ksel_L_writeWayTo : Cond.selects nL yL_writeWayTo yL_writeWayTo ∈ gw := gw_i (List.mem_of_getElem? (i := 471) (by decide +kernel)) rfl
theorem kc_L_writeWayTo : Cond.code yL_writeWayTo cL_writeWayTo 6 none ∈ gw := gw_i (List.mem_of_getElem? (i := 472) (by decide +kernel)) rfl
theorem kL_67 : Cond.methodLink nL 67 yL_lastPieceTo ∈ gw := gw_i (List.mem_of_getElem? (i := 473) (by decide +kernel)) rfl
theorem kL_71 : Cond.methodLink nL 71 yR_append ∈ gw := gw_i (List.mem_of_getElem? (i := 474) (by decide +kernel)) rfl
theorem ki_R_append : Cond.instanceMethod yR_append ∈ gw := gw_i (List.mem_of_getElem? (i := 475) (by decide +kernel)) rfl
theorem ksel_R_append : Cond.selects nR yR_append yR_append ∈ gw := gw_i (List.mem_of_getElem? (i := 476) (by decide +kernel)) rfl
theorem kc_R_append : Cond.code yR_append cR_append 2 none ∈ gw := gw_i (List.mem_of_getElem? (i := 477) (by decide +kernel)) rfl
theorem kL_77 : Cond.methodLink nL 77 yL_pieceBefore ∈ gw := gw_i (List.mem_of_getElem? (i := 478) (by decide +kernel)) rfl
theorem ki_L_pieceBefore : Cond.instanceMethod yL_pieceBefore ∈ gw := gw_i (List.mem_of_getElem? (i := 480) (by decide +kernel)) rfl
theorem kc_L_pieceBefore : Cond.code yL_pieceBefore cL_pieceBefore 4 (some .int) ∈ gw := gw_i (List.mem_of_getElem? (i := 481) (by decide +kernel)) rfl
theorem kL_80 : Cond.methodLink nL 80 yR_turnRound ∈ gw := gw_i (List.mem_of_getElem? (i := 482) (by decide +kernel)) rfl
theorem ki_R_turnRound : Cond.instanceMethod yR_turnRound ∈ gw := gw_i (List.mem_of_getElem? (i := 483) (by decide +kernel)) rfl
theorem ksel_R_turnRound : Cond.selects nR yR_turnRound yR_turnRound ∈ gw := gw_i (List.mem_of_getElem? (i := 484) (by decide +kernel)) rfl
theorem kc_R_turnRound : Cond.code yR_turnRound cR_turnRound 4 none ∈ gw := gw_i (List.mem_of_getElem? (i := 485) (by decide +kernel)) rfl
theorem kW_121 : Cond.methodLink nW 121 yW_reaches ∈ gw := gw_i (List.mem_of_getElem? (i := 486) (by decide +kernel)) rfl
theorem ks_W_reaches : Cond.static yW_reaches ∈ gw := gw_i (List.mem_of_getElem? (i := 487) (by decide +kernel)) rfl
theorem kc_W_reaches : Cond.codeWith yW_reaches cW_reaches 6 (some .int) [(0, 19, 22, 13)] ∈ gw := gw_i (List.mem_of_getElem? (i := 488) (by decide +kernel)) rfl
theorem kW_50 : Cond.methodLink nW 50 yG_reaches ∈ gw := gw_i (List.mem_of_getElem? (i := 489) (by decide +kernel)) rfl
theorem ki_G_reaches : Cond.instanceMethod yG_reaches ∈ gw := gw_i (List.mem_of_getElem? (i := 490) (by decide +kernel)) rfl
theorem ksel_G_reaches : Cond.selects nG yG_reaches yG_reaches ∈ gw := gw_i (List.mem_of_getElem? (i := 491) (by decide +kernel)) rfl
theorem kc_G_reaches : Cond.code yG_reaches cG_reaches 4 (some .boolean) ∈ gw := gw_i (List.mem_of_getElem? (i := 492) (by decide +kernel)) rfl
theorem kW_125 : Cond.methodLink nW 125 yW_mark ∈ gw := gw_i (List.mem_of_getElem? (i := 494) (by decide +kernel)) rfl
theorem ks_W_mark : Cond.static yW_mark ∈ gw := gw_i (List.mem_of_getElem? (i := 495) (by decide +kernel)) rfl
theorem kc_W_mark : Cond.codeWith yW_mark cW_mark 4 (some .int) [(0, 9, 12, 13), (0, 9, 15, 57), (0, 9, 18, 15)] ∈ gw := gw_i (List.mem_of_getElem? (i := 496) (by decide +kernel)) rfl
theorem kW_57 : Cond.classLink nW 57 "java/lang/IllegalStateException" ∈ gw := gw_i (List.mem_of_getElem? (i := 497) (by decide +kernel)) rfl
theorem kW_54 : Cond.methodLink nW 54 yG_mark ∈ gw := gw_i (List.mem_of_getElem? (i := 498) (by decide +kernel)) rfl
theorem ki_G_mark : Cond.instanceMethod yG_mark ∈ gw := gw_i (List.mem_of_getElem? (i := 499) (by decide +kernel)) rfl
theorem ksel_G_mark : Cond.selects nG yG_mark yG_mark ∈ gw := gw_i (List.mem_of_getElem? (i := 500) (by decide +kernel)) rfl
theorem kc_G_mark : Cond.code yG_mark cG_mark 2 (some .int) ∈ gw := gw_i (List.mem_of_getElem? (i := 501) (by decide +kernel)) rfl
theorem kG_193 : Cond.methodLink nG 193 yG_isMarked ∈ gw := gw_i (List.mem_of_getElem? (i := 503) (by decide +kernel)) rfl
theorem ki_G_isMarked : Cond.instanceMethod yG_isMarked ∈ gw := gw_i (List.mem_of_getElem? (i := 505) (by decide +kernel)) rfl
theorem kc_G_isMarked : Cond.code yG_isMarked cG_isMarked 3 (some .boolean) ∈ gw := gw_i (List.mem_of_getElem? (i := 506) (by decide +kernel)) rfl
theorem kG_196 : Cond.classLink nG 196 "java/lang/IllegalStateException" ∈ gw := gw_i (List.mem_of_getElem? (i := 507) (by decide +kernel)) rfl
theorem kG_200 : Cond.methodLink nG 200 ⟨"java/lang/IllegalStateException", "<init>", "(Ljava/lang/String;)V"⟩ ∈ gw := gw_i (List.mem_of_getElem? (i := 517) (by decide +kernel)) rfl
theorem kW_128 : Cond.methodLink nW 128 yW_table ∈ gw := gw_i (List.mem_of_getElem? (i := 524) (by decide +kernel)) rfl
theorem ks_W_table : Cond.static yW_table ∈ gw := gw_i (List.mem_of_getElem? (i := 525) (by decide +kernel)) rfl
theorem kc_W_table : Cond.codeWith yW_table cW_table 5 (some .int) [(0, 9, 12, 13), (0, 9, 16, 57)] ∈ gw := gw_i (List.mem_of_getElem? (i := 526) (by decide +kernel)) rfl
theorem kW_59 : Cond.methodLink nW 59 yG_table ∈ gw := gw_i (List.mem_of_getElem? (i := 527) (by decide +kernel)) rfl
theorem ki_G_table : Cond.instanceMethod yG_table ∈ gw := gw_i (List.mem_of_getElem? (i := 528) (by decide +kernel)) rfl
theorem ksel_G_table : Cond.selects nG yG_table yG_table ∈ gw := gw_i (List.mem_of_getElem? (i := 529) (by decide +kernel)) rfl
theorem kc_G_table : Cond.code yG_table cG_table 3 (some .long) ∈ gw := gw_i (List.mem_of_getElem? (i := 530) (by decide +kernel)) rfl
theorem kW_132 : Cond.methodLink nW 132 yW_k ∈ gw := gw_i (List.mem_of_getElem? (i := 533) (by decide +kernel)) rfl
theorem ks_W_k : Cond.static yW_k ∈ gw := gw_i (List.mem_of_getElem? (i := 534) (by decide +kernel)) rfl
theorem kc_W_k : Cond.codeWith yW_k cW_k 6 (some .int) [(0, 11, 14, 13), (0, 11, 18, 57)] ∈ gw := gw_i (List.mem_of_getElem? (i := 535) (by decide +kernel)) rfl
theorem kW_63 : Cond.methodLink nW 63 yG_k ∈ gw := gw_i (List.mem_of_getElem? (i := 536) (by decide +kernel)) rfl
theorem ki_G_k : Cond.instanceMethod yG_k ∈ gw := gw_i (List.mem_of_getElem? (i := 537) (by decide +kernel)) rfl
theorem ksel_G_k : Cond.selects nG yG_k yG_k ∈ gw := gw_i (List.mem_of_getElem? (i := 538) (by decide +kernel)) rfl
theorem kc_G_k : Cond.code yG_k cG_k 4 (some .long) ∈ gw := gw_i (List.mem_of_getElem? (i := 539) (by decide +kernel)) rfl
theorem kG_210 : Cond.constantLong nG 210 (4) ∈ gw := gw_i (List.mem_of_getElem? (i := 540) (by decide +kernel)) rfl
theorem kG_218 : Cond.methodLink nG 218 yS_search ∈ gw := gw_i (List.mem_of_getElem? (i := 542) (by decide +kernel)) rfl
theorem ki_S_search : Cond.instanceMethod yS_search ∈ gw := gw_i (List.mem_of_getElem? (i := 543) (by decide +kernel)) rfl
theorem ksel_S_search : Cond.selects nS yS_search yS_search ∈ gw := gw_i (List.mem_of_getElem? (i := 544) (by decide +kernel)) rfl
theorem kc_S_search : Cond.code yS_search cS_search 6 none ∈ gw := gw_i (List.mem_of_getElem? (i := 545) (by decide +kernel)) rfl
theorem kS_40 : Cond.methodLink nS 40 yS_extend ∈ gw := gw_i (List.mem_of_getElem? (i := 547) (by decide +kernel)) rfl
theorem ki_S_extend : Cond.instanceMethod yS_extend ∈ gw := gw_i (List.mem_of_getElem? (i := 549) (by decide +kernel)) rfl
theorem kc_S_extend : Cond.code yS_extend cS_extend 12 none ∈ gw := gw_i (List.mem_of_getElem? (i := 550) (by decide +kernel)) rfl
theorem kS_52 : Cond.methodLink nS 52 yS_canBeNext ∈ gw := gw_i (List.mem_of_getElem? (i := 551) (by decide +kernel)) rfl
theorem ki_S_canBeNext : Cond.instanceMethod yS_canBeNext ∈ gw := gw_i (List.mem_of_getElem? (i := 553) (by decide +kernel)) rfl
theorem kc_S_canBeNext : Cond.code yS_canBeNext cS_canBeNext 5 (some .boolean) ∈ gw := gw_i (List.mem_of_getElem? (i := 554) (by decide +kernel)) rfl
theorem kS_75 : Cond.methodLink nS 75 yP_isBarred ∈ gw := gw_i (List.mem_of_getElem? (i := 556) (by decide +kernel)) rfl
theorem kS_60 : Cond.methodLink nS 60 yP_endWhenUsedFrom ∈ gw := gw_i (List.mem_of_getElem? (i := 557) (by decide +kernel)) rfl
theorem kS_64 : Cond.methodLink nS 64 yS_keep ∈ gw := gw_i (List.mem_of_getElem? (i := 558) (by decide +kernel)) rfl
theorem ki_S_keep : Cond.instanceMethod yS_keep ∈ gw := gw_i (List.mem_of_getElem? (i := 560) (by decide +kernel)) rfl
theorem kc_S_keep : Cond.code yS_keep cS_keep 6 none ∈ gw := gw_i (List.mem_of_getElem? (i := 561) (by decide +kernel)) rfl
theorem kS_68 : Cond.methodLink nS 68 yS_rankOf ∈ gw := gw_i (List.mem_of_getElem? (i := 562) (by decide +kernel)) rfl
theorem ki_S_rankOf : Cond.instanceMethod yS_rankOf ∈ gw := gw_i (List.mem_of_getElem? (i := 564) (by decide +kernel)) rfl
theorem kc_S_rankOf : Cond.code yS_rankOf cS_rankOf 4 (some .int) ∈ gw := gw_i (List.mem_of_getElem? (i := 565) (by decide +kernel)) rfl
theorem kS_79 : Cond.methodLink nS 79 ⟨"java/lang/System", "arraycopy", "(Ljava/lang/Object;ILjava/lang/Object;II)V"⟩ ∈ gw := gw_i (List.mem_of_getElem? (i := 566) (by decide +kernel)) rfl
theorem ks_acopy : Cond.static arraycopyName ∈ gw := gw_i (List.mem_of_getElem? (i := 567) (by decide +kernel)) rfl
theorem kn_acopy : Cond.native arraycopyName ∈ gw := gw_i (List.mem_of_getElem? (i := 568) (by decide +kernel)) rfl
theorem kS_85 : Cond.methodLink nS 85 yJM_min_I ∈ gw := gw_i (List.mem_of_getElem? (i := 569) (by decide +kernel)) rfl
theorem ks_JM_min_I : Cond.static yJM_min_I ∈ gw := gw_i (List.mem_of_getElem? (i := 570) (by decide +kernel)) rfl
theorem kc_JM_min_I : Cond.code yJM_min_I cJM_min_I 2 (some .int) ∈ gw := gw_i (List.mem_of_getElem? (i := 571) (by decide +kernel)) rfl
theorem kG_225 : Cond.methodLink nG 225 yS_writeWay ∈ gw := gw_i (List.mem_of_getElem? (i := 572) (by decide +kernel)) rfl
theorem ki_S_writeWay : Cond.instanceMethod yS_writeWay ∈ gw := gw_i (List.mem_of_getElem? (i := 573) (by decide +kernel)) rfl
theorem ksel_S_writeWay : Cond.selects nS yS_writeWay yS_writeWay ∈ gw := gw_i (List.mem_of_getElem? (i := 574) (by decide +kernel)) rfl
theorem kc_S_writeWay : Cond.code yS_writeWay cS_writeWay 4 none ∈ gw := gw_i (List.mem_of_getElem? (i := 575) (by decide +kernel)) rfl
theorem kS_91 : Cond.methodLink nS 91 yR_append ∈ gw := gw_i (List.mem_of_getElem? (i := 576) (by decide +kernel)) rfl
theorem kW_135 : Cond.methodLink nW 135 yW_told ∈ gw := gw_i (List.mem_of_getElem? (i := 577) (by decide +kernel)) rfl
theorem ks_W_told : Cond.static yW_told ∈ gw := gw_i (List.mem_of_getElem? (i := 578) (by decide +kernel)) rfl
theorem kc_W_told : Cond.codeWith yW_told cW_told 5 (some .int) [(0, 9, 12, 13)] ∈ gw := gw_i (List.mem_of_getElem? (i := 579) (by decide +kernel)) rfl
theorem kW_67 : Cond.methodLink nW 67 yG_told ∈ gw := gw_i (List.mem_of_getElem? (i := 580) (by decide +kernel)) rfl
theorem ki_G_told : Cond.instanceMethod yG_told ∈ gw := gw_i (List.mem_of_getElem? (i := 581) (by decide +kernel)) rfl
theorem ksel_G_told : Cond.selects nG yG_told yG_told ∈ gw := gw_i (List.mem_of_getElem? (i := 582) (by decide +kernel)) rfl
theorem kc_G_told : Cond.code yG_told cG_told 3 (some .long) ∈ gw := gw_i (List.mem_of_getElem? (i := 583) (by decide +kernel)) rfl
theorem kG_235 : Cond.methodLink nG 235 yG_hasBit ∈ gw := gw_i (List.mem_of_getElem? (i := 584) (by decide +kernel)) rfl
theorem kW_71 : Cond.classLink nW 71 "WayGraphModel" ∈ gw := gw_i (List.mem_of_getElem? (i := 586) (by decide +kernel)) rfl
theorem knew_M : Cond.instantiable "WayGraphModel" 26 ∈ gw := gw_i (List.mem_of_getElem? (i := 587) (by decide +kernel)) rfl
theorem kW_73 : Cond.methodLink nW 73 yM_init ∈ gw := gw_i (List.mem_of_getElem? (i := 588) (by decide +kernel)) rfl
theorem ki_M_init : Cond.instanceMethod yM_init ∈ gw := gw_i (List.mem_of_getElem? (i := 589) (by decide +kernel)) rfl
theorem kc_M_init : Cond.code yM_init cM_init 1 none ∈ gw := gw_i (List.mem_of_getElem? (i := 590) (by decide +kernel)) rfl
theorem kM_1 : Cond.methodLink nM 1 ⟨"java/lang/Object", "<init>", "()V"⟩ ∈ gw := gw_i (List.mem_of_getElem? (i := 591) (by decide +kernel)) rfl
theorem kM_69 : Cond.fieldLink nM 69 "WayGraphModel" "code" "I" ∈ gw := gw_i (List.mem_of_getElem? (i := 592) (by decide +kernel)) rfl
theorem kM_73 : Cond.fieldLink nM 73 "WayGraphModel" "places" "I" ∈ gw := gw_i (List.mem_of_getElem? (i := 593) (by decide +kernel)) rfl
theorem kM_7 : Cond.fieldLink nM 7 "WayGraphModel" "level" "[I" ∈ gw := gw_i (List.mem_of_getElem? (i := 594) (by decide +kernel)) rfl
theorem kM_80 : Cond.fieldLink nM 80 "WayGraphModel" "pieces" "I" ∈ gw := gw_i (List.mem_of_getElem? (i := 595) (by decide +kernel)) rfl
theorem kM_13 : Cond.fieldLink nM 13 "WayGraphModel" "from" "[I" ∈ gw := gw_i (List.mem_of_getElem? (i := 596) (by decide +kernel)) rfl
theorem kM_16 : Cond.fieldLink nM 16 "WayGraphModel" "to" "[I" ∈ gw := gw_i (List.mem_of_getElem? (i := 597) (by decide +kernel)) rfl
theorem kM_19 : Cond.fieldLink nM 19 "WayGraphModel" "seconds" "[J" ∈ gw := gw_i (List.mem_of_getElem? (i := 598) (by decide +kernel)) rfl
theorem kM_23 : Cond.fieldLink nM 23 "WayGraphModel" "wide" "[I" ∈ gw := gw_i (List.mem_of_getElem? (i := 599) (by decide +kernel)) rfl
theorem kM_26 : Cond.fieldLink nM 26 "WayGraphModel" "high" "[I" ∈ gw := gw_i (List.mem_of_getElem? (i := 600) (by decide +kernel)) rfl
theorem kM_29 : Cond.fieldLink nM 29 "WayGraphModel" "shut" "[Z" ∈ gw := gw_i (List.mem_of_getElem? (i := 601) (by decide +kernel)) rfl
theorem kM_33 : Cond.fieldLink nM 33 "WayGraphModel" "hours" "[I" ∈ gw := gw_i (List.mem_of_getElem? (i := 602) (by decide +kernel)) rfl
theorem kM_36 : Cond.fieldLink nM 36 "WayGraphModel" "barred" "[Z" ∈ gw := gw_i (List.mem_of_getElem? (i := 603) (by decide +kernel)) rfl
theorem kM_101 : Cond.fieldLink nM 101 "WayGraphModel" "movers" "I" ∈ gw := gw_i (List.mem_of_getElem? (i := 604) (by decide +kernel)) rfl
theorem kM_39 : Cond.fieldLink nM 39 "WayGraphModel" "moverWide" "[I" ∈ gw := gw_i (List.mem_of_getElem? (i := 605) (by decide +kernel)) rfl
theorem kM_42 : Cond.fieldLink nM 42 "WayGraphModel" "moverHigh" "[I" ∈ gw := gw_i (List.mem_of_getElem? (i := 606) (by decide +kernel)) rfl
theorem kM_149 : Cond.fieldLink nM 149 "WayGraphModel" "marks" "I" ∈ gw := gw_i (List.mem_of_getElem? (i := 607) (by decide +kernel)) rfl
theorem kM_45 : Cond.fieldLink nM 45 "WayGraphModel" "marked" "[I" ∈ gw := gw_i (List.mem_of_getElem? (i := 608) (by decide +kernel)) rfl
theorem kM_48 : Cond.fieldLink nM 48 "WayGraphModel" "reached" "[J" ∈ gw := gw_i (List.mem_of_getElem? (i := 609) (by decide +kernel)) rfl
theorem kM_51 : Cond.fieldLink nM 51 "WayGraphModel" "steps" "[I" ∈ gw := gw_i (List.mem_of_getElem? (i := 610) (by decide +kernel)) rfl
theorem kM_138 : Cond.fieldLink nM 138 "WayGraphModel" "stepCount" "I" ∈ gw := gw_i (List.mem_of_getElem? (i := 611) (by decide +kernel)) rfl
theorem kM_54 : Cond.fieldLink nM 54 "WayGraphModel" "bestSeconds" "[J" ∈ gw := gw_i (List.mem_of_getElem? (i := 612) (by decide +kernel)) rfl
theorem kM_57 : Cond.fieldLink nM 57 "WayGraphModel" "bestCount" "[I" ∈ gw := gw_i (List.mem_of_getElem? (i := 613) (by decide +kernel)) rfl
theorem kM_60 : Cond.fieldLink nM 60 "WayGraphModel" "bestPieces" "[I" ∈ gw := gw_i (List.mem_of_getElem? (i := 614) (by decide +kernel)) rfl
theorem kM_155 : Cond.fieldLink nM 155 "WayGraphModel" "found" "I" ∈ gw := gw_i (List.mem_of_getElem? (i := 615) (by decide +kernel)) rfl
theorem kM_63 : Cond.fieldLink nM 63 "WayGraphModel" "on" "[I" ∈ gw := gw_i (List.mem_of_getElem? (i := 616) (by decide +kernel)) rfl
theorem kM_66 : Cond.fieldLink nM 66 "WayGraphModel" "when" "[J" ∈ gw := gw_i (List.mem_of_getElem? (i := 617) (by decide +kernel)) rfl
theorem karr_boolean : Cond.arrayClass .boolean ∈ gw := gw_i (List.mem_of_getElem? (i := 671) (by decide +kernel)) rfl
theorem kW_80 : Cond.methodLink nW 80 yM_thrown ∈ gw := gw_i (List.mem_of_getElem? (i := 672) (by decide +kernel)) rfl
theorem ki_M_thrown : Cond.instanceMethod yM_thrown ∈ gw := gw_i (List.mem_of_getElem? (i := 673) (by decide +kernel)) rfl
theorem ksel_M_thrown : Cond.selects nM yM_thrown yM_thrown ∈ gw := gw_i (List.mem_of_getElem? (i := 674) (by decide +kernel)) rfl
theorem kc_M_thrown : Cond.code yM_thrown cM_thrown 1 (some .int) ∈ gw := gw_i (List.mem_of_getElem? (i := 675) (by decide +kernel)) rfl
theorem kW_79 : Cond.methodLink nW 79 yM_place ∈ gw := gw_i (List.mem_of_getElem? (i := 676) (by decide +kernel)) rfl
theorem ki_M_place : Cond.instanceMethod yM_place ∈ gw := gw_i (List.mem_of_getElem? (i := 677) (by decide +kernel)) rfl
theorem ksel_M_place : Cond.selects nM yM_place yM_place ∈ gw := gw_i (List.mem_of_getElem? (i := 678) (by decide +kernel)) rfl
theorem kc_M_place : Cond.code yM_place cM_place 2 (some .int) ∈ gw := gw_i (List.mem_of_getElem? (i := 679) (by decide +kernel)) rfl
theorem kM_83 : Cond.constantLong nM 83 (9) ∈ gw := gw_i (List.mem_of_getElem? (i := 680) (by decide +kernel)) rfl
theorem kM_76 : Cond.methodLink nM 76 yM_in ∈ gw := gw_i (List.mem_of_getElem? (i := 681) (by decide +kernel)) rfl
theorem ks_M_in : Cond.static yM_in ∈ gw := gw_i (List.mem_of_getElem? (i := 682) (by decide +kernel)) rfl
theorem kc_M_in : Cond.code yM_in cM_in 6 (some .boolean) ∈ gw := gw_i (List.mem_of_getElem? (i := 683) (by decide +kernel)) rfl
theorem kW_89 : Cond.methodLink nW 89 yM_piece ∈ gw := gw_i (List.mem_of_getElem? (i := 684) (by decide +kernel)) rfl
theorem ki_M_piece : Cond.instanceMethod yM_piece ∈ gw := gw_i (List.mem_of_getElem? (i := 685) (by decide +kernel)) rfl
theorem ksel_M_piece : Cond.selects nM yM_piece yM_piece ∈ gw := gw_i (List.mem_of_getElem? (i := 686) (by decide +kernel)) rfl
theorem kc_M_piece : Cond.code yM_piece cM_piece 8 (some .int) ∈ gw := gw_i (List.mem_of_getElem? (i := 687) (by decide +kernel)) rfl
theorem kM_86 : Cond.methodLink nM 86 yM_isPlace ∈ gw := gw_i (List.mem_of_getElem? (i := 688) (by decide +kernel)) rfl
theorem ki_M_isPlace : Cond.instanceMethod yM_isPlace ∈ gw := gw_i (List.mem_of_getElem? (i := 690) (by decide +kernel)) rfl
theorem kc_M_isPlace : Cond.code yM_isPlace cM_isPlace 2 (some .boolean) ∈ gw := gw_i (List.mem_of_getElem? (i := 691) (by decide +kernel)) rfl
theorem kM_90 : Cond.constantLong nM 90 (10000000) ∈ gw := gw_i (List.mem_of_getElem? (i := 692) (by decide +kernel)) rfl
theorem kM_92 : Cond.constantLong nM 92 (10000) ∈ gw := gw_i (List.mem_of_getElem? (i := 693) (by decide +kernel)) rfl
theorem kM_94 : Cond.methodLink nM 94 yM_add ∈ gw := gw_i (List.mem_of_getElem? (i := 694) (by decide +kernel)) rfl
theorem ki_M_add : Cond.instanceMethod yM_add ∈ gw := gw_i (List.mem_of_getElem? (i := 696) (by decide +kernel)) rfl
theorem kc_M_add : Cond.code yM_add cM_add 5 (some .int) ∈ gw := gw_i (List.mem_of_getElem? (i := 697) (by decide +kernel)) rfl
theorem kM_85 : Cond.constant nM 85 (16777215) ∈ gw := gw_i (List.mem_of_getElem? (i := 698) (by decide +kernel)) rfl
theorem kW_93 : Cond.methodLink nW 93 yM_lift ∈ gw := gw_i (List.mem_of_getElem? (i := 699) (by decide +kernel)) rfl
theorem ki_M_lift : Cond.instanceMethod yM_lift ∈ gw := gw_i (List.mem_of_getElem? (i := 700) (by decide +kernel)) rfl
theorem ksel_M_lift : Cond.selects nM yM_lift yM_lift ∈ gw := gw_i (List.mem_of_getElem? (i := 701) (by decide +kernel)) rfl
theorem kc_M_lift : Cond.code yM_lift cM_lift 7 (some .int) ∈ gw := gw_i (List.mem_of_getElem? (i := 702) (by decide +kernel)) rfl
theorem kW_97 : Cond.methodLink nW 97 yM_limit ∈ gw := gw_i (List.mem_of_getElem? (i := 703) (by decide +kernel)) rfl
theorem ki_M_limit : Cond.instanceMethod yM_limit ∈ gw := gw_i (List.mem_of_getElem? (i := 704) (by decide +kernel)) rfl
theorem ksel_M_limit : Cond.selects nM yM_limit yM_limit ∈ gw := gw_i (List.mem_of_getElem? (i := 705) (by decide +kernel)) rfl
theorem kc_M_limit : Cond.code yM_limit cM_limit 5 none ∈ gw := gw_i (List.mem_of_getElem? (i := 706) (by decide +kernel)) rfl
theorem kM_98 : Cond.methodLink nM 98 yM_isPiece ∈ gw := gw_i (List.mem_of_getElem? (i := 707) (by decide +kernel)) rfl
theorem ki_M_isPiece : Cond.instanceMethod yM_isPiece ∈ gw := gw_i (List.mem_of_getElem? (i := 709) (by decide +kernel)) rfl
theorem kc_M_isPiece : Cond.code yM_isPiece cM_isPiece 2 (some .boolean) ∈ gw := gw_i (List.mem_of_getElem? (i := 710) (by decide +kernel)) rfl
theorem kW_101 : Cond.methodLink nW 101 yM_mover ∈ gw := gw_i (List.mem_of_getElem? (i := 711) (by decide +kernel)) rfl
theorem ki_M_mover : Cond.instanceMethod yM_mover ∈ gw := gw_i (List.mem_of_getElem? (i := 712) (by decide +kernel)) rfl
theorem ksel_M_mover : Cond.selects nM yM_mover yM_mover ∈ gw := gw_i (List.mem_of_getElem? (i := 713) (by decide +kernel)) rfl
theorem kc_M_mover : Cond.code yM_mover cM_mover 6 (some .int) ∈ gw := gw_i (List.mem_of_getElem? (i := 714) (by decide +kernel)) rfl
theorem kW_105 : Cond.methodLink nW 105 yM_closed ∈ gw := gw_i (List.mem_of_getElem? (i := 715) (by decide +kernel)) rfl
theorem ki_M_closed : Cond.instanceMethod yM_closed ∈ gw := gw_i (List.mem_of_getElem? (i := 716) (by decide +kernel)) rfl
theorem ksel_M_closed : Cond.selects nM yM_closed yM_closed ∈ gw := gw_i (List.mem_of_getElem? (i := 717) (by decide +kernel)) rfl
theorem kc_M_closed : Cond.code yM_closed cM_closed 5 (some .int) ∈ gw := gw_i (List.mem_of_getElem? (i := 718) (by decide +kernel)) rfl
theorem kW_109 : Cond.methodLink nW 109 yM_turn ∈ gw := gw_i (List.mem_of_getElem? (i := 719) (by decide +kernel)) rfl
theorem ki_M_turn : Cond.instanceMethod yM_turn ∈ gw := gw_i (List.mem_of_getElem? (i := 720) (by decide +kernel)) rfl
theorem ksel_M_turn : Cond.selects nM yM_turn yM_turn ∈ gw := gw_i (List.mem_of_getElem? (i := 721) (by decide +kernel)) rfl
theorem kc_M_turn : Cond.code yM_turn cM_turn 5 (some .int) ∈ gw := gw_i (List.mem_of_getElem? (i := 722) (by decide +kernel)) rfl
theorem kW_112 : Cond.methodLink nW 112 yM_door ∈ gw := gw_i (List.mem_of_getElem? (i := 723) (by decide +kernel)) rfl
theorem ki_M_door : Cond.instanceMethod yM_door ∈ gw := gw_i (List.mem_of_getElem? (i := 724) (by decide +kernel)) rfl
theorem ksel_M_door : Cond.selects nM yM_door yM_door ∈ gw := gw_i (List.mem_of_getElem? (i := 725) (by decide +kernel)) rfl
theorem kc_M_door : Cond.code yM_door cM_door 6 (some .int) ∈ gw := gw_i (List.mem_of_getElem? (i := 726) (by decide +kernel)) rfl
theorem kM_104 : Cond.constantLong nM 104 (23) ∈ gw := gw_i (List.mem_of_getElem? (i := 727) (by decide +kernel)) rfl
theorem kW_116 : Cond.methodLink nW 116 yM_way ∈ gw := gw_i (List.mem_of_getElem? (i := 728) (by decide +kernel)) rfl
theorem ki_M_way : Cond.instanceMethod yM_way ∈ gw := gw_i (List.mem_of_getElem? (i := 729) (by decide +kernel)) rfl
theorem ksel_M_way : Cond.selects nM yM_way yM_way ∈ gw := gw_i (List.mem_of_getElem? (i := 730) (by decide +kernel)) rfl
theorem kc_M_way : Cond.code yM_way cM_way 10 (some .long) ∈ gw := gw_i (List.mem_of_getElem? (i := 731) (by decide +kernel)) rfl
theorem kM_135 : Cond.methodLink nM 135 yM_isMover ∈ gw := gw_i (List.mem_of_getElem? (i := 732) (by decide +kernel)) rfl
theorem ki_M_isMover : Cond.instanceMethod yM_isMover ∈ gw := gw_i (List.mem_of_getElem? (i := 734) (by decide +kernel)) rfl
theorem kc_M_isMover : Cond.code yM_isMover cM_isMover 2 (some .boolean) ∈ gw := gw_i (List.mem_of_getElem? (i := 735) (by decide +kernel)) rfl
theorem kM_141 : Cond.methodLink nM 141 yM_least ∈ gw := gw_i (List.mem_of_getElem? (i := 736) (by decide +kernel)) rfl
theorem ki_M_least : Cond.instanceMethod yM_least ∈ gw := gw_i (List.mem_of_getElem? (i := 738) (by decide +kernel)) rfl
theorem kc_M_least : Cond.code yM_least cM_least 7 (some .long) ∈ gw := gw_i (List.mem_of_getElem? (i := 739) (by decide +kernel)) rfl
theorem kM_127 : Cond.methodLink nM 127 yM_reachAll ∈ gw := gw_i (List.mem_of_getElem? (i := 740) (by decide +kernel)) rfl
theorem ki_M_reachAll : Cond.instanceMethod yM_reachAll ∈ gw := gw_i (List.mem_of_getElem? (i := 742) (by decide +kernel)) rfl
theorem kc_M_reachAll : Cond.code yM_reachAll cM_reachAll 8 none ∈ gw := gw_i (List.mem_of_getElem? (i := 743) (by decide +kernel)) rfl
theorem kM_110 : Cond.methodLink nM 110 yM_mayUse ∈ gw := gw_i (List.mem_of_getElem? (i := 744) (by decide +kernel)) rfl
theorem ki_M_mayUse : Cond.instanceMethod yM_mayUse ∈ gw := gw_i (List.mem_of_getElem? (i := 746) (by decide +kernel)) rfl
theorem kc_M_mayUse : Cond.code yM_mayUse cM_mayUse 3 (some .boolean) ∈ gw := gw_i (List.mem_of_getElem? (i := 747) (by decide +kernel)) rfl
theorem kM_114 : Cond.methodLink nM 114 yM_use ∈ gw := gw_i (List.mem_of_getElem? (i := 748) (by decide +kernel)) rfl
theorem ki_M_use : Cond.instanceMethod yM_use ∈ gw := gw_i (List.mem_of_getElem? (i := 750) (by decide +kernel)) rfl
theorem kc_M_use : Cond.code yM_use cM_use 6 (some .long) ∈ gw := gw_i (List.mem_of_getElem? (i := 751) (by decide +kernel)) rfl
theorem kM_106 : Cond.constantLong nM 106 (3600) ∈ gw := gw_i (List.mem_of_getElem? (i := 752) (by decide +kernel)) rfl
theorem kM_108 : Cond.constantLong nM 108 (24) ∈ gw := gw_i (List.mem_of_getElem? (i := 753) (by decide +kernel)) rfl
theorem kM_118 : Cond.constantLong nM 118 (-1) ∈ gw := gw_i (List.mem_of_getElem? (i := 754) (by decide +kernel)) rfl
theorem kM_120 : Cond.methodLink nM 120 yM_lower ∈ gw := gw_i (List.mem_of_getElem? (i := 755) (by decide +kernel)) rfl
theorem ki_M_lower : Cond.instanceMethod yM_lower ∈ gw := gw_i (List.mem_of_getElem? (i := 757) (by decide +kernel)) rfl
theorem kc_M_lower : Cond.code yM_lower cM_lower 6 (some .boolean) ∈ gw := gw_i (List.mem_of_getElem? (i := 758) (by decide +kernel)) rfl
theorem kM_124 : Cond.methodLink nM 124 yM_follows ∈ gw := gw_i (List.mem_of_getElem? (i := 759) (by decide +kernel)) rfl
theorem ki_M_follows : Cond.instanceMethod yM_follows ∈ gw := gw_i (List.mem_of_getElem? (i := 761) (by decide +kernel)) rfl
theorem kc_M_follows : Cond.code yM_follows cM_follows 3 (some .boolean) ∈ gw := gw_i (List.mem_of_getElem? (i := 762) (by decide +kernel)) rfl
theorem kM_131 : Cond.methodLink nM 131 yM_lastTo ∈ gw := gw_i (List.mem_of_getElem? (i := 763) (by decide +kernel)) rfl
theorem ki_M_lastTo : Cond.instanceMethod yM_lastTo ∈ gw := gw_i (List.mem_of_getElem? (i := 765) (by decide +kernel)) rfl
theorem kc_M_lastTo : Cond.code yM_lastTo cM_lastTo 4 (some .int) ∈ gw := gw_i (List.mem_of_getElem? (i := 766) (by decide +kernel)) rfl
theorem kM_145 : Cond.methodLink nM 145 yM_before ∈ gw := gw_i (List.mem_of_getElem? (i := 767) (by decide +kernel)) rfl
theorem ki_M_before : Cond.instanceMethod yM_before ∈ gw := gw_i (List.mem_of_getElem? (i := 769) (by decide +kernel)) rfl
theorem kc_M_before : Cond.code yM_before cM_before 7 (some .int) ∈ gw := gw_i (List.mem_of_getElem? (i := 770) (by decide +kernel)) rfl
theorem kW_120 : Cond.methodLink nW 120 yM_step ∈ gw := gw_i (List.mem_of_getElem? (i := 771) (by decide +kernel)) rfl
theorem ki_M_step : Cond.instanceMethod yM_step ∈ gw := gw_i (List.mem_of_getElem? (i := 772) (by decide +kernel)) rfl
theorem ksel_M_step : Cond.selects nM yM_step yM_step ∈ gw := gw_i (List.mem_of_getElem? (i := 773) (by decide +kernel)) rfl
theorem kc_M_step : Cond.code yM_step cM_step 2 (some .int) ∈ gw := gw_i (List.mem_of_getElem? (i := 774) (by decide +kernel)) rfl
theorem kW_124 : Cond.methodLink nW 124 yM_reaches ∈ gw := gw_i (List.mem_of_getElem? (i := 775) (by decide +kernel)) rfl
theorem ki_M_reaches : Cond.instanceMethod yM_reaches ∈ gw := gw_i (List.mem_of_getElem? (i := 776) (by decide +kernel)) rfl
theorem ksel_M_reaches : Cond.selects nM yM_reaches yM_reaches ∈ gw := gw_i (List.mem_of_getElem? (i := 777) (by decide +kernel)) rfl
theorem kc_M_reaches : Cond.code yM_reaches cM_reaches 4 (some .boolean) ∈ gw := gw_i (List.mem_of_getElem? (i := 778) (by decide +kernel)) rfl
theorem kW_127 : Cond.methodLink nW 127 yM_mark ∈ gw := gw_i (List.mem_of_getElem? (i := 779) (by decide +kernel)) rfl
theorem ki_M_mark : Cond.instanceMethod yM_mark ∈ gw := gw_i (List.mem_of_getElem? (i := 780) (by decide +kernel)) rfl
theorem ksel_M_mark : Cond.selects nM yM_mark yM_mark ∈ gw := gw_i (List.mem_of_getElem? (i := 781) (by decide +kernel)) rfl
theorem kc_M_mark : Cond.code yM_mark cM_mark 4 (some .int) ∈ gw := gw_i (List.mem_of_getElem? (i := 782) (by decide +kernel)) rfl
theorem kW_131 : Cond.methodLink nW 131 yM_table ∈ gw := gw_i (List.mem_of_getElem? (i := 783) (by decide +kernel)) rfl
theorem ki_M_table : Cond.instanceMethod yM_table ∈ gw := gw_i (List.mem_of_getElem? (i := 784) (by decide +kernel)) rfl
theorem ksel_M_table : Cond.selects nM yM_table yM_table ∈ gw := gw_i (List.mem_of_getElem? (i := 785) (by decide +kernel)) rfl
theorem kc_M_table : Cond.code yM_table cM_table 3 (some .long) ∈ gw := gw_i (List.mem_of_getElem? (i := 786) (by decide +kernel)) rfl
theorem kW_134 : Cond.methodLink nW 134 yM_k ∈ gw := gw_i (List.mem_of_getElem? (i := 787) (by decide +kernel)) rfl
theorem ki_M_k : Cond.instanceMethod yM_k ∈ gw := gw_i (List.mem_of_getElem? (i := 788) (by decide +kernel)) rfl
theorem ksel_M_k : Cond.selects nM yM_k yM_k ∈ gw := gw_i (List.mem_of_getElem? (i := 789) (by decide +kernel)) rfl
theorem kc_M_k : Cond.code yM_k cM_k 5 (some .long) ∈ gw := gw_i (List.mem_of_getElem? (i := 790) (by decide +kernel)) rfl
theorem kM_168 : Cond.constantLong nM 168 (4) ∈ gw := gw_i (List.mem_of_getElem? (i := 791) (by decide +kernel)) rfl
theorem kM_170 : Cond.methodLink nM 170 yM_goThrough ∈ gw := gw_i (List.mem_of_getElem? (i := 792) (by decide +kernel)) rfl
theorem ki_M_goThrough : Cond.instanceMethod yM_goThrough ∈ gw := gw_i (List.mem_of_getElem? (i := 794) (by decide +kernel)) rfl
theorem kc_M_goThrough : Cond.code yM_goThrough cM_goThrough 5 none ∈ gw := gw_i (List.mem_of_getElem? (i := 795) (by decide +kernel)) rfl
theorem kM_161 : Cond.methodLink nM 161 yM_mayGo ∈ gw := gw_i (List.mem_of_getElem? (i := 796) (by decide +kernel)) rfl
theorem ki_M_mayGo : Cond.instanceMethod yM_mayGo ∈ gw := gw_i (List.mem_of_getElem? (i := 798) (by decide +kernel)) rfl
theorem kc_M_mayGo : Cond.code yM_mayGo cM_mayGo 5 (some .boolean) ∈ gw := gw_i (List.mem_of_getElem? (i := 799) (by decide +kernel)) rfl
theorem kM_152 : Cond.methodLink nM 152 yM_seen ∈ gw := gw_i (List.mem_of_getElem? (i := 800) (by decide +kernel)) rfl
theorem ki_M_seen : Cond.instanceMethod yM_seen ∈ gw := gw_i (List.mem_of_getElem? (i := 802) (by decide +kernel)) rfl
theorem kc_M_seen : Cond.code yM_seen cM_seen 6 (some .boolean) ∈ gw := gw_i (List.mem_of_getElem? (i := 803) (by decide +kernel)) rfl
theorem kM_164 : Cond.methodLink nM 164 yM_keep ∈ gw := gw_i (List.mem_of_getElem? (i := 804) (by decide +kernel)) rfl
theorem ki_M_keep : Cond.instanceMethod yM_keep ∈ gw := gw_i (List.mem_of_getElem? (i := 806) (by decide +kernel)) rfl
theorem kc_M_keep : Cond.code yM_keep cM_keep 5 none ∈ gw := gw_i (List.mem_of_getElem? (i := 807) (by decide +kernel)) rfl
theorem kM_158 : Cond.methodLink nM 158 yM_isBetter ∈ gw := gw_i (List.mem_of_getElem? (i := 808) (by decide +kernel)) rfl
theorem ki_M_isBetter : Cond.instanceMethod yM_isBetter ∈ gw := gw_i (List.mem_of_getElem? (i := 810) (by decide +kernel)) rfl
theorem kc_M_isBetter : Cond.code yM_isBetter cM_isBetter 4 (some .boolean) ∈ gw := gw_i (List.mem_of_getElem? (i := 811) (by decide +kernel)) rfl
theorem kW_137 : Cond.methodLink nW 137 yM_told ∈ gw := gw_i (List.mem_of_getElem? (i := 812) (by decide +kernel)) rfl
theorem ki_M_told : Cond.instanceMethod yM_told ∈ gw := gw_i (List.mem_of_getElem? (i := 813) (by decide +kernel)) rfl
theorem ksel_M_told : Cond.selects nM yM_told yM_told ∈ gw := gw_i (List.mem_of_getElem? (i := 814) (by decide +kernel)) rfl
theorem kc_M_told : Cond.code yM_told cM_told 3 (some .long) ∈ gw := gw_i (List.mem_of_getElem? (i := 815) (by decide +kernel)) rfl
theorem kM_174 : Cond.constantLong nM 174 (6) ∈ gw := gw_i (List.mem_of_getElem? (i := 816) (by decide +kernel)) rfl
theorem kW_141 : Cond.methodLink nW 141 yM_count ∈ gw := gw_i (List.mem_of_getElem? (i := 817) (by decide +kernel)) rfl
theorem ki_M_count : Cond.instanceMethod yM_count ∈ gw := gw_i (List.mem_of_getElem? (i := 818) (by decide +kernel)) rfl
theorem ksel_M_count : Cond.selects nM yM_count yM_count ∈ gw := gw_i (List.mem_of_getElem? (i := 819) (by decide +kernel)) rfl
theorem kc_M_count : Cond.code yM_count cM_count 4 (some .int) ∈ gw := gw_i (List.mem_of_getElem? (i := 820) (by decide +kernel)) rfl
theorem kW_84 : Cond.constantLong nW 84 (4294967295) ∈ gw := gw_i (List.mem_of_getElem? (i := 821) (by decide +kernel)) rfl
theorem ksel_G_hasPlace : Cond.selects nG yG_hasPlace yG_hasPlace ∈ gw := gw_p (List.mem_of_getElem? (i := 1) (by decide +kernel)) rfl
theorem ksel_G_hasMover : Cond.selects nG yG_hasMover yG_hasMover ∈ gw := gw_p (List.mem_of_getElem? (i := 2) (by decide +kernel)) rfl
theorem ksel_G_leastSeconds : Cond.selects nG yG_leastSeconds yG_leastSeconds ∈ gw := gw_p (List.mem_of_getElem? (i := 3) (by decide +kernel)) rfl
theorem ksel_L_earliestOf : Cond.selects nL yL_earliestOf yL_earliestOf ∈ gw := gw_p (List.mem_of_getElem? (i := 4) (by decide +kernel)) rfl
theorem ksel_L_goOnFrom : Cond.selects nL yL_goOnFrom yL_goOnFrom ∈ gw := gw_p (List.mem_of_getElem? (i := 5) (by decide +kernel)) rfl
theorem ksel_L_pieceBefore : Cond.selects nL yL_pieceBefore yL_pieceBefore ∈ gw := gw_p (List.mem_of_getElem? (i := 6) (by decide +kernel)) rfl
theorem ksel_G_isMarked : Cond.selects nG yG_isMarked yG_isMarked ∈ gw := gw_p (List.mem_of_getElem? (i := 7) (by decide +kernel)) rfl
theorem ksel_S_extend : Cond.selects nS yS_extend yS_extend ∈ gw := gw_p (List.mem_of_getElem? (i := 8) (by decide +kernel)) rfl
theorem ksel_S_canBeNext : Cond.selects nS yS_canBeNext yS_canBeNext ∈ gw := gw_p (List.mem_of_getElem? (i := 9) (by decide +kernel)) rfl
theorem ksel_S_keep : Cond.selects nS yS_keep yS_keep ∈ gw := gw_p (List.mem_of_getElem? (i := 10) (by decide +kernel)) rfl
theorem ksel_S_rankOf : Cond.selects nS yS_rankOf yS_rankOf ∈ gw := gw_p (List.mem_of_getElem? (i := 11) (by decide +kernel)) rfl
theorem ksel_M_isPlace : Cond.selects nM yM_isPlace yM_isPlace ∈ gw := gw_p (List.mem_of_getElem? (i := 12) (by decide +kernel)) rfl
theorem ksel_M_add : Cond.selects nM yM_add yM_add ∈ gw := gw_p (List.mem_of_getElem? (i := 13) (by decide +kernel)) rfl
theorem ksel_M_isPiece : Cond.selects nM yM_isPiece yM_isPiece ∈ gw := gw_p (List.mem_of_getElem? (i := 14) (by decide +kernel)) rfl
theorem ksel_M_isMover : Cond.selects nM yM_isMover yM_isMover ∈ gw := gw_p (List.mem_of_getElem? (i := 15) (by decide +kernel)) rfl
theorem ksel_M_least : Cond.selects nM yM_least yM_least ∈ gw := gw_p (List.mem_of_getElem? (i := 16) (by decide +kernel)) rfl
theorem ksel_M_reachAll : Cond.selects nM yM_reachAll yM_reachAll ∈ gw := gw_p (List.mem_of_getElem? (i := 17) (by decide +kernel)) rfl
theorem ksel_M_mayUse : Cond.selects nM yM_mayUse yM_mayUse ∈ gw := gw_p (List.mem_of_getElem? (i := 18) (by decide +kernel)) rfl
theorem ksel_M_use : Cond.selects nM yM_use yM_use ∈ gw := gw_p (List.mem_of_getElem? (i := 19) (by decide +kernel)) rfl
theorem ksel_M_lower : Cond.selects nM yM_lower yM_lower ∈ gw := gw_p (List.mem_of_getElem? (i := 20) (by decide +kernel)) rfl
theorem ksel_M_follows : Cond.selects nM yM_follows yM_follows ∈ gw := gw_p (List.mem_of_getElem? (i := 21) (by decide +kernel)) rfl
theorem ksel_M_lastTo : Cond.selects nM yM_lastTo yM_lastTo ∈ gw := gw_p (List.mem_of_getElem? (i := 22) (by decide +kernel)) rfl
theorem ksel_M_before : Cond.selects nM yM_before yM_before ∈ gw := gw_p (List.mem_of_getElem? (i := 23) (by decide +kernel)) rfl
theorem ksel_M_goThrough : Cond.selects nM yM_goThrough yM_goThrough ∈ gw := gw_p (List.mem_of_getElem? (i := 24) (by decide +kernel)) rfl
theorem ksel_M_mayGo : Cond.selects nM yM_mayGo yM_mayGo ∈ gw := gw_p (List.mem_of_getElem? (i := 25) (by decide +kernel)) rfl
theorem ksel_M_seen : Cond.selects nM yM_seen yM_seen ∈ gw := gw_p (List.mem_of_getElem? (i := 26) (by decide +kernel)) rfl
theorem ksel_M_keep : Cond.selects nM yM_keep yM_keep ∈ gw := gw_p (List.mem_of_getElem? (i := 27) (by decide +kernel)) rfl
theorem ksel_M_isBetter : Cond.selects nM yM_isBetter yM_isBetter ∈ gw := gw_p (List.mem_of_getElem? (i := 28) (by decide +kernel)) rfl
def nwL : List Cond := [Cond.methodLinkNest nP 42 yG_hasBit "WayGraph", Cond.methodLinkNest nP 60 yG_withBit "WayGraph", Cond.methodLinkNest nL 28 yG_hasBit "WayGraph", Cond.methodLinkNest nL 46 yG_withBit "WayGraph", Cond.methodLinkNest nS 36 yG_withBit "WayGraph", Cond.methodLinkNest nS 56 yG_hasBit "WayGraph"]
theorem nwL_ok : ∀ w ∈ nwL, ∃ (a : String) (i : Nat) (x : MethodName) (h : String), w = .methodLinkNest a i x h := by intro w hw; simp only [nwL, List.mem_cons, List.not_mem_nil, or_false] at hw; rcases hw with rfl | rfl | rfl | rfl | rfl | rfl <;> exact ⟨_, _, _, _, rfl⟩
theorem nwL_t : ∀ w ∈ nwL, w ∈ lw_tbl := by
  intro w hw
  simp only [nwL, List.mem_cons, List.not_mem_nil, or_false] at hw
  rcases hw with rfl | rfl | rfl | rfl | rfl | rfl
  · exact List.mem_append_right _ (List.mem_of_getElem? (i := 395) (by decide +kernel))
  · exact List.mem_append_right _ (List.mem_of_getElem? (i := 427) (by decide +kernel))
  · exact List.mem_append_right _ (List.mem_of_getElem? (i := 432) (by decide +kernel))
  · exact List.mem_append_right _ (List.mem_of_getElem? (i := 448) (by decide +kernel))
  · exact List.mem_append_right _ (List.mem_of_getElem? (i := 546) (by decide +kernel))
  · exact List.mem_append_right _ (List.mem_of_getElem? (i := 555) (by decide +kernel))
theorem kNP_42 : Cond.methodLinkNest nP 42 yG_hasBit "WayGraph" ∈ nwL := List.mem_of_getElem? (i := 0) rfl
theorem kNP_60 : Cond.methodLinkNest nP 60 yG_withBit "WayGraph" ∈ nwL := List.mem_of_getElem? (i := 1) rfl
theorem kNL_28 : Cond.methodLinkNest nL 28 yG_hasBit "WayGraph" ∈ nwL := List.mem_of_getElem? (i := 2) rfl
theorem kNL_46 : Cond.methodLinkNest nL 46 yG_withBit "WayGraph" ∈ nwL := List.mem_of_getElem? (i := 3) rfl
theorem kNS_36 : Cond.methodLinkNest nS 36 yG_withBit "WayGraph" ∈ nwL := List.mem_of_getElem? (i := 4) rfl
theorem kNS_56 : Cond.methodLinkNest nS 56 yG_hasBit "WayGraph" ∈ nwL := List.mem_of_getElem? (i := 5) rfl
theorem inG : ∀ w ∈ u_ws nG TG 11, w ∈ gw := by
  intro w hw
  refine List.mem_filter.mpr ⟨?_, ?_⟩
  · revert w; decide +kernel
  · revert w; decide +kernel
theorem inP : ∀ w ∈ u_ws nP TP 9, w ∈ gw := by
  intro w hw
  refine List.mem_filter.mpr ⟨?_, ?_⟩
  · revert w; decide +kernel
  · revert w; decide +kernel
theorem inL : ∀ w ∈ u_ws nL TL 3, w ∈ gw := by
  intro w hw
  refine List.mem_filter.mpr ⟨?_, ?_⟩
  · revert w; decide +kernel
  · revert w; decide +kernel
theorem inS : ∀ w ∈ u_ws nS TS 7, w ∈ gw := by
  intro w hw
  refine List.mem_filter.mpr ⟨?_, ?_⟩
  · revert w; decide +kernel
  · revert w; decide +kernel
theorem inR : ∀ w ∈ u_ws nR TR 2, w ∈ gw := by
  intro w hw
  refine List.mem_filter.mpr ⟨?_, ?_⟩
  · revert w; decide +kernel
  · revert w; decide +kernel
theorem inM : ∀ w ∈ u_ws nM TM 26, w ∈ gw := by
  intro w hw
  refine List.mem_filter.mpr ⟨?_, ?_⟩
  · revert w; decide +kernel
  · revert w; decide +kernel
end
section
theorem dG_init_0 : decode cG_init 0 = .ok (.aload_n 0, 1) := by decide +kernel
theorem dG_init_1 : decode cG_init 1 = .ok (.invokespecial 3, 3) := by decide +kernel
theorem dG_init_4 : decode cG_init 4 = .ok (.aload_n 0, 1) := by decide +kernel
theorem dG_init_5 : decode cG_init 5 = .ok (.bipush 20, 2) := by decide +kernel
theorem dG_init_7 : decode cG_init 7 = .ok (.newarray .int, 2) := by decide +kernel
theorem dG_init_9 : decode cG_init 9 = .ok (.putfield 9, 3) := by decide +kernel
theorem dG_init_12 : decode cG_init 12 = .ok (.aload_n 0, 1) := by decide +kernel
theorem dG_init_13 : decode cG_init 13 = .ok (.new 13, 3) := by decide +kernel
theorem dG_init_16 : decode cG_init 16 = .ok (.dup, 1) := by decide +kernel
theorem dG_init_17 : decode cG_init 17 = .ok (.invokespecial 15, 3) := by decide +kernel
theorem dG_init_20 : decode cG_init 20 = .ok (.putfield 16, 3) := by decide +kernel
theorem dG_init_23 : decode cG_init 23 = .ok (.aload_n 0, 1) := by decide +kernel
theorem dG_init_24 : decode cG_init 24 = .ok (.bipush 6, 2) := by decide +kernel
theorem dG_init_26 : decode cG_init 26 = .ok (.newarray .int, 2) := by decide +kernel
theorem dG_init_28 : decode cG_init 28 = .ok (.putfield 20, 3) := by decide +kernel
theorem dG_init_31 : decode cG_init 31 = .ok (.aload_n 0, 1) := by decide +kernel
theorem dG_init_32 : decode cG_init 32 = .ok (.bipush 6, 2) := by decide +kernel
theorem dG_init_34 : decode cG_init 34 = .ok (.newarray .long, 2) := by decide +kernel
theorem dG_init_36 : decode cG_init 36 = .ok (.putfield 23, 3) := by decide +kernel
theorem dG_init_39 : decode cG_init 39 = .ok (.aload_n 0, 1) := by decide +kernel
theorem dG_init_40 : decode cG_init 40 = .ok (.bipush 8, 2) := by decide +kernel
theorem dG_init_42 : decode cG_init 42 = .ok (.newarray .int, 2) := by decide +kernel
theorem dG_init_44 : decode cG_init 44 = .ok (.putfield 27, 3) := by decide +kernel
theorem dG_init_47 : decode cG_init 47 = .ok (.aload_n 0, 1) := by decide +kernel
theorem dG_init_48 : decode cG_init 48 = .ok (.new 30, 3) := by decide +kernel
theorem dG_init_51 : decode cG_init 51 = .ok (.dup, 1) := by decide +kernel
theorem dG_init_52 : decode cG_init 52 = .ok (.invokespecial 32, 3) := by decide +kernel
theorem dG_init_55 : decode cG_init 55 = .ok (.putfield 33, 3) := by decide +kernel
theorem dG_init_58 : decode cG_init 58 = .ok (.aload_n 0, 1) := by decide +kernel
theorem dG_init_59 : decode cG_init 59 = .ok (.new 37, 3) := by decide +kernel
theorem dG_init_62 : decode cG_init 62 = .ok (.dup, 1) := by decide +kernel
theorem dG_init_63 : decode cG_init 63 = .ok (.invokespecial 39, 3) := by decide +kernel
theorem dG_init_66 : decode cG_init 66 = .ok (.putfield 40, 3) := by decide +kernel
theorem dG_init_69 : decode cG_init 69 = .ok (.aload_n 0, 1) := by decide +kernel
theorem dG_init_70 : decode cG_init 70 = .ok (.new 44, 3) := by decide +kernel
theorem dG_init_73 : decode cG_init 73 = .ok (.dup, 1) := by decide +kernel
theorem dG_init_74 : decode cG_init 74 = .ok (.invokespecial 46, 3) := by decide +kernel
theorem dG_init_77 : decode cG_init 77 = .ok (.putfield 47, 3) := by decide +kernel
theorem dG_init_80 : decode cG_init 80 = .ok (.return_, 1) := by decide +kernel
theorem dP_init_0 : decode cP_init 0 = .ok (.aload_n 0, 1) := by decide +kernel
theorem dP_init_1 : decode cP_init 1 = .ok (.invokespecial 3, 3) := by decide +kernel
theorem dP_init_4 : decode cP_init 4 = .ok (.aload_n 0, 1) := by decide +kernel
theorem dP_init_5 : decode cP_init 5 = .ok (.bipush 40, 2) := by decide +kernel
theorem dP_init_7 : decode cP_init 7 = .ok (.newarray .int, 2) := by decide +kernel
theorem dP_init_9 : decode cP_init 9 = .ok (.putfield 9, 3) := by decide +kernel
theorem dP_init_12 : decode cP_init 12 = .ok (.aload_n 0, 1) := by decide +kernel
theorem dP_init_13 : decode cP_init 13 = .ok (.bipush 40, 2) := by decide +kernel
theorem dP_init_15 : decode cP_init 15 = .ok (.newarray .int, 2) := by decide +kernel
theorem dP_init_17 : decode cP_init 17 = .ok (.putfield 15, 3) := by decide +kernel
theorem dP_init_20 : decode cP_init 20 = .ok (.aload_n 0, 1) := by decide +kernel
theorem dP_init_21 : decode cP_init 21 = .ok (.bipush 40, 2) := by decide +kernel
theorem dP_init_23 : decode cP_init 23 = .ok (.newarray .long, 2) := by decide +kernel
theorem dP_init_25 : decode cP_init 25 = .ok (.putfield 18, 3) := by decide +kernel
theorem dP_init_28 : decode cP_init 28 = .ok (.aload_n 0, 1) := by decide +kernel
theorem dP_init_29 : decode cP_init 29 = .ok (.bipush 40, 2) := by decide +kernel
theorem dP_init_31 : decode cP_init 31 = .ok (.newarray .int, 2) := by decide +kernel
theorem dP_init_33 : decode cP_init 33 = .ok (.putfield 22, 3) := by decide +kernel
theorem dP_init_36 : decode cP_init 36 = .ok (.aload_n 0, 1) := by decide +kernel
theorem dP_init_37 : decode cP_init 37 = .ok (.bipush 40, 2) := by decide +kernel
theorem dP_init_39 : decode cP_init 39 = .ok (.newarray .long, 2) := by decide +kernel
theorem dP_init_41 : decode cP_init 41 = .ok (.putfield 25, 3) := by decide +kernel
theorem dP_init_44 : decode cP_init 44 = .ok (.aload_n 0, 1) := by decide +kernel
theorem dP_init_45 : decode cP_init 45 = .ok (.bipush 40, 2) := by decide +kernel
theorem dP_init_47 : decode cP_init 47 = .ok (.newarray .long, 2) := by decide +kernel
theorem dP_init_49 : decode cP_init 49 = .ok (.putfield 28, 3) := by decide +kernel
theorem dP_init_52 : decode cP_init 52 = .ok (.aload_n 0, 1) := by decide +kernel
theorem dP_init_53 : decode cP_init 53 = .ok (.bipush 40, 2) := by decide +kernel
theorem dP_init_55 : decode cP_init 55 = .ok (.newarray .long, 2) := by decide +kernel
theorem dP_init_57 : decode cP_init 57 = .ok (.putfield 31, 3) := by decide +kernel
theorem dP_init_60 : decode cP_init 60 = .ok (.return_, 1) := by decide +kernel
theorem dL_init_0 : decode cL_init 0 = .ok (.aload_n 0, 1) := by decide +kernel
theorem dL_init_1 : decode cL_init 1 = .ok (.invokespecial 3, 3) := by decide +kernel
theorem dL_init_4 : decode cL_init 4 = .ok (.aload_n 0, 1) := by decide +kernel
theorem dL_init_5 : decode cL_init 5 = .ok (.bipush 40, 2) := by decide +kernel
theorem dL_init_7 : decode cL_init 7 = .ok (.newarray .long, 2) := by decide +kernel
theorem dL_init_9 : decode cL_init 9 = .ok (.putfield 9, 3) := by decide +kernel
theorem dL_init_12 : decode cL_init 12 = .ok (.return_, 1) := by decide +kernel
theorem dS_init_0 : decode cS_init 0 = .ok (.aload_n 0, 1) := by decide +kernel
theorem dS_init_1 : decode cS_init 1 = .ok (.invokespecial 3, 3) := by decide +kernel
theorem dS_init_4 : decode cS_init 4 = .ok (.aload_n 0, 1) := by decide +kernel
theorem dS_init_5 : decode cS_init 5 = .ok (.iconst 5, 1) := by decide +kernel
theorem dS_init_6 : decode cS_init 6 = .ok (.newarray .int, 2) := by decide +kernel
theorem dS_init_8 : decode cS_init 8 = .ok (.putfield 9, 3) := by decide +kernel
theorem dS_init_11 : decode cS_init 11 = .ok (.aload_n 0, 1) := by decide +kernel
theorem dS_init_12 : decode cS_init 12 = .ok (.bipush 25, 2) := by decide +kernel
theorem dS_init_14 : decode cS_init 14 = .ok (.newarray .int, 2) := by decide +kernel
theorem dS_init_16 : decode cS_init 16 = .ok (.putfield 15, 3) := by decide +kernel
theorem dS_init_19 : decode cS_init 19 = .ok (.aload_n 0, 1) := by decide +kernel
theorem dS_init_20 : decode cS_init 20 = .ok (.iconst 5, 1) := by decide +kernel
theorem dS_init_21 : decode cS_init 21 = .ok (.newarray .int, 2) := by decide +kernel
theorem dS_init_23 : decode cS_init 23 = .ok (.putfield 18, 3) := by decide +kernel
theorem dS_init_26 : decode cS_init 26 = .ok (.aload_n 0, 1) := by decide +kernel
theorem dS_init_27 : decode cS_init 27 = .ok (.iconst 5, 1) := by decide +kernel
theorem dS_init_28 : decode cS_init 28 = .ok (.newarray .long, 2) := by decide +kernel
theorem dS_init_30 : decode cS_init 30 = .ok (.putfield 21, 3) := by decide +kernel
theorem dS_init_33 : decode cS_init 33 = .ok (.return_, 1) := by decide +kernel
theorem dR_init_0 : decode cR_init 0 = .ok (.aload_n 0, 1) := by decide +kernel
theorem dR_init_1 : decode cR_init 1 = .ok (.invokespecial 3, 3) := by decide +kernel
theorem dR_init_4 : decode cR_init 4 = .ok (.aload_n 0, 1) := by decide +kernel
theorem dR_init_5 : decode cR_init 5 = .ok (.bipush 40, 2) := by decide +kernel
theorem dR_init_7 : decode cR_init 7 = .ok (.newarray .int, 2) := by decide +kernel
theorem dR_init_9 : decode cR_init 9 = .ok (.putfield 9, 3) := by decide +kernel
theorem dR_init_12 : decode cR_init 12 = .ok (.return_, 1) := by decide +kernel
theorem dG_step_0 : decode cG_step 0 = .ok (.aload_n 0, 1) := by decide +kernel
theorem dG_step_1 : decode cG_step 1 = .ok (.getfield 47, 3) := by decide +kernel
theorem dG_step_4 : decode cG_step 4 = .ok (.iload_n 1, 1) := by decide +kernel
theorem dG_step_5 : decode cG_step 5 = .ok (.invokevirtual 185, 3) := by decide +kernel
theorem dG_step_8 : decode cG_step 8 = .ok (.ireturn, 1) := by decide +kernel
theorem dR_at_0 : decode cR_at 0 = .ok (.iload_n 1, 1) := by decide +kernel
theorem dR_at_1 : decode cR_at 1 = .ok (.ifCond .lt 20, 3) := by decide +kernel
theorem dR_at_4 : decode cR_at 4 = .ok (.iload_n 1, 1) := by decide +kernel
theorem dR_at_5 : decode cR_at 5 = .ok (.aload_n 0, 1) := by decide +kernel
theorem dR_at_6 : decode cR_at 6 = .ok (.getfield 15, 3) := by decide +kernel
theorem dR_at_9 : decode cR_at 9 = .ok (.if_icmp .ge 12, 3) := by decide +kernel
theorem dR_at_12 : decode cR_at 12 = .ok (.aload_n 0, 1) := by decide +kernel
theorem dR_at_13 : decode cR_at 13 = .ok (.getfield 9, 3) := by decide +kernel
theorem dR_at_16 : decode cR_at 16 = .ok (.iload_n 1, 1) := by decide +kernel
theorem dR_at_17 : decode cR_at 17 = .ok (.iaload, 1) := by decide +kernel
theorem dR_at_18 : decode cR_at 18 = .ok (.goto 4, 3) := by decide +kernel
theorem dR_at_21 : decode cR_at 21 = .ok (.iconst (-1), 1) := by decide +kernel
theorem dR_at_22 : decode cR_at 22 = .ok (.ireturn, 1) := by decide +kernel
theorem dG_count_0 : decode cG_count 0 = .ok (.iload_n 1, 1) := by decide +kernel
theorem dG_count_1 : decode cG_count 1 = .ok (.tableswitch 66 0 4 #[35, 40, 48, 53, 58], 35) := by decide +kernel
theorem dG_count_36 : decode cG_count 36 = .ok (.aload_n 0, 1) := by decide +kernel
theorem dG_count_37 : decode cG_count 37 = .ok (.getfield 64, 3) := by decide +kernel
theorem dG_count_40 : decode cG_count 40 = .ok (.ireturn, 1) := by decide +kernel
theorem dG_count_41 : decode cG_count 41 = .ok (.aload_n 0, 1) := by decide +kernel
theorem dG_count_42 : decode cG_count 42 = .ok (.getfield 16, 3) := by decide +kernel
theorem dG_count_45 : decode cG_count 45 = .ok (.getfield 90, 3) := by decide +kernel
theorem dG_count_48 : decode cG_count 48 = .ok (.ireturn, 1) := by decide +kernel
theorem dG_count_49 : decode cG_count 49 = .ok (.aload_n 0, 1) := by decide +kernel
theorem dG_count_50 : decode cG_count 50 = .ok (.getfield 120, 3) := by decide +kernel
theorem dG_count_53 : decode cG_count 53 = .ok (.ireturn, 1) := by decide +kernel
theorem dG_count_54 : decode cG_count 54 = .ok (.aload_n 0, 1) := by decide +kernel
theorem dG_count_55 : decode cG_count 55 = .ok (.getfield 201, 3) := by decide +kernel
theorem dG_count_58 : decode cG_count 58 = .ok (.ireturn, 1) := by decide +kernel
theorem dG_count_59 : decode cG_count 59 = .ok (.aload_n 0, 1) := by decide +kernel
theorem dG_count_60 : decode cG_count 60 = .ok (.getfield 16, 3) := by decide +kernel
theorem dG_count_63 : decode cG_count 63 = .ok (.invokevirtual 241, 3) := by decide +kernel
theorem dG_count_66 : decode cG_count 66 = .ok (.ireturn, 1) := by decide +kernel
theorem dG_count_67 : decode cG_count 67 = .ok (.iconst (-1), 1) := by decide +kernel
theorem dG_count_68 : decode cG_count 68 = .ok (.ireturn, 1) := by decide +kernel
theorem dP_countBarredTurns_0 : decode cP_countBarredTurns 0 = .ok (.iconst 0, 1) := by decide +kernel
theorem dP_countBarredTurns_1 : decode cP_countBarredTurns 1 = .ok (.istore_n 1, 1) := by decide +kernel
theorem dP_countBarredTurns_2 : decode cP_countBarredTurns 2 = .ok (.iconst 0, 1) := by decide +kernel
theorem dP_countBarredTurns_3 : decode cP_countBarredTurns 3 = .ok (.istore_n 2, 1) := by decide +kernel
theorem dP_countBarredTurns_4 : decode cP_countBarredTurns 4 = .ok (.iload_n 2, 1) := by decide +kernel
theorem dP_countBarredTurns_5 : decode cP_countBarredTurns 5 = .ok (.aload_n 0, 1) := by decide +kernel
theorem dP_countBarredTurns_6 : decode cP_countBarredTurns 6 = .ok (.getfield 34, 3) := by decide +kernel
theorem dP_countBarredTurns_9 : decode cP_countBarredTurns 9 = .ok (.if_icmp .ge 21, 3) := by decide +kernel
theorem dP_countBarredTurns_12 : decode cP_countBarredTurns 12 = .ok (.iload_n 1, 1) := by decide +kernel
theorem dP_countBarredTurns_13 : decode cP_countBarredTurns 13 = .ok (.aload_n 0, 1) := by decide +kernel
theorem dP_countBarredTurns_14 : decode cP_countBarredTurns 14 = .ok (.getfield 31, 3) := by decide +kernel
theorem dP_countBarredTurns_17 : decode cP_countBarredTurns 17 = .ok (.iload_n 2, 1) := by decide +kernel
theorem dP_countBarredTurns_18 : decode cP_countBarredTurns 18 = .ok (.laload, 1) := by decide +kernel
theorem dP_countBarredTurns_19 : decode cP_countBarredTurns 19 = .ok (.invokestatic 46, 3) := by decide +kernel
theorem dP_countBarredTurns_22 : decode cP_countBarredTurns 22 = .ok (.iadd, 1) := by decide +kernel
theorem dP_countBarredTurns_23 : decode cP_countBarredTurns 23 = .ok (.istore_n 1, 1) := by decide +kernel
theorem dP_countBarredTurns_24 : decode cP_countBarredTurns 24 = .ok (.iinc 2 1, 3) := by decide +kernel
theorem dP_countBarredTurns_27 : decode cP_countBarredTurns 27 = .ok (.goto (-23), 3) := by decide +kernel
theorem dP_countBarredTurns_30 : decode cP_countBarredTurns 30 = .ok (.iload_n 1, 1) := by decide +kernel
theorem dP_countBarredTurns_31 : decode cP_countBarredTurns 31 = .ok (.ireturn, 1) := by decide +kernel
theorem dJL_bitCount_0 : decode cJL_bitCount 0 = .ok (.lload_n 0, 1) := by decide +kernel
theorem dJL_bitCount_1 : decode cJL_bitCount 1 = .ok (.lload_n 0, 1) := by decide +kernel
theorem dJL_bitCount_2 : decode cJL_bitCount 2 = .ok (.iconst 1, 1) := by decide +kernel
theorem dJL_bitCount_3 : decode cJL_bitCount 3 = .ok (.lushr, 1) := by decide +kernel
theorem dJL_bitCount_4 : decode cJL_bitCount 4 = .ok (.ldc2_w 314, 3) := by decide +kernel
theorem dJL_bitCount_7 : decode cJL_bitCount 7 = .ok (.land, 1) := by decide +kernel
theorem dJL_bitCount_8 : decode cJL_bitCount 8 = .ok (.lsub, 1) := by decide +kernel
theorem dJL_bitCount_9 : decode cJL_bitCount 9 = .ok (.lstore_n 0, 1) := by decide +kernel
theorem dJL_bitCount_10 : decode cJL_bitCount 10 = .ok (.lload_n 0, 1) := by decide +kernel
theorem dJL_bitCount_11 : decode cJL_bitCount 11 = .ok (.ldc2_w 316, 3) := by decide +kernel
theorem dJL_bitCount_14 : decode cJL_bitCount 14 = .ok (.land, 1) := by decide +kernel
theorem dJL_bitCount_15 : decode cJL_bitCount 15 = .ok (.lload_n 0, 1) := by decide +kernel
theorem dJL_bitCount_16 : decode cJL_bitCount 16 = .ok (.iconst 2, 1) := by decide +kernel
theorem dJL_bitCount_17 : decode cJL_bitCount 17 = .ok (.lushr, 1) := by decide +kernel
theorem dJL_bitCount_18 : decode cJL_bitCount 18 = .ok (.ldc2_w 316, 3) := by decide +kernel
theorem dJL_bitCount_21 : decode cJL_bitCount 21 = .ok (.land, 1) := by decide +kernel
theorem dJL_bitCount_22 : decode cJL_bitCount 22 = .ok (.ladd, 1) := by decide +kernel
theorem dJL_bitCount_23 : decode cJL_bitCount 23 = .ok (.lstore_n 0, 1) := by decide +kernel
theorem dJL_bitCount_24 : decode cJL_bitCount 24 = .ok (.lload_n 0, 1) := by decide +kernel
theorem dJL_bitCount_25 : decode cJL_bitCount 25 = .ok (.lload_n 0, 1) := by decide +kernel
theorem dJL_bitCount_26 : decode cJL_bitCount 26 = .ok (.iconst 4, 1) := by decide +kernel
theorem dJL_bitCount_27 : decode cJL_bitCount 27 = .ok (.lushr, 1) := by decide +kernel
theorem dJL_bitCount_28 : decode cJL_bitCount 28 = .ok (.ladd, 1) := by decide +kernel
theorem dJL_bitCount_29 : decode cJL_bitCount 29 = .ok (.ldc2_w 318, 3) := by decide +kernel
theorem dJL_bitCount_32 : decode cJL_bitCount 32 = .ok (.land, 1) := by decide +kernel
theorem dJL_bitCount_33 : decode cJL_bitCount 33 = .ok (.lstore_n 0, 1) := by decide +kernel
theorem dJL_bitCount_34 : decode cJL_bitCount 34 = .ok (.lload_n 0, 1) := by decide +kernel
theorem dJL_bitCount_35 : decode cJL_bitCount 35 = .ok (.lload_n 0, 1) := by decide +kernel
theorem dJL_bitCount_36 : decode cJL_bitCount 36 = .ok (.bipush 8, 2) := by decide +kernel
theorem dJL_bitCount_38 : decode cJL_bitCount 38 = .ok (.lushr, 1) := by decide +kernel
theorem dJL_bitCount_39 : decode cJL_bitCount 39 = .ok (.ladd, 1) := by decide +kernel
theorem dJL_bitCount_40 : decode cJL_bitCount 40 = .ok (.lstore_n 0, 1) := by decide +kernel
theorem dJL_bitCount_41 : decode cJL_bitCount 41 = .ok (.lload_n 0, 1) := by decide +kernel
theorem dJL_bitCount_42 : decode cJL_bitCount 42 = .ok (.lload_n 0, 1) := by decide +kernel
theorem dJL_bitCount_43 : decode cJL_bitCount 43 = .ok (.bipush 16, 2) := by decide +kernel
theorem dJL_bitCount_45 : decode cJL_bitCount 45 = .ok (.lushr, 1) := by decide +kernel
theorem dJL_bitCount_46 : decode cJL_bitCount 46 = .ok (.ladd, 1) := by decide +kernel
theorem dJL_bitCount_47 : decode cJL_bitCount 47 = .ok (.lstore_n 0, 1) := by decide +kernel
theorem dJL_bitCount_48 : decode cJL_bitCount 48 = .ok (.lload_n 0, 1) := by decide +kernel
theorem dJL_bitCount_49 : decode cJL_bitCount 49 = .ok (.lload_n 0, 1) := by decide +kernel
theorem dJL_bitCount_50 : decode cJL_bitCount 50 = .ok (.bipush 32, 2) := by decide +kernel
theorem dJL_bitCount_52 : decode cJL_bitCount 52 = .ok (.lushr, 1) := by decide +kernel
theorem dJL_bitCount_53 : decode cJL_bitCount 53 = .ok (.ladd, 1) := by decide +kernel
theorem dJL_bitCount_54 : decode cJL_bitCount 54 = .ok (.lstore_n 0, 1) := by decide +kernel
theorem dJL_bitCount_55 : decode cJL_bitCount 55 = .ok (.lload_n 0, 1) := by decide +kernel
theorem dJL_bitCount_56 : decode cJL_bitCount 56 = .ok (.l2i, 1) := by decide +kernel
theorem dJL_bitCount_57 : decode cJL_bitCount 57 = .ok (.bipush 127, 2) := by decide +kernel
theorem dJL_bitCount_59 : decode cJL_bitCount 59 = .ok (.iand, 1) := by decide +kernel
theorem dJL_bitCount_60 : decode cJL_bitCount 60 = .ok (.ireturn, 1) := by decide +kernel
theorem dW_place_0 : decode cW_place 0 = .ok (.aload_n 2, 1) := by decide +kernel
theorem dW_place_1 : decode cW_place 1 = .ok (.iconst 0, 1) := by decide +kernel
theorem dW_place_2 : decode cW_place 2 = .ok (.aload_n 0, 1) := by decide +kernel
theorem dW_place_3 : decode cW_place 3 = .ok (.iload_n 1, 1) := by decide +kernel
theorem dW_place_4 : decode cW_place 4 = .ok (.invokevirtual 7, 3) := by decide +kernel
theorem dW_place_7 : decode cW_place 7 = .ok (.i2l, 1) := by decide +kernel
theorem dW_place_8 : decode cW_place 8 = .ok (.lastore, 1) := by decide +kernel
theorem dW_place_9 : decode cW_place 9 = .ok (.goto 9, 3) := by decide +kernel
theorem dW_place_12 : decode cW_place 12 = .ok (.astore_n 3, 1) := by decide +kernel
theorem dW_place_13 : decode cW_place 13 = .ok (.iconst 1, 1) := by decide +kernel
theorem dW_place_14 : decode cW_place 14 = .ok (.ireturn, 1) := by decide +kernel
theorem dW_place_15 : decode cW_place 15 = .ok (.astore_n 3, 1) := by decide +kernel
theorem dW_place_16 : decode cW_place 16 = .ok (.iconst 2, 1) := by decide +kernel
theorem dW_place_17 : decode cW_place 17 = .ok (.ireturn, 1) := by decide +kernel
theorem dW_place_18 : decode cW_place 18 = .ok (.iconst 0, 1) := by decide +kernel
theorem dW_place_19 : decode cW_place 19 = .ok (.ireturn, 1) := by decide +kernel
theorem dG_place_0 : decode cG_place 0 = .ok (.iload_n 1, 1) := by decide +kernel
theorem dG_place_1 : decode cG_place 1 = .ok (.i2l, 1) := by decide +kernel
theorem dG_place_2 : decode cG_place 2 = .ok (.lconst 0, 1) := by decide +kernel
theorem dG_place_3 : decode cG_place 3 = .ok (.ldc2_w 51, 3) := by decide +kernel
theorem dG_place_6 : decode cG_place 6 = .ok (.invokestatic 53, 3) := by decide +kernel
theorem dG_place_9 : decode cG_place 9 = .ok (.ifCond .ne 13, 3) := by decide +kernel
theorem dG_place_12 : decode cG_place 12 = .ok (.new 57, 3) := by decide +kernel
theorem dG_place_15 : decode cG_place 15 = .ok (.dup, 1) := by decide +kernel
theorem dG_place_16 : decode cG_place 16 = .ok (.ldc 59, 2) := by decide +kernel
theorem dG_place_18 : decode cG_place 18 = .ok (.invokespecial 61, 3) := by decide +kernel
theorem dG_place_21 : decode cG_place 21 = .ok (.athrow, 1) := by decide +kernel
theorem dG_place_22 : decode cG_place 22 = .ok (.aload_n 0, 1) := by decide +kernel
theorem dG_place_23 : decode cG_place 23 = .ok (.getfield 64, 3) := by decide +kernel
theorem dG_place_26 : decode cG_place 26 = .ok (.bipush 20, 2) := by decide +kernel
theorem dG_place_28 : decode cG_place 28 = .ok (.if_icmp .lt 13, 3) := by decide +kernel
theorem dG_place_31 : decode cG_place 31 = .ok (.new 68, 3) := by decide +kernel
theorem dG_place_34 : decode cG_place 34 = .ok (.dup, 1) := by decide +kernel
theorem dG_place_35 : decode cG_place 35 = .ok (.ldc 70, 2) := by decide +kernel
theorem dG_place_37 : decode cG_place 37 = .ok (.invokespecial 72, 3) := by decide +kernel
theorem dG_place_40 : decode cG_place 40 = .ok (.athrow, 1) := by decide +kernel
theorem dG_place_41 : decode cG_place 41 = .ok (.aload_n 0, 1) := by decide +kernel
theorem dG_place_42 : decode cG_place 42 = .ok (.getfield 9, 3) := by decide +kernel
theorem dG_place_45 : decode cG_place 45 = .ok (.aload_n 0, 1) := by decide +kernel
theorem dG_place_46 : decode cG_place 46 = .ok (.getfield 64, 3) := by decide +kernel
theorem dG_place_49 : decode cG_place 49 = .ok (.iload_n 1, 1) := by decide +kernel
theorem dG_place_50 : decode cG_place 50 = .ok (.iastore, 1) := by decide +kernel
theorem dG_place_51 : decode cG_place 51 = .ok (.aload_n 0, 1) := by decide +kernel
theorem dG_place_52 : decode cG_place 52 = .ok (.dup, 1) := by decide +kernel
theorem dG_place_53 : decode cG_place 53 = .ok (.getfield 64, 3) := by decide +kernel
theorem dG_place_56 : decode cG_place 56 = .ok (.iconst 1, 1) := by decide +kernel
theorem dG_place_57 : decode cG_place 57 = .ok (.iadd, 1) := by decide +kernel
theorem dG_place_58 : decode cG_place 58 = .ok (.putfield 64, 3) := by decide +kernel
theorem dG_place_61 : decode cG_place 61 = .ok (.aload_n 0, 1) := by decide +kernel
theorem dG_place_62 : decode cG_place 62 = .ok (.getfield 64, 3) := by decide +kernel
theorem dG_place_65 : decode cG_place 65 = .ok (.iconst 1, 1) := by decide +kernel
theorem dG_place_66 : decode cG_place 66 = .ok (.isub, 1) := by decide +kernel
theorem dG_place_67 : decode cG_place 67 = .ok (.ireturn, 1) := by decide +kernel
theorem dG_within_0 : decode cG_within 0 = .ok (.lload_n 0, 1) := by decide +kernel
theorem dG_within_1 : decode cG_within 1 = .ok (.lload_n 2, 1) := by decide +kernel
theorem dG_within_2 : decode cG_within 2 = .ok (.lcmp, 1) := by decide +kernel
theorem dG_within_3 : decode cG_within 3 = .ok (.ifCond .lt 14, 3) := by decide +kernel
theorem dG_within_6 : decode cG_within 6 = .ok (.lload_n 0, 1) := by decide +kernel
theorem dG_within_7 : decode cG_within 7 = .ok (.lload 4, 2) := by decide +kernel
theorem dG_within_9 : decode cG_within 9 = .ok (.lcmp, 1) := by decide +kernel
theorem dG_within_10 : decode cG_within 10 = .ok (.ifCond .gt 7, 3) := by decide +kernel
theorem dG_within_13 : decode cG_within 13 = .ok (.iconst 1, 1) := by decide +kernel
theorem dG_within_14 : decode cG_within 14 = .ok (.goto 4, 3) := by decide +kernel
theorem dG_within_17 : decode cG_within 17 = .ok (.iconst 0, 1) := by decide +kernel
theorem dG_within_18 : decode cG_within 18 = .ok (.ireturn, 1) := by decide +kernel
theorem dW_piece_0 : decode cW_piece 0 = .ok (.aload 7, 2) := by decide +kernel
theorem dW_piece_2 : decode cW_piece 2 = .ok (.iconst 0, 1) := by decide +kernel
theorem dW_piece_3 : decode cW_piece 3 = .ok (.aload_n 0, 1) := by decide +kernel
theorem dW_piece_4 : decode cW_piece 4 = .ok (.iload_n 1, 1) := by decide +kernel
theorem dW_piece_5 : decode cW_piece 5 = .ok (.iload_n 2, 1) := by decide +kernel
theorem dW_piece_6 : decode cW_piece 6 = .ok (.lload_n 3, 1) := by decide +kernel
theorem dW_piece_7 : decode cW_piece 7 = .ok (.lload 5, 2) := by decide +kernel
theorem dW_piece_9 : decode cW_piece 9 = .ok (.invokevirtual 17, 3) := by decide +kernel
theorem dW_piece_12 : decode cW_piece 12 = .ok (.i2l, 1) := by decide +kernel
theorem dW_piece_13 : decode cW_piece 13 = .ok (.lastore, 1) := by decide +kernel
theorem dW_piece_14 : decode cW_piece 14 = .ok (.goto 15, 3) := by decide +kernel
theorem dW_piece_17 : decode cW_piece 17 = .ok (.astore 8, 2) := by decide +kernel
theorem dW_piece_19 : decode cW_piece 19 = .ok (.iconst 1, 1) := by decide +kernel
theorem dW_piece_20 : decode cW_piece 20 = .ok (.ireturn, 1) := by decide +kernel
theorem dW_piece_21 : decode cW_piece 21 = .ok (.astore 8, 2) := by decide +kernel
theorem dW_piece_23 : decode cW_piece 23 = .ok (.iconst 2, 1) := by decide +kernel
theorem dW_piece_24 : decode cW_piece 24 = .ok (.ireturn, 1) := by decide +kernel
theorem dW_piece_25 : decode cW_piece 25 = .ok (.astore 8, 2) := by decide +kernel
theorem dW_piece_27 : decode cW_piece 27 = .ok (.iconst 3, 1) := by decide +kernel
theorem dW_piece_28 : decode cW_piece 28 = .ok (.ireturn, 1) := by decide +kernel
theorem dW_piece_29 : decode cW_piece 29 = .ok (.iconst 0, 1) := by decide +kernel
theorem dW_piece_30 : decode cW_piece 30 = .ok (.ireturn, 1) := by decide +kernel
theorem dG_piece_0 : decode cG_piece 0 = .ok (.aload_n 0, 1) := by decide +kernel
theorem dG_piece_1 : decode cG_piece 1 = .ok (.iload_n 1, 1) := by decide +kernel
theorem dG_piece_2 : decode cG_piece 2 = .ok (.invokevirtual 73, 3) := by decide +kernel
theorem dG_piece_5 : decode cG_piece 5 = .ok (.ifCond .eq 31, 3) := by decide +kernel
theorem dG_piece_8 : decode cG_piece 8 = .ok (.aload_n 0, 1) := by decide +kernel
theorem dG_piece_9 : decode cG_piece 9 = .ok (.iload_n 2, 1) := by decide +kernel
theorem dG_piece_10 : decode cG_piece 10 = .ok (.invokevirtual 73, 3) := by decide +kernel
theorem dG_piece_13 : decode cG_piece 13 = .ok (.ifCond .eq 23, 3) := by decide +kernel
theorem dG_piece_16 : decode cG_piece 16 = .ok (.iload_n 1, 1) := by decide +kernel
theorem dG_piece_17 : decode cG_piece 17 = .ok (.iload_n 2, 1) := by decide +kernel
theorem dG_piece_18 : decode cG_piece 18 = .ok (.if_icmp .eq 18, 3) := by decide +kernel
theorem dG_piece_21 : decode cG_piece 21 = .ok (.aload_n 0, 1) := by decide +kernel
theorem dG_piece_22 : decode cG_piece 22 = .ok (.getfield 9, 3) := by decide +kernel
theorem dG_piece_25 : decode cG_piece 25 = .ok (.iload_n 1, 1) := by decide +kernel
theorem dG_piece_26 : decode cG_piece 26 = .ok (.iaload, 1) := by decide +kernel
theorem dG_piece_27 : decode cG_piece 27 = .ok (.aload_n 0, 1) := by decide +kernel
theorem dG_piece_28 : decode cG_piece 28 = .ok (.getfield 9, 3) := by decide +kernel
theorem dG_piece_31 : decode cG_piece 31 = .ok (.iload_n 2, 1) := by decide +kernel
theorem dG_piece_32 : decode cG_piece 32 = .ok (.iaload, 1) := by decide +kernel
theorem dG_piece_33 : decode cG_piece 33 = .ok (.if_icmp .eq 13, 3) := by decide +kernel
theorem dG_piece_36 : decode cG_piece 36 = .ok (.new 57, 3) := by decide +kernel
theorem dG_piece_39 : decode cG_piece 39 = .ok (.dup, 1) := by decide +kernel
theorem dG_piece_40 : decode cG_piece 40 = .ok (.ldc 77, 2) := by decide +kernel
theorem dG_piece_42 : decode cG_piece 42 = .ok (.invokespecial 61, 3) := by decide +kernel
theorem dG_piece_45 : decode cG_piece 45 = .ok (.athrow, 1) := by decide +kernel
theorem dG_piece_46 : decode cG_piece 46 = .ok (.lload_n 3, 1) := by decide +kernel
theorem dG_piece_47 : decode cG_piece 47 = .ok (.lconst 1, 1) := by decide +kernel
theorem dG_piece_48 : decode cG_piece 48 = .ok (.ldc2_w 79, 3) := by decide +kernel
theorem dG_piece_51 : decode cG_piece 51 = .ok (.invokestatic 53, 3) := by decide +kernel
theorem dG_piece_54 : decode cG_piece 54 = .ok (.ifCond .eq 15, 3) := by decide +kernel
theorem dG_piece_57 : decode cG_piece 57 = .ok (.lload 5, 2) := by decide +kernel
theorem dG_piece_59 : decode cG_piece 59 = .ok (.lconst 0, 1) := by decide +kernel
theorem dG_piece_60 : decode cG_piece 60 = .ok (.ldc2_w 81, 3) := by decide +kernel
theorem dG_piece_63 : decode cG_piece 63 = .ok (.invokestatic 53, 3) := by decide +kernel
theorem dG_piece_66 : decode cG_piece 66 = .ok (.ifCond .ne 13, 3) := by decide +kernel
theorem dG_piece_69 : decode cG_piece 69 = .ok (.new 57, 3) := by decide +kernel
theorem dG_piece_72 : decode cG_piece 72 = .ok (.dup, 1) := by decide +kernel
theorem dG_piece_73 : decode cG_piece 73 = .ok (.ldc 83, 2) := by decide +kernel
theorem dG_piece_75 : decode cG_piece 75 = .ok (.invokespecial 61, 3) := by decide +kernel
theorem dG_piece_78 : decode cG_piece 78 = .ok (.athrow, 1) := by decide +kernel
theorem dG_piece_79 : decode cG_piece 79 = .ok (.lload 5, 2) := by decide +kernel
theorem dG_piece_81 : decode cG_piece 81 = .ok (.lconst 0, 1) := by decide +kernel
theorem dG_piece_82 : decode cG_piece 82 = .ok (.lcmp, 1) := by decide +kernel
theorem dG_piece_83 : decode cG_piece 83 = .ok (.ifCond .ne 13, 3) := by decide +kernel
theorem dG_piece_86 : decode cG_piece 86 = .ok (.new 85, 3) := by decide +kernel
theorem dG_piece_89 : decode cG_piece 89 = .ok (.dup, 1) := by decide +kernel
theorem dG_piece_90 : decode cG_piece 90 = .ok (.ldc 87, 2) := by decide +kernel
theorem dG_piece_92 : decode cG_piece 92 = .ok (.invokespecial 89, 3) := by decide +kernel
theorem dG_piece_95 : decode cG_piece 95 = .ok (.athrow, 1) := by decide +kernel
theorem dG_piece_96 : decode cG_piece 96 = .ok (.aload_n 0, 1) := by decide +kernel
theorem dG_piece_97 : decode cG_piece 97 = .ok (.getfield 16, 3) := by decide +kernel
theorem dG_piece_100 : decode cG_piece 100 = .ok (.getfield 90, 3) := by decide +kernel
theorem dG_piece_103 : decode cG_piece 103 = .ok (.bipush 40, 2) := by decide +kernel
theorem dG_piece_105 : decode cG_piece 105 = .ok (.if_icmp .lt 13, 3) := by decide +kernel
theorem dG_piece_108 : decode cG_piece 108 = .ok (.new 68, 3) := by decide +kernel
theorem dG_piece_111 : decode cG_piece 111 = .ok (.dup, 1) := by decide +kernel
theorem dG_piece_112 : decode cG_piece 112 = .ok (.ldc 93, 2) := by decide +kernel
theorem dG_piece_114 : decode cG_piece 114 = .ok (.invokespecial 72, 3) := by decide +kernel
theorem dG_piece_117 : decode cG_piece 117 = .ok (.athrow, 1) := by decide +kernel
theorem dG_piece_118 : decode cG_piece 118 = .ok (.aload_n 0, 1) := by decide +kernel
theorem dG_piece_119 : decode cG_piece 119 = .ok (.getfield 16, 3) := by decide +kernel
theorem dG_piece_122 : decode cG_piece 122 = .ok (.iload_n 1, 1) := by decide +kernel
theorem dG_piece_123 : decode cG_piece 123 = .ok (.iload_n 2, 1) := by decide +kernel
theorem dG_piece_124 : decode cG_piece 124 = .ok (.lload_n 3, 1) := by decide +kernel
theorem dG_piece_125 : decode cG_piece 125 = .ok (.lload 5, 2) := by decide +kernel
theorem dG_piece_127 : decode cG_piece 127 = .ok (.ladd, 1) := by decide +kernel
theorem dG_piece_128 : decode cG_piece 128 = .ok (.lconst 1, 1) := by decide +kernel
theorem dG_piece_129 : decode cG_piece 129 = .ok (.lsub, 1) := by decide +kernel
theorem dG_piece_130 : decode cG_piece 130 = .ok (.lload 5, 2) := by decide +kernel
theorem dG_piece_132 : decode cG_piece 132 = .ok (.ldiv, 1) := by decide +kernel
theorem dG_piece_133 : decode cG_piece 133 = .ok (.invokevirtual 95, 3) := by decide +kernel
theorem dG_piece_136 : decode cG_piece 136 = .ok (.ireturn, 1) := by decide +kernel
theorem dG_hasPlace_0 : decode cG_hasPlace 0 = .ok (.iload_n 1, 1) := by decide +kernel
theorem dG_hasPlace_1 : decode cG_hasPlace 1 = .ok (.ifCond .lt 15, 3) := by decide +kernel
theorem dG_hasPlace_4 : decode cG_hasPlace 4 = .ok (.iload_n 1, 1) := by decide +kernel
theorem dG_hasPlace_5 : decode cG_hasPlace 5 = .ok (.aload_n 0, 1) := by decide +kernel
theorem dG_hasPlace_6 : decode cG_hasPlace 6 = .ok (.getfield 64, 3) := by decide +kernel
theorem dG_hasPlace_9 : decode cG_hasPlace 9 = .ok (.if_icmp .ge 7, 3) := by decide +kernel
theorem dG_hasPlace_12 : decode cG_hasPlace 12 = .ok (.iconst 1, 1) := by decide +kernel
theorem dG_hasPlace_13 : decode cG_hasPlace 13 = .ok (.goto 4, 3) := by decide +kernel
theorem dG_hasPlace_16 : decode cG_hasPlace 16 = .ok (.iconst 0, 1) := by decide +kernel
theorem dG_hasPlace_17 : decode cG_hasPlace 17 = .ok (.ireturn, 1) := by decide +kernel
theorem dP_add_0 : decode cP_add 0 = .ok (.aload_n 0, 1) := by decide +kernel
theorem dP_add_1 : decode cP_add 1 = .ok (.getfield 34, 3) := by decide +kernel
theorem dP_add_4 : decode cP_add 4 = .ok (.bipush 40, 2) := by decide +kernel
theorem dP_add_6 : decode cP_add 6 = .ok (.if_icmp .lt 5, 3) := by decide +kernel
theorem dP_add_9 : decode cP_add 9 = .ok (.iconst (-1), 1) := by decide +kernel
theorem dP_add_10 : decode cP_add 10 = .ok (.ireturn, 1) := by decide +kernel
theorem dP_add_11 : decode cP_add 11 = .ok (.aload_n 0, 1) := by decide +kernel
theorem dP_add_12 : decode cP_add 12 = .ok (.getfield 9, 3) := by decide +kernel
theorem dP_add_15 : decode cP_add 15 = .ok (.aload_n 0, 1) := by decide +kernel
theorem dP_add_16 : decode cP_add 16 = .ok (.getfield 34, 3) := by decide +kernel
theorem dP_add_19 : decode cP_add 19 = .ok (.iload_n 1, 1) := by decide +kernel
theorem dP_add_20 : decode cP_add 20 = .ok (.iastore, 1) := by decide +kernel
theorem dP_add_21 : decode cP_add 21 = .ok (.aload_n 0, 1) := by decide +kernel
theorem dP_add_22 : decode cP_add 22 = .ok (.getfield 15, 3) := by decide +kernel
theorem dP_add_25 : decode cP_add 25 = .ok (.aload_n 0, 1) := by decide +kernel
theorem dP_add_26 : decode cP_add 26 = .ok (.getfield 34, 3) := by decide +kernel
theorem dP_add_29 : decode cP_add 29 = .ok (.iload_n 2, 1) := by decide +kernel
theorem dP_add_30 : decode cP_add 30 = .ok (.iastore, 1) := by decide +kernel
theorem dP_add_31 : decode cP_add 31 = .ok (.aload_n 0, 1) := by decide +kernel
theorem dP_add_32 : decode cP_add 32 = .ok (.getfield 18, 3) := by decide +kernel
theorem dP_add_35 : decode cP_add 35 = .ok (.aload_n 0, 1) := by decide +kernel
theorem dP_add_36 : decode cP_add 36 = .ok (.getfield 34, 3) := by decide +kernel
theorem dP_add_39 : decode cP_add 39 = .ok (.lload_n 3, 1) := by decide +kernel
theorem dP_add_40 : decode cP_add 40 = .ok (.lastore, 1) := by decide +kernel
theorem dP_add_41 : decode cP_add 41 = .ok (.aload_n 0, 1) := by decide +kernel
theorem dP_add_42 : decode cP_add 42 = .ok (.getfield 22, 3) := by decide +kernel
theorem dP_add_45 : decode cP_add 45 = .ok (.aload_n 0, 1) := by decide +kernel
theorem dP_add_46 : decode cP_add 46 = .ok (.getfield 34, 3) := by decide +kernel
theorem dP_add_49 : decode cP_add 49 = .ok (.sipush 2000, 3) := by decide +kernel
theorem dP_add_52 : decode cP_add 52 = .ok (.iastore, 1) := by decide +kernel
theorem dP_add_53 : decode cP_add 53 = .ok (.aload_n 0, 1) := by decide +kernel
theorem dP_add_54 : decode cP_add 54 = .ok (.getfield 25, 3) := by decide +kernel
theorem dP_add_57 : decode cP_add 57 = .ok (.aload_n 0, 1) := by decide +kernel
theorem dP_add_58 : decode cP_add 58 = .ok (.getfield 34, 3) := by decide +kernel
theorem dP_add_61 : decode cP_add 61 = .ok (.ldc2_w 38, 3) := by decide +kernel
theorem dP_add_64 : decode cP_add 64 = .ok (.lastore, 1) := by decide +kernel
theorem dP_add_65 : decode cP_add 65 = .ok (.aload_n 0, 1) := by decide +kernel
theorem dP_add_66 : decode cP_add 66 = .ok (.getfield 28, 3) := by decide +kernel
theorem dP_add_69 : decode cP_add 69 = .ok (.aload_n 0, 1) := by decide +kernel
theorem dP_add_70 : decode cP_add 70 = .ok (.getfield 34, 3) := by decide +kernel
theorem dP_add_73 : decode cP_add 73 = .ok (.ldc2_w 40, 3) := by decide +kernel
theorem dP_add_76 : decode cP_add 76 = .ok (.lastore, 1) := by decide +kernel
theorem dP_add_77 : decode cP_add 77 = .ok (.aload_n 0, 1) := by decide +kernel
theorem dP_add_78 : decode cP_add 78 = .ok (.dup, 1) := by decide +kernel
theorem dP_add_79 : decode cP_add 79 = .ok (.getfield 34, 3) := by decide +kernel
theorem dP_add_82 : decode cP_add 82 = .ok (.iconst 1, 1) := by decide +kernel
theorem dP_add_83 : decode cP_add 83 = .ok (.iadd, 1) := by decide +kernel
theorem dP_add_84 : decode cP_add 84 = .ok (.putfield 34, 3) := by decide +kernel
theorem dP_add_87 : decode cP_add 87 = .ok (.aload_n 0, 1) := by decide +kernel
theorem dP_add_88 : decode cP_add 88 = .ok (.getfield 34, 3) := by decide +kernel
theorem dP_add_91 : decode cP_add 91 = .ok (.iconst 1, 1) := by decide +kernel
theorem dP_add_92 : decode cP_add 92 = .ok (.isub, 1) := by decide +kernel
theorem dP_add_93 : decode cP_add 93 = .ok (.ireturn, 1) := by decide +kernel
theorem dW_lift_0 : decode cW_lift 0 = .ok (.aload 5, 2) := by decide +kernel
theorem dW_lift_2 : decode cW_lift 2 = .ok (.iconst 0, 1) := by decide +kernel
theorem dW_lift_3 : decode cW_lift 3 = .ok (.aload_n 0, 1) := by decide +kernel
theorem dW_lift_4 : decode cW_lift 4 = .ok (.iload_n 1, 1) := by decide +kernel
theorem dW_lift_5 : decode cW_lift 5 = .ok (.iload_n 2, 1) := by decide +kernel
theorem dW_lift_6 : decode cW_lift 6 = .ok (.lload_n 3, 1) := by decide +kernel
theorem dW_lift_7 : decode cW_lift 7 = .ok (.invokevirtual 23, 3) := by decide +kernel
theorem dW_lift_10 : decode cW_lift 10 = .ok (.i2l, 1) := by decide +kernel
theorem dW_lift_11 : decode cW_lift 11 = .ok (.lastore, 1) := by decide +kernel
theorem dW_lift_12 : decode cW_lift 12 = .ok (.goto 11, 3) := by decide +kernel
theorem dW_lift_15 : decode cW_lift 15 = .ok (.astore 6, 2) := by decide +kernel
theorem dW_lift_17 : decode cW_lift 17 = .ok (.iconst 1, 1) := by decide +kernel
theorem dW_lift_18 : decode cW_lift 18 = .ok (.ireturn, 1) := by decide +kernel
theorem dW_lift_19 : decode cW_lift 19 = .ok (.astore 6, 2) := by decide +kernel
theorem dW_lift_21 : decode cW_lift 21 = .ok (.iconst 2, 1) := by decide +kernel
theorem dW_lift_22 : decode cW_lift 22 = .ok (.ireturn, 1) := by decide +kernel
theorem dW_lift_23 : decode cW_lift 23 = .ok (.iconst 0, 1) := by decide +kernel
theorem dW_lift_24 : decode cW_lift 24 = .ok (.ireturn, 1) := by decide +kernel
theorem dG_lift_0 : decode cG_lift 0 = .ok (.aload_n 0, 1) := by decide +kernel
theorem dG_lift_1 : decode cG_lift 1 = .ok (.iload_n 1, 1) := by decide +kernel
theorem dG_lift_2 : decode cG_lift 2 = .ok (.invokevirtual 73, 3) := by decide +kernel
theorem dG_lift_5 : decode cG_lift 5 = .ok (.ifCond .eq 26, 3) := by decide +kernel
theorem dG_lift_8 : decode cG_lift 8 = .ok (.aload_n 0, 1) := by decide +kernel
theorem dG_lift_9 : decode cG_lift 9 = .ok (.iload_n 2, 1) := by decide +kernel
theorem dG_lift_10 : decode cG_lift 10 = .ok (.invokevirtual 73, 3) := by decide +kernel
theorem dG_lift_13 : decode cG_lift 13 = .ok (.ifCond .eq 18, 3) := by decide +kernel
theorem dG_lift_16 : decode cG_lift 16 = .ok (.aload_n 0, 1) := by decide +kernel
theorem dG_lift_17 : decode cG_lift 17 = .ok (.getfield 9, 3) := by decide +kernel
theorem dG_lift_20 : decode cG_lift 20 = .ok (.iload_n 1, 1) := by decide +kernel
theorem dG_lift_21 : decode cG_lift 21 = .ok (.iaload, 1) := by decide +kernel
theorem dG_lift_22 : decode cG_lift 22 = .ok (.aload_n 0, 1) := by decide +kernel
theorem dG_lift_23 : decode cG_lift 23 = .ok (.getfield 9, 3) := by decide +kernel
theorem dG_lift_26 : decode cG_lift 26 = .ok (.iload_n 2, 1) := by decide +kernel
theorem dG_lift_27 : decode cG_lift 27 = .ok (.iaload, 1) := by decide +kernel
theorem dG_lift_28 : decode cG_lift 28 = .ok (.if_icmp .ne 13, 3) := by decide +kernel
theorem dG_lift_31 : decode cG_lift 31 = .ok (.new 57, 3) := by decide +kernel
theorem dG_lift_34 : decode cG_lift 34 = .ok (.dup, 1) := by decide +kernel
theorem dG_lift_35 : decode cG_lift 35 = .ok (.ldc 99, 2) := by decide +kernel
theorem dG_lift_37 : decode cG_lift 37 = .ok (.invokespecial 61, 3) := by decide +kernel
theorem dG_lift_40 : decode cG_lift 40 = .ok (.athrow, 1) := by decide +kernel
theorem dG_lift_41 : decode cG_lift 41 = .ok (.lload_n 3, 1) := by decide +kernel
theorem dG_lift_42 : decode cG_lift 42 = .ok (.lconst 1, 1) := by decide +kernel
theorem dG_lift_43 : decode cG_lift 43 = .ok (.ldc2_w 81, 3) := by decide +kernel
theorem dG_lift_46 : decode cG_lift 46 = .ok (.invokestatic 53, 3) := by decide +kernel
theorem dG_lift_49 : decode cG_lift 49 = .ok (.ifCond .ne 13, 3) := by decide +kernel
theorem dG_lift_52 : decode cG_lift 52 = .ok (.new 57, 3) := by decide +kernel
theorem dG_lift_55 : decode cG_lift 55 = .ok (.dup, 1) := by decide +kernel
theorem dG_lift_56 : decode cG_lift 56 = .ok (.ldc 101, 2) := by decide +kernel
theorem dG_lift_58 : decode cG_lift 58 = .ok (.invokespecial 61, 3) := by decide +kernel
theorem dG_lift_61 : decode cG_lift 61 = .ok (.athrow, 1) := by decide +kernel
theorem dG_lift_62 : decode cG_lift 62 = .ok (.aload_n 0, 1) := by decide +kernel
theorem dG_lift_63 : decode cG_lift 63 = .ok (.getfield 16, 3) := by decide +kernel
theorem dG_lift_66 : decode cG_lift 66 = .ok (.getfield 90, 3) := by decide +kernel
theorem dG_lift_69 : decode cG_lift 69 = .ok (.bipush 38, 2) := by decide +kernel
theorem dG_lift_71 : decode cG_lift 71 = .ok (.if_icmp .le 13, 3) := by decide +kernel
theorem dG_lift_74 : decode cG_lift 74 = .ok (.new 68, 3) := by decide +kernel
theorem dG_lift_77 : decode cG_lift 77 = .ok (.dup, 1) := by decide +kernel
theorem dG_lift_78 : decode cG_lift 78 = .ok (.ldc 93, 2) := by decide +kernel
theorem dG_lift_80 : decode cG_lift 80 = .ok (.invokespecial 72, 3) := by decide +kernel
theorem dG_lift_83 : decode cG_lift 83 = .ok (.athrow, 1) := by decide +kernel
theorem dG_lift_84 : decode cG_lift 84 = .ok (.aload_n 0, 1) := by decide +kernel
theorem dG_lift_85 : decode cG_lift 85 = .ok (.getfield 16, 3) := by decide +kernel
theorem dG_lift_88 : decode cG_lift 88 = .ok (.iload_n 1, 1) := by decide +kernel
theorem dG_lift_89 : decode cG_lift 89 = .ok (.iload_n 2, 1) := by decide +kernel
theorem dG_lift_90 : decode cG_lift 90 = .ok (.lload_n 3, 1) := by decide +kernel
theorem dG_lift_91 : decode cG_lift 91 = .ok (.invokevirtual 95, 3) := by decide +kernel
theorem dG_lift_94 : decode cG_lift 94 = .ok (.istore 5, 2) := by decide +kernel
theorem dG_lift_96 : decode cG_lift 96 = .ok (.aload_n 0, 1) := by decide +kernel
theorem dG_lift_97 : decode cG_lift 97 = .ok (.getfield 16, 3) := by decide +kernel
theorem dG_lift_100 : decode cG_lift 100 = .ok (.iload_n 2, 1) := by decide +kernel
theorem dG_lift_101 : decode cG_lift 101 = .ok (.iload_n 1, 1) := by decide +kernel
theorem dG_lift_102 : decode cG_lift 102 = .ok (.lload_n 3, 1) := by decide +kernel
theorem dG_lift_103 : decode cG_lift 103 = .ok (.invokevirtual 95, 3) := by decide +kernel
theorem dG_lift_106 : decode cG_lift 106 = .ok (.pop, 1) := by decide +kernel
theorem dG_lift_107 : decode cG_lift 107 = .ok (.iload 5, 2) := by decide +kernel
theorem dG_lift_109 : decode cG_lift 109 = .ok (.ireturn, 1) := by decide +kernel
theorem dW_limit_0 : decode cW_limit 0 = .ok (.aload_n 0, 1) := by decide +kernel
theorem dW_limit_1 : decode cW_limit 1 = .ok (.iload_n 1, 1) := by decide +kernel
theorem dW_limit_2 : decode cW_limit 2 = .ok (.iload_n 2, 1) := by decide +kernel
theorem dW_limit_3 : decode cW_limit 3 = .ok (.lload_n 3, 1) := by decide +kernel
theorem dW_limit_4 : decode cW_limit 4 = .ok (.invokevirtual 27, 3) := by decide +kernel
theorem dW_limit_7 : decode cW_limit 7 = .ok (.goto 7, 3) := by decide +kernel
theorem dW_limit_10 : decode cW_limit 10 = .ok (.astore 5, 2) := by decide +kernel
theorem dW_limit_12 : decode cW_limit 12 = .ok (.iconst 1, 1) := by decide +kernel
theorem dW_limit_13 : decode cW_limit 13 = .ok (.ireturn, 1) := by decide +kernel
theorem dW_limit_14 : decode cW_limit 14 = .ok (.iconst 0, 1) := by decide +kernel
theorem dW_limit_15 : decode cW_limit 15 = .ok (.ireturn, 1) := by decide +kernel
theorem dG_limit_0 : decode cG_limit 0 = .ok (.aload_n 0, 1) := by decide +kernel
theorem dG_limit_1 : decode cG_limit 1 = .ok (.getfield 16, 3) := by decide +kernel
theorem dG_limit_4 : decode cG_limit 4 = .ok (.iload_n 1, 1) := by decide +kernel
theorem dG_limit_5 : decode cG_limit 5 = .ok (.invokevirtual 103, 3) := by decide +kernel
theorem dG_limit_8 : decode cG_limit 8 = .ok (.ifCond .eq 12, 3) := by decide +kernel
theorem dG_limit_11 : decode cG_limit 11 = .ok (.iload_n 2, 1) := by decide +kernel
theorem dG_limit_12 : decode cG_limit 12 = .ok (.i2l, 1) := by decide +kernel
theorem dG_limit_13 : decode cG_limit 13 = .ok (.lload_n 3, 1) := by decide +kernel
theorem dG_limit_14 : decode cG_limit 14 = .ok (.invokestatic 106, 3) := by decide +kernel
theorem dG_limit_17 : decode cG_limit 17 = .ok (.ifCond .ne 13, 3) := by decide +kernel
theorem dG_limit_20 : decode cG_limit 20 = .ok (.new 57, 3) := by decide +kernel
theorem dG_limit_23 : decode cG_limit 23 = .ok (.dup, 1) := by decide +kernel
theorem dG_limit_24 : decode cG_limit 24 = .ok (.ldc 110, 2) := by decide +kernel
theorem dG_limit_26 : decode cG_limit 26 = .ok (.invokespecial 61, 3) := by decide +kernel
theorem dG_limit_29 : decode cG_limit 29 = .ok (.athrow, 1) := by decide +kernel
theorem dG_limit_30 : decode cG_limit 30 = .ok (.aload_n 0, 1) := by decide +kernel
theorem dG_limit_31 : decode cG_limit 31 = .ok (.getfield 16, 3) := by decide +kernel
theorem dG_limit_34 : decode cG_limit 34 = .ok (.getfield 112, 3) := by decide +kernel
theorem dG_limit_37 : decode cG_limit 37 = .ok (.iload_n 1, 1) := by decide +kernel
theorem dG_limit_38 : decode cG_limit 38 = .ok (.iload_n 2, 1) := by decide +kernel
theorem dG_limit_39 : decode cG_limit 39 = .ok (.iastore, 1) := by decide +kernel
theorem dG_limit_40 : decode cG_limit 40 = .ok (.aload_n 0, 1) := by decide +kernel
theorem dG_limit_41 : decode cG_limit 41 = .ok (.getfield 16, 3) := by decide +kernel
theorem dG_limit_44 : decode cG_limit 44 = .ok (.getfield 115, 3) := by decide +kernel
theorem dG_limit_47 : decode cG_limit 47 = .ok (.iload_n 1, 1) := by decide +kernel
theorem dG_limit_48 : decode cG_limit 48 = .ok (.lload_n 3, 1) := by decide +kernel
theorem dG_limit_49 : decode cG_limit 49 = .ok (.lastore, 1) := by decide +kernel
theorem dG_limit_50 : decode cG_limit 50 = .ok (.return_, 1) := by decide +kernel
theorem dP_has_0 : decode cP_has 0 = .ok (.iload_n 1, 1) := by decide +kernel
theorem dP_has_1 : decode cP_has 1 = .ok (.ifCond .lt 15, 3) := by decide +kernel
theorem dP_has_4 : decode cP_has 4 = .ok (.iload_n 1, 1) := by decide +kernel
theorem dP_has_5 : decode cP_has 5 = .ok (.aload_n 0, 1) := by decide +kernel
theorem dP_has_6 : decode cP_has 6 = .ok (.getfield 34, 3) := by decide +kernel
theorem dP_has_9 : decode cP_has 9 = .ok (.if_icmp .ge 7, 3) := by decide +kernel
theorem dP_has_12 : decode cP_has 12 = .ok (.iconst 1, 1) := by decide +kernel
theorem dP_has_13 : decode cP_has 13 = .ok (.goto 4, 3) := by decide +kernel
theorem dP_has_16 : decode cP_has 16 = .ok (.iconst 0, 1) := by decide +kernel
theorem dP_has_17 : decode cP_has 17 = .ok (.ireturn, 1) := by decide +kernel
theorem dG_isSize_0 : decode cG_isSize 0 = .ok (.lload_n 0, 1) := by decide +kernel
theorem dG_isSize_1 : decode cG_isSize 1 = .ok (.lconst 1, 1) := by decide +kernel
theorem dG_isSize_2 : decode cG_isSize 2 = .ok (.ldc2_w 81, 3) := by decide +kernel
theorem dG_isSize_5 : decode cG_isSize 5 = .ok (.invokestatic 53, 3) := by decide +kernel
theorem dG_isSize_8 : decode cG_isSize 8 = .ok (.ifCond .eq 18, 3) := by decide +kernel
theorem dG_isSize_11 : decode cG_isSize 11 = .ok (.lload_n 2, 1) := by decide +kernel
theorem dG_isSize_12 : decode cG_isSize 12 = .ok (.lconst 1, 1) := by decide +kernel
theorem dG_isSize_13 : decode cG_isSize 13 = .ok (.ldc2_w 81, 3) := by decide +kernel
theorem dG_isSize_16 : decode cG_isSize 16 = .ok (.invokestatic 53, 3) := by decide +kernel
theorem dG_isSize_19 : decode cG_isSize 19 = .ok (.ifCond .eq 7, 3) := by decide +kernel
theorem dG_isSize_22 : decode cG_isSize 22 = .ok (.iconst 1, 1) := by decide +kernel
theorem dG_isSize_23 : decode cG_isSize 23 = .ok (.goto 4, 3) := by decide +kernel
theorem dG_isSize_26 : decode cG_isSize 26 = .ok (.iconst 0, 1) := by decide +kernel
theorem dG_isSize_27 : decode cG_isSize 27 = .ok (.ireturn, 1) := by decide +kernel
theorem dW_mover_0 : decode cW_mover 0 = .ok (.aload 4, 2) := by decide +kernel
theorem dW_mover_2 : decode cW_mover 2 = .ok (.iconst 0, 1) := by decide +kernel
theorem dW_mover_3 : decode cW_mover 3 = .ok (.aload_n 0, 1) := by decide +kernel
theorem dW_mover_4 : decode cW_mover 4 = .ok (.iload_n 1, 1) := by decide +kernel
theorem dW_mover_5 : decode cW_mover 5 = .ok (.lload_n 2, 1) := by decide +kernel
theorem dW_mover_6 : decode cW_mover 6 = .ok (.invokevirtual 31, 3) := by decide +kernel
theorem dW_mover_9 : decode cW_mover 9 = .ok (.i2l, 1) := by decide +kernel
theorem dW_mover_10 : decode cW_mover 10 = .ok (.lastore, 1) := by decide +kernel
theorem dW_mover_11 : decode cW_mover 11 = .ok (.goto 11, 3) := by decide +kernel
theorem dW_mover_14 : decode cW_mover 14 = .ok (.astore 5, 2) := by decide +kernel
theorem dW_mover_16 : decode cW_mover 16 = .ok (.iconst 1, 1) := by decide +kernel
theorem dW_mover_17 : decode cW_mover 17 = .ok (.ireturn, 1) := by decide +kernel
theorem dW_mover_18 : decode cW_mover 18 = .ok (.astore 5, 2) := by decide +kernel
theorem dW_mover_20 : decode cW_mover 20 = .ok (.iconst 2, 1) := by decide +kernel
theorem dW_mover_21 : decode cW_mover 21 = .ok (.ireturn, 1) := by decide +kernel
theorem dW_mover_22 : decode cW_mover 22 = .ok (.iconst 0, 1) := by decide +kernel
theorem dW_mover_23 : decode cW_mover 23 = .ok (.ireturn, 1) := by decide +kernel
theorem dG_mover_0 : decode cG_mover 0 = .ok (.iload_n 1, 1) := by decide +kernel
theorem dG_mover_1 : decode cG_mover 1 = .ok (.i2l, 1) := by decide +kernel
theorem dG_mover_2 : decode cG_mover 2 = .ok (.lload_n 2, 1) := by decide +kernel
theorem dG_mover_3 : decode cG_mover 3 = .ok (.invokestatic 106, 3) := by decide +kernel
theorem dG_mover_6 : decode cG_mover 6 = .ok (.ifCond .ne 13, 3) := by decide +kernel
theorem dG_mover_9 : decode cG_mover 9 = .ok (.new 57, 3) := by decide +kernel
theorem dG_mover_12 : decode cG_mover 12 = .ok (.dup, 1) := by decide +kernel
theorem dG_mover_13 : decode cG_mover 13 = .ok (.ldc 118, 2) := by decide +kernel
theorem dG_mover_15 : decode cG_mover 15 = .ok (.invokespecial 61, 3) := by decide +kernel
theorem dG_mover_18 : decode cG_mover 18 = .ok (.athrow, 1) := by decide +kernel
theorem dG_mover_19 : decode cG_mover 19 = .ok (.aload_n 0, 1) := by decide +kernel
theorem dG_mover_20 : decode cG_mover 20 = .ok (.getfield 120, 3) := by decide +kernel
theorem dG_mover_23 : decode cG_mover 23 = .ok (.bipush 6, 2) := by decide +kernel
theorem dG_mover_25 : decode cG_mover 25 = .ok (.if_icmp .lt 13, 3) := by decide +kernel
theorem dG_mover_28 : decode cG_mover 28 = .ok (.new 68, 3) := by decide +kernel
theorem dG_mover_31 : decode cG_mover 31 = .ok (.dup, 1) := by decide +kernel
theorem dG_mover_32 : decode cG_mover 32 = .ok (.ldc 123, 2) := by decide +kernel
theorem dG_mover_34 : decode cG_mover 34 = .ok (.invokespecial 72, 3) := by decide +kernel
theorem dG_mover_37 : decode cG_mover 37 = .ok (.athrow, 1) := by decide +kernel
theorem dG_mover_38 : decode cG_mover 38 = .ok (.aload_n 0, 1) := by decide +kernel
theorem dG_mover_39 : decode cG_mover 39 = .ok (.getfield 16, 3) := by decide +kernel
theorem dG_mover_42 : decode cG_mover 42 = .ok (.iload_n 1, 1) := by decide +kernel
theorem dG_mover_43 : decode cG_mover 43 = .ok (.lload_n 2, 1) := by decide +kernel
theorem dG_mover_44 : decode cG_mover 44 = .ok (.invokevirtual 125, 3) := by decide +kernel
theorem dG_mover_47 : decode cG_mover 47 = .ok (.ifCond .ne 5, 3) := by decide +kernel
theorem dG_mover_50 : decode cG_mover 50 = .ok (.iconst (-1), 1) := by decide +kernel
theorem dG_mover_51 : decode cG_mover 51 = .ok (.ireturn, 1) := by decide +kernel
theorem dG_mover_52 : decode cG_mover 52 = .ok (.aload_n 0, 1) := by decide +kernel
theorem dG_mover_53 : decode cG_mover 53 = .ok (.getfield 20, 3) := by decide +kernel
theorem dG_mover_56 : decode cG_mover 56 = .ok (.aload_n 0, 1) := by decide +kernel
theorem dG_mover_57 : decode cG_mover 57 = .ok (.getfield 120, 3) := by decide +kernel
theorem dG_mover_60 : decode cG_mover 60 = .ok (.iload_n 1, 1) := by decide +kernel
theorem dG_mover_61 : decode cG_mover 61 = .ok (.iastore, 1) := by decide +kernel
theorem dG_mover_62 : decode cG_mover 62 = .ok (.aload_n 0, 1) := by decide +kernel
theorem dG_mover_63 : decode cG_mover 63 = .ok (.getfield 23, 3) := by decide +kernel
theorem dG_mover_66 : decode cG_mover 66 = .ok (.aload_n 0, 1) := by decide +kernel
theorem dG_mover_67 : decode cG_mover 67 = .ok (.getfield 120, 3) := by decide +kernel
theorem dG_mover_70 : decode cG_mover 70 = .ok (.lload_n 2, 1) := by decide +kernel
theorem dG_mover_71 : decode cG_mover 71 = .ok (.lastore, 1) := by decide +kernel
theorem dG_mover_72 : decode cG_mover 72 = .ok (.aload_n 0, 1) := by decide +kernel
theorem dG_mover_73 : decode cG_mover 73 = .ok (.dup, 1) := by decide +kernel
theorem dG_mover_74 : decode cG_mover 74 = .ok (.getfield 120, 3) := by decide +kernel
theorem dG_mover_77 : decode cG_mover 77 = .ok (.iconst 1, 1) := by decide +kernel
theorem dG_mover_78 : decode cG_mover 78 = .ok (.iadd, 1) := by decide +kernel
theorem dG_mover_79 : decode cG_mover 79 = .ok (.putfield 120, 3) := by decide +kernel
theorem dG_mover_82 : decode cG_mover 82 = .ok (.aload_n 0, 1) := by decide +kernel
theorem dG_mover_83 : decode cG_mover 83 = .ok (.getfield 120, 3) := by decide +kernel
theorem dG_mover_86 : decode cG_mover 86 = .ok (.iconst 1, 1) := by decide +kernel
theorem dG_mover_87 : decode cG_mover 87 = .ok (.isub, 1) := by decide +kernel
theorem dG_mover_88 : decode cG_mover 88 = .ok (.ireturn, 1) := by decide +kernel
theorem dP_anyFits_0 : decode cP_anyFits 0 = .ok (.iconst 0, 1) := by decide +kernel
theorem dP_anyFits_1 : decode cP_anyFits 1 = .ok (.istore 4, 2) := by decide +kernel
theorem dP_anyFits_3 : decode cP_anyFits 3 = .ok (.iload 4, 2) := by decide +kernel
theorem dP_anyFits_5 : decode cP_anyFits 5 = .ok (.aload_n 0, 1) := by decide +kernel
theorem dP_anyFits_6 : decode cP_anyFits 6 = .ok (.getfield 34, 3) := by decide +kernel
theorem dP_anyFits_9 : decode cP_anyFits 9 = .ok (.if_icmp .ge 22, 3) := by decide +kernel
theorem dP_anyFits_12 : decode cP_anyFits 12 = .ok (.aload_n 0, 1) := by decide +kernel
theorem dP_anyFits_13 : decode cP_anyFits 13 = .ok (.iload 4, 2) := by decide +kernel
theorem dP_anyFits_15 : decode cP_anyFits 15 = .ok (.iload_n 1, 1) := by decide +kernel
theorem dP_anyFits_16 : decode cP_anyFits 16 = .ok (.lload_n 2, 1) := by decide +kernel
theorem dP_anyFits_17 : decode cP_anyFits 17 = .ok (.invokevirtual 52, 3) := by decide +kernel
theorem dP_anyFits_20 : decode cP_anyFits 20 = .ok (.ifCond .eq 5, 3) := by decide +kernel
theorem dP_anyFits_23 : decode cP_anyFits 23 = .ok (.iconst 1, 1) := by decide +kernel
theorem dP_anyFits_24 : decode cP_anyFits 24 = .ok (.ireturn, 1) := by decide +kernel
theorem dP_anyFits_25 : decode cP_anyFits 25 = .ok (.iinc 4 1, 3) := by decide +kernel
theorem dP_anyFits_28 : decode cP_anyFits 28 = .ok (.goto (-25), 3) := by decide +kernel
theorem dP_anyFits_31 : decode cP_anyFits 31 = .ok (.iconst 0, 1) := by decide +kernel
theorem dP_anyFits_32 : decode cP_anyFits 32 = .ok (.ireturn, 1) := by decide +kernel
theorem dP_fits_0 : decode cP_fits 0 = .ok (.iload_n 2, 1) := by decide +kernel
theorem dP_fits_1 : decode cP_fits 1 = .ok (.aload_n 0, 1) := by decide +kernel
theorem dP_fits_2 : decode cP_fits 2 = .ok (.getfield 22, 3) := by decide +kernel
theorem dP_fits_5 : decode cP_fits 5 = .ok (.iload_n 1, 1) := by decide +kernel
theorem dP_fits_6 : decode cP_fits 6 = .ok (.iaload, 1) := by decide +kernel
theorem dP_fits_7 : decode cP_fits 7 = .ok (.if_icmp .gt 18, 3) := by decide +kernel
theorem dP_fits_10 : decode cP_fits 10 = .ok (.lload_n 3, 1) := by decide +kernel
theorem dP_fits_11 : decode cP_fits 11 = .ok (.aload_n 0, 1) := by decide +kernel
theorem dP_fits_12 : decode cP_fits 12 = .ok (.getfield 25, 3) := by decide +kernel
theorem dP_fits_15 : decode cP_fits 15 = .ok (.iload_n 1, 1) := by decide +kernel
theorem dP_fits_16 : decode cP_fits 16 = .ok (.laload, 1) := by decide +kernel
theorem dP_fits_17 : decode cP_fits 17 = .ok (.lcmp, 1) := by decide +kernel
theorem dP_fits_18 : decode cP_fits 18 = .ok (.ifCond .gt 7, 3) := by decide +kernel
theorem dP_fits_21 : decode cP_fits 21 = .ok (.iconst 1, 1) := by decide +kernel
theorem dP_fits_22 : decode cP_fits 22 = .ok (.goto 4, 3) := by decide +kernel
theorem dP_fits_25 : decode cP_fits 25 = .ok (.iconst 0, 1) := by decide +kernel
theorem dP_fits_26 : decode cP_fits 26 = .ok (.ireturn, 1) := by decide +kernel
theorem dW_closed_0 : decode cW_closed 0 = .ok (.aload_n 3, 1) := by decide +kernel
theorem dW_closed_1 : decode cW_closed 1 = .ok (.iconst 0, 1) := by decide +kernel
theorem dW_closed_2 : decode cW_closed 2 = .ok (.aload_n 0, 1) := by decide +kernel
theorem dW_closed_3 : decode cW_closed 3 = .ok (.iload_n 1, 1) := by decide +kernel
theorem dW_closed_4 : decode cW_closed 4 = .ok (.iload_n 2, 1) := by decide +kernel
theorem dW_closed_5 : decode cW_closed 5 = .ok (.invokevirtual 35, 3) := by decide +kernel
theorem dW_closed_8 : decode cW_closed 8 = .ok (.i2l, 1) := by decide +kernel
theorem dW_closed_9 : decode cW_closed 9 = .ok (.lastore, 1) := by decide +kernel
theorem dW_closed_10 : decode cW_closed 10 = .ok (.goto 7, 3) := by decide +kernel
theorem dW_closed_13 : decode cW_closed 13 = .ok (.astore 4, 2) := by decide +kernel
theorem dW_closed_15 : decode cW_closed 15 = .ok (.iconst 1, 1) := by decide +kernel
theorem dW_closed_16 : decode cW_closed 16 = .ok (.ireturn, 1) := by decide +kernel
theorem dW_closed_17 : decode cW_closed 17 = .ok (.iconst 0, 1) := by decide +kernel
theorem dW_closed_18 : decode cW_closed 18 = .ok (.ireturn, 1) := by decide +kernel
theorem dG_closed_0 : decode cG_closed 0 = .ok (.aload_n 0, 1) := by decide +kernel
theorem dG_closed_1 : decode cG_closed 1 = .ok (.getfield 16, 3) := by decide +kernel
theorem dG_closed_4 : decode cG_closed 4 = .ok (.iload_n 1, 1) := by decide +kernel
theorem dG_closed_5 : decode cG_closed 5 = .ok (.invokevirtual 103, 3) := by decide +kernel
theorem dG_closed_8 : decode cG_closed 8 = .ok (.ifCond .ne 13, 3) := by decide +kernel
theorem dG_closed_11 : decode cG_closed 11 = .ok (.new 57, 3) := by decide +kernel
theorem dG_closed_14 : decode cG_closed 14 = .ok (.dup, 1) := by decide +kernel
theorem dG_closed_15 : decode cG_closed 15 = .ok (.ldc 129, 2) := by decide +kernel
theorem dG_closed_17 : decode cG_closed 17 = .ok (.invokespecial 61, 3) := by decide +kernel
theorem dG_closed_20 : decode cG_closed 20 = .ok (.athrow, 1) := by decide +kernel
theorem dG_closed_21 : decode cG_closed 21 = .ok (.aload_n 0, 1) := by decide +kernel
theorem dG_closed_22 : decode cG_closed 22 = .ok (.getfield 16, 3) := by decide +kernel
end
section
theorem dG_closed_25 : decode cG_closed 25 = .ok (.aload_n 0, 1) := by decide +kernel
theorem dG_closed_26 : decode cG_closed 26 = .ok (.getfield 16, 3) := by decide +kernel
theorem dG_closed_29 : decode cG_closed 29 = .ok (.getfield 131, 3) := by decide +kernel
theorem dG_closed_32 : decode cG_closed 32 = .ok (.iload_n 1, 1) := by decide +kernel
theorem dG_closed_33 : decode cG_closed 33 = .ok (.iload_n 2, 1) := by decide +kernel
theorem dG_closed_34 : decode cG_closed 34 = .ok (.invokestatic 135, 3) := by decide +kernel
theorem dG_closed_37 : decode cG_closed 37 = .ok (.putfield 131, 3) := by decide +kernel
theorem dG_closed_40 : decode cG_closed 40 = .ok (.aload_n 0, 1) := by decide +kernel
theorem dG_closed_41 : decode cG_closed 41 = .ok (.getfield 16, 3) := by decide +kernel
theorem dG_closed_44 : decode cG_closed 44 = .ok (.getfield 131, 3) := by decide +kernel
theorem dG_closed_47 : decode cG_closed 47 = .ok (.invokestatic 139, 3) := by decide +kernel
theorem dG_closed_50 : decode cG_closed 50 = .ok (.ireturn, 1) := by decide +kernel
theorem dG_withBit_0 : decode cG_withBit 0 = .ok (.lconst 1, 1) := by decide +kernel
theorem dG_withBit_1 : decode cG_withBit 1 = .ok (.iload_n 2, 1) := by decide +kernel
theorem dG_withBit_2 : decode cG_withBit 2 = .ok (.lshl, 1) := by decide +kernel
theorem dG_withBit_3 : decode cG_withBit 3 = .ok (.lstore 4, 2) := by decide +kernel
theorem dG_withBit_5 : decode cG_withBit 5 = .ok (.iload_n 3, 1) := by decide +kernel
theorem dG_withBit_6 : decode cG_withBit 6 = .ok (.ifCond .eq 10, 3) := by decide +kernel
theorem dG_withBit_9 : decode cG_withBit 9 = .ok (.lload_n 0, 1) := by decide +kernel
theorem dG_withBit_10 : decode cG_withBit 10 = .ok (.lload 4, 2) := by decide +kernel
theorem dG_withBit_12 : decode cG_withBit 12 = .ok (.lor, 1) := by decide +kernel
theorem dG_withBit_13 : decode cG_withBit 13 = .ok (.goto 11, 3) := by decide +kernel
theorem dG_withBit_16 : decode cG_withBit 16 = .ok (.lload_n 0, 1) := by decide +kernel
theorem dG_withBit_17 : decode cG_withBit 17 = .ok (.lload 4, 2) := by decide +kernel
theorem dG_withBit_19 : decode cG_withBit 19 = .ok (.ldc2_w 179, 3) := by decide +kernel
theorem dG_withBit_22 : decode cG_withBit 22 = .ok (.lxor, 1) := by decide +kernel
theorem dG_withBit_23 : decode cG_withBit 23 = .ok (.land, 1) := by decide +kernel
theorem dG_withBit_24 : decode cG_withBit 24 = .ok (.lreturn, 1) := by decide +kernel
theorem dW_turn_0 : decode cW_turn 0 = .ok (.aload 4, 2) := by decide +kernel
theorem dW_turn_2 : decode cW_turn 2 = .ok (.iconst 0, 1) := by decide +kernel
theorem dW_turn_3 : decode cW_turn 3 = .ok (.aload_n 0, 1) := by decide +kernel
theorem dW_turn_4 : decode cW_turn 4 = .ok (.iload_n 1, 1) := by decide +kernel
theorem dW_turn_5 : decode cW_turn 5 = .ok (.iload_n 2, 1) := by decide +kernel
theorem dW_turn_6 : decode cW_turn 6 = .ok (.iload_n 3, 1) := by decide +kernel
theorem dW_turn_7 : decode cW_turn 7 = .ok (.invokevirtual 39, 3) := by decide +kernel
theorem dW_turn_10 : decode cW_turn 10 = .ok (.i2l, 1) := by decide +kernel
theorem dW_turn_11 : decode cW_turn 11 = .ok (.lastore, 1) := by decide +kernel
theorem dW_turn_12 : decode cW_turn 12 = .ok (.goto 7, 3) := by decide +kernel
theorem dW_turn_15 : decode cW_turn 15 = .ok (.astore 5, 2) := by decide +kernel
theorem dW_turn_17 : decode cW_turn 17 = .ok (.iconst 1, 1) := by decide +kernel
theorem dW_turn_18 : decode cW_turn 18 = .ok (.ireturn, 1) := by decide +kernel
theorem dW_turn_19 : decode cW_turn 19 = .ok (.iconst 0, 1) := by decide +kernel
theorem dW_turn_20 : decode cW_turn 20 = .ok (.ireturn, 1) := by decide +kernel
theorem dG_turn_0 : decode cG_turn 0 = .ok (.aload_n 0, 1) := by decide +kernel
theorem dG_turn_1 : decode cG_turn 1 = .ok (.getfield 16, 3) := by decide +kernel
theorem dG_turn_4 : decode cG_turn 4 = .ok (.iload_n 1, 1) := by decide +kernel
theorem dG_turn_5 : decode cG_turn 5 = .ok (.invokevirtual 103, 3) := by decide +kernel
theorem dG_turn_8 : decode cG_turn 8 = .ok (.ifCond .eq 35, 3) := by decide +kernel
theorem dG_turn_11 : decode cG_turn 11 = .ok (.aload_n 0, 1) := by decide +kernel
theorem dG_turn_12 : decode cG_turn 12 = .ok (.getfield 16, 3) := by decide +kernel
theorem dG_turn_15 : decode cG_turn 15 = .ok (.iload_n 2, 1) := by decide +kernel
theorem dG_turn_16 : decode cG_turn 16 = .ok (.invokevirtual 103, 3) := by decide +kernel
theorem dG_turn_19 : decode cG_turn 19 = .ok (.ifCond .eq 24, 3) := by decide +kernel
theorem dG_turn_22 : decode cG_turn 22 = .ok (.aload_n 0, 1) := by decide +kernel
theorem dG_turn_23 : decode cG_turn 23 = .ok (.getfield 16, 3) := by decide +kernel
theorem dG_turn_26 : decode cG_turn 26 = .ok (.getfield 145, 3) := by decide +kernel
theorem dG_turn_29 : decode cG_turn 29 = .ok (.iload_n 2, 1) := by decide +kernel
theorem dG_turn_30 : decode cG_turn 30 = .ok (.iaload, 1) := by decide +kernel
theorem dG_turn_31 : decode cG_turn 31 = .ok (.aload_n 0, 1) := by decide +kernel
theorem dG_turn_32 : decode cG_turn 32 = .ok (.getfield 16, 3) := by decide +kernel
theorem dG_turn_35 : decode cG_turn 35 = .ok (.getfield 148, 3) := by decide +kernel
theorem dG_turn_38 : decode cG_turn 38 = .ok (.iload_n 1, 1) := by decide +kernel
theorem dG_turn_39 : decode cG_turn 39 = .ok (.iaload, 1) := by decide +kernel
theorem dG_turn_40 : decode cG_turn 40 = .ok (.if_icmp .eq 13, 3) := by decide +kernel
theorem dG_turn_43 : decode cG_turn 43 = .ok (.new 57, 3) := by decide +kernel
theorem dG_turn_46 : decode cG_turn 46 = .ok (.dup, 1) := by decide +kernel
theorem dG_turn_47 : decode cG_turn 47 = .ok (.ldc 151, 2) := by decide +kernel
theorem dG_turn_49 : decode cG_turn 49 = .ok (.invokespecial 61, 3) := by decide +kernel
theorem dG_turn_52 : decode cG_turn 52 = .ok (.athrow, 1) := by decide +kernel
theorem dG_turn_53 : decode cG_turn 53 = .ok (.aload_n 0, 1) := by decide +kernel
theorem dG_turn_54 : decode cG_turn 54 = .ok (.getfield 16, 3) := by decide +kernel
theorem dG_turn_57 : decode cG_turn 57 = .ok (.getfield 153, 3) := by decide +kernel
theorem dG_turn_60 : decode cG_turn 60 = .ok (.iload_n 1, 1) := by decide +kernel
theorem dG_turn_61 : decode cG_turn 61 = .ok (.aload_n 0, 1) := by decide +kernel
theorem dG_turn_62 : decode cG_turn 62 = .ok (.getfield 16, 3) := by decide +kernel
theorem dG_turn_65 : decode cG_turn 65 = .ok (.getfield 153, 3) := by decide +kernel
theorem dG_turn_68 : decode cG_turn 68 = .ok (.iload_n 1, 1) := by decide +kernel
theorem dG_turn_69 : decode cG_turn 69 = .ok (.laload, 1) := by decide +kernel
theorem dG_turn_70 : decode cG_turn 70 = .ok (.iload_n 2, 1) := by decide +kernel
theorem dG_turn_71 : decode cG_turn 71 = .ok (.iload_n 3, 1) := by decide +kernel
theorem dG_turn_72 : decode cG_turn 72 = .ok (.invokestatic 135, 3) := by decide +kernel
theorem dG_turn_75 : decode cG_turn 75 = .ok (.lastore, 1) := by decide +kernel
theorem dG_turn_76 : decode cG_turn 76 = .ok (.aload_n 0, 1) := by decide +kernel
theorem dG_turn_77 : decode cG_turn 77 = .ok (.getfield 16, 3) := by decide +kernel
theorem dG_turn_80 : decode cG_turn 80 = .ok (.iload_n 2, 1) := by decide +kernel
theorem dG_turn_81 : decode cG_turn 81 = .ok (.iload_n 1, 1) := by decide +kernel
theorem dG_turn_82 : decode cG_turn 82 = .ok (.invokevirtual 156, 3) := by decide +kernel
theorem dG_turn_85 : decode cG_turn 85 = .ok (.ifCond .eq 7, 3) := by decide +kernel
theorem dG_turn_88 : decode cG_turn 88 = .ok (.iconst 1, 1) := by decide +kernel
theorem dG_turn_89 : decode cG_turn 89 = .ok (.goto 4, 3) := by decide +kernel
theorem dG_turn_92 : decode cG_turn 92 = .ok (.iconst 0, 1) := by decide +kernel
theorem dG_turn_93 : decode cG_turn 93 = .ok (.istore 4, 2) := by decide +kernel
theorem dG_turn_95 : decode cG_turn 95 = .ok (.iload_n 3, 1) := by decide +kernel
theorem dG_turn_96 : decode cG_turn 96 = .ok (.ifCond .eq 10, 3) := by decide +kernel
theorem dG_turn_99 : decode cG_turn 99 = .ok (.iload 4, 2) := by decide +kernel
theorem dG_turn_101 : decode cG_turn 101 = .ok (.iconst 1, 1) := by decide +kernel
theorem dG_turn_102 : decode cG_turn 102 = .ok (.iadd, 1) := by decide +kernel
theorem dG_turn_103 : decode cG_turn 103 = .ok (.goto 5, 3) := by decide +kernel
theorem dG_turn_106 : decode cG_turn 106 = .ok (.iload 4, 2) := by decide +kernel
theorem dG_turn_108 : decode cG_turn 108 = .ok (.ireturn, 1) := by decide +kernel
theorem dP_isBarred_0 : decode cP_isBarred 0 = .ok (.aload_n 0, 1) := by decide +kernel
theorem dP_isBarred_1 : decode cP_isBarred 1 = .ok (.getfield 31, 3) := by decide +kernel
theorem dP_isBarred_4 : decode cP_isBarred 4 = .ok (.iload_n 1, 1) := by decide +kernel
theorem dP_isBarred_5 : decode cP_isBarred 5 = .ok (.laload, 1) := by decide +kernel
theorem dP_isBarred_6 : decode cP_isBarred 6 = .ok (.iload_n 2, 1) := by decide +kernel
theorem dP_isBarred_7 : decode cP_isBarred 7 = .ok (.invokestatic 42, 3) := by decide +kernel
theorem dP_isBarred_10 : decode cP_isBarred 10 = .ok (.ireturn, 1) := by decide +kernel
theorem dG_hasBit_0 : decode cG_hasBit 0 = .ok (.lload_n 0, 1) := by decide +kernel
theorem dG_hasBit_1 : decode cG_hasBit 1 = .ok (.iload_n 2, 1) := by decide +kernel
theorem dG_hasBit_2 : decode cG_hasBit 2 = .ok (.lshr, 1) := by decide +kernel
theorem dG_hasBit_3 : decode cG_hasBit 3 = .ok (.lconst 1, 1) := by decide +kernel
theorem dG_hasBit_4 : decode cG_hasBit 4 = .ok (.land, 1) := by decide +kernel
theorem dG_hasBit_5 : decode cG_hasBit 5 = .ok (.lconst 0, 1) := by decide +kernel
theorem dG_hasBit_6 : decode cG_hasBit 6 = .ok (.lcmp, 1) := by decide +kernel
theorem dG_hasBit_7 : decode cG_hasBit 7 = .ok (.ifCond .eq 7, 3) := by decide +kernel
theorem dG_hasBit_10 : decode cG_hasBit 10 = .ok (.iconst 1, 1) := by decide +kernel
theorem dG_hasBit_11 : decode cG_hasBit 11 = .ok (.goto 4, 3) := by decide +kernel
theorem dG_hasBit_14 : decode cG_hasBit 14 = .ok (.iconst 0, 1) := by decide +kernel
theorem dG_hasBit_15 : decode cG_hasBit 15 = .ok (.ireturn, 1) := by decide +kernel
theorem dW_door_0 : decode cW_door 0 = .ok (.aload 4, 2) := by decide +kernel
theorem dW_door_2 : decode cW_door 2 = .ok (.iconst 0, 1) := by decide +kernel
theorem dW_door_3 : decode cW_door 3 = .ok (.aload_n 0, 1) := by decide +kernel
theorem dW_door_4 : decode cW_door 4 = .ok (.iload_n 1, 1) := by decide +kernel
theorem dW_door_5 : decode cW_door 5 = .ok (.iload_n 2, 1) := by decide +kernel
theorem dW_door_6 : decode cW_door 6 = .ok (.iload_n 3, 1) := by decide +kernel
theorem dW_door_7 : decode cW_door 7 = .ok (.invokevirtual 43, 3) := by decide +kernel
theorem dW_door_10 : decode cW_door 10 = .ok (.i2l, 1) := by decide +kernel
theorem dW_door_11 : decode cW_door 11 = .ok (.lastore, 1) := by decide +kernel
theorem dW_door_12 : decode cW_door 12 = .ok (.goto 7, 3) := by decide +kernel
theorem dW_door_15 : decode cW_door 15 = .ok (.astore 5, 2) := by decide +kernel
theorem dW_door_17 : decode cW_door 17 = .ok (.iconst 1, 1) := by decide +kernel
theorem dW_door_18 : decode cW_door 18 = .ok (.ireturn, 1) := by decide +kernel
theorem dW_door_19 : decode cW_door 19 = .ok (.iconst 0, 1) := by decide +kernel
theorem dW_door_20 : decode cW_door 20 = .ok (.ireturn, 1) := by decide +kernel
theorem dG_door_0 : decode cG_door 0 = .ok (.aload_n 0, 1) := by decide +kernel
theorem dG_door_1 : decode cG_door 1 = .ok (.getfield 16, 3) := by decide +kernel
theorem dG_door_4 : decode cG_door 4 = .ok (.iload_n 1, 1) := by decide +kernel
theorem dG_door_5 : decode cG_door 5 = .ok (.invokevirtual 103, 3) := by decide +kernel
theorem dG_door_8 : decode cG_door 8 = .ok (.ifCond .eq 15, 3) := by decide +kernel
theorem dG_door_11 : decode cG_door 11 = .ok (.iload_n 2, 1) := by decide +kernel
theorem dG_door_12 : decode cG_door 12 = .ok (.i2l, 1) := by decide +kernel
theorem dG_door_13 : decode cG_door 13 = .ok (.lconst 0, 1) := by decide +kernel
theorem dG_door_14 : decode cG_door 14 = .ok (.ldc2_w 160, 3) := by decide +kernel
theorem dG_door_17 : decode cG_door 17 = .ok (.invokestatic 53, 3) := by decide +kernel
theorem dG_door_20 : decode cG_door 20 = .ok (.ifCond .ne 13, 3) := by decide +kernel
theorem dG_door_23 : decode cG_door 23 = .ok (.new 57, 3) := by decide +kernel
theorem dG_door_26 : decode cG_door 26 = .ok (.dup, 1) := by decide +kernel
theorem dG_door_27 : decode cG_door 27 = .ok (.ldc 162, 2) := by decide +kernel
theorem dG_door_29 : decode cG_door 29 = .ok (.invokespecial 61, 3) := by decide +kernel
theorem dG_door_32 : decode cG_door 32 = .ok (.athrow, 1) := by decide +kernel
theorem dG_door_33 : decode cG_door 33 = .ok (.aload_n 0, 1) := by decide +kernel
theorem dG_door_34 : decode cG_door 34 = .ok (.getfield 16, 3) := by decide +kernel
theorem dG_door_37 : decode cG_door 37 = .ok (.getfield 164, 3) := by decide +kernel
theorem dG_door_40 : decode cG_door 40 = .ok (.iload_n 1, 1) := by decide +kernel
theorem dG_door_41 : decode cG_door 41 = .ok (.aload_n 0, 1) := by decide +kernel
theorem dG_door_42 : decode cG_door 42 = .ok (.getfield 16, 3) := by decide +kernel
theorem dG_door_45 : decode cG_door 45 = .ok (.getfield 164, 3) := by decide +kernel
theorem dG_door_48 : decode cG_door 48 = .ok (.iload_n 1, 1) := by decide +kernel
theorem dG_door_49 : decode cG_door 49 = .ok (.laload, 1) := by decide +kernel
theorem dG_door_50 : decode cG_door 50 = .ok (.iload_n 2, 1) := by decide +kernel
theorem dG_door_51 : decode cG_door 51 = .ok (.iload_n 3, 1) := by decide +kernel
theorem dG_door_52 : decode cG_door 52 = .ok (.invokestatic 135, 3) := by decide +kernel
theorem dG_door_55 : decode cG_door 55 = .ok (.lastore, 1) := by decide +kernel
theorem dG_door_56 : decode cG_door 56 = .ok (.aload_n 0, 1) := by decide +kernel
theorem dG_door_57 : decode cG_door 57 = .ok (.getfield 16, 3) := by decide +kernel
theorem dG_door_60 : decode cG_door 60 = .ok (.getfield 164, 3) := by decide +kernel
theorem dG_door_63 : decode cG_door 63 = .ok (.iload_n 1, 1) := by decide +kernel
theorem dG_door_64 : decode cG_door 64 = .ok (.laload, 1) := by decide +kernel
theorem dG_door_65 : decode cG_door 65 = .ok (.invokestatic 139, 3) := by decide +kernel
theorem dG_door_68 : decode cG_door 68 = .ok (.ireturn, 1) := by decide +kernel
theorem dW_way_0 : decode cW_way 0 = .ok (.aload 6, 2) := by decide +kernel
theorem dW_way_2 : decode cW_way 2 = .ok (.iconst 0, 1) := by decide +kernel
theorem dW_way_3 : decode cW_way 3 = .ok (.aload_n 0, 1) := by decide +kernel
theorem dW_way_4 : decode cW_way 4 = .ok (.iload_n 1, 1) := by decide +kernel
theorem dW_way_5 : decode cW_way 5 = .ok (.iload_n 2, 1) := by decide +kernel
theorem dW_way_6 : decode cW_way 6 = .ok (.iload_n 3, 1) := by decide +kernel
theorem dW_way_7 : decode cW_way 7 = .ok (.lload 4, 2) := by decide +kernel
theorem dW_way_9 : decode cW_way 9 = .ok (.invokevirtual 46, 3) := by decide +kernel
theorem dW_way_12 : decode cW_way 12 = .ok (.lastore, 1) := by decide +kernel
theorem dW_way_13 : decode cW_way 13 = .ok (.goto 7, 3) := by decide +kernel
theorem dW_way_16 : decode cW_way 16 = .ok (.astore 7, 2) := by decide +kernel
theorem dW_way_18 : decode cW_way 18 = .ok (.iconst 1, 1) := by decide +kernel
theorem dW_way_19 : decode cW_way 19 = .ok (.ireturn, 1) := by decide +kernel
theorem dW_way_20 : decode cW_way 20 = .ok (.iconst 0, 1) := by decide +kernel
theorem dW_way_21 : decode cW_way 21 = .ok (.ireturn, 1) := by decide +kernel
theorem dG_way_0 : decode cG_way 0 = .ok (.aload_n 0, 1) := by decide +kernel
theorem dG_way_1 : decode cG_way 1 = .ok (.iload_n 1, 1) := by decide +kernel
theorem dG_way_2 : decode cG_way 2 = .ok (.invokevirtual 167, 3) := by decide +kernel
theorem dG_way_5 : decode cG_way 5 = .ok (.ifCond .eq 31, 3) := by decide +kernel
theorem dG_way_8 : decode cG_way 8 = .ok (.aload_n 0, 1) := by decide +kernel
theorem dG_way_9 : decode cG_way 9 = .ok (.iload_n 2, 1) := by decide +kernel
theorem dG_way_10 : decode cG_way 10 = .ok (.invokevirtual 73, 3) := by decide +kernel
theorem dG_way_13 : decode cG_way 13 = .ok (.ifCond .eq 23, 3) := by decide +kernel
theorem dG_way_16 : decode cG_way 16 = .ok (.aload_n 0, 1) := by decide +kernel
theorem dG_way_17 : decode cG_way 17 = .ok (.iload_n 3, 1) := by decide +kernel
theorem dG_way_18 : decode cG_way 18 = .ok (.invokevirtual 73, 3) := by decide +kernel
theorem dG_way_21 : decode cG_way 21 = .ok (.ifCond .eq 15, 3) := by decide +kernel
theorem dG_way_24 : decode cG_way 24 = .ok (.lload 4, 2) := by decide +kernel
theorem dG_way_26 : decode cG_way 26 = .ok (.lconst 0, 1) := by decide +kernel
theorem dG_way_27 : decode cG_way 27 = .ok (.ldc2_w 79, 3) := by decide +kernel
theorem dG_way_30 : decode cG_way 30 = .ok (.invokestatic 53, 3) := by decide +kernel
theorem dG_way_33 : decode cG_way 33 = .ok (.ifCond .ne 13, 3) := by decide +kernel
theorem dG_way_36 : decode cG_way 36 = .ok (.new 57, 3) := by decide +kernel
theorem dG_way_39 : decode cG_way 39 = .ok (.dup, 1) := by decide +kernel
theorem dG_way_40 : decode cG_way 40 = .ok (.ldc 170, 2) := by decide +kernel
theorem dG_way_42 : decode cG_way 42 = .ok (.invokespecial 61, 3) := by decide +kernel
theorem dG_way_45 : decode cG_way 45 = .ok (.athrow, 1) := by decide +kernel
theorem dG_way_46 : decode cG_way 46 = .ok (.aload_n 0, 1) := by decide +kernel
theorem dG_way_47 : decode cG_way 47 = .ok (.iload_n 1, 1) := by decide +kernel
theorem dG_way_48 : decode cG_way 48 = .ok (.iload_n 2, 1) := by decide +kernel
theorem dG_way_49 : decode cG_way 49 = .ok (.iload_n 3, 1) := by decide +kernel
theorem dG_way_50 : decode cG_way 50 = .ok (.lload 4, 2) := by decide +kernel
theorem dG_way_52 : decode cG_way 52 = .ok (.invokevirtual 172, 3) := by decide +kernel
theorem dG_way_55 : decode cG_way 55 = .ok (.lstore 6, 2) := by decide +kernel
theorem dG_way_57 : decode cG_way 57 = .ok (.aload_n 0, 1) := by decide +kernel
theorem dG_way_58 : decode cG_way 58 = .ok (.getfield 47, 3) := by decide +kernel
theorem dG_way_61 : decode cG_way 61 = .ok (.invokevirtual 176, 3) := by decide +kernel
theorem dG_way_64 : decode cG_way 64 = .ok (.iload_n 2, 1) := by decide +kernel
theorem dG_way_65 : decode cG_way 65 = .ok (.iload_n 3, 1) := by decide +kernel
theorem dG_way_66 : decode cG_way 66 = .ok (.if_icmp .eq 28, 3) := by decide +kernel
theorem dG_way_69 : decode cG_way 69 = .ok (.lload 6, 2) := by decide +kernel
theorem dG_way_71 : decode cG_way 71 = .ok (.ldc2_w 179, 3) := by decide +kernel
theorem dG_way_74 : decode cG_way 74 = .ok (.lcmp, 1) := by decide +kernel
theorem dG_way_75 : decode cG_way 75 = .ok (.ifCond .eq 19, 3) := by decide +kernel
theorem dG_way_78 : decode cG_way 78 = .ok (.aload_n 0, 1) := by decide +kernel
theorem dG_way_79 : decode cG_way 79 = .ok (.getfield 33, 3) := by decide +kernel
theorem dG_way_82 : decode cG_way 82 = .ok (.aload_n 0, 1) := by decide +kernel
theorem dG_way_83 : decode cG_way 83 = .ok (.getfield 16, 3) := by decide +kernel
theorem dG_way_86 : decode cG_way 86 = .ok (.iload_n 3, 1) := by decide +kernel
theorem dG_way_87 : decode cG_way 87 = .ok (.aload_n 0, 1) := by decide +kernel
theorem dG_way_88 : decode cG_way 88 = .ok (.getfield 47, 3) := by decide +kernel
theorem dG_way_91 : decode cG_way 91 = .ok (.invokevirtual 181, 3) := by decide +kernel
theorem dG_way_94 : decode cG_way 94 = .ok (.lload 6, 2) := by decide +kernel
theorem dG_way_96 : decode cG_way 96 = .ok (.lreturn, 1) := by decide +kernel
theorem dG_hasMover_0 : decode cG_hasMover 0 = .ok (.iload_n 1, 1) := by decide +kernel
theorem dG_hasMover_1 : decode cG_hasMover 1 = .ok (.ifCond .lt 15, 3) := by decide +kernel
theorem dG_hasMover_4 : decode cG_hasMover 4 = .ok (.iload_n 1, 1) := by decide +kernel
theorem dG_hasMover_5 : decode cG_hasMover 5 = .ok (.aload_n 0, 1) := by decide +kernel
theorem dG_hasMover_6 : decode cG_hasMover 6 = .ok (.getfield 120, 3) := by decide +kernel
theorem dG_hasMover_9 : decode cG_hasMover 9 = .ok (.if_icmp .ge 7, 3) := by decide +kernel
theorem dG_hasMover_12 : decode cG_hasMover 12 = .ok (.iconst 1, 1) := by decide +kernel
theorem dG_hasMover_13 : decode cG_hasMover 13 = .ok (.goto 4, 3) := by decide +kernel
theorem dG_hasMover_16 : decode cG_hasMover 16 = .ok (.iconst 0, 1) := by decide +kernel
theorem dG_hasMover_17 : decode cG_hasMover 17 = .ok (.ireturn, 1) := by decide +kernel
theorem dG_leastSeconds_0 : decode cG_leastSeconds 0 = .ok (.iload_n 2, 1) := by decide +kernel
theorem dG_leastSeconds_1 : decode cG_leastSeconds 1 = .ok (.iload_n 3, 1) := by decide +kernel
theorem dG_leastSeconds_2 : decode cG_leastSeconds 2 = .ok (.if_icmp .ne 5, 3) := by decide +kernel
theorem dG_leastSeconds_5 : decode cG_leastSeconds 5 = .ok (.lconst 0, 1) := by decide +kernel
theorem dG_leastSeconds_6 : decode cG_leastSeconds 6 = .ok (.lreturn, 1) := by decide +kernel
theorem dG_leastSeconds_7 : decode cG_leastSeconds 7 = .ok (.aload_n 0, 1) := by decide +kernel
theorem dG_leastSeconds_8 : decode cG_leastSeconds 8 = .ok (.getfield 16, 3) := by decide +kernel
theorem dG_leastSeconds_11 : decode cG_leastSeconds 11 = .ok (.aload_n 0, 1) := by decide +kernel
theorem dG_leastSeconds_12 : decode cG_leastSeconds 12 = .ok (.getfield 20, 3) := by decide +kernel
theorem dG_leastSeconds_15 : decode cG_leastSeconds 15 = .ok (.iload_n 1, 1) := by decide +kernel
theorem dG_leastSeconds_16 : decode cG_leastSeconds 16 = .ok (.iaload, 1) := by decide +kernel
theorem dG_leastSeconds_17 : decode cG_leastSeconds 17 = .ok (.aload_n 0, 1) := by decide +kernel
theorem dG_leastSeconds_18 : decode cG_leastSeconds 18 = .ok (.getfield 23, 3) := by decide +kernel
theorem dG_leastSeconds_21 : decode cG_leastSeconds 21 = .ok (.iload_n 1, 1) := by decide +kernel
theorem dG_leastSeconds_22 : decode cG_leastSeconds 22 = .ok (.laload, 1) := by decide +kernel
theorem dG_leastSeconds_23 : decode cG_leastSeconds 23 = .ok (.invokevirtual 214, 3) := by decide +kernel
theorem dG_leastSeconds_26 : decode cG_leastSeconds 26 = .ok (.lstore 6, 2) := by decide +kernel
theorem dG_leastSeconds_28 : decode cG_leastSeconds 28 = .ok (.aload_n 0, 1) := by decide +kernel
theorem dG_leastSeconds_29 : decode cG_leastSeconds 29 = .ok (.getfield 33, 3) := by decide +kernel
theorem dG_leastSeconds_32 : decode cG_leastSeconds 32 = .ok (.aload_n 0, 1) := by decide +kernel
theorem dG_leastSeconds_33 : decode cG_leastSeconds 33 = .ok (.getfield 16, 3) := by decide +kernel
theorem dG_leastSeconds_36 : decode cG_leastSeconds 36 = .ok (.lload 6, 2) := by decide +kernel
theorem dG_leastSeconds_38 : decode cG_leastSeconds 38 = .ok (.iload_n 2, 1) := by decide +kernel
theorem dG_leastSeconds_39 : decode cG_leastSeconds 39 = .ok (.lload 4, 2) := by decide +kernel
theorem dG_leastSeconds_41 : decode cG_leastSeconds 41 = .ok (.invokevirtual 245, 3) := by decide +kernel
theorem dG_leastSeconds_44 : decode cG_leastSeconds 44 = .ok (.aload_n 0, 1) := by decide +kernel
theorem dG_leastSeconds_45 : decode cG_leastSeconds 45 = .ok (.getfield 33, 3) := by decide +kernel
theorem dG_leastSeconds_48 : decode cG_leastSeconds 48 = .ok (.aload_n 0, 1) := by decide +kernel
theorem dG_leastSeconds_49 : decode cG_leastSeconds 49 = .ok (.getfield 16, 3) := by decide +kernel
theorem dG_leastSeconds_52 : decode cG_leastSeconds 52 = .ok (.iload_n 3, 1) := by decide +kernel
theorem dG_leastSeconds_53 : decode cG_leastSeconds 53 = .ok (.invokevirtual 248, 3) := by decide +kernel
theorem dG_leastSeconds_56 : decode cG_leastSeconds 56 = .ok (.istore 8, 2) := by decide +kernel
theorem dG_leastSeconds_58 : decode cG_leastSeconds 58 = .ok (.iload 8, 2) := by decide +kernel
theorem dG_leastSeconds_60 : decode cG_leastSeconds 60 = .ok (.iconst (-1), 1) := by decide +kernel
theorem dG_leastSeconds_61 : decode cG_leastSeconds 61 = .ok (.if_icmp .ne 9, 3) := by decide +kernel
theorem dG_leastSeconds_64 : decode cG_leastSeconds 64 = .ok (.ldc2_w 179, 3) := by decide +kernel
theorem dG_leastSeconds_67 : decode cG_leastSeconds 67 = .ok (.goto 16, 3) := by decide +kernel
theorem dG_leastSeconds_70 : decode cG_leastSeconds 70 = .ok (.aload_n 0, 1) := by decide +kernel
theorem dG_leastSeconds_71 : decode cG_leastSeconds 71 = .ok (.getfield 33, 3) := by decide +kernel
theorem dG_leastSeconds_74 : decode cG_leastSeconds 74 = .ok (.getfield 252, 3) := by decide +kernel
theorem dG_leastSeconds_77 : decode cG_leastSeconds 77 = .ok (.iload 8, 2) := by decide +kernel
theorem dG_leastSeconds_79 : decode cG_leastSeconds 79 = .ok (.laload, 1) := by decide +kernel
theorem dG_leastSeconds_80 : decode cG_leastSeconds 80 = .ok (.lload 4, 2) := by decide +kernel
theorem dG_leastSeconds_82 : decode cG_leastSeconds 82 = .ok (.lsub, 1) := by decide +kernel
theorem dG_leastSeconds_83 : decode cG_leastSeconds 83 = .ok (.lreturn, 1) := by decide +kernel
theorem dP_usableBy_0 : decode cP_usableBy 0 = .ok (.lconst 0, 1) := by decide +kernel
theorem dP_usableBy_1 : decode cP_usableBy 1 = .ok (.lstore 4, 2) := by decide +kernel
theorem dP_usableBy_3 : decode cP_usableBy 3 = .ok (.iconst 0, 1) := by decide +kernel
theorem dP_usableBy_4 : decode cP_usableBy 4 = .ok (.istore 6, 2) := by decide +kernel
theorem dP_usableBy_6 : decode cP_usableBy 6 = .ok (.iload 6, 2) := by decide +kernel
theorem dP_usableBy_8 : decode cP_usableBy 8 = .ok (.aload_n 0, 1) := by decide +kernel
theorem dP_usableBy_9 : decode cP_usableBy 9 = .ok (.getfield 34, 3) := by decide +kernel
theorem dP_usableBy_12 : decode cP_usableBy 12 = .ok (.if_icmp .ge 70, 3) := by decide +kernel
theorem dP_usableBy_15 : decode cP_usableBy 15 = .ok (.aload_n 0, 1) := by decide +kernel
theorem dP_usableBy_16 : decode cP_usableBy 16 = .ok (.getfield 28, 3) := by decide +kernel
theorem dP_usableBy_19 : decode cP_usableBy 19 = .ok (.iload 6, 2) := by decide +kernel
theorem dP_usableBy_21 : decode cP_usableBy 21 = .ok (.laload, 1) := by decide +kernel
theorem dP_usableBy_22 : decode cP_usableBy 22 = .ok (.lconst 0, 1) := by decide +kernel
theorem dP_usableBy_23 : decode cP_usableBy 23 = .ok (.lcmp, 1) := by decide +kernel
theorem dP_usableBy_24 : decode cP_usableBy 24 = .ok (.ifCond .eq 19, 3) := by decide +kernel
theorem dP_usableBy_27 : decode cP_usableBy 27 = .ok (.aload_n 0, 1) := by decide +kernel
theorem dP_usableBy_28 : decode cP_usableBy 28 = .ok (.getfield 56, 3) := by decide +kernel
theorem dP_usableBy_31 : decode cP_usableBy 31 = .ok (.iload 6, 2) := by decide +kernel
theorem dP_usableBy_33 : decode cP_usableBy 33 = .ok (.invokestatic 42, 3) := by decide +kernel
theorem dP_usableBy_36 : decode cP_usableBy 36 = .ok (.ifCond .ne 7, 3) := by decide +kernel
theorem dP_usableBy_39 : decode cP_usableBy 39 = .ok (.iconst 1, 1) := by decide +kernel
theorem dP_usableBy_40 : decode cP_usableBy 40 = .ok (.goto 4, 3) := by decide +kernel
theorem dP_usableBy_43 : decode cP_usableBy 43 = .ok (.iconst 0, 1) := by decide +kernel
theorem dP_usableBy_44 : decode cP_usableBy 44 = .ok (.istore 7, 2) := by decide +kernel
theorem dP_usableBy_46 : decode cP_usableBy 46 = .ok (.lload 4, 2) := by decide +kernel
theorem dP_usableBy_48 : decode cP_usableBy 48 = .ok (.iload 6, 2) := by decide +kernel
theorem dP_usableBy_50 : decode cP_usableBy 50 = .ok (.iload 7, 2) := by decide +kernel
theorem dP_usableBy_52 : decode cP_usableBy 52 = .ok (.ifCond .eq 18, 3) := by decide +kernel
theorem dP_usableBy_55 : decode cP_usableBy 55 = .ok (.aload_n 0, 1) := by decide +kernel
theorem dP_usableBy_56 : decode cP_usableBy 56 = .ok (.iload 6, 2) := by decide +kernel
theorem dP_usableBy_58 : decode cP_usableBy 58 = .ok (.iload_n 1, 1) := by decide +kernel
theorem dP_usableBy_59 : decode cP_usableBy 59 = .ok (.lload_n 2, 1) := by decide +kernel
theorem dP_usableBy_60 : decode cP_usableBy 60 = .ok (.invokevirtual 52, 3) := by decide +kernel
theorem dP_usableBy_63 : decode cP_usableBy 63 = .ok (.ifCond .eq 7, 3) := by decide +kernel
theorem dP_usableBy_66 : decode cP_usableBy 66 = .ok (.iconst 1, 1) := by decide +kernel
theorem dP_usableBy_67 : decode cP_usableBy 67 = .ok (.goto 4, 3) := by decide +kernel
theorem dP_usableBy_70 : decode cP_usableBy 70 = .ok (.iconst 0, 1) := by decide +kernel
theorem dP_usableBy_71 : decode cP_usableBy 71 = .ok (.invokestatic 60, 3) := by decide +kernel
theorem dP_usableBy_74 : decode cP_usableBy 74 = .ok (.lstore 4, 2) := by decide +kernel
theorem dP_usableBy_76 : decode cP_usableBy 76 = .ok (.iinc 6 1, 3) := by decide +kernel
theorem dP_usableBy_79 : decode cP_usableBy 79 = .ok (.goto (-73), 3) := by decide +kernel
theorem dP_usableBy_82 : decode cP_usableBy 82 = .ok (.lload 4, 2) := by decide +kernel
theorem dP_usableBy_84 : decode cP_usableBy 84 = .ok (.lreturn, 1) := by decide +kernel
theorem dL_search_0 : decode cL_search 0 = .ok (.aload_n 0, 1) := by decide +kernel
theorem dL_search_1 : decode cL_search 1 = .ok (.iload 4, 2) := by decide +kernel
theorem dL_search_3 : decode cL_search 3 = .ok (.putfield 15, 3) := by decide +kernel
theorem dL_search_6 : decode cL_search 6 = .ok (.aload_n 0, 1) := by decide +kernel
theorem dL_search_7 : decode cL_search 7 = .ok (.lload 5, 2) := by decide +kernel
theorem dL_search_9 : decode cL_search 9 = .ok (.putfield 19, 3) := by decide +kernel
theorem dL_search_12 : decode cL_search 12 = .ok (.iconst 0, 1) := by decide +kernel
theorem dL_search_13 : decode cL_search 13 = .ok (.istore 7, 2) := by decide +kernel
theorem dL_search_15 : decode cL_search 15 = .ok (.iload 7, 2) := by decide +kernel
theorem dL_search_17 : decode cL_search 17 = .ok (.aload_n 1, 1) := by decide +kernel
theorem dL_search_18 : decode cL_search 18 = .ok (.getfield 23, 3) := by decide +kernel
theorem dL_search_21 : decode cL_search 21 = .ok (.if_icmp .ge 63, 3) := by decide +kernel
theorem dL_search_24 : decode cL_search 24 = .ok (.lload_n 2, 1) := by decide +kernel
theorem dL_search_25 : decode cL_search 25 = .ok (.iload 7, 2) := by decide +kernel
theorem dL_search_27 : decode cL_search 27 = .ok (.invokestatic 28, 3) := by decide +kernel
theorem dL_search_30 : decode cL_search 30 = .ok (.ifCond .eq 19, 3) := by decide +kernel
theorem dL_search_33 : decode cL_search 33 = .ok (.aload_n 1, 1) := by decide +kernel
theorem dL_search_34 : decode cL_search 34 = .ok (.getfield 32, 3) := by decide +kernel
theorem dL_search_37 : decode cL_search 37 = .ok (.iload 7, 2) := by decide +kernel
theorem dL_search_39 : decode cL_search 39 = .ok (.iaload, 1) := by decide +kernel
theorem dL_search_40 : decode cL_search 40 = .ok (.iload 4, 2) := by decide +kernel
theorem dL_search_42 : decode cL_search 42 = .ok (.if_icmp .ne 7, 3) := by decide +kernel
theorem dL_search_45 : decode cL_search 45 = .ok (.iconst 1, 1) := by decide +kernel
theorem dL_search_46 : decode cL_search 46 = .ok (.goto 4, 3) := by decide +kernel
theorem dL_search_49 : decode cL_search 49 = .ok (.iconst 0, 1) := by decide +kernel
theorem dL_search_50 : decode cL_search 50 = .ok (.istore 8, 2) := by decide +kernel
theorem dL_search_52 : decode cL_search 52 = .ok (.aload_n 0, 1) := by decide +kernel
theorem dL_search_53 : decode cL_search 53 = .ok (.getfield 9, 3) := by decide +kernel
theorem dL_search_56 : decode cL_search 56 = .ok (.iload 7, 2) := by decide +kernel
theorem dL_search_58 : decode cL_search 58 = .ok (.iload 8, 2) := by decide +kernel
theorem dL_search_60 : decode cL_search 60 = .ok (.ifCond .eq 14, 3) := by decide +kernel
theorem dL_search_63 : decode cL_search 63 = .ok (.aload_n 1, 1) := by decide +kernel
theorem dL_search_64 : decode cL_search 64 = .ok (.iload 7, 2) := by decide +kernel
theorem dL_search_66 : decode cL_search 66 = .ok (.lload 5, 2) := by decide +kernel
theorem dL_search_68 : decode cL_search 68 = .ok (.invokevirtual 36, 3) := by decide +kernel
theorem dL_search_71 : decode cL_search 71 = .ok (.goto 6, 3) := by decide +kernel
theorem dL_search_74 : decode cL_search 74 = .ok (.ldc2_w 40, 3) := by decide +kernel
theorem dL_search_77 : decode cL_search 77 = .ok (.lastore, 1) := by decide +kernel
theorem dL_search_78 : decode cL_search 78 = .ok (.iinc 7 1, 3) := by decide +kernel
theorem dL_search_81 : decode cL_search 81 = .ok (.goto (-66), 3) := by decide +kernel
theorem dL_search_84 : decode cL_search 84 = .ok (.lload_n 2, 1) := by decide +kernel
theorem dL_search_85 : decode cL_search 85 = .ok (.lstore 7, 2) := by decide +kernel
theorem dL_search_87 : decode cL_search 87 = .ok (.iconst 0, 1) := by decide +kernel
theorem dL_search_88 : decode cL_search 88 = .ok (.istore 9, 2) := by decide +kernel
theorem dL_search_90 : decode cL_search 90 = .ok (.iload 9, 2) := by decide +kernel
theorem dL_search_92 : decode cL_search 92 = .ok (.aload_n 1, 1) := by decide +kernel
theorem dL_search_93 : decode cL_search 93 = .ok (.getfield 23, 3) := by decide +kernel
theorem dL_search_96 : decode cL_search 96 = .ok (.if_icmp .ge 44, 3) := by decide +kernel
theorem dL_search_99 : decode cL_search 99 = .ok (.aload_n 0, 1) := by decide +kernel
theorem dL_search_100 : decode cL_search 100 = .ok (.aload_n 1, 1) := by decide +kernel
theorem dL_search_101 : decode cL_search 101 = .ok (.lload 7, 2) := by decide +kernel
theorem dL_search_103 : decode cL_search 103 = .ok (.invokevirtual 42, 3) := by decide +kernel
theorem dL_search_106 : decode cL_search 106 = .ok (.istore 10, 2) := by decide +kernel
theorem dL_search_108 : decode cL_search 108 = .ok (.iload 10, 2) := by decide +kernel
theorem dL_search_110 : decode cL_search 110 = .ok (.iconst (-1), 1) := by decide +kernel
theorem dL_search_111 : decode cL_search 111 = .ok (.if_icmp .ne 4, 3) := by decide +kernel
theorem dL_search_114 : decode cL_search 114 = .ok (.return_, 1) := by decide +kernel
theorem dL_search_115 : decode cL_search 115 = .ok (.lload 7, 2) := by decide +kernel
theorem dL_search_117 : decode cL_search 117 = .ok (.iload 10, 2) := by decide +kernel
theorem dL_search_119 : decode cL_search 119 = .ok (.iconst 0, 1) := by decide +kernel
theorem dL_search_120 : decode cL_search 120 = .ok (.invokestatic 46, 3) := by decide +kernel
theorem dL_search_123 : decode cL_search 123 = .ok (.lstore 7, 2) := by decide +kernel
theorem dL_search_125 : decode cL_search 125 = .ok (.aload_n 0, 1) := by decide +kernel
theorem dL_search_126 : decode cL_search 126 = .ok (.aload_n 1, 1) := by decide +kernel
theorem dL_search_127 : decode cL_search 127 = .ok (.iload 10, 2) := by decide +kernel
theorem dL_search_129 : decode cL_search 129 = .ok (.lload 7, 2) := by decide +kernel
theorem dL_search_131 : decode cL_search 131 = .ok (.invokevirtual 50, 3) := by decide +kernel
theorem dL_search_134 : decode cL_search 134 = .ok (.iinc 9 1, 3) := by decide +kernel
theorem dL_search_137 : decode cL_search 137 = .ok (.goto (-47), 3) := by decide +kernel
theorem dL_search_140 : decode cL_search 140 = .ok (.return_, 1) := by decide +kernel
theorem dP_endWhenUsedFrom_0 : decode cP_endWhenUsedFrom 0 = .ok (.lload_n 2, 1) := by decide +kernel
theorem dP_endWhenUsedFrom_1 : decode cP_endWhenUsedFrom 1 = .ok (.ldc2_w 68, 3) := by decide +kernel
theorem dP_endWhenUsedFrom_4 : decode cP_endWhenUsedFrom 4 = .ok (.ldiv, 1) := by decide +kernel
theorem dP_endWhenUsedFrom_5 : decode cP_endWhenUsedFrom 5 = .ok (.lstore 4, 2) := by decide +kernel
theorem dP_endWhenUsedFrom_7 : decode cP_endWhenUsedFrom 7 = .ok (.lload 4, 2) := by decide +kernel
theorem dP_endWhenUsedFrom_9 : decode cP_endWhenUsedFrom 9 = .ok (.lstore 6, 2) := by decide +kernel
theorem dP_endWhenUsedFrom_11 : decode cP_endWhenUsedFrom 11 = .ok (.lload 6, 2) := by decide +kernel
theorem dP_endWhenUsedFrom_13 : decode cP_endWhenUsedFrom 13 = .ok (.lload 4, 2) := by decide +kernel
theorem dP_endWhenUsedFrom_15 : decode cP_endWhenUsedFrom 15 = .ok (.ldc2_w 70, 3) := by decide +kernel
theorem dP_endWhenUsedFrom_18 : decode cP_endWhenUsedFrom 18 = .ok (.ladd, 1) := by decide +kernel
theorem dP_endWhenUsedFrom_19 : decode cP_endWhenUsedFrom 19 = .ok (.lcmp, 1) := by decide +kernel
theorem dP_endWhenUsedFrom_20 : decode cP_endWhenUsedFrom 20 = .ok (.ifCond .ge 49, 3) := by decide +kernel
theorem dP_endWhenUsedFrom_23 : decode cP_endWhenUsedFrom 23 = .ok (.aload_n 0, 1) := by decide +kernel
theorem dP_endWhenUsedFrom_24 : decode cP_endWhenUsedFrom 24 = .ok (.getfield 28, 3) := by decide +kernel
theorem dP_endWhenUsedFrom_27 : decode cP_endWhenUsedFrom 27 = .ok (.iload_n 1, 1) := by decide +kernel
theorem dP_endWhenUsedFrom_28 : decode cP_endWhenUsedFrom 28 = .ok (.laload, 1) := by decide +kernel
theorem dP_endWhenUsedFrom_29 : decode cP_endWhenUsedFrom 29 = .ok (.lload 6, 2) := by decide +kernel
theorem dP_endWhenUsedFrom_31 : decode cP_endWhenUsedFrom 31 = .ok (.ldc2_w 70, 3) := by decide +kernel
theorem dP_endWhenUsedFrom_34 : decode cP_endWhenUsedFrom 34 = .ok (.lrem, 1) := by decide +kernel
theorem dP_endWhenUsedFrom_35 : decode cP_endWhenUsedFrom 35 = .ok (.l2i, 1) := by decide +kernel
theorem dP_endWhenUsedFrom_36 : decode cP_endWhenUsedFrom 36 = .ok (.invokestatic 42, 3) := by decide +kernel
theorem dP_endWhenUsedFrom_39 : decode cP_endWhenUsedFrom 39 = .ok (.ifCond .eq 21, 3) := by decide +kernel
theorem dP_endWhenUsedFrom_42 : decode cP_endWhenUsedFrom 42 = .ok (.lload_n 2, 1) := by decide +kernel
theorem dP_endWhenUsedFrom_43 : decode cP_endWhenUsedFrom 43 = .ok (.lload 6, 2) := by decide +kernel
theorem dP_endWhenUsedFrom_45 : decode cP_endWhenUsedFrom 45 = .ok (.ldc2_w 68, 3) := by decide +kernel
theorem dP_endWhenUsedFrom_48 : decode cP_endWhenUsedFrom 48 = .ok (.lmul, 1) := by decide +kernel
theorem dP_endWhenUsedFrom_49 : decode cP_endWhenUsedFrom 49 = .ok (.invokestatic 72, 3) := by decide +kernel
theorem dP_endWhenUsedFrom_52 : decode cP_endWhenUsedFrom 52 = .ok (.aload_n 0, 1) := by decide +kernel
theorem dP_endWhenUsedFrom_53 : decode cP_endWhenUsedFrom 53 = .ok (.getfield 18, 3) := by decide +kernel
theorem dP_endWhenUsedFrom_56 : decode cP_endWhenUsedFrom 56 = .ok (.iload_n 1, 1) := by decide +kernel
theorem dP_endWhenUsedFrom_57 : decode cP_endWhenUsedFrom 57 = .ok (.laload, 1) := by decide +kernel
theorem dP_endWhenUsedFrom_58 : decode cP_endWhenUsedFrom 58 = .ok (.ladd, 1) := by decide +kernel
theorem dP_endWhenUsedFrom_59 : decode cP_endWhenUsedFrom 59 = .ok (.lreturn, 1) := by decide +kernel
theorem dP_endWhenUsedFrom_60 : decode cP_endWhenUsedFrom 60 = .ok (.lload 6, 2) := by decide +kernel
theorem dP_endWhenUsedFrom_62 : decode cP_endWhenUsedFrom 62 = .ok (.lconst 1, 1) := by decide +kernel
theorem dP_endWhenUsedFrom_63 : decode cP_endWhenUsedFrom 63 = .ok (.ladd, 1) := by decide +kernel
theorem dP_endWhenUsedFrom_64 : decode cP_endWhenUsedFrom 64 = .ok (.lstore 6, 2) := by decide +kernel
theorem dP_endWhenUsedFrom_66 : decode cP_endWhenUsedFrom 66 = .ok (.goto (-55), 3) := by decide +kernel
theorem dP_endWhenUsedFrom_69 : decode cP_endWhenUsedFrom 69 = .ok (.ldc2_w 78, 3) := by decide +kernel
theorem dP_endWhenUsedFrom_72 : decode cP_endWhenUsedFrom 72 = .ok (.lreturn, 1) := by decide +kernel
theorem dJM_max_J_0 : decode cJM_max_J 0 = .ok (.lload_n 0, 1) := by decide +kernel
theorem dJM_max_J_1 : decode cJM_max_J 1 = .ok (.lload_n 2, 1) := by decide +kernel
theorem dJM_max_J_2 : decode cJM_max_J 2 = .ok (.lcmp, 1) := by decide +kernel
theorem dJM_max_J_3 : decode cJM_max_J 3 = .ok (.ifCond .lt 7, 3) := by decide +kernel
theorem dJM_max_J_6 : decode cJM_max_J 6 = .ok (.lload_n 0, 1) := by decide +kernel
theorem dJM_max_J_7 : decode cJM_max_J 7 = .ok (.goto 4, 3) := by decide +kernel
theorem dJM_max_J_10 : decode cJM_max_J 10 = .ok (.lload_n 2, 1) := by decide +kernel
theorem dJM_max_J_11 : decode cJM_max_J 11 = .ok (.lreturn, 1) := by decide +kernel
theorem dL_earliestOf_0 : decode cL_earliestOf 0 = .ok (.iconst (-1), 1) := by decide +kernel
theorem dL_earliestOf_1 : decode cL_earliestOf 1 = .ok (.istore 4, 2) := by decide +kernel
theorem dL_earliestOf_3 : decode cL_earliestOf 3 = .ok (.ldc2_w 40, 3) := by decide +kernel
theorem dL_earliestOf_6 : decode cL_earliestOf 6 = .ok (.lstore 5, 2) := by decide +kernel
theorem dL_earliestOf_8 : decode cL_earliestOf 8 = .ok (.iconst 0, 1) := by decide +kernel
theorem dL_earliestOf_9 : decode cL_earliestOf 9 = .ok (.istore 7, 2) := by decide +kernel
theorem dL_earliestOf_11 : decode cL_earliestOf 11 = .ok (.iload 7, 2) := by decide +kernel
theorem dL_earliestOf_13 : decode cL_earliestOf 13 = .ok (.aload_n 1, 1) := by decide +kernel
theorem dL_earliestOf_14 : decode cL_earliestOf 14 = .ok (.getfield 23, 3) := by decide +kernel
theorem dL_earliestOf_17 : decode cL_earliestOf 17 = .ok (.if_icmp .ge 44, 3) := by decide +kernel
theorem dL_earliestOf_20 : decode cL_earliestOf 20 = .ok (.lload_n 2, 1) := by decide +kernel
theorem dL_earliestOf_21 : decode cL_earliestOf 21 = .ok (.iload 7, 2) := by decide +kernel
theorem dL_earliestOf_23 : decode cL_earliestOf 23 = .ok (.invokestatic 28, 3) := by decide +kernel
theorem dL_earliestOf_26 : decode cL_earliestOf 26 = .ok (.ifCond .eq 29, 3) := by decide +kernel
theorem dL_earliestOf_29 : decode cL_earliestOf 29 = .ok (.aload_n 0, 1) := by decide +kernel
theorem dL_earliestOf_30 : decode cL_earliestOf 30 = .ok (.getfield 9, 3) := by decide +kernel
theorem dL_earliestOf_33 : decode cL_earliestOf 33 = .ok (.iload 7, 2) := by decide +kernel
theorem dL_earliestOf_35 : decode cL_earliestOf 35 = .ok (.laload, 1) := by decide +kernel
theorem dL_earliestOf_36 : decode cL_earliestOf 36 = .ok (.lload 5, 2) := by decide +kernel
theorem dL_earliestOf_38 : decode cL_earliestOf 38 = .ok (.lcmp, 1) := by decide +kernel
theorem dL_earliestOf_39 : decode cL_earliestOf 39 = .ok (.ifCond .ge 16, 3) := by decide +kernel
theorem dL_earliestOf_42 : decode cL_earliestOf 42 = .ok (.iload 7, 2) := by decide +kernel
theorem dL_earliestOf_44 : decode cL_earliestOf 44 = .ok (.istore 4, 2) := by decide +kernel
theorem dL_earliestOf_46 : decode cL_earliestOf 46 = .ok (.aload_n 0, 1) := by decide +kernel
theorem dL_earliestOf_47 : decode cL_earliestOf 47 = .ok (.getfield 9, 3) := by decide +kernel
theorem dL_earliestOf_50 : decode cL_earliestOf 50 = .ok (.iload 7, 2) := by decide +kernel
theorem dL_earliestOf_52 : decode cL_earliestOf 52 = .ok (.laload, 1) := by decide +kernel
theorem dL_earliestOf_53 : decode cL_earliestOf 53 = .ok (.lstore 5, 2) := by decide +kernel
theorem dL_earliestOf_55 : decode cL_earliestOf 55 = .ok (.iinc 7 1, 3) := by decide +kernel
theorem dL_earliestOf_58 : decode cL_earliestOf 58 = .ok (.goto (-47), 3) := by decide +kernel
theorem dL_earliestOf_61 : decode cL_earliestOf 61 = .ok (.iload 4, 2) := by decide +kernel
theorem dL_earliestOf_63 : decode cL_earliestOf 63 = .ok (.ireturn, 1) := by decide +kernel
theorem dL_goOnFrom_0 : decode cL_goOnFrom 0 = .ok (.iconst 0, 1) := by decide +kernel
theorem dL_goOnFrom_1 : decode cL_goOnFrom 1 = .ok (.istore 5, 2) := by decide +kernel
theorem dL_goOnFrom_3 : decode cL_goOnFrom 3 = .ok (.iload 5, 2) := by decide +kernel
theorem dL_goOnFrom_5 : decode cL_goOnFrom 5 = .ok (.aload_n 1, 1) := by decide +kernel
theorem dL_goOnFrom_6 : decode cL_goOnFrom 6 = .ok (.getfield 23, 3) := by decide +kernel
theorem dL_goOnFrom_9 : decode cL_goOnFrom 9 = .ok (.if_icmp .ge 61, 3) := by decide +kernel
theorem dL_goOnFrom_12 : decode cL_goOnFrom 12 = .ok (.lload_n 3, 1) := by decide +kernel
theorem dL_goOnFrom_13 : decode cL_goOnFrom 13 = .ok (.iload 5, 2) := by decide +kernel
theorem dL_goOnFrom_15 : decode cL_goOnFrom 15 = .ok (.invokestatic 28, 3) := by decide +kernel
theorem dL_goOnFrom_18 : decode cL_goOnFrom 18 = .ok (.ifCond .eq 46, 3) := by decide +kernel
theorem dL_goOnFrom_21 : decode cL_goOnFrom 21 = .ok (.aload_n 1, 1) := by decide +kernel
theorem dL_goOnFrom_22 : decode cL_goOnFrom 22 = .ok (.iload_n 2, 1) := by decide +kernel
theorem dL_goOnFrom_23 : decode cL_goOnFrom 23 = .ok (.iload 5, 2) := by decide +kernel
theorem dL_goOnFrom_25 : decode cL_goOnFrom 25 = .ok (.invokevirtual 54, 3) := by decide +kernel
theorem dL_goOnFrom_28 : decode cL_goOnFrom 28 = .ok (.ifCond .eq 36, 3) := by decide +kernel
theorem dL_goOnFrom_31 : decode cL_goOnFrom 31 = .ok (.aload_n 1, 1) := by decide +kernel
theorem dL_goOnFrom_32 : decode cL_goOnFrom 32 = .ok (.iload 5, 2) := by decide +kernel
theorem dL_goOnFrom_34 : decode cL_goOnFrom 34 = .ok (.aload_n 0, 1) := by decide +kernel
theorem dL_goOnFrom_35 : decode cL_goOnFrom 35 = .ok (.getfield 9, 3) := by decide +kernel
theorem dL_goOnFrom_38 : decode cL_goOnFrom 38 = .ok (.iload_n 2, 1) := by decide +kernel
theorem dL_goOnFrom_39 : decode cL_goOnFrom 39 = .ok (.laload, 1) := by decide +kernel
theorem dL_goOnFrom_40 : decode cL_goOnFrom 40 = .ok (.invokevirtual 36, 3) := by decide +kernel
theorem dL_goOnFrom_43 : decode cL_goOnFrom 43 = .ok (.lstore 6, 2) := by decide +kernel
theorem dL_goOnFrom_45 : decode cL_goOnFrom 45 = .ok (.aload_n 0, 1) := by decide +kernel
theorem dL_goOnFrom_46 : decode cL_goOnFrom 46 = .ok (.getfield 9, 3) := by decide +kernel
theorem dL_goOnFrom_49 : decode cL_goOnFrom 49 = .ok (.iload 5, 2) := by decide +kernel
theorem dL_goOnFrom_51 : decode cL_goOnFrom 51 = .ok (.aload_n 0, 1) := by decide +kernel
theorem dL_goOnFrom_52 : decode cL_goOnFrom 52 = .ok (.getfield 9, 3) := by decide +kernel
theorem dL_goOnFrom_55 : decode cL_goOnFrom 55 = .ok (.iload 5, 2) := by decide +kernel
theorem dL_goOnFrom_57 : decode cL_goOnFrom 57 = .ok (.laload, 1) := by decide +kernel
theorem dL_goOnFrom_58 : decode cL_goOnFrom 58 = .ok (.lload 6, 2) := by decide +kernel
theorem dL_goOnFrom_60 : decode cL_goOnFrom 60 = .ok (.invokestatic 58, 3) := by decide +kernel
theorem dL_goOnFrom_63 : decode cL_goOnFrom 63 = .ok (.lastore, 1) := by decide +kernel
theorem dL_goOnFrom_64 : decode cL_goOnFrom 64 = .ok (.iinc 5 1, 3) := by decide +kernel
theorem dL_goOnFrom_67 : decode cL_goOnFrom 67 = .ok (.goto (-64), 3) := by decide +kernel
theorem dL_goOnFrom_70 : decode cL_goOnFrom 70 = .ok (.return_, 1) := by decide +kernel
theorem dP_canFollow_0 : decode cP_canFollow 0 = .ok (.aload_n 0, 1) := by decide +kernel
theorem dP_canFollow_1 : decode cP_canFollow 1 = .ok (.getfield 9, 3) := by decide +kernel
theorem dP_canFollow_4 : decode cP_canFollow 4 = .ok (.iload_n 2, 1) := by decide +kernel
theorem dP_canFollow_5 : decode cP_canFollow 5 = .ok (.iaload, 1) := by decide +kernel
theorem dP_canFollow_6 : decode cP_canFollow 6 = .ok (.aload_n 0, 1) := by decide +kernel
theorem dP_canFollow_7 : decode cP_canFollow 7 = .ok (.getfield 15, 3) := by decide +kernel
theorem dP_canFollow_10 : decode cP_canFollow 10 = .ok (.iload_n 1, 1) := by decide +kernel
theorem dP_canFollow_11 : decode cP_canFollow 11 = .ok (.iaload, 1) := by decide +kernel
theorem dP_canFollow_12 : decode cP_canFollow 12 = .ok (.if_icmp .ne 16, 3) := by decide +kernel
theorem dP_canFollow_15 : decode cP_canFollow 15 = .ok (.aload_n 0, 1) := by decide +kernel
theorem dP_canFollow_16 : decode cP_canFollow 16 = .ok (.iload_n 1, 1) := by decide +kernel
theorem dP_canFollow_17 : decode cP_canFollow 17 = .ok (.iload_n 2, 1) := by decide +kernel
theorem dP_canFollow_18 : decode cP_canFollow 18 = .ok (.invokevirtual 64, 3) := by decide +kernel
theorem dP_canFollow_21 : decode cP_canFollow 21 = .ok (.ifCond .ne 7, 3) := by decide +kernel
theorem dP_canFollow_24 : decode cP_canFollow 24 = .ok (.iconst 1, 1) := by decide +kernel
theorem dP_canFollow_25 : decode cP_canFollow 25 = .ok (.goto 4, 3) := by decide +kernel
theorem dP_canFollow_28 : decode cP_canFollow 28 = .ok (.iconst 0, 1) := by decide +kernel
theorem dP_canFollow_29 : decode cP_canFollow 29 = .ok (.ireturn, 1) := by decide +kernel
theorem dJM_min_J_0 : decode cJM_min_J 0 = .ok (.lload_n 0, 1) := by decide +kernel
theorem dJM_min_J_1 : decode cJM_min_J 1 = .ok (.lload_n 2, 1) := by decide +kernel
theorem dJM_min_J_2 : decode cJM_min_J 2 = .ok (.lcmp, 1) := by decide +kernel
theorem dJM_min_J_3 : decode cJM_min_J 3 = .ok (.ifCond .gt 7, 3) := by decide +kernel
theorem dJM_min_J_6 : decode cJM_min_J 6 = .ok (.lload_n 0, 1) := by decide +kernel
theorem dJM_min_J_7 : decode cJM_min_J 7 = .ok (.goto 4, 3) := by decide +kernel
theorem dJM_min_J_10 : decode cJM_min_J 10 = .ok (.lload_n 2, 1) := by decide +kernel
theorem dJM_min_J_11 : decode cJM_min_J 11 = .ok (.lreturn, 1) := by decide +kernel
theorem dL_lastPieceTo_0 : decode cL_lastPieceTo 0 = .ok (.iconst (-1), 1) := by decide +kernel
theorem dL_lastPieceTo_1 : decode cL_lastPieceTo 1 = .ok (.istore_n 3, 1) := by decide +kernel
theorem dL_lastPieceTo_2 : decode cL_lastPieceTo 2 = .ok (.ldc2_w 40, 3) := by decide +kernel
theorem dL_lastPieceTo_5 : decode cL_lastPieceTo 5 = .ok (.lstore 4, 2) := by decide +kernel
theorem dL_lastPieceTo_7 : decode cL_lastPieceTo 7 = .ok (.iconst 0, 1) := by decide +kernel
theorem dL_lastPieceTo_8 : decode cL_lastPieceTo 8 = .ok (.istore 6, 2) := by decide +kernel
theorem dL_lastPieceTo_10 : decode cL_lastPieceTo 10 = .ok (.iload 6, 2) := by decide +kernel
theorem dL_lastPieceTo_12 : decode cL_lastPieceTo 12 = .ok (.aload_n 1, 1) := by decide +kernel
theorem dL_lastPieceTo_13 : decode cL_lastPieceTo 13 = .ok (.getfield 23, 3) := by decide +kernel
theorem dL_lastPieceTo_16 : decode cL_lastPieceTo 16 = .ok (.if_icmp .ge 45, 3) := by decide +kernel
theorem dL_lastPieceTo_19 : decode cL_lastPieceTo 19 = .ok (.aload_n 1, 1) := by decide +kernel
theorem dL_lastPieceTo_20 : decode cL_lastPieceTo 20 = .ok (.getfield 64, 3) := by decide +kernel
theorem dL_lastPieceTo_23 : decode cL_lastPieceTo 23 = .ok (.iload 6, 2) := by decide +kernel
theorem dL_lastPieceTo_25 : decode cL_lastPieceTo 25 = .ok (.iaload, 1) := by decide +kernel
theorem dL_lastPieceTo_26 : decode cL_lastPieceTo 26 = .ok (.iload_n 2, 1) := by decide +kernel
theorem dL_lastPieceTo_27 : decode cL_lastPieceTo 27 = .ok (.if_icmp .ne 28, 3) := by decide +kernel
theorem dL_lastPieceTo_30 : decode cL_lastPieceTo 30 = .ok (.aload_n 0, 1) := by decide +kernel
theorem dL_lastPieceTo_31 : decode cL_lastPieceTo 31 = .ok (.getfield 9, 3) := by decide +kernel
theorem dL_lastPieceTo_34 : decode cL_lastPieceTo 34 = .ok (.iload 6, 2) := by decide +kernel
theorem dL_lastPieceTo_36 : decode cL_lastPieceTo 36 = .ok (.laload, 1) := by decide +kernel
theorem dL_lastPieceTo_37 : decode cL_lastPieceTo 37 = .ok (.lload 4, 2) := by decide +kernel
theorem dL_lastPieceTo_39 : decode cL_lastPieceTo 39 = .ok (.lcmp, 1) := by decide +kernel
theorem dL_lastPieceTo_40 : decode cL_lastPieceTo 40 = .ok (.ifCond .ge 15, 3) := by decide +kernel
theorem dL_lastPieceTo_43 : decode cL_lastPieceTo 43 = .ok (.iload 6, 2) := by decide +kernel
theorem dL_lastPieceTo_45 : decode cL_lastPieceTo 45 = .ok (.istore_n 3, 1) := by decide +kernel
theorem dL_lastPieceTo_46 : decode cL_lastPieceTo 46 = .ok (.aload_n 0, 1) := by decide +kernel
theorem dL_lastPieceTo_47 : decode cL_lastPieceTo 47 = .ok (.getfield 9, 3) := by decide +kernel
theorem dL_lastPieceTo_50 : decode cL_lastPieceTo 50 = .ok (.iload 6, 2) := by decide +kernel
theorem dL_lastPieceTo_52 : decode cL_lastPieceTo 52 = .ok (.laload, 1) := by decide +kernel
theorem dL_lastPieceTo_53 : decode cL_lastPieceTo 53 = .ok (.lstore 4, 2) := by decide +kernel
theorem dL_lastPieceTo_55 : decode cL_lastPieceTo 55 = .ok (.iinc 6 1, 3) := by decide +kernel
theorem dL_lastPieceTo_58 : decode cL_lastPieceTo 58 = .ok (.goto (-48), 3) := by decide +kernel
theorem dL_lastPieceTo_61 : decode cL_lastPieceTo 61 = .ok (.iload_n 3, 1) := by decide +kernel
theorem dL_lastPieceTo_62 : decode cL_lastPieceTo 62 = .ok (.ireturn, 1) := by decide +kernel
theorem dR_clear_0 : decode cR_clear 0 = .ok (.aload_n 0, 1) := by decide +kernel
theorem dR_clear_1 : decode cR_clear 1 = .ok (.iconst 0, 1) := by decide +kernel
theorem dR_clear_2 : decode cR_clear 2 = .ok (.putfield 15, 3) := by decide +kernel
theorem dR_clear_5 : decode cR_clear 5 = .ok (.return_, 1) := by decide +kernel
theorem dL_writeWayTo_0 : decode cL_writeWayTo 0 = .ok (.aload_n 0, 1) := by decide +kernel
theorem dL_writeWayTo_1 : decode cL_writeWayTo 1 = .ok (.aload_n 1, 1) := by decide +kernel
theorem dL_writeWayTo_2 : decode cL_writeWayTo 2 = .ok (.iload_n 2, 1) := by decide +kernel
theorem dL_writeWayTo_3 : decode cL_writeWayTo 3 = .ok (.invokevirtual 67, 3) := by decide +kernel
theorem dL_writeWayTo_6 : decode cL_writeWayTo 6 = .ok (.istore 4, 2) := by decide +kernel
theorem dL_writeWayTo_8 : decode cL_writeWayTo 8 = .ok (.iconst 0, 1) := by decide +kernel
theorem dL_writeWayTo_9 : decode cL_writeWayTo 9 = .ok (.istore 5, 2) := by decide +kernel
theorem dL_writeWayTo_11 : decode cL_writeWayTo 11 = .ok (.iload 5, 2) := by decide +kernel
theorem dL_writeWayTo_13 : decode cL_writeWayTo 13 = .ok (.bipush 40, 2) := by decide +kernel
theorem dL_writeWayTo_15 : decode cL_writeWayTo 15 = .ok (.if_icmp .ge 30, 3) := by decide +kernel
theorem dL_writeWayTo_18 : decode cL_writeWayTo 18 = .ok (.iload 4, 2) := by decide +kernel
theorem dL_writeWayTo_20 : decode cL_writeWayTo 20 = .ok (.iconst (-1), 1) := by decide +kernel
theorem dL_writeWayTo_21 : decode cL_writeWayTo 21 = .ok (.if_icmp .eq 24, 3) := by decide +kernel
theorem dL_writeWayTo_24 : decode cL_writeWayTo 24 = .ok (.aload_n 3, 1) := by decide +kernel
theorem dL_writeWayTo_25 : decode cL_writeWayTo 25 = .ok (.iload 4, 2) := by decide +kernel
theorem dL_writeWayTo_27 : decode cL_writeWayTo 27 = .ok (.invokevirtual 71, 3) := by decide +kernel
theorem dL_writeWayTo_30 : decode cL_writeWayTo 30 = .ok (.aload_n 0, 1) := by decide +kernel
theorem dL_writeWayTo_31 : decode cL_writeWayTo 31 = .ok (.aload_n 1, 1) := by decide +kernel
theorem dL_writeWayTo_32 : decode cL_writeWayTo 32 = .ok (.iload 4, 2) := by decide +kernel
theorem dL_writeWayTo_34 : decode cL_writeWayTo 34 = .ok (.invokevirtual 77, 3) := by decide +kernel
theorem dL_writeWayTo_37 : decode cL_writeWayTo 37 = .ok (.istore 4, 2) := by decide +kernel
theorem dL_writeWayTo_39 : decode cL_writeWayTo 39 = .ok (.iinc 5 1, 3) := by decide +kernel
theorem dL_writeWayTo_42 : decode cL_writeWayTo 42 = .ok (.goto (-31), 3) := by decide +kernel
theorem dL_writeWayTo_45 : decode cL_writeWayTo 45 = .ok (.aload_n 3, 1) := by decide +kernel
theorem dL_writeWayTo_46 : decode cL_writeWayTo 46 = .ok (.invokevirtual 80, 3) := by decide +kernel
theorem dL_writeWayTo_49 : decode cL_writeWayTo 49 = .ok (.return_, 1) := by decide +kernel
theorem dR_append_0 : decode cR_append 0 = .ok (.aload_n 0, 1) := by decide +kernel
theorem dR_append_1 : decode cR_append 1 = .ok (.getfield 15, 3) := by decide +kernel
theorem dR_append_4 : decode cR_append 4 = .ok (.bipush 40, 2) := by decide +kernel
theorem dR_append_6 : decode cR_append 6 = .ok (.if_icmp .ge 23, 3) := by decide +kernel
theorem dR_append_9 : decode cR_append 9 = .ok (.aload_n 0, 1) := by decide +kernel
theorem dR_append_10 : decode cR_append 10 = .ok (.getfield 9, 3) := by decide +kernel
theorem dR_append_13 : decode cR_append 13 = .ok (.aload_n 0, 1) := by decide +kernel
theorem dR_append_14 : decode cR_append 14 = .ok (.getfield 15, 3) := by decide +kernel
theorem dR_append_17 : decode cR_append 17 = .ok (.iload_n 1, 1) := by decide +kernel
theorem dR_append_18 : decode cR_append 18 = .ok (.iastore, 1) := by decide +kernel
theorem dR_append_19 : decode cR_append 19 = .ok (.aload_n 0, 1) := by decide +kernel
theorem dR_append_20 : decode cR_append 20 = .ok (.dup, 1) := by decide +kernel
theorem dR_append_21 : decode cR_append 21 = .ok (.getfield 15, 3) := by decide +kernel
theorem dR_append_24 : decode cR_append 24 = .ok (.iconst 1, 1) := by decide +kernel
theorem dR_append_25 : decode cR_append 25 = .ok (.iadd, 1) := by decide +kernel
theorem dR_append_26 : decode cR_append 26 = .ok (.putfield 15, 3) := by decide +kernel
theorem dR_append_29 : decode cR_append 29 = .ok (.return_, 1) := by decide +kernel
theorem dL_pieceBefore_0 : decode cL_pieceBefore 0 = .ok (.aload_n 1, 1) := by decide +kernel
theorem dL_pieceBefore_1 : decode cL_pieceBefore 1 = .ok (.getfield 32, 3) := by decide +kernel
theorem dL_pieceBefore_4 : decode cL_pieceBefore 4 = .ok (.iload_n 2, 1) := by decide +kernel
theorem dL_pieceBefore_5 : decode cL_pieceBefore 5 = .ok (.iaload, 1) := by decide +kernel
theorem dL_pieceBefore_6 : decode cL_pieceBefore 6 = .ok (.aload_n 0, 1) := by decide +kernel
theorem dL_pieceBefore_7 : decode cL_pieceBefore 7 = .ok (.getfield 15, 3) := by decide +kernel
theorem dL_pieceBefore_10 : decode cL_pieceBefore 10 = .ok (.if_icmp .ne 24, 3) := by decide +kernel
theorem dL_pieceBefore_13 : decode cL_pieceBefore 13 = .ok (.aload_n 1, 1) := by decide +kernel
theorem dL_pieceBefore_14 : decode cL_pieceBefore 14 = .ok (.iload_n 2, 1) := by decide +kernel
theorem dL_pieceBefore_15 : decode cL_pieceBefore 15 = .ok (.aload_n 0, 1) := by decide +kernel
theorem dL_pieceBefore_16 : decode cL_pieceBefore 16 = .ok (.getfield 19, 3) := by decide +kernel
theorem dL_pieceBefore_19 : decode cL_pieceBefore 19 = .ok (.invokevirtual 36, 3) := by decide +kernel
theorem dL_pieceBefore_22 : decode cL_pieceBefore 22 = .ok (.aload_n 0, 1) := by decide +kernel
theorem dL_pieceBefore_23 : decode cL_pieceBefore 23 = .ok (.getfield 9, 3) := by decide +kernel
theorem dL_pieceBefore_26 : decode cL_pieceBefore 26 = .ok (.iload_n 2, 1) := by decide +kernel
theorem dL_pieceBefore_27 : decode cL_pieceBefore 27 = .ok (.laload, 1) := by decide +kernel
theorem dL_pieceBefore_28 : decode cL_pieceBefore 28 = .ok (.lcmp, 1) := by decide +kernel
theorem dL_pieceBefore_29 : decode cL_pieceBefore 29 = .ok (.ifCond .ne 5, 3) := by decide +kernel
theorem dL_pieceBefore_32 : decode cL_pieceBefore 32 = .ok (.iconst (-1), 1) := by decide +kernel
theorem dL_pieceBefore_33 : decode cL_pieceBefore 33 = .ok (.ireturn, 1) := by decide +kernel
theorem dL_pieceBefore_34 : decode cL_pieceBefore 34 = .ok (.iconst 0, 1) := by decide +kernel
theorem dL_pieceBefore_35 : decode cL_pieceBefore 35 = .ok (.istore_n 3, 1) := by decide +kernel
theorem dL_pieceBefore_36 : decode cL_pieceBefore 36 = .ok (.iload_n 3, 1) := by decide +kernel
theorem dL_pieceBefore_37 : decode cL_pieceBefore 37 = .ok (.aload_n 1, 1) := by decide +kernel
theorem dL_pieceBefore_38 : decode cL_pieceBefore 38 = .ok (.getfield 23, 3) := by decide +kernel
theorem dL_pieceBefore_41 : decode cL_pieceBefore 41 = .ok (.if_icmp .ge 57, 3) := by decide +kernel
theorem dL_pieceBefore_44 : decode cL_pieceBefore 44 = .ok (.aload_n 0, 1) := by decide +kernel
theorem dL_pieceBefore_45 : decode cL_pieceBefore 45 = .ok (.getfield 9, 3) := by decide +kernel
theorem dL_pieceBefore_48 : decode cL_pieceBefore 48 = .ok (.iload_n 3, 1) := by decide +kernel
theorem dL_pieceBefore_49 : decode cL_pieceBefore 49 = .ok (.laload, 1) := by decide +kernel
theorem dL_pieceBefore_50 : decode cL_pieceBefore 50 = .ok (.aload_n 0, 1) := by decide +kernel
theorem dL_pieceBefore_51 : decode cL_pieceBefore 51 = .ok (.getfield 9, 3) := by decide +kernel
theorem dL_pieceBefore_54 : decode cL_pieceBefore 54 = .ok (.iload_n 2, 1) := by decide +kernel
theorem dL_pieceBefore_55 : decode cL_pieceBefore 55 = .ok (.laload, 1) := by decide +kernel
theorem dL_pieceBefore_56 : decode cL_pieceBefore 56 = .ok (.lcmp, 1) := by decide +kernel
theorem dL_pieceBefore_57 : decode cL_pieceBefore 57 = .ok (.ifCond .ge 35, 3) := by decide +kernel
theorem dL_pieceBefore_60 : decode cL_pieceBefore 60 = .ok (.aload_n 1, 1) := by decide +kernel
theorem dL_pieceBefore_61 : decode cL_pieceBefore 61 = .ok (.iload_n 3, 1) := by decide +kernel
theorem dL_pieceBefore_62 : decode cL_pieceBefore 62 = .ok (.iload_n 2, 1) := by decide +kernel
theorem dL_pieceBefore_63 : decode cL_pieceBefore 63 = .ok (.invokevirtual 54, 3) := by decide +kernel
theorem dL_pieceBefore_66 : decode cL_pieceBefore 66 = .ok (.ifCond .eq 26, 3) := by decide +kernel
theorem dL_pieceBefore_69 : decode cL_pieceBefore 69 = .ok (.aload_n 1, 1) := by decide +kernel
theorem dL_pieceBefore_70 : decode cL_pieceBefore 70 = .ok (.iload_n 2, 1) := by decide +kernel
theorem dL_pieceBefore_71 : decode cL_pieceBefore 71 = .ok (.aload_n 0, 1) := by decide +kernel
theorem dL_pieceBefore_72 : decode cL_pieceBefore 72 = .ok (.getfield 9, 3) := by decide +kernel
theorem dL_pieceBefore_75 : decode cL_pieceBefore 75 = .ok (.iload_n 3, 1) := by decide +kernel
theorem dL_pieceBefore_76 : decode cL_pieceBefore 76 = .ok (.laload, 1) := by decide +kernel
theorem dL_pieceBefore_77 : decode cL_pieceBefore 77 = .ok (.invokevirtual 36, 3) := by decide +kernel
theorem dL_pieceBefore_80 : decode cL_pieceBefore 80 = .ok (.aload_n 0, 1) := by decide +kernel
theorem dL_pieceBefore_81 : decode cL_pieceBefore 81 = .ok (.getfield 9, 3) := by decide +kernel
theorem dL_pieceBefore_84 : decode cL_pieceBefore 84 = .ok (.iload_n 2, 1) := by decide +kernel
theorem dL_pieceBefore_85 : decode cL_pieceBefore 85 = .ok (.laload, 1) := by decide +kernel
theorem dL_pieceBefore_86 : decode cL_pieceBefore 86 = .ok (.lcmp, 1) := by decide +kernel
theorem dL_pieceBefore_87 : decode cL_pieceBefore 87 = .ok (.ifCond .ne 5, 3) := by decide +kernel
theorem dL_pieceBefore_90 : decode cL_pieceBefore 90 = .ok (.iload_n 3, 1) := by decide +kernel
theorem dL_pieceBefore_91 : decode cL_pieceBefore 91 = .ok (.ireturn, 1) := by decide +kernel
theorem dL_pieceBefore_92 : decode cL_pieceBefore 92 = .ok (.iinc 3 1, 3) := by decide +kernel
theorem dL_pieceBefore_95 : decode cL_pieceBefore 95 = .ok (.goto (-59), 3) := by decide +kernel
theorem dL_pieceBefore_98 : decode cL_pieceBefore 98 = .ok (.iconst (-1), 1) := by decide +kernel
theorem dL_pieceBefore_99 : decode cL_pieceBefore 99 = .ok (.ireturn, 1) := by decide +kernel
theorem dR_turnRound_0 : decode cR_turnRound 0 = .ok (.iconst 0, 1) := by decide +kernel
theorem dR_turnRound_1 : decode cR_turnRound 1 = .ok (.istore_n 1, 1) := by decide +kernel
theorem dR_turnRound_2 : decode cR_turnRound 2 = .ok (.aload_n 0, 1) := by decide +kernel
theorem dR_turnRound_3 : decode cR_turnRound 3 = .ok (.getfield 15, 3) := by decide +kernel
theorem dR_turnRound_6 : decode cR_turnRound 6 = .ok (.iconst 1, 1) := by decide +kernel
theorem dR_turnRound_7 : decode cR_turnRound 7 = .ok (.isub, 1) := by decide +kernel
theorem dR_turnRound_8 : decode cR_turnRound 8 = .ok (.istore_n 2, 1) := by decide +kernel
theorem dR_turnRound_9 : decode cR_turnRound 9 = .ok (.iload_n 1, 1) := by decide +kernel
theorem dR_turnRound_10 : decode cR_turnRound 10 = .ok (.iload_n 2, 1) := by decide +kernel
theorem dR_turnRound_11 : decode cR_turnRound 11 = .ok (.if_icmp .ge 38, 3) := by decide +kernel
theorem dR_turnRound_14 : decode cR_turnRound 14 = .ok (.aload_n 0, 1) := by decide +kernel
theorem dR_turnRound_15 : decode cR_turnRound 15 = .ok (.getfield 9, 3) := by decide +kernel
theorem dR_turnRound_18 : decode cR_turnRound 18 = .ok (.iload_n 1, 1) := by decide +kernel
theorem dR_turnRound_19 : decode cR_turnRound 19 = .ok (.iaload, 1) := by decide +kernel
theorem dR_turnRound_20 : decode cR_turnRound 20 = .ok (.istore_n 3, 1) := by decide +kernel
end
section
theorem dR_turnRound_21 : decode cR_turnRound 21 = .ok (.aload_n 0, 1) := by decide +kernel
theorem dR_turnRound_22 : decode cR_turnRound 22 = .ok (.getfield 9, 3) := by decide +kernel
theorem dR_turnRound_25 : decode cR_turnRound 25 = .ok (.iload_n 1, 1) := by decide +kernel
theorem dR_turnRound_26 : decode cR_turnRound 26 = .ok (.aload_n 0, 1) := by decide +kernel
theorem dR_turnRound_27 : decode cR_turnRound 27 = .ok (.getfield 9, 3) := by decide +kernel
theorem dR_turnRound_30 : decode cR_turnRound 30 = .ok (.iload_n 2, 1) := by decide +kernel
theorem dR_turnRound_31 : decode cR_turnRound 31 = .ok (.iaload, 1) := by decide +kernel
theorem dR_turnRound_32 : decode cR_turnRound 32 = .ok (.iastore, 1) := by decide +kernel
theorem dR_turnRound_33 : decode cR_turnRound 33 = .ok (.aload_n 0, 1) := by decide +kernel
theorem dR_turnRound_34 : decode cR_turnRound 34 = .ok (.getfield 9, 3) := by decide +kernel
theorem dR_turnRound_37 : decode cR_turnRound 37 = .ok (.iload_n 2, 1) := by decide +kernel
theorem dR_turnRound_38 : decode cR_turnRound 38 = .ok (.iload_n 3, 1) := by decide +kernel
theorem dR_turnRound_39 : decode cR_turnRound 39 = .ok (.iastore, 1) := by decide +kernel
theorem dR_turnRound_40 : decode cR_turnRound 40 = .ok (.iinc 1 1, 3) := by decide +kernel
theorem dR_turnRound_43 : decode cR_turnRound 43 = .ok (.iinc 2 (-1), 3) := by decide +kernel
theorem dR_turnRound_46 : decode cR_turnRound 46 = .ok (.goto (-37), 3) := by decide +kernel
theorem dR_turnRound_49 : decode cR_turnRound 49 = .ok (.return_, 1) := by decide +kernel
theorem dW_reaches_0 : decode cW_reaches 0 = .ok (.aload 4, 2) := by decide +kernel
theorem dW_reaches_2 : decode cW_reaches 2 = .ok (.iconst 0, 1) := by decide +kernel
theorem dW_reaches_3 : decode cW_reaches 3 = .ok (.aload_n 0, 1) := by decide +kernel
theorem dW_reaches_4 : decode cW_reaches 4 = .ok (.iload_n 1, 1) := by decide +kernel
theorem dW_reaches_5 : decode cW_reaches 5 = .ok (.iload_n 2, 1) := by decide +kernel
theorem dW_reaches_6 : decode cW_reaches 6 = .ok (.iload_n 3, 1) := by decide +kernel
theorem dW_reaches_7 : decode cW_reaches 7 = .ok (.invokevirtual 50, 3) := by decide +kernel
theorem dW_reaches_10 : decode cW_reaches 10 = .ok (.ifCond .eq 7, 3) := by decide +kernel
theorem dW_reaches_13 : decode cW_reaches 13 = .ok (.lconst 1, 1) := by decide +kernel
theorem dW_reaches_14 : decode cW_reaches 14 = .ok (.goto 4, 3) := by decide +kernel
theorem dW_reaches_17 : decode cW_reaches 17 = .ok (.lconst 0, 1) := by decide +kernel
theorem dW_reaches_18 : decode cW_reaches 18 = .ok (.lastore, 1) := by decide +kernel
theorem dW_reaches_19 : decode cW_reaches 19 = .ok (.goto 7, 3) := by decide +kernel
theorem dW_reaches_22 : decode cW_reaches 22 = .ok (.astore 5, 2) := by decide +kernel
theorem dW_reaches_24 : decode cW_reaches 24 = .ok (.iconst 1, 1) := by decide +kernel
theorem dW_reaches_25 : decode cW_reaches 25 = .ok (.ireturn, 1) := by decide +kernel
theorem dW_reaches_26 : decode cW_reaches 26 = .ok (.iconst 0, 1) := by decide +kernel
theorem dW_reaches_27 : decode cW_reaches 27 = .ok (.ireturn, 1) := by decide +kernel
theorem dG_reaches_0 : decode cG_reaches 0 = .ok (.aload_n 0, 1) := by decide +kernel
theorem dG_reaches_1 : decode cG_reaches 1 = .ok (.iload_n 1, 1) := by decide +kernel
theorem dG_reaches_2 : decode cG_reaches 2 = .ok (.invokevirtual 167, 3) := by decide +kernel
theorem dG_reaches_5 : decode cG_reaches 5 = .ok (.ifCond .eq 19, 3) := by decide +kernel
theorem dG_reaches_8 : decode cG_reaches 8 = .ok (.aload_n 0, 1) := by decide +kernel
theorem dG_reaches_9 : decode cG_reaches 9 = .ok (.iload_n 2, 1) := by decide +kernel
theorem dG_reaches_10 : decode cG_reaches 10 = .ok (.invokevirtual 73, 3) := by decide +kernel
theorem dG_reaches_13 : decode cG_reaches 13 = .ok (.ifCond .eq 11, 3) := by decide +kernel
theorem dG_reaches_16 : decode cG_reaches 16 = .ok (.aload_n 0, 1) := by decide +kernel
theorem dG_reaches_17 : decode cG_reaches 17 = .ok (.iload_n 3, 1) := by decide +kernel
theorem dG_reaches_18 : decode cG_reaches 18 = .ok (.invokevirtual 73, 3) := by decide +kernel
theorem dG_reaches_21 : decode cG_reaches 21 = .ok (.ifCond .ne 13, 3) := by decide +kernel
theorem dG_reaches_24 : decode cG_reaches 24 = .ok (.new 57, 3) := by decide +kernel
theorem dG_reaches_27 : decode cG_reaches 27 = .ok (.dup, 1) := by decide +kernel
theorem dG_reaches_28 : decode cG_reaches 28 = .ok (.ldc 189, 2) := by decide +kernel
theorem dG_reaches_30 : decode cG_reaches 30 = .ok (.invokespecial 61, 3) := by decide +kernel
theorem dG_reaches_33 : decode cG_reaches 33 = .ok (.athrow, 1) := by decide +kernel
theorem dG_reaches_34 : decode cG_reaches 34 = .ok (.aload_n 0, 1) := by decide +kernel
theorem dG_reaches_35 : decode cG_reaches 35 = .ok (.iload_n 1, 1) := by decide +kernel
theorem dG_reaches_36 : decode cG_reaches 36 = .ok (.iload_n 2, 1) := by decide +kernel
theorem dG_reaches_37 : decode cG_reaches 37 = .ok (.iload_n 3, 1) := by decide +kernel
theorem dG_reaches_38 : decode cG_reaches 38 = .ok (.lconst 0, 1) := by decide +kernel
theorem dG_reaches_39 : decode cG_reaches 39 = .ok (.invokevirtual 172, 3) := by decide +kernel
theorem dG_reaches_42 : decode cG_reaches 42 = .ok (.ldc2_w 179, 3) := by decide +kernel
theorem dG_reaches_45 : decode cG_reaches 45 = .ok (.lcmp, 1) := by decide +kernel
theorem dG_reaches_46 : decode cG_reaches 46 = .ok (.ifCond .eq 7, 3) := by decide +kernel
theorem dG_reaches_49 : decode cG_reaches 49 = .ok (.iconst 1, 1) := by decide +kernel
theorem dG_reaches_50 : decode cG_reaches 50 = .ok (.goto 4, 3) := by decide +kernel
theorem dG_reaches_53 : decode cG_reaches 53 = .ok (.iconst 0, 1) := by decide +kernel
theorem dG_reaches_54 : decode cG_reaches 54 = .ok (.ireturn, 1) := by decide +kernel
theorem dW_mark_0 : decode cW_mark 0 = .ok (.aload_n 2, 1) := by decide +kernel
theorem dW_mark_1 : decode cW_mark 1 = .ok (.iconst 0, 1) := by decide +kernel
theorem dW_mark_2 : decode cW_mark 2 = .ok (.aload_n 0, 1) := by decide +kernel
theorem dW_mark_3 : decode cW_mark 3 = .ok (.iload_n 1, 1) := by decide +kernel
theorem dW_mark_4 : decode cW_mark 4 = .ok (.invokevirtual 54, 3) := by decide +kernel
theorem dW_mark_7 : decode cW_mark 7 = .ok (.i2l, 1) := by decide +kernel
theorem dW_mark_8 : decode cW_mark 8 = .ok (.lastore, 1) := by decide +kernel
theorem dW_mark_9 : decode cW_mark 9 = .ok (.goto 12, 3) := by decide +kernel
theorem dW_mark_12 : decode cW_mark 12 = .ok (.astore_n 3, 1) := by decide +kernel
theorem dW_mark_13 : decode cW_mark 13 = .ok (.iconst 1, 1) := by decide +kernel
theorem dW_mark_14 : decode cW_mark 14 = .ok (.ireturn, 1) := by decide +kernel
theorem dW_mark_15 : decode cW_mark 15 = .ok (.astore_n 3, 1) := by decide +kernel
theorem dW_mark_16 : decode cW_mark 16 = .ok (.iconst 2, 1) := by decide +kernel
theorem dW_mark_17 : decode cW_mark 17 = .ok (.ireturn, 1) := by decide +kernel
theorem dW_mark_18 : decode cW_mark 18 = .ok (.astore_n 3, 1) := by decide +kernel
theorem dW_mark_19 : decode cW_mark 19 = .ok (.iconst 3, 1) := by decide +kernel
theorem dW_mark_20 : decode cW_mark 20 = .ok (.ireturn, 1) := by decide +kernel
theorem dW_mark_21 : decode cW_mark 21 = .ok (.iconst 0, 1) := by decide +kernel
theorem dW_mark_22 : decode cW_mark 22 = .ok (.ireturn, 1) := by decide +kernel
theorem dG_mark_0 : decode cG_mark 0 = .ok (.aload_n 0, 1) := by decide +kernel
theorem dG_mark_1 : decode cG_mark 1 = .ok (.iload_n 1, 1) := by decide +kernel
theorem dG_mark_2 : decode cG_mark 2 = .ok (.invokevirtual 73, 3) := by decide +kernel
theorem dG_mark_5 : decode cG_mark 5 = .ok (.ifCond .ne 13, 3) := by decide +kernel
theorem dG_mark_8 : decode cG_mark 8 = .ok (.new 57, 3) := by decide +kernel
theorem dG_mark_11 : decode cG_mark 11 = .ok (.dup, 1) := by decide +kernel
theorem dG_mark_12 : decode cG_mark 12 = .ok (.ldc 191, 2) := by decide +kernel
theorem dG_mark_14 : decode cG_mark 14 = .ok (.invokespecial 61, 3) := by decide +kernel
theorem dG_mark_17 : decode cG_mark 17 = .ok (.athrow, 1) := by decide +kernel
theorem dG_mark_18 : decode cG_mark 18 = .ok (.aload_n 0, 1) := by decide +kernel
theorem dG_mark_19 : decode cG_mark 19 = .ok (.iload_n 1, 1) := by decide +kernel
theorem dG_mark_20 : decode cG_mark 20 = .ok (.invokevirtual 193, 3) := by decide +kernel
theorem dG_mark_23 : decode cG_mark 23 = .ok (.ifCond .eq 13, 3) := by decide +kernel
theorem dG_mark_26 : decode cG_mark 26 = .ok (.new 196, 3) := by decide +kernel
theorem dG_mark_29 : decode cG_mark 29 = .ok (.dup, 1) := by decide +kernel
theorem dG_mark_30 : decode cG_mark 30 = .ok (.ldc 198, 2) := by decide +kernel
theorem dG_mark_32 : decode cG_mark 32 = .ok (.invokespecial 200, 3) := by decide +kernel
theorem dG_mark_35 : decode cG_mark 35 = .ok (.athrow, 1) := by decide +kernel
theorem dG_mark_36 : decode cG_mark 36 = .ok (.aload_n 0, 1) := by decide +kernel
theorem dG_mark_37 : decode cG_mark 37 = .ok (.getfield 201, 3) := by decide +kernel
theorem dG_mark_40 : decode cG_mark 40 = .ok (.bipush 8, 2) := by decide +kernel
theorem dG_mark_42 : decode cG_mark 42 = .ok (.if_icmp .lt 13, 3) := by decide +kernel
theorem dG_mark_45 : decode cG_mark 45 = .ok (.new 68, 3) := by decide +kernel
theorem dG_mark_48 : decode cG_mark 48 = .ok (.dup, 1) := by decide +kernel
theorem dG_mark_49 : decode cG_mark 49 = .ok (.ldc 204, 2) := by decide +kernel
theorem dG_mark_51 : decode cG_mark 51 = .ok (.invokespecial 72, 3) := by decide +kernel
theorem dG_mark_54 : decode cG_mark 54 = .ok (.athrow, 1) := by decide +kernel
theorem dG_mark_55 : decode cG_mark 55 = .ok (.aload_n 0, 1) := by decide +kernel
theorem dG_mark_56 : decode cG_mark 56 = .ok (.getfield 27, 3) := by decide +kernel
theorem dG_mark_59 : decode cG_mark 59 = .ok (.aload_n 0, 1) := by decide +kernel
theorem dG_mark_60 : decode cG_mark 60 = .ok (.getfield 201, 3) := by decide +kernel
theorem dG_mark_63 : decode cG_mark 63 = .ok (.iload_n 1, 1) := by decide +kernel
theorem dG_mark_64 : decode cG_mark 64 = .ok (.iastore, 1) := by decide +kernel
theorem dG_mark_65 : decode cG_mark 65 = .ok (.aload_n 0, 1) := by decide +kernel
theorem dG_mark_66 : decode cG_mark 66 = .ok (.dup, 1) := by decide +kernel
theorem dG_mark_67 : decode cG_mark 67 = .ok (.getfield 201, 3) := by decide +kernel
theorem dG_mark_70 : decode cG_mark 70 = .ok (.iconst 1, 1) := by decide +kernel
theorem dG_mark_71 : decode cG_mark 71 = .ok (.iadd, 1) := by decide +kernel
theorem dG_mark_72 : decode cG_mark 72 = .ok (.putfield 201, 3) := by decide +kernel
theorem dG_mark_75 : decode cG_mark 75 = .ok (.aload_n 0, 1) := by decide +kernel
theorem dG_mark_76 : decode cG_mark 76 = .ok (.getfield 201, 3) := by decide +kernel
theorem dG_mark_79 : decode cG_mark 79 = .ok (.ireturn, 1) := by decide +kernel
theorem dG_isMarked_0 : decode cG_isMarked 0 = .ok (.iconst 0, 1) := by decide +kernel
theorem dG_isMarked_1 : decode cG_isMarked 1 = .ok (.istore_n 2, 1) := by decide +kernel
theorem dG_isMarked_2 : decode cG_isMarked 2 = .ok (.iload_n 2, 1) := by decide +kernel
theorem dG_isMarked_3 : decode cG_isMarked 3 = .ok (.aload_n 0, 1) := by decide +kernel
theorem dG_isMarked_4 : decode cG_isMarked 4 = .ok (.getfield 201, 3) := by decide +kernel
theorem dG_isMarked_7 : decode cG_isMarked 7 = .ok (.if_icmp .ge 21, 3) := by decide +kernel
theorem dG_isMarked_10 : decode cG_isMarked 10 = .ok (.aload_n 0, 1) := by decide +kernel
theorem dG_isMarked_11 : decode cG_isMarked 11 = .ok (.getfield 27, 3) := by decide +kernel
theorem dG_isMarked_14 : decode cG_isMarked 14 = .ok (.iload_n 2, 1) := by decide +kernel
theorem dG_isMarked_15 : decode cG_isMarked 15 = .ok (.iaload, 1) := by decide +kernel
theorem dG_isMarked_16 : decode cG_isMarked 16 = .ok (.iload_n 1, 1) := by decide +kernel
theorem dG_isMarked_17 : decode cG_isMarked 17 = .ok (.if_icmp .ne 5, 3) := by decide +kernel
theorem dG_isMarked_20 : decode cG_isMarked 20 = .ok (.iconst 1, 1) := by decide +kernel
theorem dG_isMarked_21 : decode cG_isMarked 21 = .ok (.ireturn, 1) := by decide +kernel
theorem dG_isMarked_22 : decode cG_isMarked 22 = .ok (.iinc 2 1, 3) := by decide +kernel
theorem dG_isMarked_25 : decode cG_isMarked 25 = .ok (.goto (-23), 3) := by decide +kernel
theorem dG_isMarked_28 : decode cG_isMarked 28 = .ok (.iconst 0, 1) := by decide +kernel
theorem dG_isMarked_29 : decode cG_isMarked 29 = .ok (.ireturn, 1) := by decide +kernel
theorem dW_table_0 : decode cW_table 0 = .ok (.aload_n 3, 1) := by decide +kernel
theorem dW_table_1 : decode cW_table 1 = .ok (.iconst 0, 1) := by decide +kernel
theorem dW_table_2 : decode cW_table 2 = .ok (.aload_n 0, 1) := by decide +kernel
theorem dW_table_3 : decode cW_table 3 = .ok (.iload_n 1, 1) := by decide +kernel
theorem dW_table_4 : decode cW_table 4 = .ok (.iload_n 2, 1) := by decide +kernel
theorem dW_table_5 : decode cW_table 5 = .ok (.invokevirtual 59, 3) := by decide +kernel
theorem dW_table_8 : decode cW_table 8 = .ok (.lastore, 1) := by decide +kernel
theorem dW_table_9 : decode cW_table 9 = .ok (.goto 11, 3) := by decide +kernel
theorem dW_table_12 : decode cW_table 12 = .ok (.astore 4, 2) := by decide +kernel
theorem dW_table_14 : decode cW_table 14 = .ok (.iconst 1, 1) := by decide +kernel
theorem dW_table_15 : decode cW_table 15 = .ok (.ireturn, 1) := by decide +kernel
theorem dW_table_16 : decode cW_table 16 = .ok (.astore 4, 2) := by decide +kernel
theorem dW_table_18 : decode cW_table 18 = .ok (.iconst 2, 1) := by decide +kernel
theorem dW_table_19 : decode cW_table 19 = .ok (.ireturn, 1) := by decide +kernel
theorem dW_table_20 : decode cW_table 20 = .ok (.iconst 0, 1) := by decide +kernel
theorem dW_table_21 : decode cW_table 21 = .ok (.ireturn, 1) := by decide +kernel
theorem dG_table_0 : decode cG_table 0 = .ok (.iload_n 1, 1) := by decide +kernel
theorem dG_table_1 : decode cG_table 1 = .ok (.i2l, 1) := by decide +kernel
theorem dG_table_2 : decode cG_table 2 = .ok (.lconst 0, 1) := by decide +kernel
theorem dG_table_3 : decode cG_table 3 = .ok (.aload_n 0, 1) := by decide +kernel
theorem dG_table_4 : decode cG_table 4 = .ok (.getfield 201, 3) := by decide +kernel
theorem dG_table_7 : decode cG_table 7 = .ok (.iconst 1, 1) := by decide +kernel
theorem dG_table_8 : decode cG_table 8 = .ok (.isub, 1) := by decide +kernel
theorem dG_table_9 : decode cG_table 9 = .ok (.i2l, 1) := by decide +kernel
theorem dG_table_10 : decode cG_table 10 = .ok (.invokestatic 53, 3) := by decide +kernel
theorem dG_table_13 : decode cG_table 13 = .ok (.ifCond .eq 19, 3) := by decide +kernel
theorem dG_table_16 : decode cG_table 16 = .ok (.iload_n 2, 1) := by decide +kernel
theorem dG_table_17 : decode cG_table 17 = .ok (.i2l, 1) := by decide +kernel
theorem dG_table_18 : decode cG_table 18 = .ok (.lconst 0, 1) := by decide +kernel
theorem dG_table_19 : decode cG_table 19 = .ok (.aload_n 0, 1) := by decide +kernel
theorem dG_table_20 : decode cG_table 20 = .ok (.getfield 201, 3) := by decide +kernel
theorem dG_table_23 : decode cG_table 23 = .ok (.iconst 1, 1) := by decide +kernel
theorem dG_table_24 : decode cG_table 24 = .ok (.isub, 1) := by decide +kernel
theorem dG_table_25 : decode cG_table 25 = .ok (.i2l, 1) := by decide +kernel
theorem dG_table_26 : decode cG_table 26 = .ok (.invokestatic 53, 3) := by decide +kernel
theorem dG_table_29 : decode cG_table 29 = .ok (.ifCond .ne 13, 3) := by decide +kernel
theorem dG_table_32 : decode cG_table 32 = .ok (.new 57, 3) := by decide +kernel
theorem dG_table_35 : decode cG_table 35 = .ok (.dup, 1) := by decide +kernel
theorem dG_table_36 : decode cG_table 36 = .ok (.ldc 206, 2) := by decide +kernel
theorem dG_table_38 : decode cG_table 38 = .ok (.invokespecial 61, 3) := by decide +kernel
theorem dG_table_41 : decode cG_table 41 = .ok (.athrow, 1) := by decide +kernel
theorem dG_table_42 : decode cG_table 42 = .ok (.aload_n 0, 1) := by decide +kernel
theorem dG_table_43 : decode cG_table 43 = .ok (.getfield 120, 3) := by decide +kernel
theorem dG_table_46 : decode cG_table 46 = .ok (.ifCond .ne 13, 3) := by decide +kernel
theorem dG_table_49 : decode cG_table 49 = .ok (.new 196, 3) := by decide +kernel
theorem dG_table_52 : decode cG_table 52 = .ok (.dup, 1) := by decide +kernel
theorem dG_table_53 : decode cG_table 53 = .ok (.ldc 208, 2) := by decide +kernel
theorem dG_table_55 : decode cG_table 55 = .ok (.invokespecial 200, 3) := by decide +kernel
theorem dG_table_58 : decode cG_table 58 = .ok (.athrow, 1) := by decide +kernel
theorem dG_table_59 : decode cG_table 59 = .ok (.aload_n 0, 1) := by decide +kernel
theorem dG_table_60 : decode cG_table 60 = .ok (.iconst 0, 1) := by decide +kernel
theorem dG_table_61 : decode cG_table 61 = .ok (.aload_n 0, 1) := by decide +kernel
theorem dG_table_62 : decode cG_table 62 = .ok (.getfield 27, 3) := by decide +kernel
theorem dG_table_65 : decode cG_table 65 = .ok (.iload_n 1, 1) := by decide +kernel
theorem dG_table_66 : decode cG_table 66 = .ok (.iaload, 1) := by decide +kernel
theorem dG_table_67 : decode cG_table 67 = .ok (.aload_n 0, 1) := by decide +kernel
theorem dG_table_68 : decode cG_table 68 = .ok (.getfield 27, 3) := by decide +kernel
theorem dG_table_71 : decode cG_table 71 = .ok (.iload_n 2, 1) := by decide +kernel
theorem dG_table_72 : decode cG_table 72 = .ok (.iaload, 1) := by decide +kernel
theorem dG_table_73 : decode cG_table 73 = .ok (.lconst 0, 1) := by decide +kernel
theorem dG_table_74 : decode cG_table 74 = .ok (.invokevirtual 172, 3) := by decide +kernel
theorem dG_table_77 : decode cG_table 77 = .ok (.lreturn, 1) := by decide +kernel
theorem dW_k_0 : decode cW_k 0 = .ok (.aload 4, 2) := by decide +kernel
theorem dW_k_2 : decode cW_k 2 = .ok (.iconst 0, 1) := by decide +kernel
theorem dW_k_3 : decode cW_k 3 = .ok (.aload_n 0, 1) := by decide +kernel
theorem dW_k_4 : decode cW_k 4 = .ok (.iload_n 1, 1) := by decide +kernel
theorem dW_k_5 : decode cW_k 5 = .ok (.iload_n 2, 1) := by decide +kernel
theorem dW_k_6 : decode cW_k 6 = .ok (.iload_n 3, 1) := by decide +kernel
theorem dW_k_7 : decode cW_k 7 = .ok (.invokevirtual 63, 3) := by decide +kernel
theorem dW_k_10 : decode cW_k 10 = .ok (.lastore, 1) := by decide +kernel
theorem dW_k_11 : decode cW_k 11 = .ok (.goto 11, 3) := by decide +kernel
theorem dW_k_14 : decode cW_k 14 = .ok (.astore 5, 2) := by decide +kernel
theorem dW_k_16 : decode cW_k 16 = .ok (.iconst 1, 1) := by decide +kernel
theorem dW_k_17 : decode cW_k 17 = .ok (.ireturn, 1) := by decide +kernel
theorem dW_k_18 : decode cW_k 18 = .ok (.astore 5, 2) := by decide +kernel
theorem dW_k_20 : decode cW_k 20 = .ok (.iconst 2, 1) := by decide +kernel
theorem dW_k_21 : decode cW_k 21 = .ok (.ireturn, 1) := by decide +kernel
theorem dW_k_22 : decode cW_k 22 = .ok (.iconst 0, 1) := by decide +kernel
theorem dW_k_23 : decode cW_k 23 = .ok (.ireturn, 1) := by decide +kernel
theorem dG_k_0 : decode cG_k 0 = .ok (.aload_n 0, 1) := by decide +kernel
theorem dG_k_1 : decode cG_k 1 = .ok (.iload_n 1, 1) := by decide +kernel
theorem dG_k_2 : decode cG_k 2 = .ok (.invokevirtual 73, 3) := by decide +kernel
theorem dG_k_5 : decode cG_k 5 = .ok (.ifCond .eq 28, 3) := by decide +kernel
theorem dG_k_8 : decode cG_k 8 = .ok (.aload_n 0, 1) := by decide +kernel
theorem dG_k_9 : decode cG_k 9 = .ok (.iload_n 2, 1) := by decide +kernel
theorem dG_k_10 : decode cG_k 10 = .ok (.invokevirtual 73, 3) := by decide +kernel
theorem dG_k_13 : decode cG_k 13 = .ok (.ifCond .eq 20, 3) := by decide +kernel
theorem dG_k_16 : decode cG_k 16 = .ok (.iload_n 1, 1) := by decide +kernel
theorem dG_k_17 : decode cG_k 17 = .ok (.iload_n 2, 1) := by decide +kernel
theorem dG_k_18 : decode cG_k 18 = .ok (.if_icmp .eq 15, 3) := by decide +kernel
theorem dG_k_21 : decode cG_k 21 = .ok (.iload_n 3, 1) := by decide +kernel
theorem dG_k_22 : decode cG_k 22 = .ok (.i2l, 1) := by decide +kernel
theorem dG_k_23 : decode cG_k 23 = .ok (.lconst 0, 1) := by decide +kernel
theorem dG_k_24 : decode cG_k 24 = .ok (.ldc2_w 210, 3) := by decide +kernel
theorem dG_k_27 : decode cG_k 27 = .ok (.invokestatic 53, 3) := by decide +kernel
theorem dG_k_30 : decode cG_k 30 = .ok (.ifCond .ne 13, 3) := by decide +kernel
theorem dG_k_33 : decode cG_k 33 = .ok (.new 57, 3) := by decide +kernel
theorem dG_k_36 : decode cG_k 36 = .ok (.dup, 1) := by decide +kernel
theorem dG_k_37 : decode cG_k 37 = .ok (.ldc 212, 2) := by decide +kernel
theorem dG_k_39 : decode cG_k 39 = .ok (.invokespecial 61, 3) := by decide +kernel
theorem dG_k_42 : decode cG_k 42 = .ok (.athrow, 1) := by decide +kernel
theorem dG_k_43 : decode cG_k 43 = .ok (.aload_n 0, 1) := by decide +kernel
theorem dG_k_44 : decode cG_k 44 = .ok (.getfield 120, 3) := by decide +kernel
theorem dG_k_47 : decode cG_k 47 = .ok (.ifCond .ne 13, 3) := by decide +kernel
theorem dG_k_50 : decode cG_k 50 = .ok (.new 196, 3) := by decide +kernel
theorem dG_k_53 : decode cG_k 53 = .ok (.dup, 1) := by decide +kernel
theorem dG_k_54 : decode cG_k 54 = .ok (.ldc 208, 2) := by decide +kernel
theorem dG_k_56 : decode cG_k 56 = .ok (.invokespecial 200, 3) := by decide +kernel
theorem dG_k_59 : decode cG_k 59 = .ok (.athrow, 1) := by decide +kernel
theorem dG_k_60 : decode cG_k 60 = .ok (.aload_n 0, 1) := by decide +kernel
theorem dG_k_61 : decode cG_k 61 = .ok (.getfield 40, 3) := by decide +kernel
theorem dG_k_64 : decode cG_k 64 = .ok (.aload_n 0, 1) := by decide +kernel
theorem dG_k_65 : decode cG_k 65 = .ok (.getfield 16, 3) := by decide +kernel
theorem dG_k_68 : decode cG_k 68 = .ok (.aload_n 0, 1) := by decide +kernel
theorem dG_k_69 : decode cG_k 69 = .ok (.getfield 16, 3) := by decide +kernel
theorem dG_k_72 : decode cG_k 72 = .ok (.aload_n 0, 1) := by decide +kernel
theorem dG_k_73 : decode cG_k 73 = .ok (.getfield 20, 3) := by decide +kernel
theorem dG_k_76 : decode cG_k 76 = .ok (.iconst 0, 1) := by decide +kernel
theorem dG_k_77 : decode cG_k 77 = .ok (.iaload, 1) := by decide +kernel
theorem dG_k_78 : decode cG_k 78 = .ok (.aload_n 0, 1) := by decide +kernel
theorem dG_k_79 : decode cG_k 79 = .ok (.getfield 23, 3) := by decide +kernel
theorem dG_k_82 : decode cG_k 82 = .ok (.iconst 0, 1) := by decide +kernel
theorem dG_k_83 : decode cG_k 83 = .ok (.laload, 1) := by decide +kernel
theorem dG_k_84 : decode cG_k 84 = .ok (.invokevirtual 214, 3) := by decide +kernel
theorem dG_k_87 : decode cG_k 87 = .ok (.iload_n 1, 1) := by decide +kernel
theorem dG_k_88 : decode cG_k 88 = .ok (.iload_n 2, 1) := by decide +kernel
theorem dG_k_89 : decode cG_k 89 = .ok (.invokevirtual 218, 3) := by decide +kernel
theorem dG_k_92 : decode cG_k 92 = .ok (.aload_n 0, 1) := by decide +kernel
theorem dG_k_93 : decode cG_k 93 = .ok (.getfield 47, 3) := by decide +kernel
theorem dG_k_96 : decode cG_k 96 = .ok (.invokevirtual 176, 3) := by decide +kernel
theorem dG_k_99 : decode cG_k 99 = .ok (.iload_n 3, 1) := by decide +kernel
theorem dG_k_100 : decode cG_k 100 = .ok (.aload_n 0, 1) := by decide +kernel
theorem dG_k_101 : decode cG_k 101 = .ok (.getfield 40, 3) := by decide +kernel
theorem dG_k_104 : decode cG_k 104 = .ok (.getfield 222, 3) := by decide +kernel
theorem dG_k_107 : decode cG_k 107 = .ok (.if_icmp .lt 7, 3) := by decide +kernel
theorem dG_k_110 : decode cG_k 110 = .ok (.ldc2_w 179, 3) := by decide +kernel
theorem dG_k_113 : decode cG_k 113 = .ok (.lreturn, 1) := by decide +kernel
theorem dG_k_114 : decode cG_k 114 = .ok (.aload_n 0, 1) := by decide +kernel
theorem dG_k_115 : decode cG_k 115 = .ok (.getfield 40, 3) := by decide +kernel
theorem dG_k_118 : decode cG_k 118 = .ok (.iload_n 3, 1) := by decide +kernel
theorem dG_k_119 : decode cG_k 119 = .ok (.aload_n 0, 1) := by decide +kernel
theorem dG_k_120 : decode cG_k 120 = .ok (.getfield 47, 3) := by decide +kernel
theorem dG_k_123 : decode cG_k 123 = .ok (.invokevirtual 225, 3) := by decide +kernel
theorem dG_k_126 : decode cG_k 126 = .ok (.aload_n 0, 1) := by decide +kernel
theorem dG_k_127 : decode cG_k 127 = .ok (.getfield 40, 3) := by decide +kernel
theorem dG_k_130 : decode cG_k 130 = .ok (.getfield 229, 3) := by decide +kernel
theorem dG_k_133 : decode cG_k 133 = .ok (.iload_n 3, 1) := by decide +kernel
theorem dG_k_134 : decode cG_k 134 = .ok (.laload, 1) := by decide +kernel
theorem dG_k_135 : decode cG_k 135 = .ok (.lreturn, 1) := by decide +kernel
theorem dS_search_0 : decode cS_search 0 = .ok (.aload_n 0, 1) := by decide +kernel
theorem dS_search_1 : decode cS_search 1 = .ok (.lload_n 2, 1) := by decide +kernel
theorem dS_search_2 : decode cS_search 2 = .ok (.putfield 25, 3) := by decide +kernel
theorem dS_search_5 : decode cS_search 5 = .ok (.aload_n 0, 1) := by decide +kernel
theorem dS_search_6 : decode cS_search 6 = .ok (.iload 5, 2) := by decide +kernel
theorem dS_search_8 : decode cS_search 8 = .ok (.putfield 29, 3) := by decide +kernel
theorem dS_search_11 : decode cS_search 11 = .ok (.aload_n 0, 1) := by decide +kernel
theorem dS_search_12 : decode cS_search 12 = .ok (.iconst 0, 1) := by decide +kernel
theorem dS_search_13 : decode cS_search 13 = .ok (.putfield 33, 3) := by decide +kernel
theorem dS_search_16 : decode cS_search 16 = .ok (.aload_n 0, 1) := by decide +kernel
theorem dS_search_17 : decode cS_search 17 = .ok (.aload_n 1, 1) := by decide +kernel
theorem dS_search_18 : decode cS_search 18 = .ok (.iload 4, 2) := by decide +kernel
theorem dS_search_20 : decode cS_search 20 = .ok (.iconst 0, 1) := by decide +kernel
theorem dS_search_21 : decode cS_search 21 = .ok (.lconst 0, 1) := by decide +kernel
theorem dS_search_22 : decode cS_search 22 = .ok (.lconst 0, 1) := by decide +kernel
theorem dS_search_23 : decode cS_search 23 = .ok (.iload 4, 2) := by decide +kernel
theorem dS_search_25 : decode cS_search 25 = .ok (.iconst 1, 1) := by decide +kernel
theorem dS_search_26 : decode cS_search 26 = .ok (.invokestatic 36, 3) := by decide +kernel
theorem dS_search_29 : decode cS_search 29 = .ok (.invokevirtual 40, 3) := by decide +kernel
theorem dS_search_32 : decode cS_search 32 = .ok (.return_, 1) := by decide +kernel
theorem dS_extend_0 : decode cS_extend 0 = .ok (.iload_n 3, 1) := by decide +kernel
theorem dS_extend_1 : decode cS_extend 1 = .ok (.iconst 5, 1) := by decide +kernel
theorem dS_extend_2 : decode cS_extend 2 = .ok (.if_icmp .lt 4, 3) := by decide +kernel
theorem dS_extend_5 : decode cS_extend 5 = .ok (.return_, 1) := by decide +kernel
theorem dS_extend_6 : decode cS_extend 6 = .ok (.iconst 0, 1) := by decide +kernel
theorem dS_extend_7 : decode cS_extend 7 = .ok (.istore 8, 2) := by decide +kernel
theorem dS_extend_9 : decode cS_extend 9 = .ok (.iload 8, 2) := by decide +kernel
theorem dS_extend_11 : decode cS_extend 11 = .ok (.aload_n 1, 1) := by decide +kernel
theorem dS_extend_12 : decode cS_extend 12 = .ok (.getfield 44, 3) := by decide +kernel
theorem dS_extend_15 : decode cS_extend 15 = .ok (.if_icmp .ge 112, 3) := by decide +kernel
theorem dS_extend_18 : decode cS_extend 18 = .ok (.aload_n 1, 1) := by decide +kernel
theorem dS_extend_19 : decode cS_extend 19 = .ok (.getfield 49, 3) := by decide +kernel
theorem dS_extend_22 : decode cS_extend 22 = .ok (.iload 8, 2) := by decide +kernel
theorem dS_extend_24 : decode cS_extend 24 = .ok (.iaload, 1) := by decide +kernel
theorem dS_extend_25 : decode cS_extend 25 = .ok (.istore 9, 2) := by decide +kernel
theorem dS_extend_27 : decode cS_extend 27 = .ok (.aload_n 0, 1) := by decide +kernel
theorem dS_extend_28 : decode cS_extend 28 = .ok (.aload_n 1, 1) := by decide +kernel
theorem dS_extend_29 : decode cS_extend 29 = .ok (.iload 8, 2) := by decide +kernel
theorem dS_extend_31 : decode cS_extend 31 = .ok (.iload_n 2, 1) := by decide +kernel
theorem dS_extend_32 : decode cS_extend 32 = .ok (.iload_n 3, 1) := by decide +kernel
theorem dS_extend_33 : decode cS_extend 33 = .ok (.invokevirtual 52, 3) := by decide +kernel
theorem dS_extend_36 : decode cS_extend 36 = .ok (.ifCond .eq 85, 3) := by decide +kernel
theorem dS_extend_39 : decode cS_extend 39 = .ok (.lload 6, 2) := by decide +kernel
theorem dS_extend_41 : decode cS_extend 41 = .ok (.iload 9, 2) := by decide +kernel
theorem dS_extend_43 : decode cS_extend 43 = .ok (.invokestatic 56, 3) := by decide +kernel
theorem dS_extend_46 : decode cS_extend 46 = .ok (.ifCond .eq 6, 3) := by decide +kernel
theorem dS_extend_49 : decode cS_extend 49 = .ok (.goto 72, 3) := by decide +kernel
theorem dS_extend_52 : decode cS_extend 52 = .ok (.aload_n 1, 1) := by decide +kernel
theorem dS_extend_53 : decode cS_extend 53 = .ok (.iload 8, 2) := by decide +kernel
theorem dS_extend_55 : decode cS_extend 55 = .ok (.lload 4, 2) := by decide +kernel
theorem dS_extend_57 : decode cS_extend 57 = .ok (.invokevirtual 60, 3) := by decide +kernel
theorem dS_extend_60 : decode cS_extend 60 = .ok (.lstore 10, 2) := by decide +kernel
theorem dS_extend_62 : decode cS_extend 62 = .ok (.aload_n 0, 1) := by decide +kernel
theorem dS_extend_63 : decode cS_extend 63 = .ok (.getfield 9, 3) := by decide +kernel
theorem dS_extend_66 : decode cS_extend 66 = .ok (.iload_n 3, 1) := by decide +kernel
theorem dS_extend_67 : decode cS_extend 67 = .ok (.iload 8, 2) := by decide +kernel
theorem dS_extend_69 : decode cS_extend 69 = .ok (.iastore, 1) := by decide +kernel
theorem dS_extend_70 : decode cS_extend 70 = .ok (.iload 9, 2) := by decide +kernel
theorem dS_extend_72 : decode cS_extend 72 = .ok (.aload_n 0, 1) := by decide +kernel
theorem dS_extend_73 : decode cS_extend 73 = .ok (.getfield 29, 3) := by decide +kernel
theorem dS_extend_76 : decode cS_extend 76 = .ok (.if_icmp .ne 15, 3) := by decide +kernel
theorem dS_extend_79 : decode cS_extend 79 = .ok (.aload_n 0, 1) := by decide +kernel
theorem dS_extend_80 : decode cS_extend 80 = .ok (.iload_n 3, 1) := by decide +kernel
theorem dS_extend_81 : decode cS_extend 81 = .ok (.iconst 1, 1) := by decide +kernel
theorem dS_extend_82 : decode cS_extend 82 = .ok (.iadd, 1) := by decide +kernel
theorem dS_extend_83 : decode cS_extend 83 = .ok (.lload 10, 2) := by decide +kernel
theorem dS_extend_85 : decode cS_extend 85 = .ok (.invokevirtual 64, 3) := by decide +kernel
theorem dS_extend_88 : decode cS_extend 88 = .ok (.goto 33, 3) := by decide +kernel
theorem dS_extend_91 : decode cS_extend 91 = .ok (.aload_n 0, 1) := by decide +kernel
theorem dS_extend_92 : decode cS_extend 92 = .ok (.lload 10, 2) := by decide +kernel
theorem dS_extend_94 : decode cS_extend 94 = .ok (.invokevirtual 68, 3) := by decide +kernel
theorem dS_extend_97 : decode cS_extend 97 = .ok (.iconst 5, 1) := by decide +kernel
theorem dS_extend_98 : decode cS_extend 98 = .ok (.if_icmp .ge 23, 3) := by decide +kernel
theorem dS_extend_101 : decode cS_extend 101 = .ok (.aload_n 0, 1) := by decide +kernel
theorem dS_extend_102 : decode cS_extend 102 = .ok (.aload_n 1, 1) := by decide +kernel
theorem dS_extend_103 : decode cS_extend 103 = .ok (.iload 9, 2) := by decide +kernel
theorem dS_extend_105 : decode cS_extend 105 = .ok (.iload_n 3, 1) := by decide +kernel
theorem dS_extend_106 : decode cS_extend 106 = .ok (.iconst 1, 1) := by decide +kernel
theorem dS_extend_107 : decode cS_extend 107 = .ok (.iadd, 1) := by decide +kernel
theorem dS_extend_108 : decode cS_extend 108 = .ok (.lload 10, 2) := by decide +kernel
theorem dS_extend_110 : decode cS_extend 110 = .ok (.lload 6, 2) := by decide +kernel
theorem dS_extend_112 : decode cS_extend 112 = .ok (.iload 9, 2) := by decide +kernel
theorem dS_extend_114 : decode cS_extend 114 = .ok (.iconst 1, 1) := by decide +kernel
theorem dS_extend_115 : decode cS_extend 115 = .ok (.invokestatic 36, 3) := by decide +kernel
theorem dS_extend_118 : decode cS_extend 118 = .ok (.invokevirtual 40, 3) := by decide +kernel
theorem dS_extend_121 : decode cS_extend 121 = .ok (.iinc 8 1, 3) := by decide +kernel
theorem dS_extend_124 : decode cS_extend 124 = .ok (.goto (-115), 3) := by decide +kernel
theorem dS_extend_127 : decode cS_extend 127 = .ok (.return_, 1) := by decide +kernel
theorem dS_canBeNext_0 : decode cS_canBeNext 0 = .ok (.aload_n 0, 1) := by decide +kernel
theorem dS_canBeNext_1 : decode cS_canBeNext 1 = .ok (.getfield 25, 3) := by decide +kernel
theorem dS_canBeNext_4 : decode cS_canBeNext 4 = .ok (.iload_n 2, 1) := by decide +kernel
theorem dS_canBeNext_5 : decode cS_canBeNext 5 = .ok (.invokestatic 56, 3) := by decide +kernel
theorem dS_canBeNext_8 : decode cS_canBeNext 8 = .ok (.ifCond .eq 39, 3) := by decide +kernel
theorem dS_canBeNext_11 : decode cS_canBeNext 11 = .ok (.aload_n 1, 1) := by decide +kernel
theorem dS_canBeNext_12 : decode cS_canBeNext 12 = .ok (.getfield 72, 3) := by decide +kernel
theorem dS_canBeNext_15 : decode cS_canBeNext 15 = .ok (.iload_n 2, 1) := by decide +kernel
theorem dS_canBeNext_16 : decode cS_canBeNext 16 = .ok (.iaload, 1) := by decide +kernel
theorem dS_canBeNext_17 : decode cS_canBeNext 17 = .ok (.iload_n 3, 1) := by decide +kernel
theorem dS_canBeNext_18 : decode cS_canBeNext 18 = .ok (.if_icmp .ne 29, 3) := by decide +kernel
theorem dS_canBeNext_21 : decode cS_canBeNext 21 = .ok (.iload 4, 2) := by decide +kernel
theorem dS_canBeNext_23 : decode cS_canBeNext 23 = .ok (.ifCond .eq 20, 3) := by decide +kernel
theorem dS_canBeNext_26 : decode cS_canBeNext 26 = .ok (.aload_n 1, 1) := by decide +kernel
theorem dS_canBeNext_27 : decode cS_canBeNext 27 = .ok (.aload_n 0, 1) := by decide +kernel
theorem dS_canBeNext_28 : decode cS_canBeNext 28 = .ok (.getfield 9, 3) := by decide +kernel
theorem dS_canBeNext_31 : decode cS_canBeNext 31 = .ok (.iload 4, 2) := by decide +kernel
theorem dS_canBeNext_33 : decode cS_canBeNext 33 = .ok (.iconst 1, 1) := by decide +kernel
theorem dS_canBeNext_34 : decode cS_canBeNext 34 = .ok (.isub, 1) := by decide +kernel
theorem dS_canBeNext_35 : decode cS_canBeNext 35 = .ok (.iaload, 1) := by decide +kernel
theorem dS_canBeNext_36 : decode cS_canBeNext 36 = .ok (.iload_n 2, 1) := by decide +kernel
theorem dS_canBeNext_37 : decode cS_canBeNext 37 = .ok (.invokevirtual 75, 3) := by decide +kernel
theorem dS_canBeNext_40 : decode cS_canBeNext 40 = .ok (.ifCond .ne 7, 3) := by decide +kernel
theorem dS_canBeNext_43 : decode cS_canBeNext 43 = .ok (.iconst 1, 1) := by decide +kernel
theorem dS_canBeNext_44 : decode cS_canBeNext 44 = .ok (.goto 4, 3) := by decide +kernel
theorem dS_canBeNext_47 : decode cS_canBeNext 47 = .ok (.iconst 0, 1) := by decide +kernel
theorem dS_canBeNext_48 : decode cS_canBeNext 48 = .ok (.ireturn, 1) := by decide +kernel
theorem dS_keep_0 : decode cS_keep 0 = .ok (.aload_n 0, 1) := by decide +kernel
theorem dS_keep_1 : decode cS_keep 1 = .ok (.lload_n 2, 1) := by decide +kernel
theorem dS_keep_2 : decode cS_keep 2 = .ok (.invokevirtual 68, 3) := by decide +kernel
theorem dS_keep_5 : decode cS_keep 5 = .ok (.istore 4, 2) := by decide +kernel
theorem dS_keep_7 : decode cS_keep 7 = .ok (.iload 4, 2) := by decide +kernel
theorem dS_keep_9 : decode cS_keep 9 = .ok (.iconst 5, 1) := by decide +kernel
theorem dS_keep_10 : decode cS_keep 10 = .ok (.if_icmp .lt 4, 3) := by decide +kernel
theorem dS_keep_13 : decode cS_keep 13 = .ok (.return_, 1) := by decide +kernel
theorem dS_keep_14 : decode cS_keep 14 = .ok (.iconst 4, 1) := by decide +kernel
theorem dS_keep_15 : decode cS_keep 15 = .ok (.istore 5, 2) := by decide +kernel
theorem dS_keep_17 : decode cS_keep 17 = .ok (.iload 5, 2) := by decide +kernel
theorem dS_keep_19 : decode cS_keep 19 = .ok (.iload 4, 2) := by decide +kernel
theorem dS_keep_21 : decode cS_keep 21 = .ok (.if_icmp .le 63, 3) := by decide +kernel
theorem dS_keep_24 : decode cS_keep 24 = .ok (.aload_n 0, 1) := by decide +kernel
theorem dS_keep_25 : decode cS_keep 25 = .ok (.getfield 21, 3) := by decide +kernel
theorem dS_keep_28 : decode cS_keep 28 = .ok (.iload 5, 2) := by decide +kernel
theorem dS_keep_30 : decode cS_keep 30 = .ok (.aload_n 0, 1) := by decide +kernel
theorem dS_keep_31 : decode cS_keep 31 = .ok (.getfield 21, 3) := by decide +kernel
theorem dS_keep_34 : decode cS_keep 34 = .ok (.iload 5, 2) := by decide +kernel
theorem dS_keep_36 : decode cS_keep 36 = .ok (.iconst 1, 1) := by decide +kernel
theorem dS_keep_37 : decode cS_keep 37 = .ok (.isub, 1) := by decide +kernel
theorem dS_keep_38 : decode cS_keep 38 = .ok (.laload, 1) := by decide +kernel
theorem dS_keep_39 : decode cS_keep 39 = .ok (.lastore, 1) := by decide +kernel
theorem dS_keep_40 : decode cS_keep 40 = .ok (.aload_n 0, 1) := by decide +kernel
theorem dS_keep_41 : decode cS_keep 41 = .ok (.getfield 18, 3) := by decide +kernel
theorem dS_keep_44 : decode cS_keep 44 = .ok (.iload 5, 2) := by decide +kernel
theorem dS_keep_46 : decode cS_keep 46 = .ok (.aload_n 0, 1) := by decide +kernel
theorem dS_keep_47 : decode cS_keep 47 = .ok (.getfield 18, 3) := by decide +kernel
theorem dS_keep_50 : decode cS_keep 50 = .ok (.iload 5, 2) := by decide +kernel
theorem dS_keep_52 : decode cS_keep 52 = .ok (.iconst 1, 1) := by decide +kernel
theorem dS_keep_53 : decode cS_keep 53 = .ok (.isub, 1) := by decide +kernel
theorem dS_keep_54 : decode cS_keep 54 = .ok (.iaload, 1) := by decide +kernel
theorem dS_keep_55 : decode cS_keep 55 = .ok (.iastore, 1) := by decide +kernel
theorem dS_keep_56 : decode cS_keep 56 = .ok (.aload_n 0, 1) := by decide +kernel
theorem dS_keep_57 : decode cS_keep 57 = .ok (.getfield 15, 3) := by decide +kernel
theorem dS_keep_60 : decode cS_keep 60 = .ok (.iload 5, 2) := by decide +kernel
theorem dS_keep_62 : decode cS_keep 62 = .ok (.iconst 1, 1) := by decide +kernel
theorem dS_keep_63 : decode cS_keep 63 = .ok (.isub, 1) := by decide +kernel
theorem dS_keep_64 : decode cS_keep 64 = .ok (.iconst 5, 1) := by decide +kernel
theorem dS_keep_65 : decode cS_keep 65 = .ok (.imul, 1) := by decide +kernel
theorem dS_keep_66 : decode cS_keep 66 = .ok (.aload_n 0, 1) := by decide +kernel
theorem dS_keep_67 : decode cS_keep 67 = .ok (.getfield 15, 3) := by decide +kernel
theorem dS_keep_70 : decode cS_keep 70 = .ok (.iload 5, 2) := by decide +kernel
theorem dS_keep_72 : decode cS_keep 72 = .ok (.iconst 5, 1) := by decide +kernel
theorem dS_keep_73 : decode cS_keep 73 = .ok (.imul, 1) := by decide +kernel
theorem dS_keep_74 : decode cS_keep 74 = .ok (.iconst 5, 1) := by decide +kernel
theorem dS_keep_75 : decode cS_keep 75 = .ok (.invokestatic 79, 3) := by decide +kernel
theorem dS_keep_78 : decode cS_keep 78 = .ok (.iinc 5 (-1), 3) := by decide +kernel
theorem dS_keep_81 : decode cS_keep 81 = .ok (.goto (-64), 3) := by decide +kernel
theorem dS_keep_84 : decode cS_keep 84 = .ok (.aload_n 0, 1) := by decide +kernel
theorem dS_keep_85 : decode cS_keep 85 = .ok (.getfield 21, 3) := by decide +kernel
theorem dS_keep_88 : decode cS_keep 88 = .ok (.iload 4, 2) := by decide +kernel
theorem dS_keep_90 : decode cS_keep 90 = .ok (.lload_n 2, 1) := by decide +kernel
theorem dS_keep_91 : decode cS_keep 91 = .ok (.lastore, 1) := by decide +kernel
theorem dS_keep_92 : decode cS_keep 92 = .ok (.aload_n 0, 1) := by decide +kernel
theorem dS_keep_93 : decode cS_keep 93 = .ok (.getfield 18, 3) := by decide +kernel
theorem dS_keep_96 : decode cS_keep 96 = .ok (.iload 4, 2) := by decide +kernel
theorem dS_keep_98 : decode cS_keep 98 = .ok (.iload_n 1, 1) := by decide +kernel
theorem dS_keep_99 : decode cS_keep 99 = .ok (.iastore, 1) := by decide +kernel
theorem dS_keep_100 : decode cS_keep 100 = .ok (.aload_n 0, 1) := by decide +kernel
theorem dS_keep_101 : decode cS_keep 101 = .ok (.getfield 9, 3) := by decide +kernel
theorem dS_keep_104 : decode cS_keep 104 = .ok (.iconst 0, 1) := by decide +kernel
theorem dS_keep_105 : decode cS_keep 105 = .ok (.aload_n 0, 1) := by decide +kernel
theorem dS_keep_106 : decode cS_keep 106 = .ok (.getfield 15, 3) := by decide +kernel
theorem dS_keep_109 : decode cS_keep 109 = .ok (.iload 4, 2) := by decide +kernel
theorem dS_keep_111 : decode cS_keep 111 = .ok (.iconst 5, 1) := by decide +kernel
theorem dS_keep_112 : decode cS_keep 112 = .ok (.imul, 1) := by decide +kernel
theorem dS_keep_113 : decode cS_keep 113 = .ok (.iload_n 1, 1) := by decide +kernel
theorem dS_keep_114 : decode cS_keep 114 = .ok (.invokestatic 79, 3) := by decide +kernel
theorem dS_keep_117 : decode cS_keep 117 = .ok (.aload_n 0, 1) := by decide +kernel
theorem dS_keep_118 : decode cS_keep 118 = .ok (.aload_n 0, 1) := by decide +kernel
theorem dS_keep_119 : decode cS_keep 119 = .ok (.getfield 33, 3) := by decide +kernel
theorem dS_keep_122 : decode cS_keep 122 = .ok (.iconst 1, 1) := by decide +kernel
theorem dS_keep_123 : decode cS_keep 123 = .ok (.iadd, 1) := by decide +kernel
theorem dS_keep_124 : decode cS_keep 124 = .ok (.iconst 5, 1) := by decide +kernel
theorem dS_keep_125 : decode cS_keep 125 = .ok (.invokestatic 85, 3) := by decide +kernel
theorem dS_keep_128 : decode cS_keep 128 = .ok (.putfield 33, 3) := by decide +kernel
theorem dS_keep_131 : decode cS_keep 131 = .ok (.return_, 1) := by decide +kernel
theorem dS_rankOf_0 : decode cS_rankOf 0 = .ok (.iconst 0, 1) := by decide +kernel
theorem dS_rankOf_1 : decode cS_rankOf 1 = .ok (.istore_n 3, 1) := by decide +kernel
theorem dS_rankOf_2 : decode cS_rankOf 2 = .ok (.iload_n 3, 1) := by decide +kernel
theorem dS_rankOf_3 : decode cS_rankOf 3 = .ok (.aload_n 0, 1) := by decide +kernel
theorem dS_rankOf_4 : decode cS_rankOf 4 = .ok (.getfield 33, 3) := by decide +kernel
theorem dS_rankOf_7 : decode cS_rankOf 7 = .ok (.if_icmp .ge 20, 3) := by decide +kernel
theorem dS_rankOf_10 : decode cS_rankOf 10 = .ok (.aload_n 0, 1) := by decide +kernel
theorem dS_rankOf_11 : decode cS_rankOf 11 = .ok (.getfield 21, 3) := by decide +kernel
theorem dS_rankOf_14 : decode cS_rankOf 14 = .ok (.iload_n 3, 1) := by decide +kernel
theorem dS_rankOf_15 : decode cS_rankOf 15 = .ok (.laload, 1) := by decide +kernel
theorem dS_rankOf_16 : decode cS_rankOf 16 = .ok (.lload_n 1, 1) := by decide +kernel
theorem dS_rankOf_17 : decode cS_rankOf 17 = .ok (.lcmp, 1) := by decide +kernel
theorem dS_rankOf_18 : decode cS_rankOf 18 = .ok (.ifCond .gt 9, 3) := by decide +kernel
theorem dS_rankOf_21 : decode cS_rankOf 21 = .ok (.iinc 3 1, 3) := by decide +kernel
theorem dS_rankOf_24 : decode cS_rankOf 24 = .ok (.goto (-22), 3) := by decide +kernel
theorem dS_rankOf_27 : decode cS_rankOf 27 = .ok (.iload_n 3, 1) := by decide +kernel
theorem dS_rankOf_28 : decode cS_rankOf 28 = .ok (.ireturn, 1) := by decide +kernel
theorem dJM_min_I_0 : decode cJM_min_I 0 = .ok (.iload_n 0, 1) := by decide +kernel
theorem dJM_min_I_1 : decode cJM_min_I 1 = .ok (.iload_n 1, 1) := by decide +kernel
theorem dJM_min_I_2 : decode cJM_min_I 2 = .ok (.if_icmp .gt 7, 3) := by decide +kernel
theorem dJM_min_I_5 : decode cJM_min_I 5 = .ok (.iload_n 0, 1) := by decide +kernel
theorem dJM_min_I_6 : decode cJM_min_I 6 = .ok (.goto 4, 3) := by decide +kernel
theorem dJM_min_I_9 : decode cJM_min_I 9 = .ok (.iload_n 1, 1) := by decide +kernel
theorem dJM_min_I_10 : decode cJM_min_I 10 = .ok (.ireturn, 1) := by decide +kernel
theorem dS_writeWay_0 : decode cS_writeWay 0 = .ok (.iconst 0, 1) := by decide +kernel
theorem dS_writeWay_1 : decode cS_writeWay 1 = .ok (.istore_n 3, 1) := by decide +kernel
theorem dS_writeWay_2 : decode cS_writeWay 2 = .ok (.iload_n 3, 1) := by decide +kernel
theorem dS_writeWay_3 : decode cS_writeWay 3 = .ok (.aload_n 0, 1) := by decide +kernel
theorem dS_writeWay_4 : decode cS_writeWay 4 = .ok (.getfield 18, 3) := by decide +kernel
theorem dS_writeWay_7 : decode cS_writeWay 7 = .ok (.iload_n 1, 1) := by decide +kernel
theorem dS_writeWay_8 : decode cS_writeWay 8 = .ok (.iaload, 1) := by decide +kernel
theorem dS_writeWay_9 : decode cS_writeWay 9 = .ok (.if_icmp .ge 23, 3) := by decide +kernel
theorem dS_writeWay_12 : decode cS_writeWay 12 = .ok (.aload_n 2, 1) := by decide +kernel
theorem dS_writeWay_13 : decode cS_writeWay 13 = .ok (.aload_n 0, 1) := by decide +kernel
theorem dS_writeWay_14 : decode cS_writeWay 14 = .ok (.getfield 15, 3) := by decide +kernel
theorem dS_writeWay_17 : decode cS_writeWay 17 = .ok (.iload_n 1, 1) := by decide +kernel
theorem dS_writeWay_18 : decode cS_writeWay 18 = .ok (.iconst 5, 1) := by decide +kernel
theorem dS_writeWay_19 : decode cS_writeWay 19 = .ok (.imul, 1) := by decide +kernel
theorem dS_writeWay_20 : decode cS_writeWay 20 = .ok (.iload_n 3, 1) := by decide +kernel
theorem dS_writeWay_21 : decode cS_writeWay 21 = .ok (.iadd, 1) := by decide +kernel
theorem dS_writeWay_22 : decode cS_writeWay 22 = .ok (.iaload, 1) := by decide +kernel
theorem dS_writeWay_23 : decode cS_writeWay 23 = .ok (.invokevirtual 91, 3) := by decide +kernel
theorem dS_writeWay_26 : decode cS_writeWay 26 = .ok (.iinc 3 1, 3) := by decide +kernel
theorem dS_writeWay_29 : decode cS_writeWay 29 = .ok (.goto (-27), 3) := by decide +kernel
theorem dS_writeWay_32 : decode cS_writeWay 32 = .ok (.return_, 1) := by decide +kernel
theorem dW_told_0 : decode cW_told 0 = .ok (.aload_n 3, 1) := by decide +kernel
theorem dW_told_1 : decode cW_told 1 = .ok (.iconst 0, 1) := by decide +kernel
theorem dW_told_2 : decode cW_told 2 = .ok (.aload_n 0, 1) := by decide +kernel
theorem dW_told_3 : decode cW_told 3 = .ok (.iload_n 1, 1) := by decide +kernel
theorem dW_told_4 : decode cW_told 4 = .ok (.iload_n 2, 1) := by decide +kernel
theorem dW_told_5 : decode cW_told 5 = .ok (.invokevirtual 67, 3) := by decide +kernel
theorem dW_told_8 : decode cW_told 8 = .ok (.lastore, 1) := by decide +kernel
theorem dW_told_9 : decode cW_told 9 = .ok (.goto 7, 3) := by decide +kernel
theorem dW_told_12 : decode cW_told 12 = .ok (.astore 4, 2) := by decide +kernel
theorem dW_told_14 : decode cW_told 14 = .ok (.iconst 1, 1) := by decide +kernel
theorem dW_told_15 : decode cW_told 15 = .ok (.ireturn, 1) := by decide +kernel
theorem dW_told_16 : decode cW_told 16 = .ok (.iconst 0, 1) := by decide +kernel
theorem dW_told_17 : decode cW_told 17 = .ok (.ireturn, 1) := by decide +kernel
theorem dG_told_0 : decode cG_told 0 = .ok (.aload_n 0, 1) := by decide +kernel
theorem dG_told_1 : decode cG_told 1 = .ok (.getfield 16, 3) := by decide +kernel
theorem dG_told_4 : decode cG_told 4 = .ok (.iload_n 1, 1) := by decide +kernel
theorem dG_told_5 : decode cG_told 5 = .ok (.invokevirtual 103, 3) := by decide +kernel
theorem dG_told_8 : decode cG_told 8 = .ok (.ifCond .ne 13, 3) := by decide +kernel
theorem dG_told_11 : decode cG_told 11 = .ok (.new 57, 3) := by decide +kernel
theorem dG_told_14 : decode cG_told 14 = .ok (.dup, 1) := by decide +kernel
theorem dG_told_15 : decode cG_told 15 = .ok (.ldc 129, 2) := by decide +kernel
theorem dG_told_17 : decode cG_told 17 = .ok (.invokespecial 61, 3) := by decide +kernel
theorem dG_told_20 : decode cG_told 20 = .ok (.athrow, 1) := by decide +kernel
theorem dG_told_21 : decode cG_told 21 = .ok (.iload_n 2, 1) := by decide +kernel
theorem dG_told_22 : decode cG_told 22 = .ok (.tableswitch 125 0 6 #[42, 53, 64, 74, 94, 104, 115], 42) := by decide +kernel
theorem dG_told_64 : decode cG_told 64 = .ok (.aload_n 0, 1) := by decide +kernel
theorem dG_told_65 : decode cG_told 65 = .ok (.getfield 16, 3) := by decide +kernel
theorem dG_told_68 : decode cG_told 68 = .ok (.getfield 145, 3) := by decide +kernel
theorem dG_told_71 : decode cG_told 71 = .ok (.iload_n 1, 1) := by decide +kernel
theorem dG_told_72 : decode cG_told 72 = .ok (.iaload, 1) := by decide +kernel
theorem dG_told_73 : decode cG_told 73 = .ok (.i2l, 1) := by decide +kernel
theorem dG_told_74 : decode cG_told 74 = .ok (.lreturn, 1) := by decide +kernel
theorem dG_told_75 : decode cG_told 75 = .ok (.aload_n 0, 1) := by decide +kernel
theorem dG_told_76 : decode cG_told 76 = .ok (.getfield 16, 3) := by decide +kernel
theorem dG_told_79 : decode cG_told 79 = .ok (.getfield 148, 3) := by decide +kernel
theorem dG_told_82 : decode cG_told 82 = .ok (.iload_n 1, 1) := by decide +kernel
theorem dG_told_83 : decode cG_told 83 = .ok (.iaload, 1) := by decide +kernel
theorem dG_told_84 : decode cG_told 84 = .ok (.i2l, 1) := by decide +kernel
theorem dG_told_85 : decode cG_told 85 = .ok (.lreturn, 1) := by decide +kernel
theorem dG_told_86 : decode cG_told 86 = .ok (.aload_n 0, 1) := by decide +kernel
theorem dG_told_87 : decode cG_told 87 = .ok (.getfield 16, 3) := by decide +kernel
theorem dG_told_90 : decode cG_told 90 = .ok (.getfield 232, 3) := by decide +kernel
theorem dG_told_93 : decode cG_told 93 = .ok (.iload_n 1, 1) := by decide +kernel
theorem dG_told_94 : decode cG_told 94 = .ok (.laload, 1) := by decide +kernel
theorem dG_told_95 : decode cG_told 95 = .ok (.lreturn, 1) := by decide +kernel
theorem dG_told_96 : decode cG_told 96 = .ok (.aload_n 0, 1) := by decide +kernel
theorem dG_told_97 : decode cG_told 97 = .ok (.getfield 16, 3) := by decide +kernel
theorem dG_told_100 : decode cG_told 100 = .ok (.getfield 131, 3) := by decide +kernel
theorem dG_told_103 : decode cG_told 103 = .ok (.iload_n 1, 1) := by decide +kernel
theorem dG_told_104 : decode cG_told 104 = .ok (.invokestatic 235, 3) := by decide +kernel
theorem dG_told_107 : decode cG_told 107 = .ok (.ifCond .eq 7, 3) := by decide +kernel
theorem dG_told_110 : decode cG_told 110 = .ok (.lconst 1, 1) := by decide +kernel
theorem dG_told_111 : decode cG_told 111 = .ok (.goto 4, 3) := by decide +kernel
theorem dG_told_114 : decode cG_told 114 = .ok (.lconst 0, 1) := by decide +kernel
theorem dG_told_115 : decode cG_told 115 = .ok (.lreturn, 1) := by decide +kernel
theorem dG_told_116 : decode cG_told 116 = .ok (.aload_n 0, 1) := by decide +kernel
theorem dG_told_117 : decode cG_told 117 = .ok (.getfield 16, 3) := by decide +kernel
theorem dG_told_120 : decode cG_told 120 = .ok (.getfield 164, 3) := by decide +kernel
theorem dG_told_123 : decode cG_told 123 = .ok (.iload_n 1, 1) := by decide +kernel
theorem dG_told_124 : decode cG_told 124 = .ok (.laload, 1) := by decide +kernel
theorem dG_told_125 : decode cG_told 125 = .ok (.lreturn, 1) := by decide +kernel
theorem dG_told_126 : decode cG_told 126 = .ok (.aload_n 0, 1) := by decide +kernel
theorem dG_told_127 : decode cG_told 127 = .ok (.getfield 16, 3) := by decide +kernel
theorem dG_told_130 : decode cG_told 130 = .ok (.getfield 112, 3) := by decide +kernel
theorem dG_told_133 : decode cG_told 133 = .ok (.iload_n 1, 1) := by decide +kernel
theorem dG_told_134 : decode cG_told 134 = .ok (.iaload, 1) := by decide +kernel
theorem dG_told_135 : decode cG_told 135 = .ok (.i2l, 1) := by decide +kernel
theorem dG_told_136 : decode cG_told 136 = .ok (.lreturn, 1) := by decide +kernel
theorem dG_told_137 : decode cG_told 137 = .ok (.aload_n 0, 1) := by decide +kernel
theorem dG_told_138 : decode cG_told 138 = .ok (.getfield 16, 3) := by decide +kernel
theorem dG_told_141 : decode cG_told 141 = .ok (.getfield 115, 3) := by decide +kernel
theorem dG_told_144 : decode cG_told 144 = .ok (.iload_n 1, 1) := by decide +kernel
theorem dG_told_145 : decode cG_told 145 = .ok (.laload, 1) := by decide +kernel
theorem dG_told_146 : decode cG_told 146 = .ok (.lreturn, 1) := by decide +kernel
theorem dG_told_147 : decode cG_told 147 = .ok (.new 57, 3) := by decide +kernel
theorem dG_told_150 : decode cG_told 150 = .ok (.dup, 1) := by decide +kernel
theorem dG_told_151 : decode cG_told 151 = .ok (.ldc 239, 2) := by decide +kernel
theorem dG_told_153 : decode cG_told 153 = .ok (.invokespecial 61, 3) := by decide +kernel
theorem dG_told_156 : decode cG_told 156 = .ok (.athrow, 1) := by decide +kernel
theorem dM_init_0 : decode cM_init 0 = .ok (.aload_n 0, 1) := by decide +kernel
theorem dM_init_1 : decode cM_init 1 = .ok (.invokespecial 1, 3) := by decide +kernel
theorem dM_init_4 : decode cM_init 4 = .ok (.aload_n 0, 1) := by decide +kernel
theorem dM_init_5 : decode cM_init 5 = .ok (.bipush 20, 2) := by decide +kernel
theorem dM_init_7 : decode cM_init 7 = .ok (.newarray .int, 2) := by decide +kernel
theorem dM_init_9 : decode cM_init 9 = .ok (.putfield 7, 3) := by decide +kernel
theorem dM_init_12 : decode cM_init 12 = .ok (.aload_n 0, 1) := by decide +kernel
theorem dM_init_13 : decode cM_init 13 = .ok (.bipush 40, 2) := by decide +kernel
theorem dM_init_15 : decode cM_init 15 = .ok (.newarray .int, 2) := by decide +kernel
theorem dM_init_17 : decode cM_init 17 = .ok (.putfield 13, 3) := by decide +kernel
theorem dM_init_20 : decode cM_init 20 = .ok (.aload_n 0, 1) := by decide +kernel
theorem dM_init_21 : decode cM_init 21 = .ok (.bipush 40, 2) := by decide +kernel
theorem dM_init_23 : decode cM_init 23 = .ok (.newarray .int, 2) := by decide +kernel
theorem dM_init_25 : decode cM_init 25 = .ok (.putfield 16, 3) := by decide +kernel
theorem dM_init_28 : decode cM_init 28 = .ok (.aload_n 0, 1) := by decide +kernel
theorem dM_init_29 : decode cM_init 29 = .ok (.bipush 40, 2) := by decide +kernel
theorem dM_init_31 : decode cM_init 31 = .ok (.newarray .long, 2) := by decide +kernel
theorem dM_init_33 : decode cM_init 33 = .ok (.putfield 19, 3) := by decide +kernel
theorem dM_init_36 : decode cM_init 36 = .ok (.aload_n 0, 1) := by decide +kernel
theorem dM_init_37 : decode cM_init 37 = .ok (.bipush 40, 2) := by decide +kernel
theorem dM_init_39 : decode cM_init 39 = .ok (.newarray .int, 2) := by decide +kernel
theorem dM_init_41 : decode cM_init 41 = .ok (.putfield 23, 3) := by decide +kernel
theorem dM_init_44 : decode cM_init 44 = .ok (.aload_n 0, 1) := by decide +kernel
theorem dM_init_45 : decode cM_init 45 = .ok (.bipush 40, 2) := by decide +kernel
theorem dM_init_47 : decode cM_init 47 = .ok (.newarray .int, 2) := by decide +kernel
theorem dM_init_49 : decode cM_init 49 = .ok (.putfield 26, 3) := by decide +kernel
theorem dM_init_52 : decode cM_init 52 = .ok (.aload_n 0, 1) := by decide +kernel
theorem dM_init_53 : decode cM_init 53 = .ok (.bipush 40, 2) := by decide +kernel
theorem dM_init_55 : decode cM_init 55 = .ok (.newarray .boolean, 2) := by decide +kernel
theorem dM_init_57 : decode cM_init 57 = .ok (.putfield 29, 3) := by decide +kernel
theorem dM_init_60 : decode cM_init 60 = .ok (.aload_n 0, 1) := by decide +kernel
theorem dM_init_61 : decode cM_init 61 = .ok (.bipush 40, 2) := by decide +kernel
theorem dM_init_63 : decode cM_init 63 = .ok (.newarray .int, 2) := by decide +kernel
theorem dM_init_65 : decode cM_init 65 = .ok (.putfield 33, 3) := by decide +kernel
theorem dM_init_68 : decode cM_init 68 = .ok (.aload_n 0, 1) := by decide +kernel
theorem dM_init_69 : decode cM_init 69 = .ok (.sipush 1600, 3) := by decide +kernel
theorem dM_init_72 : decode cM_init 72 = .ok (.newarray .boolean, 2) := by decide +kernel
theorem dM_init_74 : decode cM_init 74 = .ok (.putfield 36, 3) := by decide +kernel
theorem dM_init_77 : decode cM_init 77 = .ok (.aload_n 0, 1) := by decide +kernel
theorem dM_init_78 : decode cM_init 78 = .ok (.bipush 6, 2) := by decide +kernel
theorem dM_init_80 : decode cM_init 80 = .ok (.newarray .int, 2) := by decide +kernel
theorem dM_init_82 : decode cM_init 82 = .ok (.putfield 39, 3) := by decide +kernel
theorem dM_init_85 : decode cM_init 85 = .ok (.aload_n 0, 1) := by decide +kernel
theorem dM_init_86 : decode cM_init 86 = .ok (.bipush 6, 2) := by decide +kernel
theorem dM_init_88 : decode cM_init 88 = .ok (.newarray .int, 2) := by decide +kernel
theorem dM_init_90 : decode cM_init 90 = .ok (.putfield 42, 3) := by decide +kernel
theorem dM_init_93 : decode cM_init 93 = .ok (.aload_n 0, 1) := by decide +kernel
theorem dM_init_94 : decode cM_init 94 = .ok (.bipush 8, 2) := by decide +kernel
theorem dM_init_96 : decode cM_init 96 = .ok (.newarray .int, 2) := by decide +kernel
theorem dM_init_98 : decode cM_init 98 = .ok (.putfield 45, 3) := by decide +kernel
theorem dM_init_101 : decode cM_init 101 = .ok (.aload_n 0, 1) := by decide +kernel
theorem dM_init_102 : decode cM_init 102 = .ok (.bipush 40, 2) := by decide +kernel
theorem dM_init_104 : decode cM_init 104 = .ok (.newarray .long, 2) := by decide +kernel
theorem dM_init_106 : decode cM_init 106 = .ok (.putfield 48, 3) := by decide +kernel
theorem dM_init_109 : decode cM_init 109 = .ok (.aload_n 0, 1) := by decide +kernel
theorem dM_init_110 : decode cM_init 110 = .ok (.bipush 40, 2) := by decide +kernel
theorem dM_init_112 : decode cM_init 112 = .ok (.newarray .int, 2) := by decide +kernel
theorem dM_init_114 : decode cM_init 114 = .ok (.putfield 51, 3) := by decide +kernel
theorem dM_init_117 : decode cM_init 117 = .ok (.aload_n 0, 1) := by decide +kernel
theorem dM_init_118 : decode cM_init 118 = .ok (.iconst 5, 1) := by decide +kernel
theorem dM_init_119 : decode cM_init 119 = .ok (.newarray .long, 2) := by decide +kernel
theorem dM_init_121 : decode cM_init 121 = .ok (.putfield 54, 3) := by decide +kernel
theorem dM_init_124 : decode cM_init 124 = .ok (.aload_n 0, 1) := by decide +kernel
theorem dM_init_125 : decode cM_init 125 = .ok (.iconst 5, 1) := by decide +kernel
theorem dM_init_126 : decode cM_init 126 = .ok (.newarray .int, 2) := by decide +kernel
theorem dM_init_128 : decode cM_init 128 = .ok (.putfield 57, 3) := by decide +kernel
theorem dM_init_131 : decode cM_init 131 = .ok (.aload_n 0, 1) := by decide +kernel
theorem dM_init_132 : decode cM_init 132 = .ok (.bipush 25, 2) := by decide +kernel
theorem dM_init_134 : decode cM_init 134 = .ok (.newarray .int, 2) := by decide +kernel
theorem dM_init_136 : decode cM_init 136 = .ok (.putfield 60, 3) := by decide +kernel
theorem dM_init_139 : decode cM_init 139 = .ok (.aload_n 0, 1) := by decide +kernel
theorem dM_init_140 : decode cM_init 140 = .ok (.bipush 6, 2) := by decide +kernel
theorem dM_init_142 : decode cM_init 142 = .ok (.newarray .int, 2) := by decide +kernel
theorem dM_init_144 : decode cM_init 144 = .ok (.putfield 63, 3) := by decide +kernel
theorem dM_init_147 : decode cM_init 147 = .ok (.aload_n 0, 1) := by decide +kernel
theorem dM_init_148 : decode cM_init 148 = .ok (.bipush 6, 2) := by decide +kernel
theorem dM_init_150 : decode cM_init 150 = .ok (.newarray .long, 2) := by decide +kernel
theorem dM_init_152 : decode cM_init 152 = .ok (.putfield 66, 3) := by decide +kernel
theorem dM_init_155 : decode cM_init 155 = .ok (.return_, 1) := by decide +kernel
theorem dM_thrown_0 : decode cM_thrown 0 = .ok (.aload_n 0, 1) := by decide +kernel
theorem dM_thrown_1 : decode cM_thrown 1 = .ok (.getfield 69, 3) := by decide +kernel
theorem dM_thrown_4 : decode cM_thrown 4 = .ok (.ireturn, 1) := by decide +kernel
theorem dM_place_0 : decode cM_place 0 = .ok (.aload_n 0, 1) := by decide +kernel
theorem dM_place_1 : decode cM_place 1 = .ok (.iload_n 1, 1) := by decide +kernel
theorem dM_place_2 : decode cM_place 2 = .ok (.i2l, 1) := by decide +kernel
theorem dM_place_3 : decode cM_place 3 = .ok (.lconst 0, 1) := by decide +kernel
theorem dM_place_4 : decode cM_place 4 = .ok (.ldc2_w 83, 3) := by decide +kernel
theorem dM_place_7 : decode cM_place 7 = .ok (.invokestatic 76, 3) := by decide +kernel
theorem dM_place_10 : decode cM_place 10 = .ok (.ifCond .ne 7, 3) := by decide +kernel
theorem dM_place_13 : decode cM_place 13 = .ok (.iconst 1, 1) := by decide +kernel
end
section
theorem dM_place_14 : decode cM_place 14 = .ok (.goto 17, 3) := by decide +kernel
theorem dM_place_17 : decode cM_place 17 = .ok (.aload_n 0, 1) := by decide +kernel
theorem dM_place_18 : decode cM_place 18 = .ok (.getfield 73, 3) := by decide +kernel
theorem dM_place_21 : decode cM_place 21 = .ok (.bipush 20, 2) := by decide +kernel
theorem dM_place_23 : decode cM_place 23 = .ok (.if_icmp .ne 7, 3) := by decide +kernel
theorem dM_place_26 : decode cM_place 26 = .ok (.iconst 2, 1) := by decide +kernel
theorem dM_place_27 : decode cM_place 27 = .ok (.goto 4, 3) := by decide +kernel
theorem dM_place_30 : decode cM_place 30 = .ok (.iconst 0, 1) := by decide +kernel
theorem dM_place_31 : decode cM_place 31 = .ok (.putfield 69, 3) := by decide +kernel
theorem dM_place_34 : decode cM_place 34 = .ok (.aload_n 0, 1) := by decide +kernel
theorem dM_place_35 : decode cM_place 35 = .ok (.getfield 69, 3) := by decide +kernel
theorem dM_place_38 : decode cM_place 38 = .ok (.ifCond .le 5, 3) := by decide +kernel
theorem dM_place_41 : decode cM_place 41 = .ok (.iconst 0, 1) := by decide +kernel
theorem dM_place_42 : decode cM_place 42 = .ok (.ireturn, 1) := by decide +kernel
theorem dM_place_43 : decode cM_place 43 = .ok (.aload_n 0, 1) := by decide +kernel
theorem dM_place_44 : decode cM_place 44 = .ok (.getfield 7, 3) := by decide +kernel
theorem dM_place_47 : decode cM_place 47 = .ok (.aload_n 0, 1) := by decide +kernel
theorem dM_place_48 : decode cM_place 48 = .ok (.getfield 73, 3) := by decide +kernel
theorem dM_place_51 : decode cM_place 51 = .ok (.iload_n 1, 1) := by decide +kernel
theorem dM_place_52 : decode cM_place 52 = .ok (.iastore, 1) := by decide +kernel
theorem dM_place_53 : decode cM_place 53 = .ok (.aload_n 0, 1) := by decide +kernel
theorem dM_place_54 : decode cM_place 54 = .ok (.dup, 1) := by decide +kernel
theorem dM_place_55 : decode cM_place 55 = .ok (.getfield 73, 3) := by decide +kernel
theorem dM_place_58 : decode cM_place 58 = .ok (.iconst 1, 1) := by decide +kernel
theorem dM_place_59 : decode cM_place 59 = .ok (.iadd, 1) := by decide +kernel
theorem dM_place_60 : decode cM_place 60 = .ok (.putfield 73, 3) := by decide +kernel
theorem dM_place_63 : decode cM_place 63 = .ok (.aload_n 0, 1) := by decide +kernel
theorem dM_place_64 : decode cM_place 64 = .ok (.getfield 73, 3) := by decide +kernel
theorem dM_place_67 : decode cM_place 67 = .ok (.iconst 1, 1) := by decide +kernel
theorem dM_place_68 : decode cM_place 68 = .ok (.isub, 1) := by decide +kernel
theorem dM_place_69 : decode cM_place 69 = .ok (.ireturn, 1) := by decide +kernel
theorem dM_in_0 : decode cM_in 0 = .ok (.lload_n 0, 1) := by decide +kernel
theorem dM_in_1 : decode cM_in 1 = .ok (.lload_n 2, 1) := by decide +kernel
theorem dM_in_2 : decode cM_in 2 = .ok (.lcmp, 1) := by decide +kernel
theorem dM_in_3 : decode cM_in 3 = .ok (.ifCond .lt 14, 3) := by decide +kernel
theorem dM_in_6 : decode cM_in 6 = .ok (.lload_n 0, 1) := by decide +kernel
theorem dM_in_7 : decode cM_in 7 = .ok (.lload 4, 2) := by decide +kernel
theorem dM_in_9 : decode cM_in 9 = .ok (.lcmp, 1) := by decide +kernel
theorem dM_in_10 : decode cM_in 10 = .ok (.ifCond .gt 7, 3) := by decide +kernel
theorem dM_in_13 : decode cM_in 13 = .ok (.iconst 1, 1) := by decide +kernel
theorem dM_in_14 : decode cM_in 14 = .ok (.goto 4, 3) := by decide +kernel
theorem dM_in_17 : decode cM_in 17 = .ok (.iconst 0, 1) := by decide +kernel
theorem dM_in_18 : decode cM_in 18 = .ok (.ireturn, 1) := by decide +kernel
theorem dM_piece_0 : decode cM_piece 0 = .ok (.aload_n 0, 1) := by decide +kernel
theorem dM_piece_1 : decode cM_piece 1 = .ok (.iload_n 1, 1) := by decide +kernel
theorem dM_piece_2 : decode cM_piece 2 = .ok (.invokevirtual 86, 3) := by decide +kernel
theorem dM_piece_5 : decode cM_piece 5 = .ok (.ifCond .eq 43, 3) := by decide +kernel
theorem dM_piece_8 : decode cM_piece 8 = .ok (.aload_n 0, 1) := by decide +kernel
theorem dM_piece_9 : decode cM_piece 9 = .ok (.iload_n 2, 1) := by decide +kernel
theorem dM_piece_10 : decode cM_piece 10 = .ok (.invokevirtual 86, 3) := by decide +kernel
theorem dM_piece_13 : decode cM_piece 13 = .ok (.ifCond .eq 35, 3) := by decide +kernel
theorem dM_piece_16 : decode cM_piece 16 = .ok (.iload_n 1, 1) := by decide +kernel
theorem dM_piece_17 : decode cM_piece 17 = .ok (.iload_n 2, 1) := by decide +kernel
theorem dM_piece_18 : decode cM_piece 18 = .ok (.if_icmp .eq 30, 3) := by decide +kernel
theorem dM_piece_21 : decode cM_piece 21 = .ok (.lload_n 3, 1) := by decide +kernel
theorem dM_piece_22 : decode cM_piece 22 = .ok (.lconst 1, 1) := by decide +kernel
theorem dM_piece_23 : decode cM_piece 23 = .ok (.ldc2_w 90, 3) := by decide +kernel
theorem dM_piece_26 : decode cM_piece 26 = .ok (.invokestatic 76, 3) := by decide +kernel
theorem dM_piece_29 : decode cM_piece 29 = .ok (.ifCond .eq 19, 3) := by decide +kernel
theorem dM_piece_32 : decode cM_piece 32 = .ok (.lload 5, 2) := by decide +kernel
theorem dM_piece_34 : decode cM_piece 34 = .ok (.lconst 0, 1) := by decide +kernel
theorem dM_piece_35 : decode cM_piece 35 = .ok (.ldc2_w 92, 3) := by decide +kernel
theorem dM_piece_38 : decode cM_piece 38 = .ok (.invokestatic 76, 3) := by decide +kernel
theorem dM_piece_41 : decode cM_piece 41 = .ok (.ifCond .eq 7, 3) := by decide +kernel
theorem dM_piece_44 : decode cM_piece 44 = .ok (.iconst 1, 1) := by decide +kernel
theorem dM_piece_45 : decode cM_piece 45 = .ok (.goto 4, 3) := by decide +kernel
theorem dM_piece_48 : decode cM_piece 48 = .ok (.iconst 0, 1) := by decide +kernel
theorem dM_piece_49 : decode cM_piece 49 = .ok (.istore 7, 2) := by decide +kernel
theorem dM_piece_51 : decode cM_piece 51 = .ok (.iload 7, 2) := by decide +kernel
theorem dM_piece_53 : decode cM_piece 53 = .ok (.ifCond .eq 25, 3) := by decide +kernel
theorem dM_piece_56 : decode cM_piece 56 = .ok (.aload_n 0, 1) := by decide +kernel
theorem dM_piece_57 : decode cM_piece 57 = .ok (.getfield 7, 3) := by decide +kernel
theorem dM_piece_60 : decode cM_piece 60 = .ok (.iload_n 1, 1) := by decide +kernel
theorem dM_piece_61 : decode cM_piece 61 = .ok (.iaload, 1) := by decide +kernel
theorem dM_piece_62 : decode cM_piece 62 = .ok (.aload_n 0, 1) := by decide +kernel
theorem dM_piece_63 : decode cM_piece 63 = .ok (.getfield 7, 3) := by decide +kernel
theorem dM_piece_66 : decode cM_piece 66 = .ok (.iload_n 2, 1) := by decide +kernel
theorem dM_piece_67 : decode cM_piece 67 = .ok (.iaload, 1) := by decide +kernel
theorem dM_piece_68 : decode cM_piece 68 = .ok (.if_icmp .ne 7, 3) := by decide +kernel
theorem dM_piece_71 : decode cM_piece 71 = .ok (.iconst 1, 1) := by decide +kernel
theorem dM_piece_72 : decode cM_piece 72 = .ok (.goto 4, 3) := by decide +kernel
theorem dM_piece_75 : decode cM_piece 75 = .ok (.iconst 0, 1) := by decide +kernel
theorem dM_piece_76 : decode cM_piece 76 = .ok (.istore 7, 2) := by decide +kernel
theorem dM_piece_78 : decode cM_piece 78 = .ok (.aload_n 0, 1) := by decide +kernel
theorem dM_piece_79 : decode cM_piece 79 = .ok (.iload 7, 2) := by decide +kernel
theorem dM_piece_81 : decode cM_piece 81 = .ok (.ifCond .ne 7, 3) := by decide +kernel
theorem dM_piece_84 : decode cM_piece 84 = .ok (.iconst 1, 1) := by decide +kernel
theorem dM_piece_85 : decode cM_piece 85 = .ok (.goto 28, 3) := by decide +kernel
theorem dM_piece_88 : decode cM_piece 88 = .ok (.lload 5, 2) := by decide +kernel
theorem dM_piece_90 : decode cM_piece 90 = .ok (.lconst 0, 1) := by decide +kernel
theorem dM_piece_91 : decode cM_piece 91 = .ok (.lcmp, 1) := by decide +kernel
theorem dM_piece_92 : decode cM_piece 92 = .ok (.ifCond .ne 7, 3) := by decide +kernel
theorem dM_piece_95 : decode cM_piece 95 = .ok (.iconst 2, 1) := by decide +kernel
theorem dM_piece_96 : decode cM_piece 96 = .ok (.goto 17, 3) := by decide +kernel
theorem dM_piece_99 : decode cM_piece 99 = .ok (.aload_n 0, 1) := by decide +kernel
theorem dM_piece_100 : decode cM_piece 100 = .ok (.getfield 80, 3) := by decide +kernel
theorem dM_piece_103 : decode cM_piece 103 = .ok (.bipush 40, 2) := by decide +kernel
theorem dM_piece_105 : decode cM_piece 105 = .ok (.if_icmp .ne 7, 3) := by decide +kernel
theorem dM_piece_108 : decode cM_piece 108 = .ok (.iconst 3, 1) := by decide +kernel
theorem dM_piece_109 : decode cM_piece 109 = .ok (.goto 4, 3) := by decide +kernel
theorem dM_piece_112 : decode cM_piece 112 = .ok (.iconst 0, 1) := by decide +kernel
theorem dM_piece_113 : decode cM_piece 113 = .ok (.putfield 69, 3) := by decide +kernel
theorem dM_piece_116 : decode cM_piece 116 = .ok (.aload_n 0, 1) := by decide +kernel
theorem dM_piece_117 : decode cM_piece 117 = .ok (.getfield 69, 3) := by decide +kernel
theorem dM_piece_120 : decode cM_piece 120 = .ok (.ifCond .le 7, 3) := by decide +kernel
theorem dM_piece_123 : decode cM_piece 123 = .ok (.iconst 0, 1) := by decide +kernel
theorem dM_piece_124 : decode cM_piece 124 = .ok (.goto 18, 3) := by decide +kernel
theorem dM_piece_127 : decode cM_piece 127 = .ok (.aload_n 0, 1) := by decide +kernel
theorem dM_piece_128 : decode cM_piece 128 = .ok (.iload_n 1, 1) := by decide +kernel
theorem dM_piece_129 : decode cM_piece 129 = .ok (.iload_n 2, 1) := by decide +kernel
theorem dM_piece_130 : decode cM_piece 130 = .ok (.lload_n 3, 1) := by decide +kernel
theorem dM_piece_131 : decode cM_piece 131 = .ok (.lload 5, 2) := by decide +kernel
theorem dM_piece_133 : decode cM_piece 133 = .ok (.ladd, 1) := by decide +kernel
theorem dM_piece_134 : decode cM_piece 134 = .ok (.lconst 1, 1) := by decide +kernel
theorem dM_piece_135 : decode cM_piece 135 = .ok (.lsub, 1) := by decide +kernel
theorem dM_piece_136 : decode cM_piece 136 = .ok (.lload 5, 2) := by decide +kernel
theorem dM_piece_138 : decode cM_piece 138 = .ok (.ldiv, 1) := by decide +kernel
theorem dM_piece_139 : decode cM_piece 139 = .ok (.invokevirtual 94, 3) := by decide +kernel
theorem dM_piece_142 : decode cM_piece 142 = .ok (.ireturn, 1) := by decide +kernel
theorem dM_isPlace_0 : decode cM_isPlace 0 = .ok (.iload_n 1, 1) := by decide +kernel
theorem dM_isPlace_1 : decode cM_isPlace 1 = .ok (.i2l, 1) := by decide +kernel
theorem dM_isPlace_2 : decode cM_isPlace 2 = .ok (.lconst 0, 1) := by decide +kernel
theorem dM_isPlace_3 : decode cM_isPlace 3 = .ok (.aload_n 0, 1) := by decide +kernel
theorem dM_isPlace_4 : decode cM_isPlace 4 = .ok (.getfield 73, 3) := by decide +kernel
theorem dM_isPlace_7 : decode cM_isPlace 7 = .ok (.iconst 1, 1) := by decide +kernel
theorem dM_isPlace_8 : decode cM_isPlace 8 = .ok (.isub, 1) := by decide +kernel
theorem dM_isPlace_9 : decode cM_isPlace 9 = .ok (.i2l, 1) := by decide +kernel
theorem dM_isPlace_10 : decode cM_isPlace 10 = .ok (.invokestatic 76, 3) := by decide +kernel
theorem dM_isPlace_13 : decode cM_isPlace 13 = .ok (.ireturn, 1) := by decide +kernel
theorem dM_add_0 : decode cM_add 0 = .ok (.aload_n 0, 1) := by decide +kernel
theorem dM_add_1 : decode cM_add 1 = .ok (.getfield 13, 3) := by decide +kernel
theorem dM_add_4 : decode cM_add 4 = .ok (.aload_n 0, 1) := by decide +kernel
theorem dM_add_5 : decode cM_add 5 = .ok (.getfield 80, 3) := by decide +kernel
theorem dM_add_8 : decode cM_add 8 = .ok (.iload_n 1, 1) := by decide +kernel
theorem dM_add_9 : decode cM_add 9 = .ok (.iastore, 1) := by decide +kernel
theorem dM_add_10 : decode cM_add 10 = .ok (.aload_n 0, 1) := by decide +kernel
theorem dM_add_11 : decode cM_add 11 = .ok (.getfield 16, 3) := by decide +kernel
theorem dM_add_14 : decode cM_add 14 = .ok (.aload_n 0, 1) := by decide +kernel
theorem dM_add_15 : decode cM_add 15 = .ok (.getfield 80, 3) := by decide +kernel
theorem dM_add_18 : decode cM_add 18 = .ok (.iload_n 2, 1) := by decide +kernel
theorem dM_add_19 : decode cM_add 19 = .ok (.iastore, 1) := by decide +kernel
theorem dM_add_20 : decode cM_add 20 = .ok (.aload_n 0, 1) := by decide +kernel
theorem dM_add_21 : decode cM_add 21 = .ok (.getfield 19, 3) := by decide +kernel
theorem dM_add_24 : decode cM_add 24 = .ok (.aload_n 0, 1) := by decide +kernel
theorem dM_add_25 : decode cM_add 25 = .ok (.getfield 80, 3) := by decide +kernel
theorem dM_add_28 : decode cM_add 28 = .ok (.lload_n 3, 1) := by decide +kernel
theorem dM_add_29 : decode cM_add 29 = .ok (.lastore, 1) := by decide +kernel
theorem dM_add_30 : decode cM_add 30 = .ok (.aload_n 0, 1) := by decide +kernel
theorem dM_add_31 : decode cM_add 31 = .ok (.getfield 23, 3) := by decide +kernel
theorem dM_add_34 : decode cM_add 34 = .ok (.aload_n 0, 1) := by decide +kernel
theorem dM_add_35 : decode cM_add 35 = .ok (.getfield 80, 3) := by decide +kernel
theorem dM_add_38 : decode cM_add 38 = .ok (.sipush 2000, 3) := by decide +kernel
theorem dM_add_41 : decode cM_add 41 = .ok (.iastore, 1) := by decide +kernel
theorem dM_add_42 : decode cM_add 42 = .ok (.aload_n 0, 1) := by decide +kernel
theorem dM_add_43 : decode cM_add 43 = .ok (.getfield 26, 3) := by decide +kernel
theorem dM_add_46 : decode cM_add 46 = .ok (.aload_n 0, 1) := by decide +kernel
theorem dM_add_47 : decode cM_add 47 = .ok (.getfield 80, 3) := by decide +kernel
theorem dM_add_50 : decode cM_add 50 = .ok (.sipush 3000, 3) := by decide +kernel
theorem dM_add_53 : decode cM_add 53 = .ok (.iastore, 1) := by decide +kernel
theorem dM_add_54 : decode cM_add 54 = .ok (.aload_n 0, 1) := by decide +kernel
theorem dM_add_55 : decode cM_add 55 = .ok (.getfield 33, 3) := by decide +kernel
theorem dM_add_58 : decode cM_add 58 = .ok (.aload_n 0, 1) := by decide +kernel
theorem dM_add_59 : decode cM_add 59 = .ok (.getfield 80, 3) := by decide +kernel
theorem dM_add_62 : decode cM_add 62 = .ok (.ldc 85, 2) := by decide +kernel
theorem dM_add_64 : decode cM_add 64 = .ok (.iastore, 1) := by decide +kernel
theorem dM_add_65 : decode cM_add 65 = .ok (.aload_n 0, 1) := by decide +kernel
theorem dM_add_66 : decode cM_add 66 = .ok (.dup, 1) := by decide +kernel
theorem dM_add_67 : decode cM_add 67 = .ok (.getfield 80, 3) := by decide +kernel
theorem dM_add_70 : decode cM_add 70 = .ok (.iconst 1, 1) := by decide +kernel
theorem dM_add_71 : decode cM_add 71 = .ok (.iadd, 1) := by decide +kernel
theorem dM_add_72 : decode cM_add 72 = .ok (.putfield 80, 3) := by decide +kernel
theorem dM_add_75 : decode cM_add 75 = .ok (.aload_n 0, 1) := by decide +kernel
theorem dM_add_76 : decode cM_add 76 = .ok (.getfield 80, 3) := by decide +kernel
theorem dM_add_79 : decode cM_add 79 = .ok (.iconst 1, 1) := by decide +kernel
theorem dM_add_80 : decode cM_add 80 = .ok (.isub, 1) := by decide +kernel
theorem dM_add_81 : decode cM_add 81 = .ok (.ireturn, 1) := by decide +kernel
theorem dM_lift_0 : decode cM_lift 0 = .ok (.aload_n 0, 1) := by decide +kernel
theorem dM_lift_1 : decode cM_lift 1 = .ok (.iload_n 1, 1) := by decide +kernel
theorem dM_lift_2 : decode cM_lift 2 = .ok (.invokevirtual 86, 3) := by decide +kernel
theorem dM_lift_5 : decode cM_lift 5 = .ok (.ifCond .eq 26, 3) := by decide +kernel
theorem dM_lift_8 : decode cM_lift 8 = .ok (.aload_n 0, 1) := by decide +kernel
theorem dM_lift_9 : decode cM_lift 9 = .ok (.iload_n 2, 1) := by decide +kernel
theorem dM_lift_10 : decode cM_lift 10 = .ok (.invokevirtual 86, 3) := by decide +kernel
theorem dM_lift_13 : decode cM_lift 13 = .ok (.ifCond .eq 18, 3) := by decide +kernel
theorem dM_lift_16 : decode cM_lift 16 = .ok (.lload_n 3, 1) := by decide +kernel
theorem dM_lift_17 : decode cM_lift 17 = .ok (.lconst 1, 1) := by decide +kernel
theorem dM_lift_18 : decode cM_lift 18 = .ok (.ldc2_w 92, 3) := by decide +kernel
theorem dM_lift_21 : decode cM_lift 21 = .ok (.invokestatic 76, 3) := by decide +kernel
theorem dM_lift_24 : decode cM_lift 24 = .ok (.ifCond .eq 7, 3) := by decide +kernel
theorem dM_lift_27 : decode cM_lift 27 = .ok (.iconst 1, 1) := by decide +kernel
theorem dM_lift_28 : decode cM_lift 28 = .ok (.goto 4, 3) := by decide +kernel
theorem dM_lift_31 : decode cM_lift 31 = .ok (.iconst 0, 1) := by decide +kernel
theorem dM_lift_32 : decode cM_lift 32 = .ok (.istore 5, 2) := by decide +kernel
theorem dM_lift_34 : decode cM_lift 34 = .ok (.iload 5, 2) := by decide +kernel
theorem dM_lift_36 : decode cM_lift 36 = .ok (.ifCond .eq 25, 3) := by decide +kernel
theorem dM_lift_39 : decode cM_lift 39 = .ok (.aload_n 0, 1) := by decide +kernel
theorem dM_lift_40 : decode cM_lift 40 = .ok (.getfield 7, 3) := by decide +kernel
theorem dM_lift_43 : decode cM_lift 43 = .ok (.iload_n 1, 1) := by decide +kernel
theorem dM_lift_44 : decode cM_lift 44 = .ok (.iaload, 1) := by decide +kernel
theorem dM_lift_45 : decode cM_lift 45 = .ok (.aload_n 0, 1) := by decide +kernel
theorem dM_lift_46 : decode cM_lift 46 = .ok (.getfield 7, 3) := by decide +kernel
theorem dM_lift_49 : decode cM_lift 49 = .ok (.iload_n 2, 1) := by decide +kernel
theorem dM_lift_50 : decode cM_lift 50 = .ok (.iaload, 1) := by decide +kernel
theorem dM_lift_51 : decode cM_lift 51 = .ok (.if_icmp .eq 7, 3) := by decide +kernel
theorem dM_lift_54 : decode cM_lift 54 = .ok (.iconst 1, 1) := by decide +kernel
theorem dM_lift_55 : decode cM_lift 55 = .ok (.goto 4, 3) := by decide +kernel
theorem dM_lift_58 : decode cM_lift 58 = .ok (.iconst 0, 1) := by decide +kernel
theorem dM_lift_59 : decode cM_lift 59 = .ok (.istore 5, 2) := by decide +kernel
theorem dM_lift_61 : decode cM_lift 61 = .ok (.aload_n 0, 1) := by decide +kernel
theorem dM_lift_62 : decode cM_lift 62 = .ok (.iload 5, 2) := by decide +kernel
theorem dM_lift_64 : decode cM_lift 64 = .ok (.ifCond .ne 7, 3) := by decide +kernel
theorem dM_lift_67 : decode cM_lift 67 = .ok (.iconst 1, 1) := by decide +kernel
theorem dM_lift_68 : decode cM_lift 68 = .ok (.goto 17, 3) := by decide +kernel
theorem dM_lift_71 : decode cM_lift 71 = .ok (.aload_n 0, 1) := by decide +kernel
theorem dM_lift_72 : decode cM_lift 72 = .ok (.getfield 80, 3) := by decide +kernel
theorem dM_lift_75 : decode cM_lift 75 = .ok (.bipush 38, 2) := by decide +kernel
theorem dM_lift_77 : decode cM_lift 77 = .ok (.if_icmp .le 7, 3) := by decide +kernel
theorem dM_lift_80 : decode cM_lift 80 = .ok (.iconst 2, 1) := by decide +kernel
theorem dM_lift_81 : decode cM_lift 81 = .ok (.goto 4, 3) := by decide +kernel
theorem dM_lift_84 : decode cM_lift 84 = .ok (.iconst 0, 1) := by decide +kernel
theorem dM_lift_85 : decode cM_lift 85 = .ok (.putfield 69, 3) := by decide +kernel
theorem dM_lift_88 : decode cM_lift 88 = .ok (.aload_n 0, 1) := by decide +kernel
theorem dM_lift_89 : decode cM_lift 89 = .ok (.getfield 69, 3) := by decide +kernel
theorem dM_lift_92 : decode cM_lift 92 = .ok (.ifCond .le 5, 3) := by decide +kernel
theorem dM_lift_95 : decode cM_lift 95 = .ok (.iconst 0, 1) := by decide +kernel
theorem dM_lift_96 : decode cM_lift 96 = .ok (.ireturn, 1) := by decide +kernel
theorem dM_lift_97 : decode cM_lift 97 = .ok (.aload_n 0, 1) := by decide +kernel
theorem dM_lift_98 : decode cM_lift 98 = .ok (.iload_n 1, 1) := by decide +kernel
theorem dM_lift_99 : decode cM_lift 99 = .ok (.iload_n 2, 1) := by decide +kernel
theorem dM_lift_100 : decode cM_lift 100 = .ok (.lload_n 3, 1) := by decide +kernel
theorem dM_lift_101 : decode cM_lift 101 = .ok (.invokevirtual 94, 3) := by decide +kernel
theorem dM_lift_104 : decode cM_lift 104 = .ok (.istore 6, 2) := by decide +kernel
theorem dM_lift_106 : decode cM_lift 106 = .ok (.aload_n 0, 1) := by decide +kernel
theorem dM_lift_107 : decode cM_lift 107 = .ok (.iload_n 2, 1) := by decide +kernel
theorem dM_lift_108 : decode cM_lift 108 = .ok (.iload_n 1, 1) := by decide +kernel
theorem dM_lift_109 : decode cM_lift 109 = .ok (.lload_n 3, 1) := by decide +kernel
theorem dM_lift_110 : decode cM_lift 110 = .ok (.invokevirtual 94, 3) := by decide +kernel
theorem dM_lift_113 : decode cM_lift 113 = .ok (.pop, 1) := by decide +kernel
theorem dM_lift_114 : decode cM_lift 114 = .ok (.iload 6, 2) := by decide +kernel
theorem dM_lift_116 : decode cM_lift 116 = .ok (.ireturn, 1) := by decide +kernel
theorem dM_limit_0 : decode cM_limit 0 = .ok (.aload_n 0, 1) := by decide +kernel
theorem dM_limit_1 : decode cM_limit 1 = .ok (.aload_n 0, 1) := by decide +kernel
theorem dM_limit_2 : decode cM_limit 2 = .ok (.iload_n 1, 1) := by decide +kernel
theorem dM_limit_3 : decode cM_limit 3 = .ok (.invokevirtual 98, 3) := by decide +kernel
theorem dM_limit_6 : decode cM_limit 6 = .ok (.ifCond .eq 26, 3) := by decide +kernel
theorem dM_limit_9 : decode cM_limit 9 = .ok (.iload_n 2, 1) := by decide +kernel
theorem dM_limit_10 : decode cM_limit 10 = .ok (.i2l, 1) := by decide +kernel
theorem dM_limit_11 : decode cM_limit 11 = .ok (.lconst 1, 1) := by decide +kernel
theorem dM_limit_12 : decode cM_limit 12 = .ok (.ldc2_w 92, 3) := by decide +kernel
theorem dM_limit_15 : decode cM_limit 15 = .ok (.invokestatic 76, 3) := by decide +kernel
theorem dM_limit_18 : decode cM_limit 18 = .ok (.ifCond .eq 14, 3) := by decide +kernel
theorem dM_limit_21 : decode cM_limit 21 = .ok (.lload_n 3, 1) := by decide +kernel
theorem dM_limit_22 : decode cM_limit 22 = .ok (.lconst 1, 1) := by decide +kernel
theorem dM_limit_23 : decode cM_limit 23 = .ok (.ldc2_w 92, 3) := by decide +kernel
theorem dM_limit_26 : decode cM_limit 26 = .ok (.invokestatic 76, 3) := by decide +kernel
theorem dM_limit_29 : decode cM_limit 29 = .ok (.ifCond .ne 7, 3) := by decide +kernel
theorem dM_limit_32 : decode cM_limit 32 = .ok (.iconst 1, 1) := by decide +kernel
theorem dM_limit_33 : decode cM_limit 33 = .ok (.goto 4, 3) := by decide +kernel
theorem dM_limit_36 : decode cM_limit 36 = .ok (.iconst 0, 1) := by decide +kernel
theorem dM_limit_37 : decode cM_limit 37 = .ok (.putfield 69, 3) := by decide +kernel
theorem dM_limit_40 : decode cM_limit 40 = .ok (.aload_n 0, 1) := by decide +kernel
theorem dM_limit_41 : decode cM_limit 41 = .ok (.getfield 69, 3) := by decide +kernel
theorem dM_limit_44 : decode cM_limit 44 = .ok (.ifCond .le 4, 3) := by decide +kernel
theorem dM_limit_47 : decode cM_limit 47 = .ok (.return_, 1) := by decide +kernel
theorem dM_limit_48 : decode cM_limit 48 = .ok (.aload_n 0, 1) := by decide +kernel
theorem dM_limit_49 : decode cM_limit 49 = .ok (.getfield 23, 3) := by decide +kernel
theorem dM_limit_52 : decode cM_limit 52 = .ok (.iload_n 1, 1) := by decide +kernel
theorem dM_limit_53 : decode cM_limit 53 = .ok (.iload_n 2, 1) := by decide +kernel
theorem dM_limit_54 : decode cM_limit 54 = .ok (.iastore, 1) := by decide +kernel
theorem dM_limit_55 : decode cM_limit 55 = .ok (.aload_n 0, 1) := by decide +kernel
theorem dM_limit_56 : decode cM_limit 56 = .ok (.getfield 26, 3) := by decide +kernel
theorem dM_limit_59 : decode cM_limit 59 = .ok (.iload_n 1, 1) := by decide +kernel
theorem dM_limit_60 : decode cM_limit 60 = .ok (.lload_n 3, 1) := by decide +kernel
theorem dM_limit_61 : decode cM_limit 61 = .ok (.l2i, 1) := by decide +kernel
theorem dM_limit_62 : decode cM_limit 62 = .ok (.iastore, 1) := by decide +kernel
theorem dM_limit_63 : decode cM_limit 63 = .ok (.return_, 1) := by decide +kernel
theorem dM_isPiece_0 : decode cM_isPiece 0 = .ok (.iload_n 1, 1) := by decide +kernel
theorem dM_isPiece_1 : decode cM_isPiece 1 = .ok (.i2l, 1) := by decide +kernel
theorem dM_isPiece_2 : decode cM_isPiece 2 = .ok (.lconst 0, 1) := by decide +kernel
theorem dM_isPiece_3 : decode cM_isPiece 3 = .ok (.aload_n 0, 1) := by decide +kernel
theorem dM_isPiece_4 : decode cM_isPiece 4 = .ok (.getfield 80, 3) := by decide +kernel
theorem dM_isPiece_7 : decode cM_isPiece 7 = .ok (.iconst 1, 1) := by decide +kernel
theorem dM_isPiece_8 : decode cM_isPiece 8 = .ok (.isub, 1) := by decide +kernel
theorem dM_isPiece_9 : decode cM_isPiece 9 = .ok (.i2l, 1) := by decide +kernel
theorem dM_isPiece_10 : decode cM_isPiece 10 = .ok (.invokestatic 76, 3) := by decide +kernel
theorem dM_isPiece_13 : decode cM_isPiece 13 = .ok (.ireturn, 1) := by decide +kernel
theorem dM_mover_0 : decode cM_mover 0 = .ok (.aload_n 0, 1) := by decide +kernel
theorem dM_mover_1 : decode cM_mover 1 = .ok (.iload_n 1, 1) := by decide +kernel
theorem dM_mover_2 : decode cM_mover 2 = .ok (.i2l, 1) := by decide +kernel
theorem dM_mover_3 : decode cM_mover 3 = .ok (.lconst 1, 1) := by decide +kernel
theorem dM_mover_4 : decode cM_mover 4 = .ok (.ldc2_w 92, 3) := by decide +kernel
theorem dM_mover_7 : decode cM_mover 7 = .ok (.invokestatic 76, 3) := by decide +kernel
theorem dM_mover_10 : decode cM_mover 10 = .ok (.ifCond .eq 14, 3) := by decide +kernel
theorem dM_mover_13 : decode cM_mover 13 = .ok (.lload_n 2, 1) := by decide +kernel
theorem dM_mover_14 : decode cM_mover 14 = .ok (.lconst 1, 1) := by decide +kernel
theorem dM_mover_15 : decode cM_mover 15 = .ok (.ldc2_w 92, 3) := by decide +kernel
theorem dM_mover_18 : decode cM_mover 18 = .ok (.invokestatic 76, 3) := by decide +kernel
theorem dM_mover_21 : decode cM_mover 21 = .ok (.ifCond .ne 7, 3) := by decide +kernel
theorem dM_mover_24 : decode cM_mover 24 = .ok (.iconst 1, 1) := by decide +kernel
theorem dM_mover_25 : decode cM_mover 25 = .ok (.goto 17, 3) := by decide +kernel
theorem dM_mover_28 : decode cM_mover 28 = .ok (.aload_n 0, 1) := by decide +kernel
theorem dM_mover_29 : decode cM_mover 29 = .ok (.getfield 101, 3) := by decide +kernel
theorem dM_mover_32 : decode cM_mover 32 = .ok (.bipush 6, 2) := by decide +kernel
theorem dM_mover_34 : decode cM_mover 34 = .ok (.if_icmp .ne 7, 3) := by decide +kernel
theorem dM_mover_37 : decode cM_mover 37 = .ok (.iconst 2, 1) := by decide +kernel
theorem dM_mover_38 : decode cM_mover 38 = .ok (.goto 4, 3) := by decide +kernel
theorem dM_mover_41 : decode cM_mover 41 = .ok (.iconst 0, 1) := by decide +kernel
theorem dM_mover_42 : decode cM_mover 42 = .ok (.putfield 69, 3) := by decide +kernel
theorem dM_mover_45 : decode cM_mover 45 = .ok (.aload_n 0, 1) := by decide +kernel
theorem dM_mover_46 : decode cM_mover 46 = .ok (.getfield 69, 3) := by decide +kernel
theorem dM_mover_49 : decode cM_mover 49 = .ok (.ifCond .le 5, 3) := by decide +kernel
theorem dM_mover_52 : decode cM_mover 52 = .ok (.iconst 0, 1) := by decide +kernel
theorem dM_mover_53 : decode cM_mover 53 = .ok (.ireturn, 1) := by decide +kernel
theorem dM_mover_54 : decode cM_mover 54 = .ok (.iconst 0, 1) := by decide +kernel
theorem dM_mover_55 : decode cM_mover 55 = .ok (.istore 4, 2) := by decide +kernel
theorem dM_mover_57 : decode cM_mover 57 = .ok (.iconst 0, 1) := by decide +kernel
theorem dM_mover_58 : decode cM_mover 58 = .ok (.istore 5, 2) := by decide +kernel
theorem dM_mover_60 : decode cM_mover 60 = .ok (.iload 5, 2) := by decide +kernel
theorem dM_mover_62 : decode cM_mover 62 = .ok (.aload_n 0, 1) := by decide +kernel
theorem dM_mover_63 : decode cM_mover 63 = .ok (.getfield 80, 3) := by decide +kernel
theorem dM_mover_66 : decode cM_mover 66 = .ok (.if_icmp .ge 45, 3) := by decide +kernel
theorem dM_mover_69 : decode cM_mover 69 = .ok (.iload 4, 2) := by decide +kernel
theorem dM_mover_71 : decode cM_mover 71 = .ok (.ifCond .ne 27, 3) := by decide +kernel
theorem dM_mover_74 : decode cM_mover 74 = .ok (.aload_n 0, 1) := by decide +kernel
theorem dM_mover_75 : decode cM_mover 75 = .ok (.getfield 23, 3) := by decide +kernel
theorem dM_mover_78 : decode cM_mover 78 = .ok (.iload 5, 2) := by decide +kernel
theorem dM_mover_80 : decode cM_mover 80 = .ok (.iaload, 1) := by decide +kernel
theorem dM_mover_81 : decode cM_mover 81 = .ok (.iload_n 1, 1) := by decide +kernel
theorem dM_mover_82 : decode cM_mover 82 = .ok (.if_icmp .lt 20, 3) := by decide +kernel
theorem dM_mover_85 : decode cM_mover 85 = .ok (.aload_n 0, 1) := by decide +kernel
theorem dM_mover_86 : decode cM_mover 86 = .ok (.getfield 26, 3) := by decide +kernel
theorem dM_mover_89 : decode cM_mover 89 = .ok (.iload 5, 2) := by decide +kernel
theorem dM_mover_91 : decode cM_mover 91 = .ok (.iaload, 1) := by decide +kernel
theorem dM_mover_92 : decode cM_mover 92 = .ok (.i2l, 1) := by decide +kernel
theorem dM_mover_93 : decode cM_mover 93 = .ok (.lload_n 2, 1) := by decide +kernel
theorem dM_mover_94 : decode cM_mover 94 = .ok (.lcmp, 1) := by decide +kernel
theorem dM_mover_95 : decode cM_mover 95 = .ok (.ifCond .lt 7, 3) := by decide +kernel
theorem dM_mover_98 : decode cM_mover 98 = .ok (.iconst 1, 1) := by decide +kernel
theorem dM_mover_99 : decode cM_mover 99 = .ok (.goto 4, 3) := by decide +kernel
theorem dM_mover_102 : decode cM_mover 102 = .ok (.iconst 0, 1) := by decide +kernel
theorem dM_mover_103 : decode cM_mover 103 = .ok (.istore 4, 2) := by decide +kernel
theorem dM_mover_105 : decode cM_mover 105 = .ok (.iinc 5 1, 3) := by decide +kernel
theorem dM_mover_108 : decode cM_mover 108 = .ok (.goto (-48), 3) := by decide +kernel
theorem dM_mover_111 : decode cM_mover 111 = .ok (.iload 4, 2) := by decide +kernel
theorem dM_mover_113 : decode cM_mover 113 = .ok (.ifCond .ne 5, 3) := by decide +kernel
theorem dM_mover_116 : decode cM_mover 116 = .ok (.iconst (-1), 1) := by decide +kernel
theorem dM_mover_117 : decode cM_mover 117 = .ok (.ireturn, 1) := by decide +kernel
theorem dM_mover_118 : decode cM_mover 118 = .ok (.aload_n 0, 1) := by decide +kernel
theorem dM_mover_119 : decode cM_mover 119 = .ok (.getfield 39, 3) := by decide +kernel
theorem dM_mover_122 : decode cM_mover 122 = .ok (.aload_n 0, 1) := by decide +kernel
theorem dM_mover_123 : decode cM_mover 123 = .ok (.getfield 101, 3) := by decide +kernel
theorem dM_mover_126 : decode cM_mover 126 = .ok (.iload_n 1, 1) := by decide +kernel
theorem dM_mover_127 : decode cM_mover 127 = .ok (.iastore, 1) := by decide +kernel
theorem dM_mover_128 : decode cM_mover 128 = .ok (.aload_n 0, 1) := by decide +kernel
theorem dM_mover_129 : decode cM_mover 129 = .ok (.getfield 42, 3) := by decide +kernel
theorem dM_mover_132 : decode cM_mover 132 = .ok (.aload_n 0, 1) := by decide +kernel
theorem dM_mover_133 : decode cM_mover 133 = .ok (.getfield 101, 3) := by decide +kernel
theorem dM_mover_136 : decode cM_mover 136 = .ok (.lload_n 2, 1) := by decide +kernel
theorem dM_mover_137 : decode cM_mover 137 = .ok (.l2i, 1) := by decide +kernel
theorem dM_mover_138 : decode cM_mover 138 = .ok (.iastore, 1) := by decide +kernel
theorem dM_mover_139 : decode cM_mover 139 = .ok (.aload_n 0, 1) := by decide +kernel
theorem dM_mover_140 : decode cM_mover 140 = .ok (.dup, 1) := by decide +kernel
theorem dM_mover_141 : decode cM_mover 141 = .ok (.getfield 101, 3) := by decide +kernel
theorem dM_mover_144 : decode cM_mover 144 = .ok (.iconst 1, 1) := by decide +kernel
theorem dM_mover_145 : decode cM_mover 145 = .ok (.iadd, 1) := by decide +kernel
theorem dM_mover_146 : decode cM_mover 146 = .ok (.putfield 101, 3) := by decide +kernel
theorem dM_mover_149 : decode cM_mover 149 = .ok (.aload_n 0, 1) := by decide +kernel
theorem dM_mover_150 : decode cM_mover 150 = .ok (.getfield 101, 3) := by decide +kernel
theorem dM_mover_153 : decode cM_mover 153 = .ok (.iconst 1, 1) := by decide +kernel
theorem dM_mover_154 : decode cM_mover 154 = .ok (.isub, 1) := by decide +kernel
theorem dM_mover_155 : decode cM_mover 155 = .ok (.ireturn, 1) := by decide +kernel
theorem dM_closed_0 : decode cM_closed 0 = .ok (.aload_n 0, 1) := by decide +kernel
theorem dM_closed_1 : decode cM_closed 1 = .ok (.aload_n 0, 1) := by decide +kernel
theorem dM_closed_2 : decode cM_closed 2 = .ok (.iload_n 1, 1) := by decide +kernel
theorem dM_closed_3 : decode cM_closed 3 = .ok (.invokevirtual 98, 3) := by decide +kernel
theorem dM_closed_6 : decode cM_closed 6 = .ok (.ifCond .eq 7, 3) := by decide +kernel
theorem dM_closed_9 : decode cM_closed 9 = .ok (.iconst 0, 1) := by decide +kernel
theorem dM_closed_10 : decode cM_closed 10 = .ok (.goto 4, 3) := by decide +kernel
theorem dM_closed_13 : decode cM_closed 13 = .ok (.iconst 1, 1) := by decide +kernel
theorem dM_closed_14 : decode cM_closed 14 = .ok (.putfield 69, 3) := by decide +kernel
theorem dM_closed_17 : decode cM_closed 17 = .ok (.aload_n 0, 1) := by decide +kernel
theorem dM_closed_18 : decode cM_closed 18 = .ok (.getfield 69, 3) := by decide +kernel
theorem dM_closed_21 : decode cM_closed 21 = .ok (.ifCond .le 5, 3) := by decide +kernel
theorem dM_closed_24 : decode cM_closed 24 = .ok (.iconst 0, 1) := by decide +kernel
theorem dM_closed_25 : decode cM_closed 25 = .ok (.ireturn, 1) := by decide +kernel
theorem dM_closed_26 : decode cM_closed 26 = .ok (.aload_n 0, 1) := by decide +kernel
theorem dM_closed_27 : decode cM_closed 27 = .ok (.getfield 29, 3) := by decide +kernel
theorem dM_closed_30 : decode cM_closed 30 = .ok (.iload_n 1, 1) := by decide +kernel
theorem dM_closed_31 : decode cM_closed 31 = .ok (.iload_n 2, 1) := by decide +kernel
theorem dM_closed_32 : decode cM_closed 32 = .ok (.bastore, 1) := by decide +kernel
theorem dM_closed_33 : decode cM_closed 33 = .ok (.iconst 0, 1) := by decide +kernel
theorem dM_closed_34 : decode cM_closed 34 = .ok (.istore_n 3, 1) := by decide +kernel
theorem dM_closed_35 : decode cM_closed 35 = .ok (.iconst 0, 1) := by decide +kernel
theorem dM_closed_36 : decode cM_closed 36 = .ok (.istore 4, 2) := by decide +kernel
theorem dM_closed_38 : decode cM_closed 38 = .ok (.iload 4, 2) := by decide +kernel
theorem dM_closed_40 : decode cM_closed 40 = .ok (.aload_n 0, 1) := by decide +kernel
theorem dM_closed_41 : decode cM_closed 41 = .ok (.getfield 80, 3) := by decide +kernel
theorem dM_closed_44 : decode cM_closed 44 = .ok (.if_icmp .ge 27, 3) := by decide +kernel
theorem dM_closed_47 : decode cM_closed 47 = .ok (.iload_n 3, 1) := by decide +kernel
theorem dM_closed_48 : decode cM_closed 48 = .ok (.aload_n 0, 1) := by decide +kernel
theorem dM_closed_49 : decode cM_closed 49 = .ok (.getfield 29, 3) := by decide +kernel
theorem dM_closed_52 : decode cM_closed 52 = .ok (.iload 4, 2) := by decide +kernel
theorem dM_closed_54 : decode cM_closed 54 = .ok (.baload, 1) := by decide +kernel
theorem dM_closed_55 : decode cM_closed 55 = .ok (.ifCond .eq 7, 3) := by decide +kernel
theorem dM_closed_58 : decode cM_closed 58 = .ok (.iconst 1, 1) := by decide +kernel
theorem dM_closed_59 : decode cM_closed 59 = .ok (.goto 4, 3) := by decide +kernel
theorem dM_closed_62 : decode cM_closed 62 = .ok (.iconst 0, 1) := by decide +kernel
theorem dM_closed_63 : decode cM_closed 63 = .ok (.iadd, 1) := by decide +kernel
theorem dM_closed_64 : decode cM_closed 64 = .ok (.istore_n 3, 1) := by decide +kernel
theorem dM_closed_65 : decode cM_closed 65 = .ok (.iinc 4 1, 3) := by decide +kernel
theorem dM_closed_68 : decode cM_closed 68 = .ok (.goto (-30), 3) := by decide +kernel
theorem dM_closed_71 : decode cM_closed 71 = .ok (.iload_n 3, 1) := by decide +kernel
theorem dM_closed_72 : decode cM_closed 72 = .ok (.ireturn, 1) := by decide +kernel
theorem dM_turn_0 : decode cM_turn 0 = .ok (.aload_n 0, 1) := by decide +kernel
theorem dM_turn_1 : decode cM_turn 1 = .ok (.iload_n 1, 1) := by decide +kernel
theorem dM_turn_2 : decode cM_turn 2 = .ok (.invokevirtual 98, 3) := by decide +kernel
theorem dM_turn_5 : decode cM_turn 5 = .ok (.ifCond .eq 15, 3) := by decide +kernel
theorem dM_turn_8 : decode cM_turn 8 = .ok (.aload_n 0, 1) := by decide +kernel
theorem dM_turn_9 : decode cM_turn 9 = .ok (.iload_n 2, 1) := by decide +kernel
theorem dM_turn_10 : decode cM_turn 10 = .ok (.invokevirtual 98, 3) := by decide +kernel
theorem dM_turn_13 : decode cM_turn 13 = .ok (.ifCond .eq 7, 3) := by decide +kernel
theorem dM_turn_16 : decode cM_turn 16 = .ok (.iconst 1, 1) := by decide +kernel
theorem dM_turn_17 : decode cM_turn 17 = .ok (.goto 4, 3) := by decide +kernel
theorem dM_turn_20 : decode cM_turn 20 = .ok (.iconst 0, 1) := by decide +kernel
theorem dM_turn_21 : decode cM_turn 21 = .ok (.istore 4, 2) := by decide +kernel
theorem dM_turn_23 : decode cM_turn 23 = .ok (.iload 4, 2) := by decide +kernel
theorem dM_turn_25 : decode cM_turn 25 = .ok (.ifCond .eq 25, 3) := by decide +kernel
theorem dM_turn_28 : decode cM_turn 28 = .ok (.aload_n 0, 1) := by decide +kernel
theorem dM_turn_29 : decode cM_turn 29 = .ok (.getfield 16, 3) := by decide +kernel
theorem dM_turn_32 : decode cM_turn 32 = .ok (.iload_n 1, 1) := by decide +kernel
theorem dM_turn_33 : decode cM_turn 33 = .ok (.iaload, 1) := by decide +kernel
theorem dM_turn_34 : decode cM_turn 34 = .ok (.aload_n 0, 1) := by decide +kernel
theorem dM_turn_35 : decode cM_turn 35 = .ok (.getfield 13, 3) := by decide +kernel
theorem dM_turn_38 : decode cM_turn 38 = .ok (.iload_n 2, 1) := by decide +kernel
theorem dM_turn_39 : decode cM_turn 39 = .ok (.iaload, 1) := by decide +kernel
theorem dM_turn_40 : decode cM_turn 40 = .ok (.if_icmp .ne 7, 3) := by decide +kernel
theorem dM_turn_43 : decode cM_turn 43 = .ok (.iconst 1, 1) := by decide +kernel
theorem dM_turn_44 : decode cM_turn 44 = .ok (.goto 4, 3) := by decide +kernel
theorem dM_turn_47 : decode cM_turn 47 = .ok (.iconst 0, 1) := by decide +kernel
theorem dM_turn_48 : decode cM_turn 48 = .ok (.istore 4, 2) := by decide +kernel
theorem dM_turn_50 : decode cM_turn 50 = .ok (.aload_n 0, 1) := by decide +kernel
theorem dM_turn_51 : decode cM_turn 51 = .ok (.iload 4, 2) := by decide +kernel
theorem dM_turn_53 : decode cM_turn 53 = .ok (.ifCond .eq 7, 3) := by decide +kernel
theorem dM_turn_56 : decode cM_turn 56 = .ok (.iconst 0, 1) := by decide +kernel
theorem dM_turn_57 : decode cM_turn 57 = .ok (.goto 4, 3) := by decide +kernel
theorem dM_turn_60 : decode cM_turn 60 = .ok (.iconst 1, 1) := by decide +kernel
theorem dM_turn_61 : decode cM_turn 61 = .ok (.putfield 69, 3) := by decide +kernel
theorem dM_turn_64 : decode cM_turn 64 = .ok (.aload_n 0, 1) := by decide +kernel
theorem dM_turn_65 : decode cM_turn 65 = .ok (.getfield 69, 3) := by decide +kernel
theorem dM_turn_68 : decode cM_turn 68 = .ok (.ifCond .le 5, 3) := by decide +kernel
theorem dM_turn_71 : decode cM_turn 71 = .ok (.iconst 0, 1) := by decide +kernel
theorem dM_turn_72 : decode cM_turn 72 = .ok (.ireturn, 1) := by decide +kernel
theorem dM_turn_73 : decode cM_turn 73 = .ok (.aload_n 0, 1) := by decide +kernel
theorem dM_turn_74 : decode cM_turn 74 = .ok (.getfield 36, 3) := by decide +kernel
theorem dM_turn_77 : decode cM_turn 77 = .ok (.bipush 40, 2) := by decide +kernel
theorem dM_turn_79 : decode cM_turn 79 = .ok (.iload_n 1, 1) := by decide +kernel
theorem dM_turn_80 : decode cM_turn 80 = .ok (.imul, 1) := by decide +kernel
theorem dM_turn_81 : decode cM_turn 81 = .ok (.iload_n 2, 1) := by decide +kernel
theorem dM_turn_82 : decode cM_turn 82 = .ok (.iadd, 1) := by decide +kernel
theorem dM_turn_83 : decode cM_turn 83 = .ok (.iload_n 3, 1) := by decide +kernel
theorem dM_turn_84 : decode cM_turn 84 = .ok (.bastore, 1) := by decide +kernel
theorem dM_turn_85 : decode cM_turn 85 = .ok (.iload_n 3, 1) := by decide +kernel
theorem dM_turn_86 : decode cM_turn 86 = .ok (.ifCond .eq 7, 3) := by decide +kernel
theorem dM_turn_89 : decode cM_turn 89 = .ok (.iconst 1, 1) := by decide +kernel
theorem dM_turn_90 : decode cM_turn 90 = .ok (.goto 4, 3) := by decide +kernel
theorem dM_turn_93 : decode cM_turn 93 = .ok (.iconst 0, 1) := by decide +kernel
theorem dM_turn_94 : decode cM_turn 94 = .ok (.aload_n 0, 1) := by decide +kernel
theorem dM_turn_95 : decode cM_turn 95 = .ok (.getfield 36, 3) := by decide +kernel
theorem dM_turn_98 : decode cM_turn 98 = .ok (.bipush 40, 2) := by decide +kernel
theorem dM_turn_100 : decode cM_turn 100 = .ok (.iload_n 2, 1) := by decide +kernel
theorem dM_turn_101 : decode cM_turn 101 = .ok (.imul, 1) := by decide +kernel
theorem dM_turn_102 : decode cM_turn 102 = .ok (.iload_n 1, 1) := by decide +kernel
theorem dM_turn_103 : decode cM_turn 103 = .ok (.iadd, 1) := by decide +kernel
theorem dM_turn_104 : decode cM_turn 104 = .ok (.baload, 1) := by decide +kernel
theorem dM_turn_105 : decode cM_turn 105 = .ok (.ifCond .eq 7, 3) := by decide +kernel
theorem dM_turn_108 : decode cM_turn 108 = .ok (.iconst 1, 1) := by decide +kernel
theorem dM_turn_109 : decode cM_turn 109 = .ok (.goto 4, 3) := by decide +kernel
theorem dM_turn_112 : decode cM_turn 112 = .ok (.iconst 0, 1) := by decide +kernel
theorem dM_turn_113 : decode cM_turn 113 = .ok (.iadd, 1) := by decide +kernel
theorem dM_turn_114 : decode cM_turn 114 = .ok (.ireturn, 1) := by decide +kernel
theorem dM_door_0 : decode cM_door 0 = .ok (.aload_n 0, 1) := by decide +kernel
theorem dM_door_1 : decode cM_door 1 = .ok (.aload_n 0, 1) := by decide +kernel
theorem dM_door_2 : decode cM_door 2 = .ok (.iload_n 1, 1) := by decide +kernel
theorem dM_door_3 : decode cM_door 3 = .ok (.invokevirtual 98, 3) := by decide +kernel
theorem dM_door_6 : decode cM_door 6 = .ok (.ifCond .eq 15, 3) := by decide +kernel
theorem dM_door_9 : decode cM_door 9 = .ok (.iload_n 2, 1) := by decide +kernel
theorem dM_door_10 : decode cM_door 10 = .ok (.i2l, 1) := by decide +kernel
theorem dM_door_11 : decode cM_door 11 = .ok (.lconst 0, 1) := by decide +kernel
theorem dM_door_12 : decode cM_door 12 = .ok (.ldc2_w 104, 3) := by decide +kernel
theorem dM_door_15 : decode cM_door 15 = .ok (.invokestatic 76, 3) := by decide +kernel
theorem dM_door_18 : decode cM_door 18 = .ok (.ifCond .ne 7, 3) := by decide +kernel
theorem dM_door_21 : decode cM_door 21 = .ok (.iconst 1, 1) := by decide +kernel
theorem dM_door_22 : decode cM_door 22 = .ok (.goto 4, 3) := by decide +kernel
theorem dM_door_25 : decode cM_door 25 = .ok (.iconst 0, 1) := by decide +kernel
theorem dM_door_26 : decode cM_door 26 = .ok (.putfield 69, 3) := by decide +kernel
theorem dM_door_29 : decode cM_door 29 = .ok (.aload_n 0, 1) := by decide +kernel
theorem dM_door_30 : decode cM_door 30 = .ok (.getfield 69, 3) := by decide +kernel
theorem dM_door_33 : decode cM_door 33 = .ok (.ifCond .le 5, 3) := by decide +kernel
theorem dM_door_36 : decode cM_door 36 = .ok (.iconst 0, 1) := by decide +kernel
theorem dM_door_37 : decode cM_door 37 = .ok (.ireturn, 1) := by decide +kernel
theorem dM_door_38 : decode cM_door 38 = .ok (.aload_n 0, 1) := by decide +kernel
theorem dM_door_39 : decode cM_door 39 = .ok (.getfield 33, 3) := by decide +kernel
theorem dM_door_42 : decode cM_door 42 = .ok (.iload_n 1, 1) := by decide +kernel
theorem dM_door_43 : decode cM_door 43 = .ok (.iload_n 3, 1) := by decide +kernel
theorem dM_door_44 : decode cM_door 44 = .ok (.ifCond .eq 16, 3) := by decide +kernel
theorem dM_door_47 : decode cM_door 47 = .ok (.aload_n 0, 1) := by decide +kernel
theorem dM_door_48 : decode cM_door 48 = .ok (.getfield 33, 3) := by decide +kernel
theorem dM_door_51 : decode cM_door 51 = .ok (.iload_n 1, 1) := by decide +kernel
theorem dM_door_52 : decode cM_door 52 = .ok (.iaload, 1) := by decide +kernel
theorem dM_door_53 : decode cM_door 53 = .ok (.iconst 1, 1) := by decide +kernel
theorem dM_door_54 : decode cM_door 54 = .ok (.iload_n 2, 1) := by decide +kernel
theorem dM_door_55 : decode cM_door 55 = .ok (.ishl, 1) := by decide +kernel
theorem dM_door_56 : decode cM_door 56 = .ok (.ior, 1) := by decide +kernel
theorem dM_door_57 : decode cM_door 57 = .ok (.goto 15, 3) := by decide +kernel
theorem dM_door_60 : decode cM_door 60 = .ok (.aload_n 0, 1) := by decide +kernel
theorem dM_door_61 : decode cM_door 61 = .ok (.getfield 33, 3) := by decide +kernel
theorem dM_door_64 : decode cM_door 64 = .ok (.iload_n 1, 1) := by decide +kernel
theorem dM_door_65 : decode cM_door 65 = .ok (.iaload, 1) := by decide +kernel
theorem dM_door_66 : decode cM_door 66 = .ok (.iconst 1, 1) := by decide +kernel
theorem dM_door_67 : decode cM_door 67 = .ok (.iload_n 2, 1) := by decide +kernel
theorem dM_door_68 : decode cM_door 68 = .ok (.ishl, 1) := by decide +kernel
theorem dM_door_69 : decode cM_door 69 = .ok (.iconst (-1), 1) := by decide +kernel
theorem dM_door_70 : decode cM_door 70 = .ok (.ixor, 1) := by decide +kernel
theorem dM_door_71 : decode cM_door 71 = .ok (.iand, 1) := by decide +kernel
theorem dM_door_72 : decode cM_door 72 = .ok (.iastore, 1) := by decide +kernel
theorem dM_door_73 : decode cM_door 73 = .ok (.iconst 0, 1) := by decide +kernel
theorem dM_door_74 : decode cM_door 74 = .ok (.istore 4, 2) := by decide +kernel
theorem dM_door_76 : decode cM_door 76 = .ok (.iconst 0, 1) := by decide +kernel
theorem dM_door_77 : decode cM_door 77 = .ok (.istore 5, 2) := by decide +kernel
theorem dM_door_79 : decode cM_door 79 = .ok (.iload 5, 2) := by decide +kernel
theorem dM_door_81 : decode cM_door 81 = .ok (.bipush 24, 2) := by decide +kernel
theorem dM_door_83 : decode cM_door 83 = .ok (.if_icmp .ge 25, 3) := by decide +kernel
theorem dM_door_86 : decode cM_door 86 = .ok (.iload 4, 2) := by decide +kernel
theorem dM_door_88 : decode cM_door 88 = .ok (.aload_n 0, 1) := by decide +kernel
theorem dM_door_89 : decode cM_door 89 = .ok (.getfield 33, 3) := by decide +kernel
theorem dM_door_92 : decode cM_door 92 = .ok (.iload_n 1, 1) := by decide +kernel
theorem dM_door_93 : decode cM_door 93 = .ok (.iaload, 1) := by decide +kernel
theorem dM_door_94 : decode cM_door 94 = .ok (.iload 5, 2) := by decide +kernel
theorem dM_door_96 : decode cM_door 96 = .ok (.ishr, 1) := by decide +kernel
theorem dM_door_97 : decode cM_door 97 = .ok (.iconst 1, 1) := by decide +kernel
theorem dM_door_98 : decode cM_door 98 = .ok (.iand, 1) := by decide +kernel
theorem dM_door_99 : decode cM_door 99 = .ok (.iadd, 1) := by decide +kernel
theorem dM_door_100 : decode cM_door 100 = .ok (.istore 4, 2) := by decide +kernel
theorem dM_door_102 : decode cM_door 102 = .ok (.iinc 5 1, 3) := by decide +kernel
theorem dM_door_105 : decode cM_door 105 = .ok (.goto (-26), 3) := by decide +kernel
theorem dM_door_108 : decode cM_door 108 = .ok (.iload 4, 2) := by decide +kernel
theorem dM_door_110 : decode cM_door 110 = .ok (.ireturn, 1) := by decide +kernel
theorem dM_way_0 : decode cM_way 0 = .ok (.aload_n 0, 1) := by decide +kernel
theorem dM_way_1 : decode cM_way 1 = .ok (.aload_n 0, 1) := by decide +kernel
theorem dM_way_2 : decode cM_way 2 = .ok (.iload_n 1, 1) := by decide +kernel
theorem dM_way_3 : decode cM_way 3 = .ok (.invokevirtual 135, 3) := by decide +kernel
theorem dM_way_6 : decode cM_way 6 = .ok (.ifCond .eq 31, 3) := by decide +kernel
theorem dM_way_9 : decode cM_way 9 = .ok (.aload_n 0, 1) := by decide +kernel
theorem dM_way_10 : decode cM_way 10 = .ok (.iload_n 2, 1) := by decide +kernel
theorem dM_way_11 : decode cM_way 11 = .ok (.invokevirtual 86, 3) := by decide +kernel
theorem dM_way_14 : decode cM_way 14 = .ok (.ifCond .eq 23, 3) := by decide +kernel
theorem dM_way_17 : decode cM_way 17 = .ok (.aload_n 0, 1) := by decide +kernel
theorem dM_way_18 : decode cM_way 18 = .ok (.iload_n 3, 1) := by decide +kernel
theorem dM_way_19 : decode cM_way 19 = .ok (.invokevirtual 86, 3) := by decide +kernel
theorem dM_way_22 : decode cM_way 22 = .ok (.ifCond .eq 15, 3) := by decide +kernel
theorem dM_way_25 : decode cM_way 25 = .ok (.lload 4, 2) := by decide +kernel
theorem dM_way_27 : decode cM_way 27 = .ok (.lconst 0, 1) := by decide +kernel
theorem dM_way_28 : decode cM_way 28 = .ok (.ldc2_w 90, 3) := by decide +kernel
theorem dM_way_31 : decode cM_way 31 = .ok (.invokestatic 76, 3) := by decide +kernel
theorem dM_way_34 : decode cM_way 34 = .ok (.ifCond .ne 7, 3) := by decide +kernel
theorem dM_way_37 : decode cM_way 37 = .ok (.iconst 1, 1) := by decide +kernel
theorem dM_way_38 : decode cM_way 38 = .ok (.goto 4, 3) := by decide +kernel
theorem dM_way_41 : decode cM_way 41 = .ok (.iconst 0, 1) := by decide +kernel
theorem dM_way_42 : decode cM_way 42 = .ok (.putfield 69, 3) := by decide +kernel
theorem dM_way_45 : decode cM_way 45 = .ok (.aload_n 0, 1) := by decide +kernel
theorem dM_way_46 : decode cM_way 46 = .ok (.getfield 69, 3) := by decide +kernel
theorem dM_way_49 : decode cM_way 49 = .ok (.ifCond .le 5, 3) := by decide +kernel
theorem dM_way_52 : decode cM_way 52 = .ok (.lconst 0, 1) := by decide +kernel
theorem dM_way_53 : decode cM_way 53 = .ok (.lreturn, 1) := by decide +kernel
theorem dM_way_54 : decode cM_way 54 = .ok (.aload_n 0, 1) := by decide +kernel
theorem dM_way_55 : decode cM_way 55 = .ok (.iconst 0, 1) := by decide +kernel
theorem dM_way_56 : decode cM_way 56 = .ok (.putfield 138, 3) := by decide +kernel
theorem dM_way_59 : decode cM_way 59 = .ok (.aload_n 0, 1) := by decide +kernel
theorem dM_way_60 : decode cM_way 60 = .ok (.iload_n 1, 1) := by decide +kernel
theorem dM_way_61 : decode cM_way 61 = .ok (.iload_n 2, 1) := by decide +kernel
theorem dM_way_62 : decode cM_way 62 = .ok (.iload_n 3, 1) := by decide +kernel
theorem dM_way_63 : decode cM_way 63 = .ok (.lload 4, 2) := by decide +kernel
theorem dM_way_65 : decode cM_way 65 = .ok (.invokevirtual 141, 3) := by decide +kernel
theorem dM_way_68 : decode cM_way 68 = .ok (.lstore 6, 2) := by decide +kernel
theorem dM_way_70 : decode cM_way 70 = .ok (.lload 6, 2) := by decide +kernel
theorem dM_way_72 : decode cM_way 72 = .ok (.lconst 0, 1) := by decide +kernel
theorem dM_way_73 : decode cM_way 73 = .ok (.lcmp, 1) := by decide +kernel
theorem dM_way_74 : decode cM_way 74 = .ok (.ifCond .gt 6, 3) := by decide +kernel
theorem dM_way_77 : decode cM_way 77 = .ok (.lload 6, 2) := by decide +kernel
theorem dM_way_79 : decode cM_way 79 = .ok (.lreturn, 1) := by decide +kernel
theorem dM_way_80 : decode cM_way 80 = .ok (.iconst 0, 1) := by decide +kernel
theorem dM_way_81 : decode cM_way 81 = .ok (.istore 8, 2) := by decide +kernel
theorem dM_way_83 : decode cM_way 83 = .ok (.aload_n 0, 1) := by decide +kernel
theorem dM_way_84 : decode cM_way 84 = .ok (.iload_n 3, 1) := by decide +kernel
theorem dM_way_85 : decode cM_way 85 = .ok (.invokevirtual 131, 3) := by decide +kernel
theorem dM_way_88 : decode cM_way 88 = .ok (.istore 9, 2) := by decide +kernel
theorem dM_way_90 : decode cM_way 90 = .ok (.iload 9, 2) := by decide +kernel
theorem dM_way_92 : decode cM_way 92 = .ok (.iconst (-1), 1) := by decide +kernel
theorem dM_way_93 : decode cM_way 93 = .ok (.if_icmp .eq 21, 3) := by decide +kernel
theorem dM_way_96 : decode cM_way 96 = .ok (.iinc 8 1, 3) := by decide +kernel
theorem dM_way_99 : decode cM_way 99 = .ok (.aload_n 0, 1) := by decide +kernel
theorem dM_way_100 : decode cM_way 100 = .ok (.iload_n 1, 1) := by decide +kernel
theorem dM_way_101 : decode cM_way 101 = .ok (.iload 9, 2) := by decide +kernel
theorem dM_way_103 : decode cM_way 103 = .ok (.iload_n 2, 1) := by decide +kernel
theorem dM_way_104 : decode cM_way 104 = .ok (.lload 4, 2) := by decide +kernel
theorem dM_way_106 : decode cM_way 106 = .ok (.invokevirtual 145, 3) := by decide +kernel
theorem dM_way_109 : decode cM_way 109 = .ok (.istore 9, 2) := by decide +kernel
theorem dM_way_111 : decode cM_way 111 = .ok (.goto (-21), 3) := by decide +kernel
theorem dM_way_114 : decode cM_way 114 = .ok (.aload_n 0, 1) := by decide +kernel
theorem dM_way_115 : decode cM_way 115 = .ok (.iload 8, 2) := by decide +kernel
theorem dM_way_117 : decode cM_way 117 = .ok (.putfield 138, 3) := by decide +kernel
theorem dM_way_120 : decode cM_way 120 = .ok (.aload_n 0, 1) := by decide +kernel
theorem dM_way_121 : decode cM_way 121 = .ok (.iload_n 3, 1) := by decide +kernel
theorem dM_way_122 : decode cM_way 122 = .ok (.invokevirtual 131, 3) := by decide +kernel
theorem dM_way_125 : decode cM_way 125 = .ok (.istore 9, 2) := by decide +kernel
theorem dM_way_127 : decode cM_way 127 = .ok (.iload 9, 2) := by decide +kernel
theorem dM_way_129 : decode cM_way 129 = .ok (.iconst (-1), 1) := by decide +kernel
theorem dM_way_130 : decode cM_way 130 = .ok (.if_icmp .eq 30, 3) := by decide +kernel
theorem dM_way_133 : decode cM_way 133 = .ok (.iinc 8 (-1), 3) := by decide +kernel
theorem dM_way_136 : decode cM_way 136 = .ok (.aload_n 0, 1) := by decide +kernel
theorem dM_way_137 : decode cM_way 137 = .ok (.getfield 51, 3) := by decide +kernel
theorem dM_way_140 : decode cM_way 140 = .ok (.iload 8, 2) := by decide +kernel
theorem dM_way_142 : decode cM_way 142 = .ok (.iload 9, 2) := by decide +kernel
theorem dM_way_144 : decode cM_way 144 = .ok (.iastore, 1) := by decide +kernel
theorem dM_way_145 : decode cM_way 145 = .ok (.aload_n 0, 1) := by decide +kernel
theorem dM_way_146 : decode cM_way 146 = .ok (.iload_n 1, 1) := by decide +kernel
theorem dM_way_147 : decode cM_way 147 = .ok (.iload 9, 2) := by decide +kernel
theorem dM_way_149 : decode cM_way 149 = .ok (.iload_n 2, 1) := by decide +kernel
theorem dM_way_150 : decode cM_way 150 = .ok (.lload 4, 2) := by decide +kernel
theorem dM_way_152 : decode cM_way 152 = .ok (.invokevirtual 145, 3) := by decide +kernel
theorem dM_way_155 : decode cM_way 155 = .ok (.istore 9, 2) := by decide +kernel
theorem dM_way_157 : decode cM_way 157 = .ok (.goto (-30), 3) := by decide +kernel
theorem dM_way_160 : decode cM_way 160 = .ok (.lload 6, 2) := by decide +kernel
theorem dM_way_162 : decode cM_way 162 = .ok (.lreturn, 1) := by decide +kernel
theorem dM_isMover_0 : decode cM_isMover 0 = .ok (.iload_n 1, 1) := by decide +kernel
theorem dM_isMover_1 : decode cM_isMover 1 = .ok (.i2l, 1) := by decide +kernel
theorem dM_isMover_2 : decode cM_isMover 2 = .ok (.lconst 0, 1) := by decide +kernel
theorem dM_isMover_3 : decode cM_isMover 3 = .ok (.aload_n 0, 1) := by decide +kernel
theorem dM_isMover_4 : decode cM_isMover 4 = .ok (.getfield 101, 3) := by decide +kernel
theorem dM_isMover_7 : decode cM_isMover 7 = .ok (.iconst 1, 1) := by decide +kernel
theorem dM_isMover_8 : decode cM_isMover 8 = .ok (.isub, 1) := by decide +kernel
theorem dM_isMover_9 : decode cM_isMover 9 = .ok (.i2l, 1) := by decide +kernel
theorem dM_isMover_10 : decode cM_isMover 10 = .ok (.invokestatic 76, 3) := by decide +kernel
theorem dM_isMover_13 : decode cM_isMover 13 = .ok (.ireturn, 1) := by decide +kernel
theorem dM_least_0 : decode cM_least 0 = .ok (.iload_n 2, 1) := by decide +kernel
theorem dM_least_1 : decode cM_least 1 = .ok (.iload_n 3, 1) := by decide +kernel
theorem dM_least_2 : decode cM_least 2 = .ok (.if_icmp .ne 5, 3) := by decide +kernel
theorem dM_least_5 : decode cM_least 5 = .ok (.lconst 0, 1) := by decide +kernel
theorem dM_least_6 : decode cM_least 6 = .ok (.lreturn, 1) := by decide +kernel
theorem dM_least_7 : decode cM_least 7 = .ok (.aload_n 0, 1) := by decide +kernel
theorem dM_least_8 : decode cM_least 8 = .ok (.iload_n 1, 1) := by decide +kernel
theorem dM_least_9 : decode cM_least 9 = .ok (.iload_n 2, 1) := by decide +kernel
theorem dM_least_10 : decode cM_least 10 = .ok (.lload 4, 2) := by decide +kernel
theorem dM_least_12 : decode cM_least 12 = .ok (.invokevirtual 127, 3) := by decide +kernel
theorem dM_least_15 : decode cM_least 15 = .ok (.aload_n 0, 1) := by decide +kernel
theorem dM_least_16 : decode cM_least 16 = .ok (.iload_n 3, 1) := by decide +kernel
theorem dM_least_17 : decode cM_least 17 = .ok (.invokevirtual 131, 3) := by decide +kernel
theorem dM_least_20 : decode cM_least 20 = .ok (.istore 6, 2) := by decide +kernel
theorem dM_least_22 : decode cM_least 22 = .ok (.iload 6, 2) := by decide +kernel
theorem dM_least_24 : decode cM_least 24 = .ok (.iconst (-1), 1) := by decide +kernel
theorem dM_least_25 : decode cM_least 25 = .ok (.if_icmp .ne 9, 3) := by decide +kernel
theorem dM_least_28 : decode cM_least 28 = .ok (.ldc2_w 118, 3) := by decide +kernel
theorem dM_least_31 : decode cM_least 31 = .ok (.goto 13, 3) := by decide +kernel
theorem dM_least_34 : decode cM_least 34 = .ok (.aload_n 0, 1) := by decide +kernel
theorem dM_least_35 : decode cM_least 35 = .ok (.getfield 48, 3) := by decide +kernel
theorem dM_least_38 : decode cM_least 38 = .ok (.iload 6, 2) := by decide +kernel
theorem dM_least_40 : decode cM_least 40 = .ok (.laload, 1) := by decide +kernel
theorem dM_least_41 : decode cM_least 41 = .ok (.lload 4, 2) := by decide +kernel
theorem dM_least_43 : decode cM_least 43 = .ok (.lsub, 1) := by decide +kernel
theorem dM_least_44 : decode cM_least 44 = .ok (.lreturn, 1) := by decide +kernel
theorem dM_reachAll_0 : decode cM_reachAll 0 = .ok (.iconst 0, 1) := by decide +kernel
theorem dM_reachAll_1 : decode cM_reachAll 1 = .ok (.istore 5, 2) := by decide +kernel
theorem dM_reachAll_3 : decode cM_reachAll 3 = .ok (.iload 5, 2) := by decide +kernel
theorem dM_reachAll_5 : decode cM_reachAll 5 = .ok (.aload_n 0, 1) := by decide +kernel
theorem dM_reachAll_6 : decode cM_reachAll 6 = .ok (.getfield 80, 3) := by decide +kernel
theorem dM_reachAll_9 : decode cM_reachAll 9 = .ok (.if_icmp .ge 50, 3) := by decide +kernel
theorem dM_reachAll_12 : decode cM_reachAll 12 = .ok (.aload_n 0, 1) := by decide +kernel
theorem dM_reachAll_13 : decode cM_reachAll 13 = .ok (.getfield 48, 3) := by decide +kernel
theorem dM_reachAll_16 : decode cM_reachAll 16 = .ok (.iload 5, 2) := by decide +kernel
theorem dM_reachAll_18 : decode cM_reachAll 18 = .ok (.aload_n 0, 1) := by decide +kernel
theorem dM_reachAll_19 : decode cM_reachAll 19 = .ok (.getfield 13, 3) := by decide +kernel
theorem dM_reachAll_22 : decode cM_reachAll 22 = .ok (.iload 5, 2) := by decide +kernel
theorem dM_reachAll_24 : decode cM_reachAll 24 = .ok (.iaload, 1) := by decide +kernel
theorem dM_reachAll_25 : decode cM_reachAll 25 = .ok (.iload_n 2, 1) := by decide +kernel
theorem dM_reachAll_26 : decode cM_reachAll 26 = .ok (.if_icmp .ne 23, 3) := by decide +kernel
theorem dM_reachAll_29 : decode cM_reachAll 29 = .ok (.aload_n 0, 1) := by decide +kernel
theorem dM_reachAll_30 : decode cM_reachAll 30 = .ok (.iload_n 1, 1) := by decide +kernel
theorem dM_reachAll_31 : decode cM_reachAll 31 = .ok (.iload 5, 2) := by decide +kernel
theorem dM_reachAll_33 : decode cM_reachAll 33 = .ok (.invokevirtual 110, 3) := by decide +kernel
theorem dM_reachAll_36 : decode cM_reachAll 36 = .ok (.ifCond .eq 13, 3) := by decide +kernel
theorem dM_reachAll_39 : decode cM_reachAll 39 = .ok (.aload_n 0, 1) := by decide +kernel
theorem dM_reachAll_40 : decode cM_reachAll 40 = .ok (.iload 5, 2) := by decide +kernel
theorem dM_reachAll_42 : decode cM_reachAll 42 = .ok (.lload_n 3, 1) := by decide +kernel
theorem dM_reachAll_43 : decode cM_reachAll 43 = .ok (.invokevirtual 114, 3) := by decide +kernel
theorem dM_reachAll_46 : decode cM_reachAll 46 = .ok (.goto 6, 3) := by decide +kernel
theorem dM_reachAll_49 : decode cM_reachAll 49 = .ok (.ldc2_w 118, 3) := by decide +kernel
theorem dM_reachAll_52 : decode cM_reachAll 52 = .ok (.lastore, 1) := by decide +kernel
theorem dM_reachAll_53 : decode cM_reachAll 53 = .ok (.iinc 5 1, 3) := by decide +kernel
theorem dM_reachAll_56 : decode cM_reachAll 56 = .ok (.goto (-53), 3) := by decide +kernel
theorem dM_reachAll_59 : decode cM_reachAll 59 = .ok (.iconst 1, 1) := by decide +kernel
end
section
theorem dM_reachAll_60 : decode cM_reachAll 60 = .ok (.istore 5, 2) := by decide +kernel
theorem dM_reachAll_62 : decode cM_reachAll 62 = .ok (.iload 5, 2) := by decide +kernel
theorem dM_reachAll_64 : decode cM_reachAll 64 = .ok (.ifCond .eq 69, 3) := by decide +kernel
theorem dM_reachAll_67 : decode cM_reachAll 67 = .ok (.iconst 0, 1) := by decide +kernel
theorem dM_reachAll_68 : decode cM_reachAll 68 = .ok (.istore 5, 2) := by decide +kernel
theorem dM_reachAll_70 : decode cM_reachAll 70 = .ok (.iconst 0, 1) := by decide +kernel
theorem dM_reachAll_71 : decode cM_reachAll 71 = .ok (.istore 6, 2) := by decide +kernel
theorem dM_reachAll_73 : decode cM_reachAll 73 = .ok (.iload 6, 2) := by decide +kernel
theorem dM_reachAll_75 : decode cM_reachAll 75 = .ok (.aload_n 0, 1) := by decide +kernel
theorem dM_reachAll_76 : decode cM_reachAll 76 = .ok (.getfield 80, 3) := by decide +kernel
theorem dM_reachAll_79 : decode cM_reachAll 79 = .ok (.if_icmp .ge 51, 3) := by decide +kernel
theorem dM_reachAll_82 : decode cM_reachAll 82 = .ok (.iconst 0, 1) := by decide +kernel
theorem dM_reachAll_83 : decode cM_reachAll 83 = .ok (.istore 7, 2) := by decide +kernel
theorem dM_reachAll_85 : decode cM_reachAll 85 = .ok (.iload 7, 2) := by decide +kernel
theorem dM_reachAll_87 : decode cM_reachAll 87 = .ok (.aload_n 0, 1) := by decide +kernel
theorem dM_reachAll_88 : decode cM_reachAll 88 = .ok (.getfield 80, 3) := by decide +kernel
theorem dM_reachAll_91 : decode cM_reachAll 91 = .ok (.if_icmp .ge 33, 3) := by decide +kernel
theorem dM_reachAll_94 : decode cM_reachAll 94 = .ok (.aload_n 0, 1) := by decide +kernel
theorem dM_reachAll_95 : decode cM_reachAll 95 = .ok (.iload_n 1, 1) := by decide +kernel
theorem dM_reachAll_96 : decode cM_reachAll 96 = .ok (.iload 6, 2) := by decide +kernel
theorem dM_reachAll_98 : decode cM_reachAll 98 = .ok (.iload 7, 2) := by decide +kernel
theorem dM_reachAll_100 : decode cM_reachAll 100 = .ok (.invokevirtual 120, 3) := by decide +kernel
theorem dM_reachAll_103 : decode cM_reachAll 103 = .ok (.ifCond .ne 8, 3) := by decide +kernel
theorem dM_reachAll_106 : decode cM_reachAll 106 = .ok (.iload 5, 2) := by decide +kernel
theorem dM_reachAll_108 : decode cM_reachAll 108 = .ok (.ifCond .eq 7, 3) := by decide +kernel
theorem dM_reachAll_111 : decode cM_reachAll 111 = .ok (.iconst 1, 1) := by decide +kernel
theorem dM_reachAll_112 : decode cM_reachAll 112 = .ok (.goto 4, 3) := by decide +kernel
theorem dM_reachAll_115 : decode cM_reachAll 115 = .ok (.iconst 0, 1) := by decide +kernel
theorem dM_reachAll_116 : decode cM_reachAll 116 = .ok (.istore 5, 2) := by decide +kernel
theorem dM_reachAll_118 : decode cM_reachAll 118 = .ok (.iinc 7 1, 3) := by decide +kernel
theorem dM_reachAll_121 : decode cM_reachAll 121 = .ok (.goto (-36), 3) := by decide +kernel
theorem dM_reachAll_124 : decode cM_reachAll 124 = .ok (.iinc 6 1, 3) := by decide +kernel
theorem dM_reachAll_127 : decode cM_reachAll 127 = .ok (.goto (-54), 3) := by decide +kernel
theorem dM_reachAll_130 : decode cM_reachAll 130 = .ok (.goto (-68), 3) := by decide +kernel
theorem dM_reachAll_133 : decode cM_reachAll 133 = .ok (.return_, 1) := by decide +kernel
theorem dM_mayUse_0 : decode cM_mayUse 0 = .ok (.aload_n 0, 1) := by decide +kernel
theorem dM_mayUse_1 : decode cM_mayUse 1 = .ok (.getfield 29, 3) := by decide +kernel
theorem dM_mayUse_4 : decode cM_mayUse 4 = .ok (.iload_n 2, 1) := by decide +kernel
theorem dM_mayUse_5 : decode cM_mayUse 5 = .ok (.baload, 1) := by decide +kernel
theorem dM_mayUse_6 : decode cM_mayUse 6 = .ok (.ifCond .ne 46, 3) := by decide +kernel
theorem dM_mayUse_9 : decode cM_mayUse 9 = .ok (.aload_n 0, 1) := by decide +kernel
theorem dM_mayUse_10 : decode cM_mayUse 10 = .ok (.getfield 33, 3) := by decide +kernel
theorem dM_mayUse_13 : decode cM_mayUse 13 = .ok (.iload_n 2, 1) := by decide +kernel
theorem dM_mayUse_14 : decode cM_mayUse 14 = .ok (.iaload, 1) := by decide +kernel
theorem dM_mayUse_15 : decode cM_mayUse 15 = .ok (.ifCond .eq 37, 3) := by decide +kernel
theorem dM_mayUse_18 : decode cM_mayUse 18 = .ok (.aload_n 0, 1) := by decide +kernel
theorem dM_mayUse_19 : decode cM_mayUse 19 = .ok (.getfield 23, 3) := by decide +kernel
theorem dM_mayUse_22 : decode cM_mayUse 22 = .ok (.iload_n 2, 1) := by decide +kernel
theorem dM_mayUse_23 : decode cM_mayUse 23 = .ok (.iaload, 1) := by decide +kernel
theorem dM_mayUse_24 : decode cM_mayUse 24 = .ok (.aload_n 0, 1) := by decide +kernel
theorem dM_mayUse_25 : decode cM_mayUse 25 = .ok (.getfield 39, 3) := by decide +kernel
theorem dM_mayUse_28 : decode cM_mayUse 28 = .ok (.iload_n 1, 1) := by decide +kernel
theorem dM_mayUse_29 : decode cM_mayUse 29 = .ok (.iaload, 1) := by decide +kernel
theorem dM_mayUse_30 : decode cM_mayUse 30 = .ok (.if_icmp .lt 22, 3) := by decide +kernel
theorem dM_mayUse_33 : decode cM_mayUse 33 = .ok (.aload_n 0, 1) := by decide +kernel
theorem dM_mayUse_34 : decode cM_mayUse 34 = .ok (.getfield 26, 3) := by decide +kernel
theorem dM_mayUse_37 : decode cM_mayUse 37 = .ok (.iload_n 2, 1) := by decide +kernel
theorem dM_mayUse_38 : decode cM_mayUse 38 = .ok (.iaload, 1) := by decide +kernel
theorem dM_mayUse_39 : decode cM_mayUse 39 = .ok (.aload_n 0, 1) := by decide +kernel
theorem dM_mayUse_40 : decode cM_mayUse 40 = .ok (.getfield 42, 3) := by decide +kernel
theorem dM_mayUse_43 : decode cM_mayUse 43 = .ok (.iload_n 1, 1) := by decide +kernel
theorem dM_mayUse_44 : decode cM_mayUse 44 = .ok (.iaload, 1) := by decide +kernel
theorem dM_mayUse_45 : decode cM_mayUse 45 = .ok (.if_icmp .lt 7, 3) := by decide +kernel
theorem dM_mayUse_48 : decode cM_mayUse 48 = .ok (.iconst 1, 1) := by decide +kernel
theorem dM_mayUse_49 : decode cM_mayUse 49 = .ok (.goto 4, 3) := by decide +kernel
theorem dM_mayUse_52 : decode cM_mayUse 52 = .ok (.iconst 0, 1) := by decide +kernel
theorem dM_mayUse_53 : decode cM_mayUse 53 = .ok (.ireturn, 1) := by decide +kernel
theorem dM_use_0 : decode cM_use 0 = .ok (.lload_n 2, 1) := by decide +kernel
theorem dM_use_1 : decode cM_use 1 = .ok (.lstore 4, 2) := by decide +kernel
theorem dM_use_3 : decode cM_use 3 = .ok (.aload_n 0, 1) := by decide +kernel
theorem dM_use_4 : decode cM_use 4 = .ok (.getfield 33, 3) := by decide +kernel
theorem dM_use_7 : decode cM_use 7 = .ok (.iload_n 1, 1) := by decide +kernel
theorem dM_use_8 : decode cM_use 8 = .ok (.iaload, 1) := by decide +kernel
theorem dM_use_9 : decode cM_use 9 = .ok (.lload 4, 2) := by decide +kernel
theorem dM_use_11 : decode cM_use 11 = .ok (.ldc2_w 106, 3) := by decide +kernel
theorem dM_use_14 : decode cM_use 14 = .ok (.ldiv, 1) := by decide +kernel
theorem dM_use_15 : decode cM_use 15 = .ok (.ldc2_w 108, 3) := by decide +kernel
theorem dM_use_18 : decode cM_use 18 = .ok (.lrem, 1) := by decide +kernel
theorem dM_use_19 : decode cM_use 19 = .ok (.l2i, 1) := by decide +kernel
theorem dM_use_20 : decode cM_use 20 = .ok (.ishr, 1) := by decide +kernel
theorem dM_use_21 : decode cM_use 21 = .ok (.iconst 1, 1) := by decide +kernel
theorem dM_use_22 : decode cM_use 22 = .ok (.iand, 1) := by decide +kernel
theorem dM_use_23 : decode cM_use 23 = .ok (.ifCond .ne 20, 3) := by decide +kernel
theorem dM_use_26 : decode cM_use 26 = .ok (.lload 4, 2) := by decide +kernel
theorem dM_use_28 : decode cM_use 28 = .ok (.ldc2_w 106, 3) := by decide +kernel
theorem dM_use_31 : decode cM_use 31 = .ok (.ldiv, 1) := by decide +kernel
theorem dM_use_32 : decode cM_use 32 = .ok (.lconst 1, 1) := by decide +kernel
theorem dM_use_33 : decode cM_use 33 = .ok (.ladd, 1) := by decide +kernel
theorem dM_use_34 : decode cM_use 34 = .ok (.ldc2_w 106, 3) := by decide +kernel
theorem dM_use_37 : decode cM_use 37 = .ok (.lmul, 1) := by decide +kernel
theorem dM_use_38 : decode cM_use 38 = .ok (.lstore 4, 2) := by decide +kernel
theorem dM_use_40 : decode cM_use 40 = .ok (.goto (-37), 3) := by decide +kernel
theorem dM_use_43 : decode cM_use 43 = .ok (.lload 4, 2) := by decide +kernel
theorem dM_use_45 : decode cM_use 45 = .ok (.aload_n 0, 1) := by decide +kernel
theorem dM_use_46 : decode cM_use 46 = .ok (.getfield 19, 3) := by decide +kernel
theorem dM_use_49 : decode cM_use 49 = .ok (.iload_n 1, 1) := by decide +kernel
theorem dM_use_50 : decode cM_use 50 = .ok (.laload, 1) := by decide +kernel
theorem dM_use_51 : decode cM_use 51 = .ok (.ladd, 1) := by decide +kernel
theorem dM_use_52 : decode cM_use 52 = .ok (.lreturn, 1) := by decide +kernel
theorem dM_lower_0 : decode cM_lower 0 = .ok (.aload_n 0, 1) := by decide +kernel
theorem dM_lower_1 : decode cM_lower 1 = .ok (.getfield 48, 3) := by decide +kernel
theorem dM_lower_4 : decode cM_lower 4 = .ok (.iload_n 2, 1) := by decide +kernel
theorem dM_lower_5 : decode cM_lower 5 = .ok (.laload, 1) := by decide +kernel
theorem dM_lower_6 : decode cM_lower 6 = .ok (.ldc2_w 118, 3) := by decide +kernel
theorem dM_lower_9 : decode cM_lower 9 = .ok (.lcmp, 1) := by decide +kernel
theorem dM_lower_10 : decode cM_lower 10 = .ok (.ifCond .eq 21, 3) := by decide +kernel
theorem dM_lower_13 : decode cM_lower 13 = .ok (.aload_n 0, 1) := by decide +kernel
theorem dM_lower_14 : decode cM_lower 14 = .ok (.iload_n 2, 1) := by decide +kernel
theorem dM_lower_15 : decode cM_lower 15 = .ok (.iload_n 3, 1) := by decide +kernel
theorem dM_lower_16 : decode cM_lower 16 = .ok (.invokevirtual 124, 3) := by decide +kernel
theorem dM_lower_19 : decode cM_lower 19 = .ok (.ifCond .eq 12, 3) := by decide +kernel
theorem dM_lower_22 : decode cM_lower 22 = .ok (.aload_n 0, 1) := by decide +kernel
theorem dM_lower_23 : decode cM_lower 23 = .ok (.iload_n 1, 1) := by decide +kernel
theorem dM_lower_24 : decode cM_lower 24 = .ok (.iload_n 3, 1) := by decide +kernel
theorem dM_lower_25 : decode cM_lower 25 = .ok (.invokevirtual 110, 3) := by decide +kernel
theorem dM_lower_28 : decode cM_lower 28 = .ok (.ifCond .ne 5, 3) := by decide +kernel
theorem dM_lower_31 : decode cM_lower 31 = .ok (.iconst 0, 1) := by decide +kernel
theorem dM_lower_32 : decode cM_lower 32 = .ok (.ireturn, 1) := by decide +kernel
theorem dM_lower_33 : decode cM_lower 33 = .ok (.aload_n 0, 1) := by decide +kernel
theorem dM_lower_34 : decode cM_lower 34 = .ok (.iload_n 3, 1) := by decide +kernel
theorem dM_lower_35 : decode cM_lower 35 = .ok (.aload_n 0, 1) := by decide +kernel
theorem dM_lower_36 : decode cM_lower 36 = .ok (.getfield 48, 3) := by decide +kernel
theorem dM_lower_39 : decode cM_lower 39 = .ok (.iload_n 2, 1) := by decide +kernel
theorem dM_lower_40 : decode cM_lower 40 = .ok (.laload, 1) := by decide +kernel
theorem dM_lower_41 : decode cM_lower 41 = .ok (.invokevirtual 114, 3) := by decide +kernel
theorem dM_lower_44 : decode cM_lower 44 = .ok (.lstore 4, 2) := by decide +kernel
theorem dM_lower_46 : decode cM_lower 46 = .ok (.aload_n 0, 1) := by decide +kernel
theorem dM_lower_47 : decode cM_lower 47 = .ok (.getfield 48, 3) := by decide +kernel
theorem dM_lower_50 : decode cM_lower 50 = .ok (.iload_n 3, 1) := by decide +kernel
theorem dM_lower_51 : decode cM_lower 51 = .ok (.laload, 1) := by decide +kernel
theorem dM_lower_52 : decode cM_lower 52 = .ok (.ldc2_w 118, 3) := by decide +kernel
theorem dM_lower_55 : decode cM_lower 55 = .ok (.lcmp, 1) := by decide +kernel
theorem dM_lower_56 : decode cM_lower 56 = .ok (.ifCond .eq 17, 3) := by decide +kernel
theorem dM_lower_59 : decode cM_lower 59 = .ok (.aload_n 0, 1) := by decide +kernel
theorem dM_lower_60 : decode cM_lower 60 = .ok (.getfield 48, 3) := by decide +kernel
theorem dM_lower_63 : decode cM_lower 63 = .ok (.iload_n 3, 1) := by decide +kernel
theorem dM_lower_64 : decode cM_lower 64 = .ok (.laload, 1) := by decide +kernel
theorem dM_lower_65 : decode cM_lower 65 = .ok (.lload 4, 2) := by decide +kernel
theorem dM_lower_67 : decode cM_lower 67 = .ok (.lcmp, 1) := by decide +kernel
theorem dM_lower_68 : decode cM_lower 68 = .ok (.ifCond .gt 5, 3) := by decide +kernel
theorem dM_lower_71 : decode cM_lower 71 = .ok (.iconst 0, 1) := by decide +kernel
theorem dM_lower_72 : decode cM_lower 72 = .ok (.ireturn, 1) := by decide +kernel
theorem dM_lower_73 : decode cM_lower 73 = .ok (.aload_n 0, 1) := by decide +kernel
theorem dM_lower_74 : decode cM_lower 74 = .ok (.getfield 48, 3) := by decide +kernel
theorem dM_lower_77 : decode cM_lower 77 = .ok (.iload_n 3, 1) := by decide +kernel
theorem dM_lower_78 : decode cM_lower 78 = .ok (.lload 4, 2) := by decide +kernel
theorem dM_lower_80 : decode cM_lower 80 = .ok (.lastore, 1) := by decide +kernel
theorem dM_lower_81 : decode cM_lower 81 = .ok (.iconst 1, 1) := by decide +kernel
theorem dM_lower_82 : decode cM_lower 82 = .ok (.ireturn, 1) := by decide +kernel
theorem dM_follows_0 : decode cM_follows 0 = .ok (.aload_n 0, 1) := by decide +kernel
theorem dM_follows_1 : decode cM_follows 1 = .ok (.getfield 16, 3) := by decide +kernel
theorem dM_follows_4 : decode cM_follows 4 = .ok (.iload_n 1, 1) := by decide +kernel
theorem dM_follows_5 : decode cM_follows 5 = .ok (.iaload, 1) := by decide +kernel
theorem dM_follows_6 : decode cM_follows 6 = .ok (.aload_n 0, 1) := by decide +kernel
theorem dM_follows_7 : decode cM_follows 7 = .ok (.getfield 13, 3) := by decide +kernel
theorem dM_follows_10 : decode cM_follows 10 = .ok (.iload_n 2, 1) := by decide +kernel
theorem dM_follows_11 : decode cM_follows 11 = .ok (.iaload, 1) := by decide +kernel
theorem dM_follows_12 : decode cM_follows 12 = .ok (.if_icmp .ne 21, 3) := by decide +kernel
theorem dM_follows_15 : decode cM_follows 15 = .ok (.aload_n 0, 1) := by decide +kernel
theorem dM_follows_16 : decode cM_follows 16 = .ok (.getfield 36, 3) := by decide +kernel
theorem dM_follows_19 : decode cM_follows 19 = .ok (.bipush 40, 2) := by decide +kernel
theorem dM_follows_21 : decode cM_follows 21 = .ok (.iload_n 1, 1) := by decide +kernel
theorem dM_follows_22 : decode cM_follows 22 = .ok (.imul, 1) := by decide +kernel
theorem dM_follows_23 : decode cM_follows 23 = .ok (.iload_n 2, 1) := by decide +kernel
theorem dM_follows_24 : decode cM_follows 24 = .ok (.iadd, 1) := by decide +kernel
theorem dM_follows_25 : decode cM_follows 25 = .ok (.baload, 1) := by decide +kernel
theorem dM_follows_26 : decode cM_follows 26 = .ok (.ifCond .ne 7, 3) := by decide +kernel
theorem dM_follows_29 : decode cM_follows 29 = .ok (.iconst 1, 1) := by decide +kernel
theorem dM_follows_30 : decode cM_follows 30 = .ok (.goto 4, 3) := by decide +kernel
theorem dM_follows_33 : decode cM_follows 33 = .ok (.iconst 0, 1) := by decide +kernel
theorem dM_follows_34 : decode cM_follows 34 = .ok (.ireturn, 1) := by decide +kernel
theorem dM_lastTo_0 : decode cM_lastTo 0 = .ok (.iconst (-1), 1) := by decide +kernel
theorem dM_lastTo_1 : decode cM_lastTo 1 = .ok (.istore_n 2, 1) := by decide +kernel
theorem dM_lastTo_2 : decode cM_lastTo 2 = .ok (.iconst 0, 1) := by decide +kernel
theorem dM_lastTo_3 : decode cM_lastTo 3 = .ok (.istore_n 3, 1) := by decide +kernel
theorem dM_lastTo_4 : decode cM_lastTo 4 = .ok (.iload_n 3, 1) := by decide +kernel
theorem dM_lastTo_5 : decode cM_lastTo 5 = .ok (.aload_n 0, 1) := by decide +kernel
theorem dM_lastTo_6 : decode cM_lastTo 6 = .ok (.getfield 80, 3) := by decide +kernel
theorem dM_lastTo_9 : decode cM_lastTo 9 = .ok (.if_icmp .ge 55, 3) := by decide +kernel
theorem dM_lastTo_12 : decode cM_lastTo 12 = .ok (.aload_n 0, 1) := by decide +kernel
theorem dM_lastTo_13 : decode cM_lastTo 13 = .ok (.getfield 16, 3) := by decide +kernel
theorem dM_lastTo_16 : decode cM_lastTo 16 = .ok (.iload_n 3, 1) := by decide +kernel
theorem dM_lastTo_17 : decode cM_lastTo 17 = .ok (.iaload, 1) := by decide +kernel
theorem dM_lastTo_18 : decode cM_lastTo 18 = .ok (.iload_n 1, 1) := by decide +kernel
theorem dM_lastTo_19 : decode cM_lastTo 19 = .ok (.if_icmp .ne 39, 3) := by decide +kernel
theorem dM_lastTo_22 : decode cM_lastTo 22 = .ok (.aload_n 0, 1) := by decide +kernel
theorem dM_lastTo_23 : decode cM_lastTo 23 = .ok (.getfield 48, 3) := by decide +kernel
theorem dM_lastTo_26 : decode cM_lastTo 26 = .ok (.iload_n 3, 1) := by decide +kernel
theorem dM_lastTo_27 : decode cM_lastTo 27 = .ok (.laload, 1) := by decide +kernel
theorem dM_lastTo_28 : decode cM_lastTo 28 = .ok (.ldc2_w 118, 3) := by decide +kernel
theorem dM_lastTo_31 : decode cM_lastTo 31 = .ok (.lcmp, 1) := by decide +kernel
theorem dM_lastTo_32 : decode cM_lastTo 32 = .ok (.ifCond .eq 26, 3) := by decide +kernel
theorem dM_lastTo_35 : decode cM_lastTo 35 = .ok (.iload_n 2, 1) := by decide +kernel
theorem dM_lastTo_36 : decode cM_lastTo 36 = .ok (.iconst (-1), 1) := by decide +kernel
theorem dM_lastTo_37 : decode cM_lastTo 37 = .ok (.if_icmp .eq 19, 3) := by decide +kernel
theorem dM_lastTo_40 : decode cM_lastTo 40 = .ok (.aload_n 0, 1) := by decide +kernel
theorem dM_lastTo_41 : decode cM_lastTo 41 = .ok (.getfield 48, 3) := by decide +kernel
theorem dM_lastTo_44 : decode cM_lastTo 44 = .ok (.iload_n 3, 1) := by decide +kernel
theorem dM_lastTo_45 : decode cM_lastTo 45 = .ok (.laload, 1) := by decide +kernel
theorem dM_lastTo_46 : decode cM_lastTo 46 = .ok (.aload_n 0, 1) := by decide +kernel
theorem dM_lastTo_47 : decode cM_lastTo 47 = .ok (.getfield 48, 3) := by decide +kernel
theorem dM_lastTo_50 : decode cM_lastTo 50 = .ok (.iload_n 2, 1) := by decide +kernel
theorem dM_lastTo_51 : decode cM_lastTo 51 = .ok (.laload, 1) := by decide +kernel
theorem dM_lastTo_52 : decode cM_lastTo 52 = .ok (.lcmp, 1) := by decide +kernel
theorem dM_lastTo_53 : decode cM_lastTo 53 = .ok (.ifCond .ge 5, 3) := by decide +kernel
theorem dM_lastTo_56 : decode cM_lastTo 56 = .ok (.iload_n 3, 1) := by decide +kernel
theorem dM_lastTo_57 : decode cM_lastTo 57 = .ok (.istore_n 2, 1) := by decide +kernel
theorem dM_lastTo_58 : decode cM_lastTo 58 = .ok (.iinc 3 1, 3) := by decide +kernel
theorem dM_lastTo_61 : decode cM_lastTo 61 = .ok (.goto (-57), 3) := by decide +kernel
theorem dM_lastTo_64 : decode cM_lastTo 64 = .ok (.iload_n 2, 1) := by decide +kernel
theorem dM_lastTo_65 : decode cM_lastTo 65 = .ok (.ireturn, 1) := by decide +kernel
theorem dM_before_0 : decode cM_before 0 = .ok (.aload_n 0, 1) := by decide +kernel
theorem dM_before_1 : decode cM_before 1 = .ok (.getfield 13, 3) := by decide +kernel
theorem dM_before_4 : decode cM_before 4 = .ok (.iload_n 2, 1) := by decide +kernel
theorem dM_before_5 : decode cM_before 5 = .ok (.iaload, 1) := by decide +kernel
theorem dM_before_6 : decode cM_before 6 = .ok (.iload_n 3, 1) := by decide +kernel
theorem dM_before_7 : decode cM_before 7 = .ok (.if_icmp .ne 22, 3) := by decide +kernel
theorem dM_before_10 : decode cM_before 10 = .ok (.aload_n 0, 1) := by decide +kernel
theorem dM_before_11 : decode cM_before 11 = .ok (.iload_n 2, 1) := by decide +kernel
theorem dM_before_12 : decode cM_before 12 = .ok (.lload 4, 2) := by decide +kernel
theorem dM_before_14 : decode cM_before 14 = .ok (.invokevirtual 114, 3) := by decide +kernel
theorem dM_before_17 : decode cM_before 17 = .ok (.aload_n 0, 1) := by decide +kernel
theorem dM_before_18 : decode cM_before 18 = .ok (.getfield 48, 3) := by decide +kernel
theorem dM_before_21 : decode cM_before 21 = .ok (.iload_n 2, 1) := by decide +kernel
theorem dM_before_22 : decode cM_before 22 = .ok (.laload, 1) := by decide +kernel
theorem dM_before_23 : decode cM_before 23 = .ok (.lcmp, 1) := by decide +kernel
theorem dM_before_24 : decode cM_before 24 = .ok (.ifCond .ne 5, 3) := by decide +kernel
theorem dM_before_27 : decode cM_before 27 = .ok (.iconst (-1), 1) := by decide +kernel
theorem dM_before_28 : decode cM_before 28 = .ok (.ireturn, 1) := by decide +kernel
theorem dM_before_29 : decode cM_before 29 = .ok (.iconst 0, 1) := by decide +kernel
theorem dM_before_30 : decode cM_before 30 = .ok (.istore 6, 2) := by decide +kernel
theorem dM_before_32 : decode cM_before 32 = .ok (.aload_n 0, 1) := by decide +kernel
theorem dM_before_33 : decode cM_before 33 = .ok (.getfield 48, 3) := by decide +kernel
theorem dM_before_36 : decode cM_before 36 = .ok (.iload 6, 2) := by decide +kernel
theorem dM_before_38 : decode cM_before 38 = .ok (.laload, 1) := by decide +kernel
theorem dM_before_39 : decode cM_before 39 = .ok (.ldc2_w 118, 3) := by decide +kernel
theorem dM_before_42 : decode cM_before 42 = .ok (.lcmp, 1) := by decide +kernel
theorem dM_before_43 : decode cM_before 43 = .ok (.ifCond .eq 35, 3) := by decide +kernel
theorem dM_before_46 : decode cM_before 46 = .ok (.aload_n 0, 1) := by decide +kernel
theorem dM_before_47 : decode cM_before 47 = .ok (.iload 6, 2) := by decide +kernel
theorem dM_before_49 : decode cM_before 49 = .ok (.iload_n 2, 1) := by decide +kernel
theorem dM_before_50 : decode cM_before 50 = .ok (.invokevirtual 124, 3) := by decide +kernel
theorem dM_before_53 : decode cM_before 53 = .ok (.ifCond .eq 25, 3) := by decide +kernel
theorem dM_before_56 : decode cM_before 56 = .ok (.aload_n 0, 1) := by decide +kernel
theorem dM_before_57 : decode cM_before 57 = .ok (.iload_n 2, 1) := by decide +kernel
theorem dM_before_58 : decode cM_before 58 = .ok (.aload_n 0, 1) := by decide +kernel
theorem dM_before_59 : decode cM_before 59 = .ok (.getfield 48, 3) := by decide +kernel
theorem dM_before_62 : decode cM_before 62 = .ok (.iload 6, 2) := by decide +kernel
theorem dM_before_64 : decode cM_before 64 = .ok (.laload, 1) := by decide +kernel
theorem dM_before_65 : decode cM_before 65 = .ok (.invokevirtual 114, 3) := by decide +kernel
theorem dM_before_68 : decode cM_before 68 = .ok (.aload_n 0, 1) := by decide +kernel
theorem dM_before_69 : decode cM_before 69 = .ok (.getfield 48, 3) := by decide +kernel
theorem dM_before_72 : decode cM_before 72 = .ok (.iload_n 2, 1) := by decide +kernel
theorem dM_before_73 : decode cM_before 73 = .ok (.laload, 1) := by decide +kernel
theorem dM_before_74 : decode cM_before 74 = .ok (.lcmp, 1) := by decide +kernel
theorem dM_before_75 : decode cM_before 75 = .ok (.ifCond .eq 9, 3) := by decide +kernel
theorem dM_before_78 : decode cM_before 78 = .ok (.iinc 6 1, 3) := by decide +kernel
theorem dM_before_81 : decode cM_before 81 = .ok (.goto (-49), 3) := by decide +kernel
theorem dM_before_84 : decode cM_before 84 = .ok (.iload 6, 2) := by decide +kernel
theorem dM_before_86 : decode cM_before 86 = .ok (.ireturn, 1) := by decide +kernel
theorem dM_step_0 : decode cM_step 0 = .ok (.aload_n 0, 1) := by decide +kernel
theorem dM_step_1 : decode cM_step 1 = .ok (.iconst 0, 1) := by decide +kernel
theorem dM_step_2 : decode cM_step 2 = .ok (.putfield 69, 3) := by decide +kernel
theorem dM_step_5 : decode cM_step 5 = .ok (.iload_n 1, 1) := by decide +kernel
theorem dM_step_6 : decode cM_step 6 = .ok (.i2l, 1) := by decide +kernel
theorem dM_step_7 : decode cM_step 7 = .ok (.lconst 0, 1) := by decide +kernel
theorem dM_step_8 : decode cM_step 8 = .ok (.aload_n 0, 1) := by decide +kernel
theorem dM_step_9 : decode cM_step 9 = .ok (.getfield 138, 3) := by decide +kernel
theorem dM_step_12 : decode cM_step 12 = .ok (.iconst 1, 1) := by decide +kernel
theorem dM_step_13 : decode cM_step 13 = .ok (.isub, 1) := by decide +kernel
theorem dM_step_14 : decode cM_step 14 = .ok (.i2l, 1) := by decide +kernel
theorem dM_step_15 : decode cM_step 15 = .ok (.invokestatic 76, 3) := by decide +kernel
theorem dM_step_18 : decode cM_step 18 = .ok (.ifCond .eq 12, 3) := by decide +kernel
theorem dM_step_21 : decode cM_step 21 = .ok (.aload_n 0, 1) := by decide +kernel
theorem dM_step_22 : decode cM_step 22 = .ok (.getfield 51, 3) := by decide +kernel
theorem dM_step_25 : decode cM_step 25 = .ok (.iload_n 1, 1) := by decide +kernel
theorem dM_step_26 : decode cM_step 26 = .ok (.iaload, 1) := by decide +kernel
theorem dM_step_27 : decode cM_step 27 = .ok (.goto 4, 3) := by decide +kernel
theorem dM_step_30 : decode cM_step 30 = .ok (.iconst (-1), 1) := by decide +kernel
theorem dM_step_31 : decode cM_step 31 = .ok (.ireturn, 1) := by decide +kernel
theorem dM_reaches_0 : decode cM_reaches 0 = .ok (.aload_n 0, 1) := by decide +kernel
theorem dM_reaches_1 : decode cM_reaches 1 = .ok (.aload_n 0, 1) := by decide +kernel
theorem dM_reaches_2 : decode cM_reaches 2 = .ok (.iload_n 1, 1) := by decide +kernel
theorem dM_reaches_3 : decode cM_reaches 3 = .ok (.invokevirtual 135, 3) := by decide +kernel
theorem dM_reaches_6 : decode cM_reaches 6 = .ok (.ifCond .eq 19, 3) := by decide +kernel
theorem dM_reaches_9 : decode cM_reaches 9 = .ok (.aload_n 0, 1) := by decide +kernel
theorem dM_reaches_10 : decode cM_reaches 10 = .ok (.iload_n 2, 1) := by decide +kernel
theorem dM_reaches_11 : decode cM_reaches 11 = .ok (.invokevirtual 86, 3) := by decide +kernel
theorem dM_reaches_14 : decode cM_reaches 14 = .ok (.ifCond .eq 11, 3) := by decide +kernel
theorem dM_reaches_17 : decode cM_reaches 17 = .ok (.aload_n 0, 1) := by decide +kernel
theorem dM_reaches_18 : decode cM_reaches 18 = .ok (.iload_n 3, 1) := by decide +kernel
theorem dM_reaches_19 : decode cM_reaches 19 = .ok (.invokevirtual 86, 3) := by decide +kernel
theorem dM_reaches_22 : decode cM_reaches 22 = .ok (.ifCond .ne 7, 3) := by decide +kernel
theorem dM_reaches_25 : decode cM_reaches 25 = .ok (.iconst 1, 1) := by decide +kernel
theorem dM_reaches_26 : decode cM_reaches 26 = .ok (.goto 4, 3) := by decide +kernel
theorem dM_reaches_29 : decode cM_reaches 29 = .ok (.iconst 0, 1) := by decide +kernel
theorem dM_reaches_30 : decode cM_reaches 30 = .ok (.putfield 69, 3) := by decide +kernel
theorem dM_reaches_33 : decode cM_reaches 33 = .ok (.aload_n 0, 1) := by decide +kernel
theorem dM_reaches_34 : decode cM_reaches 34 = .ok (.getfield 69, 3) := by decide +kernel
theorem dM_reaches_37 : decode cM_reaches 37 = .ok (.ifCond .ne 22, 3) := by decide +kernel
theorem dM_reaches_40 : decode cM_reaches 40 = .ok (.aload_n 0, 1) := by decide +kernel
theorem dM_reaches_41 : decode cM_reaches 41 = .ok (.iload_n 1, 1) := by decide +kernel
theorem dM_reaches_42 : decode cM_reaches 42 = .ok (.iload_n 2, 1) := by decide +kernel
theorem dM_reaches_43 : decode cM_reaches 43 = .ok (.iload_n 3, 1) := by decide +kernel
theorem dM_reaches_44 : decode cM_reaches 44 = .ok (.lconst 0, 1) := by decide +kernel
theorem dM_reaches_45 : decode cM_reaches 45 = .ok (.invokevirtual 141, 3) := by decide +kernel
theorem dM_reaches_48 : decode cM_reaches 48 = .ok (.ldc2_w 118, 3) := by decide +kernel
theorem dM_reaches_51 : decode cM_reaches 51 = .ok (.lcmp, 1) := by decide +kernel
theorem dM_reaches_52 : decode cM_reaches 52 = .ok (.ifCond .eq 7, 3) := by decide +kernel
theorem dM_reaches_55 : decode cM_reaches 55 = .ok (.iconst 1, 1) := by decide +kernel
theorem dM_reaches_56 : decode cM_reaches 56 = .ok (.goto 4, 3) := by decide +kernel
theorem dM_reaches_59 : decode cM_reaches 59 = .ok (.iconst 0, 1) := by decide +kernel
theorem dM_reaches_60 : decode cM_reaches 60 = .ok (.ireturn, 1) := by decide +kernel
theorem dM_mark_0 : decode cM_mark 0 = .ok (.iconst 0, 1) := by decide +kernel
theorem dM_mark_1 : decode cM_mark 1 = .ok (.istore_n 2, 1) := by decide +kernel
theorem dM_mark_2 : decode cM_mark 2 = .ok (.iconst 0, 1) := by decide +kernel
theorem dM_mark_3 : decode cM_mark 3 = .ok (.istore_n 3, 1) := by decide +kernel
theorem dM_mark_4 : decode cM_mark 4 = .ok (.iload_n 3, 1) := by decide +kernel
theorem dM_mark_5 : decode cM_mark 5 = .ok (.aload_n 0, 1) := by decide +kernel
theorem dM_mark_6 : decode cM_mark 6 = .ok (.getfield 149, 3) := by decide +kernel
theorem dM_mark_9 : decode cM_mark 9 = .ok (.if_icmp .ge 29, 3) := by decide +kernel
theorem dM_mark_12 : decode cM_mark 12 = .ok (.iload_n 2, 1) := by decide +kernel
theorem dM_mark_13 : decode cM_mark 13 = .ok (.ifCond .ne 13, 3) := by decide +kernel
theorem dM_mark_16 : decode cM_mark 16 = .ok (.aload_n 0, 1) := by decide +kernel
theorem dM_mark_17 : decode cM_mark 17 = .ok (.getfield 45, 3) := by decide +kernel
theorem dM_mark_20 : decode cM_mark 20 = .ok (.iload_n 3, 1) := by decide +kernel
theorem dM_mark_21 : decode cM_mark 21 = .ok (.iaload, 1) := by decide +kernel
theorem dM_mark_22 : decode cM_mark 22 = .ok (.iload_n 1, 1) := by decide +kernel
theorem dM_mark_23 : decode cM_mark 23 = .ok (.if_icmp .ne 7, 3) := by decide +kernel
theorem dM_mark_26 : decode cM_mark 26 = .ok (.iconst 1, 1) := by decide +kernel
theorem dM_mark_27 : decode cM_mark 27 = .ok (.goto 4, 3) := by decide +kernel
theorem dM_mark_30 : decode cM_mark 30 = .ok (.iconst 0, 1) := by decide +kernel
theorem dM_mark_31 : decode cM_mark 31 = .ok (.istore_n 2, 1) := by decide +kernel
theorem dM_mark_32 : decode cM_mark 32 = .ok (.iinc 3 1, 3) := by decide +kernel
theorem dM_mark_35 : decode cM_mark 35 = .ok (.goto (-31), 3) := by decide +kernel
theorem dM_mark_38 : decode cM_mark 38 = .ok (.aload_n 0, 1) := by decide +kernel
theorem dM_mark_39 : decode cM_mark 39 = .ok (.aload_n 0, 1) := by decide +kernel
theorem dM_mark_40 : decode cM_mark 40 = .ok (.iload_n 1, 1) := by decide +kernel
theorem dM_mark_41 : decode cM_mark 41 = .ok (.invokevirtual 86, 3) := by decide +kernel
theorem dM_mark_44 : decode cM_mark 44 = .ok (.ifCond .ne 7, 3) := by decide +kernel
theorem dM_mark_47 : decode cM_mark 47 = .ok (.iconst 1, 1) := by decide +kernel
theorem dM_mark_48 : decode cM_mark 48 = .ok (.goto 25, 3) := by decide +kernel
theorem dM_mark_51 : decode cM_mark 51 = .ok (.iload_n 2, 1) := by decide +kernel
theorem dM_mark_52 : decode cM_mark 52 = .ok (.ifCond .eq 7, 3) := by decide +kernel
theorem dM_mark_55 : decode cM_mark 55 = .ok (.iconst 2, 1) := by decide +kernel
theorem dM_mark_56 : decode cM_mark 56 = .ok (.goto 17, 3) := by decide +kernel
theorem dM_mark_59 : decode cM_mark 59 = .ok (.aload_n 0, 1) := by decide +kernel
theorem dM_mark_60 : decode cM_mark 60 = .ok (.getfield 149, 3) := by decide +kernel
theorem dM_mark_63 : decode cM_mark 63 = .ok (.bipush 8, 2) := by decide +kernel
theorem dM_mark_65 : decode cM_mark 65 = .ok (.if_icmp .ne 7, 3) := by decide +kernel
theorem dM_mark_68 : decode cM_mark 68 = .ok (.iconst 3, 1) := by decide +kernel
theorem dM_mark_69 : decode cM_mark 69 = .ok (.goto 4, 3) := by decide +kernel
theorem dM_mark_72 : decode cM_mark 72 = .ok (.iconst 0, 1) := by decide +kernel
theorem dM_mark_73 : decode cM_mark 73 = .ok (.putfield 69, 3) := by decide +kernel
theorem dM_mark_76 : decode cM_mark 76 = .ok (.aload_n 0, 1) := by decide +kernel
theorem dM_mark_77 : decode cM_mark 77 = .ok (.getfield 69, 3) := by decide +kernel
theorem dM_mark_80 : decode cM_mark 80 = .ok (.ifCond .le 5, 3) := by decide +kernel
theorem dM_mark_83 : decode cM_mark 83 = .ok (.iconst 0, 1) := by decide +kernel
theorem dM_mark_84 : decode cM_mark 84 = .ok (.ireturn, 1) := by decide +kernel
theorem dM_mark_85 : decode cM_mark 85 = .ok (.aload_n 0, 1) := by decide +kernel
theorem dM_mark_86 : decode cM_mark 86 = .ok (.getfield 45, 3) := by decide +kernel
theorem dM_mark_89 : decode cM_mark 89 = .ok (.aload_n 0, 1) := by decide +kernel
theorem dM_mark_90 : decode cM_mark 90 = .ok (.getfield 149, 3) := by decide +kernel
theorem dM_mark_93 : decode cM_mark 93 = .ok (.iload_n 1, 1) := by decide +kernel
theorem dM_mark_94 : decode cM_mark 94 = .ok (.iastore, 1) := by decide +kernel
theorem dM_mark_95 : decode cM_mark 95 = .ok (.aload_n 0, 1) := by decide +kernel
theorem dM_mark_96 : decode cM_mark 96 = .ok (.dup, 1) := by decide +kernel
theorem dM_mark_97 : decode cM_mark 97 = .ok (.getfield 149, 3) := by decide +kernel
theorem dM_mark_100 : decode cM_mark 100 = .ok (.iconst 1, 1) := by decide +kernel
theorem dM_mark_101 : decode cM_mark 101 = .ok (.iadd, 1) := by decide +kernel
theorem dM_mark_102 : decode cM_mark 102 = .ok (.putfield 149, 3) := by decide +kernel
theorem dM_mark_105 : decode cM_mark 105 = .ok (.aload_n 0, 1) := by decide +kernel
theorem dM_mark_106 : decode cM_mark 106 = .ok (.getfield 149, 3) := by decide +kernel
theorem dM_mark_109 : decode cM_mark 109 = .ok (.ireturn, 1) := by decide +kernel
theorem dM_table_0 : decode cM_table 0 = .ok (.aload_n 0, 1) := by decide +kernel
theorem dM_table_1 : decode cM_table 1 = .ok (.iload_n 1, 1) := by decide +kernel
theorem dM_table_2 : decode cM_table 2 = .ok (.i2l, 1) := by decide +kernel
theorem dM_table_3 : decode cM_table 3 = .ok (.lconst 0, 1) := by decide +kernel
theorem dM_table_4 : decode cM_table 4 = .ok (.aload_n 0, 1) := by decide +kernel
theorem dM_table_5 : decode cM_table 5 = .ok (.getfield 149, 3) := by decide +kernel
theorem dM_table_8 : decode cM_table 8 = .ok (.iconst 1, 1) := by decide +kernel
theorem dM_table_9 : decode cM_table 9 = .ok (.isub, 1) := by decide +kernel
theorem dM_table_10 : decode cM_table 10 = .ok (.i2l, 1) := by decide +kernel
theorem dM_table_11 : decode cM_table 11 = .ok (.invokestatic 76, 3) := by decide +kernel
theorem dM_table_14 : decode cM_table 14 = .ok (.ifCond .eq 19, 3) := by decide +kernel
theorem dM_table_17 : decode cM_table 17 = .ok (.iload_n 2, 1) := by decide +kernel
theorem dM_table_18 : decode cM_table 18 = .ok (.i2l, 1) := by decide +kernel
theorem dM_table_19 : decode cM_table 19 = .ok (.lconst 0, 1) := by decide +kernel
theorem dM_table_20 : decode cM_table 20 = .ok (.aload_n 0, 1) := by decide +kernel
theorem dM_table_21 : decode cM_table 21 = .ok (.getfield 149, 3) := by decide +kernel
theorem dM_table_24 : decode cM_table 24 = .ok (.iconst 1, 1) := by decide +kernel
theorem dM_table_25 : decode cM_table 25 = .ok (.isub, 1) := by decide +kernel
theorem dM_table_26 : decode cM_table 26 = .ok (.i2l, 1) := by decide +kernel
theorem dM_table_27 : decode cM_table 27 = .ok (.invokestatic 76, 3) := by decide +kernel
theorem dM_table_30 : decode cM_table 30 = .ok (.ifCond .ne 7, 3) := by decide +kernel
theorem dM_table_33 : decode cM_table 33 = .ok (.iconst 1, 1) := by decide +kernel
theorem dM_table_34 : decode cM_table 34 = .ok (.goto 15, 3) := by decide +kernel
theorem dM_table_37 : decode cM_table 37 = .ok (.aload_n 0, 1) := by decide +kernel
theorem dM_table_38 : decode cM_table 38 = .ok (.getfield 101, 3) := by decide +kernel
theorem dM_table_41 : decode cM_table 41 = .ok (.ifCond .ne 7, 3) := by decide +kernel
theorem dM_table_44 : decode cM_table 44 = .ok (.iconst 2, 1) := by decide +kernel
theorem dM_table_45 : decode cM_table 45 = .ok (.goto 4, 3) := by decide +kernel
theorem dM_table_48 : decode cM_table 48 = .ok (.iconst 0, 1) := by decide +kernel
theorem dM_table_49 : decode cM_table 49 = .ok (.putfield 69, 3) := by decide +kernel
theorem dM_table_52 : decode cM_table 52 = .ok (.aload_n 0, 1) := by decide +kernel
theorem dM_table_53 : decode cM_table 53 = .ok (.getfield 69, 3) := by decide +kernel
theorem dM_table_56 : decode cM_table 56 = .ok (.ifCond .le 7, 3) := by decide +kernel
theorem dM_table_59 : decode cM_table 59 = .ok (.lconst 0, 1) := by decide +kernel
theorem dM_table_60 : decode cM_table 60 = .ok (.goto 21, 3) := by decide +kernel
theorem dM_table_63 : decode cM_table 63 = .ok (.aload_n 0, 1) := by decide +kernel
theorem dM_table_64 : decode cM_table 64 = .ok (.iconst 0, 1) := by decide +kernel
theorem dM_table_65 : decode cM_table 65 = .ok (.aload_n 0, 1) := by decide +kernel
theorem dM_table_66 : decode cM_table 66 = .ok (.getfield 45, 3) := by decide +kernel
theorem dM_table_69 : decode cM_table 69 = .ok (.iload_n 1, 1) := by decide +kernel
theorem dM_table_70 : decode cM_table 70 = .ok (.iaload, 1) := by decide +kernel
theorem dM_table_71 : decode cM_table 71 = .ok (.aload_n 0, 1) := by decide +kernel
theorem dM_table_72 : decode cM_table 72 = .ok (.getfield 45, 3) := by decide +kernel
theorem dM_table_75 : decode cM_table 75 = .ok (.iload_n 2, 1) := by decide +kernel
theorem dM_table_76 : decode cM_table 76 = .ok (.iaload, 1) := by decide +kernel
theorem dM_table_77 : decode cM_table 77 = .ok (.lconst 0, 1) := by decide +kernel
theorem dM_table_78 : decode cM_table 78 = .ok (.invokevirtual 141, 3) := by decide +kernel
theorem dM_table_81 : decode cM_table 81 = .ok (.lreturn, 1) := by decide +kernel
theorem dM_k_0 : decode cM_k 0 = .ok (.aload_n 0, 1) := by decide +kernel
theorem dM_k_1 : decode cM_k 1 = .ok (.aload_n 0, 1) := by decide +kernel
theorem dM_k_2 : decode cM_k 2 = .ok (.iload_n 1, 1) := by decide +kernel
theorem dM_k_3 : decode cM_k 3 = .ok (.invokevirtual 86, 3) := by decide +kernel
theorem dM_k_6 : decode cM_k 6 = .ok (.ifCond .eq 28, 3) := by decide +kernel
theorem dM_k_9 : decode cM_k 9 = .ok (.aload_n 0, 1) := by decide +kernel
theorem dM_k_10 : decode cM_k 10 = .ok (.iload_n 2, 1) := by decide +kernel
theorem dM_k_11 : decode cM_k 11 = .ok (.invokevirtual 86, 3) := by decide +kernel
theorem dM_k_14 : decode cM_k 14 = .ok (.ifCond .eq 20, 3) := by decide +kernel
theorem dM_k_17 : decode cM_k 17 = .ok (.iload_n 1, 1) := by decide +kernel
theorem dM_k_18 : decode cM_k 18 = .ok (.iload_n 2, 1) := by decide +kernel
theorem dM_k_19 : decode cM_k 19 = .ok (.if_icmp .eq 15, 3) := by decide +kernel
theorem dM_k_22 : decode cM_k 22 = .ok (.iload_n 3, 1) := by decide +kernel
theorem dM_k_23 : decode cM_k 23 = .ok (.i2l, 1) := by decide +kernel
theorem dM_k_24 : decode cM_k 24 = .ok (.lconst 0, 1) := by decide +kernel
theorem dM_k_25 : decode cM_k 25 = .ok (.ldc2_w 168, 3) := by decide +kernel
theorem dM_k_28 : decode cM_k 28 = .ok (.invokestatic 76, 3) := by decide +kernel
theorem dM_k_31 : decode cM_k 31 = .ok (.ifCond .ne 7, 3) := by decide +kernel
theorem dM_k_34 : decode cM_k 34 = .ok (.iconst 1, 1) := by decide +kernel
theorem dM_k_35 : decode cM_k 35 = .ok (.goto 15, 3) := by decide +kernel
theorem dM_k_38 : decode cM_k 38 = .ok (.aload_n 0, 1) := by decide +kernel
theorem dM_k_39 : decode cM_k 39 = .ok (.getfield 101, 3) := by decide +kernel
theorem dM_k_42 : decode cM_k 42 = .ok (.ifCond .ne 7, 3) := by decide +kernel
theorem dM_k_45 : decode cM_k 45 = .ok (.iconst 2, 1) := by decide +kernel
theorem dM_k_46 : decode cM_k 46 = .ok (.goto 4, 3) := by decide +kernel
theorem dM_k_49 : decode cM_k 49 = .ok (.iconst 0, 1) := by decide +kernel
theorem dM_k_50 : decode cM_k 50 = .ok (.putfield 69, 3) := by decide +kernel
theorem dM_k_53 : decode cM_k 53 = .ok (.aload_n 0, 1) := by decide +kernel
theorem dM_k_54 : decode cM_k 54 = .ok (.getfield 69, 3) := by decide +kernel
theorem dM_k_57 : decode cM_k 57 = .ok (.ifCond .le 5, 3) := by decide +kernel
theorem dM_k_60 : decode cM_k 60 = .ok (.lconst 0, 1) := by decide +kernel
theorem dM_k_61 : decode cM_k 61 = .ok (.lreturn, 1) := by decide +kernel
theorem dM_k_62 : decode cM_k 62 = .ok (.aload_n 0, 1) := by decide +kernel
theorem dM_k_63 : decode cM_k 63 = .ok (.iload_n 1, 1) := by decide +kernel
theorem dM_k_64 : decode cM_k 64 = .ok (.iload_n 2, 1) := by decide +kernel
theorem dM_k_65 : decode cM_k 65 = .ok (.invokevirtual 170, 3) := by decide +kernel
theorem dM_k_68 : decode cM_k 68 = .ok (.aload_n 0, 1) := by decide +kernel
theorem dM_k_69 : decode cM_k 69 = .ok (.iconst 0, 1) := by decide +kernel
theorem dM_k_70 : decode cM_k 70 = .ok (.putfield 138, 3) := by decide +kernel
theorem dM_k_73 : decode cM_k 73 = .ok (.iload_n 3, 1) := by decide +kernel
theorem dM_k_74 : decode cM_k 74 = .ok (.aload_n 0, 1) := by decide +kernel
theorem dM_k_75 : decode cM_k 75 = .ok (.getfield 155, 3) := by decide +kernel
theorem dM_k_78 : decode cM_k 78 = .ok (.if_icmp .lt 7, 3) := by decide +kernel
theorem dM_k_81 : decode cM_k 81 = .ok (.ldc2_w 118, 3) := by decide +kernel
theorem dM_k_84 : decode cM_k 84 = .ok (.lreturn, 1) := by decide +kernel
theorem dM_k_85 : decode cM_k 85 = .ok (.aload_n 0, 1) := by decide +kernel
theorem dM_k_86 : decode cM_k 86 = .ok (.aload_n 0, 1) := by decide +kernel
theorem dM_k_87 : decode cM_k 87 = .ok (.getfield 57, 3) := by decide +kernel
theorem dM_k_90 : decode cM_k 90 = .ok (.iload_n 3, 1) := by decide +kernel
theorem dM_k_91 : decode cM_k 91 = .ok (.iaload, 1) := by decide +kernel
theorem dM_k_92 : decode cM_k 92 = .ok (.putfield 138, 3) := by decide +kernel
theorem dM_k_95 : decode cM_k 95 = .ok (.iconst 0, 1) := by decide +kernel
theorem dM_k_96 : decode cM_k 96 = .ok (.istore 4, 2) := by decide +kernel
theorem dM_k_98 : decode cM_k 98 = .ok (.iload 4, 2) := by decide +kernel
theorem dM_k_100 : decode cM_k 100 = .ok (.aload_n 0, 1) := by decide +kernel
theorem dM_k_101 : decode cM_k 101 = .ok (.getfield 138, 3) := by decide +kernel
theorem dM_k_104 : decode cM_k 104 = .ok (.if_icmp .ge 27, 3) := by decide +kernel
theorem dM_k_107 : decode cM_k 107 = .ok (.aload_n 0, 1) := by decide +kernel
theorem dM_k_108 : decode cM_k 108 = .ok (.getfield 51, 3) := by decide +kernel
theorem dM_k_111 : decode cM_k 111 = .ok (.iload 4, 2) := by decide +kernel
theorem dM_k_113 : decode cM_k 113 = .ok (.aload_n 0, 1) := by decide +kernel
theorem dM_k_114 : decode cM_k 114 = .ok (.getfield 60, 3) := by decide +kernel
theorem dM_k_117 : decode cM_k 117 = .ok (.iconst 5, 1) := by decide +kernel
theorem dM_k_118 : decode cM_k 118 = .ok (.iload_n 3, 1) := by decide +kernel
theorem dM_k_119 : decode cM_k 119 = .ok (.imul, 1) := by decide +kernel
theorem dM_k_120 : decode cM_k 120 = .ok (.iload 4, 2) := by decide +kernel
theorem dM_k_122 : decode cM_k 122 = .ok (.iadd, 1) := by decide +kernel
theorem dM_k_123 : decode cM_k 123 = .ok (.iaload, 1) := by decide +kernel
theorem dM_k_124 : decode cM_k 124 = .ok (.iastore, 1) := by decide +kernel
theorem dM_k_125 : decode cM_k 125 = .ok (.iinc 4 1, 3) := by decide +kernel
theorem dM_k_128 : decode cM_k 128 = .ok (.goto (-30), 3) := by decide +kernel
theorem dM_k_131 : decode cM_k 131 = .ok (.aload_n 0, 1) := by decide +kernel
theorem dM_k_132 : decode cM_k 132 = .ok (.getfield 54, 3) := by decide +kernel
theorem dM_k_135 : decode cM_k 135 = .ok (.iload_n 3, 1) := by decide +kernel
theorem dM_k_136 : decode cM_k 136 = .ok (.laload, 1) := by decide +kernel
theorem dM_k_137 : decode cM_k 137 = .ok (.lreturn, 1) := by decide +kernel
theorem dM_goThrough_0 : decode cM_goThrough 0 = .ok (.aload_n 0, 1) := by decide +kernel
theorem dM_goThrough_1 : decode cM_goThrough 1 = .ok (.iconst 0, 1) := by decide +kernel
theorem dM_goThrough_2 : decode cM_goThrough 2 = .ok (.putfield 155, 3) := by decide +kernel
theorem dM_goThrough_5 : decode cM_goThrough 5 = .ok (.iconst 0, 1) := by decide +kernel
theorem dM_goThrough_6 : decode cM_goThrough 6 = .ok (.istore_n 3, 1) := by decide +kernel
theorem dM_goThrough_7 : decode cM_goThrough 7 = .ok (.aload_n 0, 1) := by decide +kernel
theorem dM_goThrough_8 : decode cM_goThrough 8 = .ok (.getfield 66, 3) := by decide +kernel
theorem dM_goThrough_11 : decode cM_goThrough 11 = .ok (.iconst 0, 1) := by decide +kernel
theorem dM_goThrough_12 : decode cM_goThrough 12 = .ok (.lconst 0, 1) := by decide +kernel
theorem dM_goThrough_13 : decode cM_goThrough 13 = .ok (.lastore, 1) := by decide +kernel
theorem dM_goThrough_14 : decode cM_goThrough 14 = .ok (.aload_n 0, 1) := by decide +kernel
theorem dM_goThrough_15 : decode cM_goThrough 15 = .ok (.getfield 63, 3) := by decide +kernel
theorem dM_goThrough_18 : decode cM_goThrough 18 = .ok (.iconst 0, 1) := by decide +kernel
theorem dM_goThrough_19 : decode cM_goThrough 19 = .ok (.iconst (-1), 1) := by decide +kernel
theorem dM_goThrough_20 : decode cM_goThrough 20 = .ok (.iastore, 1) := by decide +kernel
theorem dM_goThrough_21 : decode cM_goThrough 21 = .ok (.iload_n 3, 1) := by decide +kernel
theorem dM_goThrough_22 : decode cM_goThrough 22 = .ok (.ifCond .lt 123, 3) := by decide +kernel
theorem dM_goThrough_25 : decode cM_goThrough 25 = .ok (.aload_n 0, 1) := by decide +kernel
theorem dM_goThrough_26 : decode cM_goThrough 26 = .ok (.getfield 63, 3) := by decide +kernel
theorem dM_goThrough_29 : decode cM_goThrough 29 = .ok (.iload_n 3, 1) := by decide +kernel
theorem dM_goThrough_30 : decode cM_goThrough 30 = .ok (.iaload, 1) := by decide +kernel
theorem dM_goThrough_31 : decode cM_goThrough 31 = .ok (.iconst 1, 1) := by decide +kernel
theorem dM_goThrough_32 : decode cM_goThrough 32 = .ok (.iadd, 1) := by decide +kernel
theorem dM_goThrough_33 : decode cM_goThrough 33 = .ok (.istore 4, 2) := by decide +kernel
theorem dM_goThrough_35 : decode cM_goThrough 35 = .ok (.iload 4, 2) := by decide +kernel
theorem dM_goThrough_37 : decode cM_goThrough 37 = .ok (.aload_n 0, 1) := by decide +kernel
theorem dM_goThrough_38 : decode cM_goThrough 38 = .ok (.getfield 80, 3) := by decide +kernel
theorem dM_goThrough_41 : decode cM_goThrough 41 = .ok (.if_icmp .ge 20, 3) := by decide +kernel
theorem dM_goThrough_44 : decode cM_goThrough 44 = .ok (.aload_n 0, 1) := by decide +kernel
theorem dM_goThrough_45 : decode cM_goThrough 45 = .ok (.iload_n 1, 1) := by decide +kernel
theorem dM_goThrough_46 : decode cM_goThrough 46 = .ok (.iload_n 3, 1) := by decide +kernel
theorem dM_goThrough_47 : decode cM_goThrough 47 = .ok (.iload 4, 2) := by decide +kernel
theorem dM_goThrough_49 : decode cM_goThrough 49 = .ok (.invokevirtual 161, 3) := by decide +kernel
theorem dM_goThrough_52 : decode cM_goThrough 52 = .ok (.ifCond .ne 9, 3) := by decide +kernel
theorem dM_goThrough_55 : decode cM_goThrough 55 = .ok (.iinc 4 1, 3) := by decide +kernel
theorem dM_goThrough_58 : decode cM_goThrough 58 = .ok (.goto (-23), 3) := by decide +kernel
theorem dM_goThrough_61 : decode cM_goThrough 61 = .ok (.aload_n 0, 1) := by decide +kernel
theorem dM_goThrough_62 : decode cM_goThrough 62 = .ok (.getfield 63, 3) := by decide +kernel
theorem dM_goThrough_65 : decode cM_goThrough 65 = .ok (.iload_n 3, 1) := by decide +kernel
theorem dM_goThrough_66 : decode cM_goThrough 66 = .ok (.iload 4, 2) := by decide +kernel
theorem dM_goThrough_68 : decode cM_goThrough 68 = .ok (.iastore, 1) := by decide +kernel
theorem dM_goThrough_69 : decode cM_goThrough 69 = .ok (.iload 4, 2) := by decide +kernel
theorem dM_goThrough_71 : decode cM_goThrough 71 = .ok (.aload_n 0, 1) := by decide +kernel
theorem dM_goThrough_72 : decode cM_goThrough 72 = .ok (.getfield 80, 3) := by decide +kernel
theorem dM_goThrough_75 : decode cM_goThrough 75 = .ok (.if_icmp .ne 9, 3) := by decide +kernel
theorem dM_goThrough_78 : decode cM_goThrough 78 = .ok (.iinc 3 (-1), 3) := by decide +kernel
theorem dM_goThrough_81 : decode cM_goThrough 81 = .ok (.goto (-60), 3) := by decide +kernel
theorem dM_goThrough_84 : decode cM_goThrough 84 = .ok (.aload_n 0, 1) := by decide +kernel
theorem dM_goThrough_85 : decode cM_goThrough 85 = .ok (.getfield 66, 3) := by decide +kernel
theorem dM_goThrough_88 : decode cM_goThrough 88 = .ok (.iload_n 3, 1) := by decide +kernel
theorem dM_goThrough_89 : decode cM_goThrough 89 = .ok (.iconst 1, 1) := by decide +kernel
theorem dM_goThrough_90 : decode cM_goThrough 90 = .ok (.iadd, 1) := by decide +kernel
theorem dM_goThrough_91 : decode cM_goThrough 91 = .ok (.aload_n 0, 1) := by decide +kernel
theorem dM_goThrough_92 : decode cM_goThrough 92 = .ok (.iload 4, 2) := by decide +kernel
theorem dM_goThrough_94 : decode cM_goThrough 94 = .ok (.aload_n 0, 1) := by decide +kernel
theorem dM_goThrough_95 : decode cM_goThrough 95 = .ok (.getfield 66, 3) := by decide +kernel
theorem dM_goThrough_98 : decode cM_goThrough 98 = .ok (.iload_n 3, 1) := by decide +kernel
theorem dM_goThrough_99 : decode cM_goThrough 99 = .ok (.laload, 1) := by decide +kernel
theorem dM_goThrough_100 : decode cM_goThrough 100 = .ok (.invokevirtual 114, 3) := by decide +kernel
theorem dM_goThrough_103 : decode cM_goThrough 103 = .ok (.lastore, 1) := by decide +kernel
theorem dM_goThrough_104 : decode cM_goThrough 104 = .ok (.aload_n 0, 1) := by decide +kernel
theorem dM_goThrough_105 : decode cM_goThrough 105 = .ok (.getfield 16, 3) := by decide +kernel
theorem dM_goThrough_108 : decode cM_goThrough 108 = .ok (.iload 4, 2) := by decide +kernel
theorem dM_goThrough_110 : decode cM_goThrough 110 = .ok (.iaload, 1) := by decide +kernel
theorem dM_goThrough_111 : decode cM_goThrough 111 = .ok (.iload_n 2, 1) := by decide +kernel
theorem dM_goThrough_112 : decode cM_goThrough 112 = .ok (.if_icmp .ne 13, 3) := by decide +kernel
theorem dM_goThrough_115 : decode cM_goThrough 115 = .ok (.aload_n 0, 1) := by decide +kernel
theorem dM_goThrough_116 : decode cM_goThrough 116 = .ok (.iload_n 3, 1) := by decide +kernel
theorem dM_goThrough_117 : decode cM_goThrough 117 = .ok (.iconst 1, 1) := by decide +kernel
theorem dM_goThrough_118 : decode cM_goThrough 118 = .ok (.iadd, 1) := by decide +kernel
theorem dM_goThrough_119 : decode cM_goThrough 119 = .ok (.invokevirtual 164, 3) := by decide +kernel
theorem dM_goThrough_122 : decode cM_goThrough 122 = .ok (.goto 20, 3) := by decide +kernel
theorem dM_goThrough_125 : decode cM_goThrough 125 = .ok (.iload_n 3, 1) := by decide +kernel
theorem dM_goThrough_126 : decode cM_goThrough 126 = .ok (.iconst 1, 1) := by decide +kernel
theorem dM_goThrough_127 : decode cM_goThrough 127 = .ok (.iadd, 1) := by decide +kernel
theorem dM_goThrough_128 : decode cM_goThrough 128 = .ok (.iconst 5, 1) := by decide +kernel
theorem dM_goThrough_129 : decode cM_goThrough 129 = .ok (.if_icmp .ge 13, 3) := by decide +kernel
theorem dM_goThrough_132 : decode cM_goThrough 132 = .ok (.iinc 3 1, 3) := by decide +kernel
theorem dM_goThrough_135 : decode cM_goThrough 135 = .ok (.aload_n 0, 1) := by decide +kernel
theorem dM_goThrough_136 : decode cM_goThrough 136 = .ok (.getfield 63, 3) := by decide +kernel
theorem dM_goThrough_139 : decode cM_goThrough 139 = .ok (.iload_n 3, 1) := by decide +kernel
theorem dM_goThrough_140 : decode cM_goThrough 140 = .ok (.iconst (-1), 1) := by decide +kernel
theorem dM_goThrough_141 : decode cM_goThrough 141 = .ok (.iastore, 1) := by decide +kernel
theorem dM_goThrough_142 : decode cM_goThrough 142 = .ok (.goto (-121), 3) := by decide +kernel
theorem dM_goThrough_145 : decode cM_goThrough 145 = .ok (.return_, 1) := by decide +kernel
theorem dM_mayGo_0 : decode cM_mayGo 0 = .ok (.iload_n 2, 1) := by decide +kernel
theorem dM_mayGo_1 : decode cM_mayGo 1 = .ok (.ifCond .ne 7, 3) := by decide +kernel
theorem dM_mayGo_4 : decode cM_mayGo 4 = .ok (.iload_n 1, 1) := by decide +kernel
theorem dM_mayGo_5 : decode cM_mayGo 5 = .ok (.goto 16, 3) := by decide +kernel
theorem dM_mayGo_8 : decode cM_mayGo 8 = .ok (.aload_n 0, 1) := by decide +kernel
theorem dM_mayGo_9 : decode cM_mayGo 9 = .ok (.getfield 16, 3) := by decide +kernel
theorem dM_mayGo_12 : decode cM_mayGo 12 = .ok (.aload_n 0, 1) := by decide +kernel
theorem dM_mayGo_13 : decode cM_mayGo 13 = .ok (.getfield 63, 3) := by decide +kernel
theorem dM_mayGo_16 : decode cM_mayGo 16 = .ok (.iload_n 2, 1) := by decide +kernel
theorem dM_mayGo_17 : decode cM_mayGo 17 = .ok (.iconst 1, 1) := by decide +kernel
theorem dM_mayGo_18 : decode cM_mayGo 18 = .ok (.isub, 1) := by decide +kernel
theorem dM_mayGo_19 : decode cM_mayGo 19 = .ok (.iaload, 1) := by decide +kernel
theorem dM_mayGo_20 : decode cM_mayGo 20 = .ok (.iaload, 1) := by decide +kernel
theorem dM_mayGo_21 : decode cM_mayGo 21 = .ok (.istore 4, 2) := by decide +kernel
theorem dM_mayGo_23 : decode cM_mayGo 23 = .ok (.aload_n 0, 1) := by decide +kernel
theorem dM_mayGo_24 : decode cM_mayGo 24 = .ok (.getfield 13, 3) := by decide +kernel
theorem dM_mayGo_27 : decode cM_mayGo 27 = .ok (.iload_n 3, 1) := by decide +kernel
theorem dM_mayGo_28 : decode cM_mayGo 28 = .ok (.iaload, 1) := by decide +kernel
theorem dM_mayGo_29 : decode cM_mayGo 29 = .ok (.iload 4, 2) := by decide +kernel
theorem dM_mayGo_31 : decode cM_mayGo 31 = .ok (.if_icmp .ne 27, 3) := by decide +kernel
theorem dM_mayGo_34 : decode cM_mayGo 34 = .ok (.aload_n 0, 1) := by decide +kernel
theorem dM_mayGo_35 : decode cM_mayGo 35 = .ok (.iconst 0, 1) := by decide +kernel
theorem dM_mayGo_36 : decode cM_mayGo 36 = .ok (.iload_n 3, 1) := by decide +kernel
theorem dM_mayGo_37 : decode cM_mayGo 37 = .ok (.invokevirtual 110, 3) := by decide +kernel
theorem dM_mayGo_40 : decode cM_mayGo 40 = .ok (.ifCond .eq 18, 3) := by decide +kernel
theorem dM_mayGo_43 : decode cM_mayGo 43 = .ok (.aload_n 0, 1) := by decide +kernel
theorem dM_mayGo_44 : decode cM_mayGo 44 = .ok (.iload_n 1, 1) := by decide +kernel
theorem dM_mayGo_45 : decode cM_mayGo 45 = .ok (.iload_n 2, 1) := by decide +kernel
theorem dM_mayGo_46 : decode cM_mayGo 46 = .ok (.aload_n 0, 1) := by decide +kernel
theorem dM_mayGo_47 : decode cM_mayGo 47 = .ok (.getfield 16, 3) := by decide +kernel
theorem dM_mayGo_50 : decode cM_mayGo 50 = .ok (.iload_n 3, 1) := by decide +kernel
theorem dM_mayGo_51 : decode cM_mayGo 51 = .ok (.iaload, 1) := by decide +kernel
theorem dM_mayGo_52 : decode cM_mayGo 52 = .ok (.invokevirtual 152, 3) := by decide +kernel
theorem dM_mayGo_55 : decode cM_mayGo 55 = .ok (.ifCond .eq 5, 3) := by decide +kernel
theorem dM_mayGo_58 : decode cM_mayGo 58 = .ok (.iconst 0, 1) := by decide +kernel
theorem dM_mayGo_59 : decode cM_mayGo 59 = .ok (.ireturn, 1) := by decide +kernel
theorem dM_mayGo_60 : decode cM_mayGo 60 = .ok (.iload_n 2, 1) := by decide +kernel
theorem dM_mayGo_61 : decode cM_mayGo 61 = .ok (.ifCond .eq 24, 3) := by decide +kernel
theorem dM_mayGo_64 : decode cM_mayGo 64 = .ok (.aload_n 0, 1) := by decide +kernel
theorem dM_mayGo_65 : decode cM_mayGo 65 = .ok (.getfield 36, 3) := by decide +kernel
theorem dM_mayGo_68 : decode cM_mayGo 68 = .ok (.bipush 40, 2) := by decide +kernel
theorem dM_mayGo_70 : decode cM_mayGo 70 = .ok (.aload_n 0, 1) := by decide +kernel
theorem dM_mayGo_71 : decode cM_mayGo 71 = .ok (.getfield 63, 3) := by decide +kernel
theorem dM_mayGo_74 : decode cM_mayGo 74 = .ok (.iload_n 2, 1) := by decide +kernel
theorem dM_mayGo_75 : decode cM_mayGo 75 = .ok (.iconst 1, 1) := by decide +kernel
theorem dM_mayGo_76 : decode cM_mayGo 76 = .ok (.isub, 1) := by decide +kernel
theorem dM_mayGo_77 : decode cM_mayGo 77 = .ok (.iaload, 1) := by decide +kernel
theorem dM_mayGo_78 : decode cM_mayGo 78 = .ok (.imul, 1) := by decide +kernel
theorem dM_mayGo_79 : decode cM_mayGo 79 = .ok (.iload_n 3, 1) := by decide +kernel
theorem dM_mayGo_80 : decode cM_mayGo 80 = .ok (.iadd, 1) := by decide +kernel
theorem dM_mayGo_81 : decode cM_mayGo 81 = .ok (.baload, 1) := by decide +kernel
theorem dM_mayGo_82 : decode cM_mayGo 82 = .ok (.ifCond .ne 7, 3) := by decide +kernel
theorem dM_mayGo_85 : decode cM_mayGo 85 = .ok (.iconst 1, 1) := by decide +kernel
theorem dM_mayGo_86 : decode cM_mayGo 86 = .ok (.goto 4, 3) := by decide +kernel
theorem dM_mayGo_89 : decode cM_mayGo 89 = .ok (.iconst 0, 1) := by decide +kernel
theorem dM_mayGo_90 : decode cM_mayGo 90 = .ok (.ireturn, 1) := by decide +kernel
theorem dM_seen_0 : decode cM_seen 0 = .ok (.iload_n 3, 1) := by decide +kernel
theorem dM_seen_1 : decode cM_seen 1 = .ok (.iload_n 1, 1) := by decide +kernel
theorem dM_seen_2 : decode cM_seen 2 = .ok (.if_icmp .ne 7, 3) := by decide +kernel
theorem dM_seen_5 : decode cM_seen 5 = .ok (.iconst 1, 1) := by decide +kernel
theorem dM_seen_6 : decode cM_seen 6 = .ok (.goto 4, 3) := by decide +kernel
theorem dM_seen_9 : decode cM_seen 9 = .ok (.iconst 0, 1) := by decide +kernel
theorem dM_seen_10 : decode cM_seen 10 = .ok (.istore 4, 2) := by decide +kernel
theorem dM_seen_12 : decode cM_seen 12 = .ok (.iconst 0, 1) := by decide +kernel
theorem dM_seen_13 : decode cM_seen 13 = .ok (.istore 5, 2) := by decide +kernel
theorem dM_seen_15 : decode cM_seen 15 = .ok (.iload 5, 2) := by decide +kernel
theorem dM_seen_17 : decode cM_seen 17 = .ok (.iload_n 2, 1) := by decide +kernel
theorem dM_seen_18 : decode cM_seen 18 = .ok (.if_icmp .ge 37, 3) := by decide +kernel
theorem dM_seen_21 : decode cM_seen 21 = .ok (.iload 4, 2) := by decide +kernel
theorem dM_seen_23 : decode cM_seen 23 = .ok (.ifCond .ne 19, 3) := by decide +kernel
theorem dM_seen_26 : decode cM_seen 26 = .ok (.aload_n 0, 1) := by decide +kernel
theorem dM_seen_27 : decode cM_seen 27 = .ok (.getfield 16, 3) := by decide +kernel
theorem dM_seen_30 : decode cM_seen 30 = .ok (.aload_n 0, 1) := by decide +kernel
theorem dM_seen_31 : decode cM_seen 31 = .ok (.getfield 63, 3) := by decide +kernel
theorem dM_seen_34 : decode cM_seen 34 = .ok (.iload 5, 2) := by decide +kernel
theorem dM_seen_36 : decode cM_seen 36 = .ok (.iaload, 1) := by decide +kernel
theorem dM_seen_37 : decode cM_seen 37 = .ok (.iaload, 1) := by decide +kernel
theorem dM_seen_38 : decode cM_seen 38 = .ok (.iload_n 3, 1) := by decide +kernel
theorem dM_seen_39 : decode cM_seen 39 = .ok (.if_icmp .ne 7, 3) := by decide +kernel
theorem dM_seen_42 : decode cM_seen 42 = .ok (.iconst 1, 1) := by decide +kernel
theorem dM_seen_43 : decode cM_seen 43 = .ok (.goto 4, 3) := by decide +kernel
theorem dM_seen_46 : decode cM_seen 46 = .ok (.iconst 0, 1) := by decide +kernel
theorem dM_seen_47 : decode cM_seen 47 = .ok (.istore 4, 2) := by decide +kernel
theorem dM_seen_49 : decode cM_seen 49 = .ok (.iinc 5 1, 3) := by decide +kernel
theorem dM_seen_52 : decode cM_seen 52 = .ok (.goto (-37), 3) := by decide +kernel
theorem dM_seen_55 : decode cM_seen 55 = .ok (.iload 4, 2) := by decide +kernel
theorem dM_seen_57 : decode cM_seen 57 = .ok (.ireturn, 1) := by decide +kernel
theorem dM_keep_0 : decode cM_keep 0 = .ok (.aload_n 0, 1) := by decide +kernel
theorem dM_keep_1 : decode cM_keep 1 = .ok (.getfield 155, 3) := by decide +kernel
theorem dM_keep_4 : decode cM_keep 4 = .ok (.istore_n 2, 1) := by decide +kernel
theorem dM_keep_5 : decode cM_keep 5 = .ok (.iload_n 2, 1) := by decide +kernel
theorem dM_keep_6 : decode cM_keep 6 = .ok (.ifCond .le 20, 3) := by decide +kernel
theorem dM_keep_9 : decode cM_keep 9 = .ok (.aload_n 0, 1) := by decide +kernel
theorem dM_keep_10 : decode cM_keep 10 = .ok (.iload_n 1, 1) := by decide +kernel
theorem dM_keep_11 : decode cM_keep 11 = .ok (.iload_n 2, 1) := by decide +kernel
theorem dM_keep_12 : decode cM_keep 12 = .ok (.iconst 1, 1) := by decide +kernel
theorem dM_keep_13 : decode cM_keep 13 = .ok (.isub, 1) := by decide +kernel
theorem dM_keep_14 : decode cM_keep 14 = .ok (.invokevirtual 158, 3) := by decide +kernel
theorem dM_keep_17 : decode cM_keep 17 = .ok (.ifCond .eq 9, 3) := by decide +kernel
theorem dM_keep_20 : decode cM_keep 20 = .ok (.iinc 2 (-1), 3) := by decide +kernel
theorem dM_keep_23 : decode cM_keep 23 = .ok (.goto (-18), 3) := by decide +kernel
theorem dM_keep_26 : decode cM_keep 26 = .ok (.iload_n 2, 1) := by decide +kernel
theorem dM_keep_27 : decode cM_keep 27 = .ok (.iconst 5, 1) := by decide +kernel
theorem dM_keep_28 : decode cM_keep 28 = .ok (.if_icmp .ne 4, 3) := by decide +kernel
theorem dM_keep_31 : decode cM_keep 31 = .ok (.return_, 1) := by decide +kernel
theorem dM_keep_32 : decode cM_keep 32 = .ok (.aload_n 0, 1) := by decide +kernel
theorem dM_keep_33 : decode cM_keep 33 = .ok (.dup, 1) := by decide +kernel
theorem dM_keep_34 : decode cM_keep 34 = .ok (.getfield 155, 3) := by decide +kernel
theorem dM_keep_37 : decode cM_keep 37 = .ok (.aload_n 0, 1) := by decide +kernel
theorem dM_keep_38 : decode cM_keep 38 = .ok (.getfield 155, 3) := by decide +kernel
theorem dM_keep_41 : decode cM_keep 41 = .ok (.iconst 5, 1) := by decide +kernel
theorem dM_keep_42 : decode cM_keep 42 = .ok (.if_icmp .ge 7, 3) := by decide +kernel
theorem dM_keep_45 : decode cM_keep 45 = .ok (.iconst 1, 1) := by decide +kernel
theorem dM_keep_46 : decode cM_keep 46 = .ok (.goto 4, 3) := by decide +kernel
theorem dM_keep_49 : decode cM_keep 49 = .ok (.iconst 0, 1) := by decide +kernel
theorem dM_keep_50 : decode cM_keep 50 = .ok (.iadd, 1) := by decide +kernel
theorem dM_keep_51 : decode cM_keep 51 = .ok (.putfield 155, 3) := by decide +kernel
end
section
theorem dM_keep_54 : decode cM_keep 54 = .ok (.aload_n 0, 1) := by decide +kernel
theorem dM_keep_55 : decode cM_keep 55 = .ok (.getfield 155, 3) := by decide +kernel
theorem dM_keep_58 : decode cM_keep 58 = .ok (.iconst 1, 1) := by decide +kernel
theorem dM_keep_59 : decode cM_keep 59 = .ok (.isub, 1) := by decide +kernel
theorem dM_keep_60 : decode cM_keep 60 = .ok (.istore_n 3, 1) := by decide +kernel
theorem dM_keep_61 : decode cM_keep 61 = .ok (.iload_n 3, 1) := by decide +kernel
theorem dM_keep_62 : decode cM_keep 62 = .ok (.iload_n 2, 1) := by decide +kernel
theorem dM_keep_63 : decode cM_keep 63 = .ok (.if_icmp .le 76, 3) := by decide +kernel
theorem dM_keep_66 : decode cM_keep 66 = .ok (.aload_n 0, 1) := by decide +kernel
theorem dM_keep_67 : decode cM_keep 67 = .ok (.getfield 54, 3) := by decide +kernel
theorem dM_keep_70 : decode cM_keep 70 = .ok (.iload_n 3, 1) := by decide +kernel
theorem dM_keep_71 : decode cM_keep 71 = .ok (.aload_n 0, 1) := by decide +kernel
theorem dM_keep_72 : decode cM_keep 72 = .ok (.getfield 54, 3) := by decide +kernel
theorem dM_keep_75 : decode cM_keep 75 = .ok (.iload_n 3, 1) := by decide +kernel
theorem dM_keep_76 : decode cM_keep 76 = .ok (.iconst 1, 1) := by decide +kernel
theorem dM_keep_77 : decode cM_keep 77 = .ok (.isub, 1) := by decide +kernel
theorem dM_keep_78 : decode cM_keep 78 = .ok (.laload, 1) := by decide +kernel
theorem dM_keep_79 : decode cM_keep 79 = .ok (.lastore, 1) := by decide +kernel
theorem dM_keep_80 : decode cM_keep 80 = .ok (.aload_n 0, 1) := by decide +kernel
theorem dM_keep_81 : decode cM_keep 81 = .ok (.getfield 57, 3) := by decide +kernel
theorem dM_keep_84 : decode cM_keep 84 = .ok (.iload_n 3, 1) := by decide +kernel
theorem dM_keep_85 : decode cM_keep 85 = .ok (.aload_n 0, 1) := by decide +kernel
theorem dM_keep_86 : decode cM_keep 86 = .ok (.getfield 57, 3) := by decide +kernel
theorem dM_keep_89 : decode cM_keep 89 = .ok (.iload_n 3, 1) := by decide +kernel
theorem dM_keep_90 : decode cM_keep 90 = .ok (.iconst 1, 1) := by decide +kernel
theorem dM_keep_91 : decode cM_keep 91 = .ok (.isub, 1) := by decide +kernel
theorem dM_keep_92 : decode cM_keep 92 = .ok (.iaload, 1) := by decide +kernel
theorem dM_keep_93 : decode cM_keep 93 = .ok (.iastore, 1) := by decide +kernel
theorem dM_keep_94 : decode cM_keep 94 = .ok (.iconst 0, 1) := by decide +kernel
theorem dM_keep_95 : decode cM_keep 95 = .ok (.istore 4, 2) := by decide +kernel
theorem dM_keep_97 : decode cM_keep 97 = .ok (.iload 4, 2) := by decide +kernel
theorem dM_keep_99 : decode cM_keep 99 = .ok (.iconst 5, 1) := by decide +kernel
theorem dM_keep_100 : decode cM_keep 100 = .ok (.if_icmp .ge 33, 3) := by decide +kernel
theorem dM_keep_103 : decode cM_keep 103 = .ok (.aload_n 0, 1) := by decide +kernel
theorem dM_keep_104 : decode cM_keep 104 = .ok (.getfield 60, 3) := by decide +kernel
theorem dM_keep_107 : decode cM_keep 107 = .ok (.iconst 5, 1) := by decide +kernel
theorem dM_keep_108 : decode cM_keep 108 = .ok (.iload_n 3, 1) := by decide +kernel
theorem dM_keep_109 : decode cM_keep 109 = .ok (.imul, 1) := by decide +kernel
theorem dM_keep_110 : decode cM_keep 110 = .ok (.iload 4, 2) := by decide +kernel
theorem dM_keep_112 : decode cM_keep 112 = .ok (.iadd, 1) := by decide +kernel
theorem dM_keep_113 : decode cM_keep 113 = .ok (.aload_n 0, 1) := by decide +kernel
theorem dM_keep_114 : decode cM_keep 114 = .ok (.getfield 60, 3) := by decide +kernel
theorem dM_keep_117 : decode cM_keep 117 = .ok (.iconst 5, 1) := by decide +kernel
theorem dM_keep_118 : decode cM_keep 118 = .ok (.iload_n 3, 1) := by decide +kernel
theorem dM_keep_119 : decode cM_keep 119 = .ok (.iconst 1, 1) := by decide +kernel
theorem dM_keep_120 : decode cM_keep 120 = .ok (.isub, 1) := by decide +kernel
theorem dM_keep_121 : decode cM_keep 121 = .ok (.imul, 1) := by decide +kernel
theorem dM_keep_122 : decode cM_keep 122 = .ok (.iload 4, 2) := by decide +kernel
theorem dM_keep_124 : decode cM_keep 124 = .ok (.iadd, 1) := by decide +kernel
theorem dM_keep_125 : decode cM_keep 125 = .ok (.iaload, 1) := by decide +kernel
theorem dM_keep_126 : decode cM_keep 126 = .ok (.iastore, 1) := by decide +kernel
theorem dM_keep_127 : decode cM_keep 127 = .ok (.iinc 4 1, 3) := by decide +kernel
theorem dM_keep_130 : decode cM_keep 130 = .ok (.goto (-33), 3) := by decide +kernel
theorem dM_keep_133 : decode cM_keep 133 = .ok (.iinc 3 (-1), 3) := by decide +kernel
theorem dM_keep_136 : decode cM_keep 136 = .ok (.goto (-75), 3) := by decide +kernel
theorem dM_keep_139 : decode cM_keep 139 = .ok (.aload_n 0, 1) := by decide +kernel
theorem dM_keep_140 : decode cM_keep 140 = .ok (.getfield 54, 3) := by decide +kernel
theorem dM_keep_143 : decode cM_keep 143 = .ok (.iload_n 2, 1) := by decide +kernel
theorem dM_keep_144 : decode cM_keep 144 = .ok (.aload_n 0, 1) := by decide +kernel
theorem dM_keep_145 : decode cM_keep 145 = .ok (.getfield 66, 3) := by decide +kernel
theorem dM_keep_148 : decode cM_keep 148 = .ok (.iload_n 1, 1) := by decide +kernel
theorem dM_keep_149 : decode cM_keep 149 = .ok (.laload, 1) := by decide +kernel
theorem dM_keep_150 : decode cM_keep 150 = .ok (.lastore, 1) := by decide +kernel
theorem dM_keep_151 : decode cM_keep 151 = .ok (.aload_n 0, 1) := by decide +kernel
theorem dM_keep_152 : decode cM_keep 152 = .ok (.getfield 57, 3) := by decide +kernel
theorem dM_keep_155 : decode cM_keep 155 = .ok (.iload_n 2, 1) := by decide +kernel
theorem dM_keep_156 : decode cM_keep 156 = .ok (.iload_n 1, 1) := by decide +kernel
theorem dM_keep_157 : decode cM_keep 157 = .ok (.iastore, 1) := by decide +kernel
theorem dM_keep_158 : decode cM_keep 158 = .ok (.iconst 0, 1) := by decide +kernel
theorem dM_keep_159 : decode cM_keep 159 = .ok (.istore_n 3, 1) := by decide +kernel
theorem dM_keep_160 : decode cM_keep 160 = .ok (.iload_n 3, 1) := by decide +kernel
theorem dM_keep_161 : decode cM_keep 161 = .ok (.iload_n 1, 1) := by decide +kernel
theorem dM_keep_162 : decode cM_keep 162 = .ok (.if_icmp .ge 25, 3) := by decide +kernel
theorem dM_keep_165 : decode cM_keep 165 = .ok (.aload_n 0, 1) := by decide +kernel
theorem dM_keep_166 : decode cM_keep 166 = .ok (.getfield 60, 3) := by decide +kernel
theorem dM_keep_169 : decode cM_keep 169 = .ok (.iconst 5, 1) := by decide +kernel
theorem dM_keep_170 : decode cM_keep 170 = .ok (.iload_n 2, 1) := by decide +kernel
theorem dM_keep_171 : decode cM_keep 171 = .ok (.imul, 1) := by decide +kernel
theorem dM_keep_172 : decode cM_keep 172 = .ok (.iload_n 3, 1) := by decide +kernel
theorem dM_keep_173 : decode cM_keep 173 = .ok (.iadd, 1) := by decide +kernel
theorem dM_keep_174 : decode cM_keep 174 = .ok (.aload_n 0, 1) := by decide +kernel
theorem dM_keep_175 : decode cM_keep 175 = .ok (.getfield 63, 3) := by decide +kernel
theorem dM_keep_178 : decode cM_keep 178 = .ok (.iload_n 3, 1) := by decide +kernel
theorem dM_keep_179 : decode cM_keep 179 = .ok (.iaload, 1) := by decide +kernel
theorem dM_keep_180 : decode cM_keep 180 = .ok (.iastore, 1) := by decide +kernel
theorem dM_keep_181 : decode cM_keep 181 = .ok (.iinc 3 1, 3) := by decide +kernel
theorem dM_keep_184 : decode cM_keep 184 = .ok (.goto (-24), 3) := by decide +kernel
theorem dM_keep_187 : decode cM_keep 187 = .ok (.return_, 1) := by decide +kernel
theorem dM_isBetter_0 : decode cM_isBetter 0 = .ok (.aload_n 0, 1) := by decide +kernel
theorem dM_isBetter_1 : decode cM_isBetter 1 = .ok (.getfield 66, 3) := by decide +kernel
theorem dM_isBetter_4 : decode cM_isBetter 4 = .ok (.iload_n 1, 1) := by decide +kernel
theorem dM_isBetter_5 : decode cM_isBetter 5 = .ok (.laload, 1) := by decide +kernel
theorem dM_isBetter_6 : decode cM_isBetter 6 = .ok (.aload_n 0, 1) := by decide +kernel
theorem dM_isBetter_7 : decode cM_isBetter 7 = .ok (.getfield 54, 3) := by decide +kernel
theorem dM_isBetter_10 : decode cM_isBetter 10 = .ok (.iload_n 2, 1) := by decide +kernel
theorem dM_isBetter_11 : decode cM_isBetter 11 = .ok (.laload, 1) := by decide +kernel
theorem dM_isBetter_12 : decode cM_isBetter 12 = .ok (.lcmp, 1) := by decide +kernel
theorem dM_isBetter_13 : decode cM_isBetter 13 = .ok (.ifCond .eq 25, 3) := by decide +kernel
theorem dM_isBetter_16 : decode cM_isBetter 16 = .ok (.aload_n 0, 1) := by decide +kernel
theorem dM_isBetter_17 : decode cM_isBetter 17 = .ok (.getfield 66, 3) := by decide +kernel
theorem dM_isBetter_20 : decode cM_isBetter 20 = .ok (.iload_n 1, 1) := by decide +kernel
theorem dM_isBetter_21 : decode cM_isBetter 21 = .ok (.laload, 1) := by decide +kernel
theorem dM_isBetter_22 : decode cM_isBetter 22 = .ok (.aload_n 0, 1) := by decide +kernel
theorem dM_isBetter_23 : decode cM_isBetter 23 = .ok (.getfield 54, 3) := by decide +kernel
theorem dM_isBetter_26 : decode cM_isBetter 26 = .ok (.iload_n 2, 1) := by decide +kernel
theorem dM_isBetter_27 : decode cM_isBetter 27 = .ok (.laload, 1) := by decide +kernel
theorem dM_isBetter_28 : decode cM_isBetter 28 = .ok (.lcmp, 1) := by decide +kernel
theorem dM_isBetter_29 : decode cM_isBetter 29 = .ok (.ifCond .ge 7, 3) := by decide +kernel
theorem dM_isBetter_32 : decode cM_isBetter 32 = .ok (.iconst 1, 1) := by decide +kernel
theorem dM_isBetter_33 : decode cM_isBetter 33 = .ok (.goto 4, 3) := by decide +kernel
theorem dM_isBetter_36 : decode cM_isBetter 36 = .ok (.iconst 0, 1) := by decide +kernel
theorem dM_isBetter_37 : decode cM_isBetter 37 = .ok (.ireturn, 1) := by decide +kernel
theorem dM_isBetter_38 : decode cM_isBetter 38 = .ok (.iconst 0, 1) := by decide +kernel
theorem dM_isBetter_39 : decode cM_isBetter 39 = .ok (.istore_n 3, 1) := by decide +kernel
theorem dM_isBetter_40 : decode cM_isBetter 40 = .ok (.iload_n 3, 1) := by decide +kernel
theorem dM_isBetter_41 : decode cM_isBetter 41 = .ok (.iload_n 1, 1) := by decide +kernel
theorem dM_isBetter_42 : decode cM_isBetter 42 = .ok (.if_icmp .ge 63, 3) := by decide +kernel
theorem dM_isBetter_45 : decode cM_isBetter 45 = .ok (.iload_n 3, 1) := by decide +kernel
theorem dM_isBetter_46 : decode cM_isBetter 46 = .ok (.aload_n 0, 1) := by decide +kernel
theorem dM_isBetter_47 : decode cM_isBetter 47 = .ok (.getfield 57, 3) := by decide +kernel
theorem dM_isBetter_50 : decode cM_isBetter 50 = .ok (.iload_n 2, 1) := by decide +kernel
theorem dM_isBetter_51 : decode cM_isBetter 51 = .ok (.iaload, 1) := by decide +kernel
theorem dM_isBetter_52 : decode cM_isBetter 52 = .ok (.if_icmp .ge 53, 3) := by decide +kernel
theorem dM_isBetter_55 : decode cM_isBetter 55 = .ok (.aload_n 0, 1) := by decide +kernel
theorem dM_isBetter_56 : decode cM_isBetter 56 = .ok (.getfield 63, 3) := by decide +kernel
theorem dM_isBetter_59 : decode cM_isBetter 59 = .ok (.iload_n 3, 1) := by decide +kernel
theorem dM_isBetter_60 : decode cM_isBetter 60 = .ok (.iaload, 1) := by decide +kernel
theorem dM_isBetter_61 : decode cM_isBetter 61 = .ok (.aload_n 0, 1) := by decide +kernel
theorem dM_isBetter_62 : decode cM_isBetter 62 = .ok (.getfield 60, 3) := by decide +kernel
theorem dM_isBetter_65 : decode cM_isBetter 65 = .ok (.iconst 5, 1) := by decide +kernel
theorem dM_isBetter_66 : decode cM_isBetter 66 = .ok (.iload_n 2, 1) := by decide +kernel
theorem dM_isBetter_67 : decode cM_isBetter 67 = .ok (.imul, 1) := by decide +kernel
theorem dM_isBetter_68 : decode cM_isBetter 68 = .ok (.iload_n 3, 1) := by decide +kernel
theorem dM_isBetter_69 : decode cM_isBetter 69 = .ok (.iadd, 1) := by decide +kernel
theorem dM_isBetter_70 : decode cM_isBetter 70 = .ok (.iaload, 1) := by decide +kernel
theorem dM_isBetter_71 : decode cM_isBetter 71 = .ok (.if_icmp .eq 28, 3) := by decide +kernel
theorem dM_isBetter_74 : decode cM_isBetter 74 = .ok (.aload_n 0, 1) := by decide +kernel
theorem dM_isBetter_75 : decode cM_isBetter 75 = .ok (.getfield 63, 3) := by decide +kernel
theorem dM_isBetter_78 : decode cM_isBetter 78 = .ok (.iload_n 3, 1) := by decide +kernel
theorem dM_isBetter_79 : decode cM_isBetter 79 = .ok (.iaload, 1) := by decide +kernel
theorem dM_isBetter_80 : decode cM_isBetter 80 = .ok (.aload_n 0, 1) := by decide +kernel
theorem dM_isBetter_81 : decode cM_isBetter 81 = .ok (.getfield 60, 3) := by decide +kernel
theorem dM_isBetter_84 : decode cM_isBetter 84 = .ok (.iconst 5, 1) := by decide +kernel
theorem dM_isBetter_85 : decode cM_isBetter 85 = .ok (.iload_n 2, 1) := by decide +kernel
theorem dM_isBetter_86 : decode cM_isBetter 86 = .ok (.imul, 1) := by decide +kernel
theorem dM_isBetter_87 : decode cM_isBetter 87 = .ok (.iload_n 3, 1) := by decide +kernel
theorem dM_isBetter_88 : decode cM_isBetter 88 = .ok (.iadd, 1) := by decide +kernel
theorem dM_isBetter_89 : decode cM_isBetter 89 = .ok (.iaload, 1) := by decide +kernel
theorem dM_isBetter_90 : decode cM_isBetter 90 = .ok (.if_icmp .ge 7, 3) := by decide +kernel
theorem dM_isBetter_93 : decode cM_isBetter 93 = .ok (.iconst 1, 1) := by decide +kernel
theorem dM_isBetter_94 : decode cM_isBetter 94 = .ok (.goto 4, 3) := by decide +kernel
theorem dM_isBetter_97 : decode cM_isBetter 97 = .ok (.iconst 0, 1) := by decide +kernel
theorem dM_isBetter_98 : decode cM_isBetter 98 = .ok (.ireturn, 1) := by decide +kernel
theorem dM_isBetter_99 : decode cM_isBetter 99 = .ok (.iinc 3 1, 3) := by decide +kernel
theorem dM_isBetter_102 : decode cM_isBetter 102 = .ok (.goto (-62), 3) := by decide +kernel
theorem dM_isBetter_105 : decode cM_isBetter 105 = .ok (.iload_n 1, 1) := by decide +kernel
theorem dM_isBetter_106 : decode cM_isBetter 106 = .ok (.aload_n 0, 1) := by decide +kernel
theorem dM_isBetter_107 : decode cM_isBetter 107 = .ok (.getfield 57, 3) := by decide +kernel
theorem dM_isBetter_110 : decode cM_isBetter 110 = .ok (.iload_n 2, 1) := by decide +kernel
theorem dM_isBetter_111 : decode cM_isBetter 111 = .ok (.iaload, 1) := by decide +kernel
theorem dM_isBetter_112 : decode cM_isBetter 112 = .ok (.if_icmp .ge 7, 3) := by decide +kernel
theorem dM_isBetter_115 : decode cM_isBetter 115 = .ok (.iconst 1, 1) := by decide +kernel
theorem dM_isBetter_116 : decode cM_isBetter 116 = .ok (.goto 4, 3) := by decide +kernel
theorem dM_isBetter_119 : decode cM_isBetter 119 = .ok (.iconst 0, 1) := by decide +kernel
theorem dM_isBetter_120 : decode cM_isBetter 120 = .ok (.ireturn, 1) := by decide +kernel
theorem dM_told_0 : decode cM_told 0 = .ok (.aload_n 0, 1) := by decide +kernel
theorem dM_told_1 : decode cM_told 1 = .ok (.aload_n 0, 1) := by decide +kernel
theorem dM_told_2 : decode cM_told 2 = .ok (.iload_n 1, 1) := by decide +kernel
theorem dM_told_3 : decode cM_told 3 = .ok (.invokevirtual 98, 3) := by decide +kernel
theorem dM_told_6 : decode cM_told 6 = .ok (.ifCond .eq 15, 3) := by decide +kernel
theorem dM_told_9 : decode cM_told 9 = .ok (.iload_n 2, 1) := by decide +kernel
theorem dM_told_10 : decode cM_told 10 = .ok (.i2l, 1) := by decide +kernel
theorem dM_told_11 : decode cM_told 11 = .ok (.lconst 0, 1) := by decide +kernel
theorem dM_told_12 : decode cM_told 12 = .ok (.ldc2_w 174, 3) := by decide +kernel
theorem dM_told_15 : decode cM_told 15 = .ok (.invokestatic 76, 3) := by decide +kernel
theorem dM_told_18 : decode cM_told 18 = .ok (.ifCond .ne 7, 3) := by decide +kernel
theorem dM_told_21 : decode cM_told 21 = .ok (.iconst 1, 1) := by decide +kernel
theorem dM_told_22 : decode cM_told 22 = .ok (.goto 4, 3) := by decide +kernel
theorem dM_told_25 : decode cM_told 25 = .ok (.iconst 0, 1) := by decide +kernel
theorem dM_told_26 : decode cM_told 26 = .ok (.putfield 69, 3) := by decide +kernel
theorem dM_told_29 : decode cM_told 29 = .ok (.aload_n 0, 1) := by decide +kernel
theorem dM_told_30 : decode cM_told 30 = .ok (.getfield 69, 3) := by decide +kernel
theorem dM_told_33 : decode cM_told 33 = .ok (.ifCond .le 5, 3) := by decide +kernel
theorem dM_told_36 : decode cM_told 36 = .ok (.lconst 0, 1) := by decide +kernel
theorem dM_told_37 : decode cM_told 37 = .ok (.lreturn, 1) := by decide +kernel
theorem dM_told_38 : decode cM_told 38 = .ok (.iload_n 2, 1) := by decide +kernel
theorem dM_told_39 : decode cM_told 39 = .ok (.ifCond .ne 11, 3) := by decide +kernel
theorem dM_told_42 : decode cM_told 42 = .ok (.aload_n 0, 1) := by decide +kernel
theorem dM_told_43 : decode cM_told 43 = .ok (.getfield 13, 3) := by decide +kernel
theorem dM_told_46 : decode cM_told 46 = .ok (.iload_n 1, 1) := by decide +kernel
theorem dM_told_47 : decode cM_told 47 = .ok (.iaload, 1) := by decide +kernel
theorem dM_told_48 : decode cM_told 48 = .ok (.i2l, 1) := by decide +kernel
theorem dM_told_49 : decode cM_told 49 = .ok (.lreturn, 1) := by decide +kernel
theorem dM_told_50 : decode cM_told 50 = .ok (.iload_n 2, 1) := by decide +kernel
theorem dM_told_51 : decode cM_told 51 = .ok (.iconst 1, 1) := by decide +kernel
theorem dM_told_52 : decode cM_told 52 = .ok (.if_icmp .ne 11, 3) := by decide +kernel
theorem dM_told_55 : decode cM_told 55 = .ok (.aload_n 0, 1) := by decide +kernel
theorem dM_told_56 : decode cM_told 56 = .ok (.getfield 16, 3) := by decide +kernel
theorem dM_told_59 : decode cM_told 59 = .ok (.iload_n 1, 1) := by decide +kernel
theorem dM_told_60 : decode cM_told 60 = .ok (.iaload, 1) := by decide +kernel
theorem dM_told_61 : decode cM_told 61 = .ok (.i2l, 1) := by decide +kernel
theorem dM_told_62 : decode cM_told 62 = .ok (.lreturn, 1) := by decide +kernel
theorem dM_told_63 : decode cM_told 63 = .ok (.iload_n 2, 1) := by decide +kernel
theorem dM_told_64 : decode cM_told 64 = .ok (.iconst 2, 1) := by decide +kernel
theorem dM_told_65 : decode cM_told 65 = .ok (.if_icmp .ne 10, 3) := by decide +kernel
theorem dM_told_68 : decode cM_told 68 = .ok (.aload_n 0, 1) := by decide +kernel
theorem dM_told_69 : decode cM_told 69 = .ok (.getfield 19, 3) := by decide +kernel
theorem dM_told_72 : decode cM_told 72 = .ok (.iload_n 1, 1) := by decide +kernel
theorem dM_told_73 : decode cM_told 73 = .ok (.laload, 1) := by decide +kernel
theorem dM_told_74 : decode cM_told 74 = .ok (.lreturn, 1) := by decide +kernel
theorem dM_told_75 : decode cM_told 75 = .ok (.iload_n 2, 1) := by decide +kernel
theorem dM_told_76 : decode cM_told 76 = .ok (.iconst 3, 1) := by decide +kernel
theorem dM_told_77 : decode cM_told 77 = .ok (.if_icmp .ne 18, 3) := by decide +kernel
theorem dM_told_80 : decode cM_told 80 = .ok (.aload_n 0, 1) := by decide +kernel
theorem dM_told_81 : decode cM_told 81 = .ok (.getfield 29, 3) := by decide +kernel
theorem dM_told_84 : decode cM_told 84 = .ok (.iload_n 1, 1) := by decide +kernel
theorem dM_told_85 : decode cM_told 85 = .ok (.baload, 1) := by decide +kernel
theorem dM_told_86 : decode cM_told 86 = .ok (.ifCond .eq 7, 3) := by decide +kernel
theorem dM_told_89 : decode cM_told 89 = .ok (.lconst 1, 1) := by decide +kernel
theorem dM_told_90 : decode cM_told 90 = .ok (.goto 4, 3) := by decide +kernel
theorem dM_told_93 : decode cM_told 93 = .ok (.lconst 0, 1) := by decide +kernel
theorem dM_told_94 : decode cM_told 94 = .ok (.lreturn, 1) := by decide +kernel
theorem dM_told_95 : decode cM_told 95 = .ok (.iload_n 2, 1) := by decide +kernel
theorem dM_told_96 : decode cM_told 96 = .ok (.iconst 4, 1) := by decide +kernel
theorem dM_told_97 : decode cM_told 97 = .ok (.if_icmp .ne 13, 3) := by decide +kernel
theorem dM_told_100 : decode cM_told 100 = .ok (.aload_n 0, 1) := by decide +kernel
theorem dM_told_101 : decode cM_told 101 = .ok (.getfield 33, 3) := by decide +kernel
theorem dM_told_104 : decode cM_told 104 = .ok (.iload_n 1, 1) := by decide +kernel
theorem dM_told_105 : decode cM_told 105 = .ok (.iaload, 1) := by decide +kernel
theorem dM_told_106 : decode cM_told 106 = .ok (.i2l, 1) := by decide +kernel
theorem dM_told_107 : decode cM_told 107 = .ok (.goto 25, 3) := by decide +kernel
theorem dM_told_110 : decode cM_told 110 = .ok (.iload_n 2, 1) := by decide +kernel
theorem dM_told_111 : decode cM_told 111 = .ok (.iconst 5, 1) := by decide +kernel
theorem dM_told_112 : decode cM_told 112 = .ok (.if_icmp .ne 13, 3) := by decide +kernel
theorem dM_told_115 : decode cM_told 115 = .ok (.aload_n 0, 1) := by decide +kernel
theorem dM_told_116 : decode cM_told 116 = .ok (.getfield 23, 3) := by decide +kernel
theorem dM_told_119 : decode cM_told 119 = .ok (.iload_n 1, 1) := by decide +kernel
theorem dM_told_120 : decode cM_told 120 = .ok (.iaload, 1) := by decide +kernel
theorem dM_told_121 : decode cM_told 121 = .ok (.i2l, 1) := by decide +kernel
theorem dM_told_122 : decode cM_told 122 = .ok (.goto 10, 3) := by decide +kernel
theorem dM_told_125 : decode cM_told 125 = .ok (.aload_n 0, 1) := by decide +kernel
theorem dM_told_126 : decode cM_told 126 = .ok (.getfield 26, 3) := by decide +kernel
theorem dM_told_129 : decode cM_told 129 = .ok (.iload_n 1, 1) := by decide +kernel
theorem dM_told_130 : decode cM_told 130 = .ok (.iaload, 1) := by decide +kernel
theorem dM_told_131 : decode cM_told 131 = .ok (.i2l, 1) := by decide +kernel
theorem dM_told_132 : decode cM_told 132 = .ok (.lreturn, 1) := by decide +kernel
theorem dM_count_0 : decode cM_count 0 = .ok (.aload_n 0, 1) := by decide +kernel
theorem dM_count_1 : decode cM_count 1 = .ok (.iconst 0, 1) := by decide +kernel
theorem dM_count_2 : decode cM_count 2 = .ok (.putfield 69, 3) := by decide +kernel
theorem dM_count_5 : decode cM_count 5 = .ok (.iload_n 1, 1) := by decide +kernel
theorem dM_count_6 : decode cM_count 6 = .ok (.ifCond .ne 8, 3) := by decide +kernel
theorem dM_count_9 : decode cM_count 9 = .ok (.aload_n 0, 1) := by decide +kernel
theorem dM_count_10 : decode cM_count 10 = .ok (.getfield 73, 3) := by decide +kernel
theorem dM_count_13 : decode cM_count 13 = .ok (.ireturn, 1) := by decide +kernel
theorem dM_count_14 : decode cM_count 14 = .ok (.iload_n 1, 1) := by decide +kernel
theorem dM_count_15 : decode cM_count 15 = .ok (.iconst 1, 1) := by decide +kernel
theorem dM_count_16 : decode cM_count 16 = .ok (.if_icmp .ne 8, 3) := by decide +kernel
theorem dM_count_19 : decode cM_count 19 = .ok (.aload_n 0, 1) := by decide +kernel
theorem dM_count_20 : decode cM_count 20 = .ok (.getfield 80, 3) := by decide +kernel
theorem dM_count_23 : decode cM_count 23 = .ok (.ireturn, 1) := by decide +kernel
theorem dM_count_24 : decode cM_count 24 = .ok (.iload_n 1, 1) := by decide +kernel
theorem dM_count_25 : decode cM_count 25 = .ok (.iconst 2, 1) := by decide +kernel
theorem dM_count_26 : decode cM_count 26 = .ok (.if_icmp .ne 8, 3) := by decide +kernel
theorem dM_count_29 : decode cM_count 29 = .ok (.aload_n 0, 1) := by decide +kernel
theorem dM_count_30 : decode cM_count 30 = .ok (.getfield 101, 3) := by decide +kernel
theorem dM_count_33 : decode cM_count 33 = .ok (.ireturn, 1) := by decide +kernel
theorem dM_count_34 : decode cM_count 34 = .ok (.iload_n 1, 1) := by decide +kernel
theorem dM_count_35 : decode cM_count 35 = .ok (.iconst 3, 1) := by decide +kernel
theorem dM_count_36 : decode cM_count 36 = .ok (.if_icmp .ne 8, 3) := by decide +kernel
theorem dM_count_39 : decode cM_count 39 = .ok (.aload_n 0, 1) := by decide +kernel
theorem dM_count_40 : decode cM_count 40 = .ok (.getfield 149, 3) := by decide +kernel
theorem dM_count_43 : decode cM_count 43 = .ok (.ireturn, 1) := by decide +kernel
theorem dM_count_44 : decode cM_count 44 = .ok (.iconst 0, 1) := by decide +kernel
theorem dM_count_45 : decode cM_count 45 = .ok (.istore_n 2, 1) := by decide +kernel
theorem dM_count_46 : decode cM_count 46 = .ok (.iconst 0, 1) := by decide +kernel
theorem dM_count_47 : decode cM_count 47 = .ok (.istore_n 3, 1) := by decide +kernel
theorem dM_count_48 : decode cM_count 48 = .ok (.iload_n 3, 1) := by decide +kernel
theorem dM_count_49 : decode cM_count 49 = .ok (.sipush 1600, 3) := by decide +kernel
theorem dM_count_52 : decode cM_count 52 = .ok (.if_icmp .ge 26, 3) := by decide +kernel
theorem dM_count_55 : decode cM_count 55 = .ok (.iload_n 2, 1) := by decide +kernel
theorem dM_count_56 : decode cM_count 56 = .ok (.aload_n 0, 1) := by decide +kernel
theorem dM_count_57 : decode cM_count 57 = .ok (.getfield 36, 3) := by decide +kernel
theorem dM_count_60 : decode cM_count 60 = .ok (.iload_n 3, 1) := by decide +kernel
theorem dM_count_61 : decode cM_count 61 = .ok (.baload, 1) := by decide +kernel
theorem dM_count_62 : decode cM_count 62 = .ok (.ifCond .eq 7, 3) := by decide +kernel
theorem dM_count_65 : decode cM_count 65 = .ok (.iconst 1, 1) := by decide +kernel
theorem dM_count_66 : decode cM_count 66 = .ok (.goto 4, 3) := by decide +kernel
theorem dM_count_69 : decode cM_count 69 = .ok (.iconst 0, 1) := by decide +kernel
theorem dM_count_70 : decode cM_count 70 = .ok (.iadd, 1) := by decide +kernel
theorem dM_count_71 : decode cM_count 71 = .ok (.istore_n 2, 1) := by decide +kernel
theorem dM_count_72 : decode cM_count 72 = .ok (.iinc 3 1, 3) := by decide +kernel
theorem dM_count_75 : decode cM_count 75 = .ok (.goto (-27), 3) := by decide +kernel
theorem dM_count_78 : decode cM_count 78 = .ok (.iload_n 1, 1) := by decide +kernel
theorem dM_count_79 : decode cM_count 79 = .ok (.iconst 4, 1) := by decide +kernel
theorem dM_count_80 : decode cM_count 80 = .ok (.if_icmp .ne 7, 3) := by decide +kernel
theorem dM_count_83 : decode cM_count 83 = .ok (.iload_n 2, 1) := by decide +kernel
theorem dM_count_84 : decode cM_count 84 = .ok (.goto 4, 3) := by decide +kernel
theorem dM_count_87 : decode cM_count 87 = .ok (.iconst (-1), 1) := by decide +kernel
theorem dM_count_88 : decode cM_count 88 = .ok (.ireturn, 1) := by decide +kernel
theorem dW_law_0 : decode cW_law 0 = .ok (.new 8, 3) := by decide +kernel
theorem dW_law_3 : decode cW_law 3 = .ok (.dup, 1) := by decide +kernel
theorem dW_law_4 : decode cW_law 4 = .ok (.invokespecial 70, 3) := by decide +kernel
theorem dW_law_7 : decode cW_law 7 = .ok (.astore_n 1, 1) := by decide +kernel
theorem dW_law_8 : decode cW_law 8 = .ok (.new 71, 3) := by decide +kernel
theorem dW_law_11 : decode cW_law 11 = .ok (.dup, 1) := by decide +kernel
theorem dW_law_12 : decode cW_law 12 = .ok (.invokespecial 73, 3) := by decide +kernel
theorem dW_law_15 : decode cW_law 15 = .ok (.astore_n 2, 1) := by decide +kernel
theorem dW_law_16 : decode cW_law 16 = .ok (.iconst 1, 1) := by decide +kernel
theorem dW_law_17 : decode cW_law 17 = .ok (.newarray .long, 2) := by decide +kernel
theorem dW_law_19 : decode cW_law 19 = .ok (.astore_n 3, 1) := by decide +kernel
theorem dW_law_20 : decode cW_law 20 = .ok (.iconst 0, 1) := by decide +kernel
theorem dW_law_21 : decode cW_law 21 = .ok (.istore 4, 2) := by decide +kernel
theorem dW_law_23 : decode cW_law 23 = .ok (.iload 4, 2) := by decide +kernel
theorem dW_law_25 : decode cW_law 25 = .ok (.aload_n 0, 1) := by decide +kernel
theorem dW_law_26 : decode cW_law 26 = .ok (.arraylength, 1) := by decide +kernel
theorem dW_law_27 : decode cW_law 27 = .ok (.bipush 7, 2) := by decide +kernel
theorem dW_law_29 : decode cW_law 29 = .ok (.isub, 1) := by decide +kernel
theorem dW_law_30 : decode cW_law 30 = .ok (.if_icmp .gt 1419, 3) := by decide +kernel
theorem dW_law_33 : decode cW_law 33 = .ok (.aload_n 0, 1) := by decide +kernel
theorem dW_law_34 : decode cW_law 34 = .ok (.iload 4, 2) := by decide +kernel
theorem dW_law_36 : decode cW_law 36 = .ok (.iaload, 1) := by decide +kernel
theorem dW_law_37 : decode cW_law 37 = .ok (.bipush 15, 2) := by decide +kernel
theorem dW_law_39 : decode cW_law 39 = .ok (.iand, 1) := by decide +kernel
theorem dW_law_40 : decode cW_law 40 = .ok (.tableswitch 1403 0 15 #[80, 136, 294, 406, 498, 598, 682, 778, 874, 997, 1022, 1109, 1165, 1232, 1311, 1378], 80) := by decide +kernel
theorem dW_law_120 : decode cW_law 120 = .ok (.aload_n 1, 1) := by decide +kernel
theorem dW_law_121 : decode cW_law 121 = .ok (.aload_n 0, 1) := by decide +kernel
theorem dW_law_122 : decode cW_law 122 = .ok (.iload 4, 2) := by decide +kernel
theorem dW_law_124 : decode cW_law 124 = .ok (.iconst 1, 1) := by decide +kernel
theorem dW_law_125 : decode cW_law 125 = .ok (.iadd, 1) := by decide +kernel
theorem dW_law_126 : decode cW_law 126 = .ok (.iaload, 1) := by decide +kernel
theorem dW_law_127 : decode cW_law 127 = .ok (.aload_n 3, 1) := by decide +kernel
theorem dW_law_128 : decode cW_law 128 = .ok (.invokestatic 74, 3) := by decide +kernel
theorem dW_law_131 : decode cW_law 131 = .ok (.istore 5, 2) := by decide +kernel
theorem dW_law_133 : decode cW_law 133 = .ok (.aload_n 2, 1) := by decide +kernel
theorem dW_law_134 : decode cW_law 134 = .ok (.aload_n 0, 1) := by decide +kernel
theorem dW_law_135 : decode cW_law 135 = .ok (.iload 4, 2) := by decide +kernel
theorem dW_law_137 : decode cW_law 137 = .ok (.iconst 1, 1) := by decide +kernel
theorem dW_law_138 : decode cW_law 138 = .ok (.iadd, 1) := by decide +kernel
theorem dW_law_139 : decode cW_law 139 = .ok (.iaload, 1) := by decide +kernel
theorem dW_law_140 : decode cW_law 140 = .ok (.invokevirtual 79, 3) := by decide +kernel
theorem dW_law_143 : decode cW_law 143 = .ok (.istore 6, 2) := by decide +kernel
theorem dW_law_145 : decode cW_law 145 = .ok (.aload_n 2, 1) := by decide +kernel
theorem dW_law_146 : decode cW_law 146 = .ok (.invokevirtual 80, 3) := by decide +kernel
theorem dW_law_149 : decode cW_law 149 = .ok (.iload 5, 2) := by decide +kernel
theorem dW_law_151 : decode cW_law 151 = .ok (.if_icmp .eq 5, 3) := by decide +kernel
theorem dW_law_154 : decode cW_law 154 = .ok (.iconst 0, 1) := by decide +kernel
theorem dW_law_155 : decode cW_law 155 = .ok (.ireturn, 1) := by decide +kernel
theorem dW_law_156 : decode cW_law 156 = .ok (.iload 5, 2) := by decide +kernel
theorem dW_law_158 : decode cW_law 158 = .ok (.ifCond .ne 15, 3) := by decide +kernel
theorem dW_law_161 : decode cW_law 161 = .ok (.aload_n 3, 1) := by decide +kernel
theorem dW_law_162 : decode cW_law 162 = .ok (.iconst 0, 1) := by decide +kernel
theorem dW_law_163 : decode cW_law 163 = .ok (.laload, 1) := by decide +kernel
theorem dW_law_164 : decode cW_law 164 = .ok (.iload 6, 2) := by decide +kernel
theorem dW_law_166 : decode cW_law 166 = .ok (.i2l, 1) := by decide +kernel
theorem dW_law_167 : decode cW_law 167 = .ok (.lcmp, 1) := by decide +kernel
theorem dW_law_168 : decode cW_law 168 = .ok (.ifCond .eq 5, 3) := by decide +kernel
theorem dW_law_171 : decode cW_law 171 = .ok (.iconst 0, 1) := by decide +kernel
theorem dW_law_172 : decode cW_law 172 = .ok (.ireturn, 1) := by decide +kernel
theorem dW_law_173 : decode cW_law 173 = .ok (.goto 1270, 3) := by decide +kernel
theorem dW_law_176 : decode cW_law 176 = .ok (.aload_n 1, 1) := by decide +kernel
theorem dW_law_177 : decode cW_law 177 = .ok (.aload_n 0, 1) := by decide +kernel
theorem dW_law_178 : decode cW_law 178 = .ok (.iload 4, 2) := by decide +kernel
theorem dW_law_180 : decode cW_law 180 = .ok (.iconst 1, 1) := by decide +kernel
theorem dW_law_181 : decode cW_law 181 = .ok (.iadd, 1) := by decide +kernel
theorem dW_law_182 : decode cW_law 182 = .ok (.iaload, 1) := by decide +kernel
theorem dW_law_183 : decode cW_law 183 = .ok (.aload_n 0, 1) := by decide +kernel
theorem dW_law_184 : decode cW_law 184 = .ok (.iload 4, 2) := by decide +kernel
theorem dW_law_186 : decode cW_law 186 = .ok (.iconst 2, 1) := by decide +kernel
theorem dW_law_187 : decode cW_law 187 = .ok (.iadd, 1) := by decide +kernel
theorem dW_law_188 : decode cW_law 188 = .ok (.iaload, 1) := by decide +kernel
theorem dW_law_189 : decode cW_law 189 = .ok (.aload_n 0, 1) := by decide +kernel
theorem dW_law_190 : decode cW_law 190 = .ok (.iload 4, 2) := by decide +kernel
theorem dW_law_192 : decode cW_law 192 = .ok (.iconst 3, 1) := by decide +kernel
theorem dW_law_193 : decode cW_law 193 = .ok (.iadd, 1) := by decide +kernel
theorem dW_law_194 : decode cW_law 194 = .ok (.iaload, 1) := by decide +kernel
theorem dW_law_195 : decode cW_law 195 = .ok (.i2l, 1) := by decide +kernel
theorem dW_law_196 : decode cW_law 196 = .ok (.bipush 32, 2) := by decide +kernel
theorem dW_law_198 : decode cW_law 198 = .ok (.lshl, 1) := by decide +kernel
theorem dW_law_199 : decode cW_law 199 = .ok (.aload_n 0, 1) := by decide +kernel
theorem dW_law_200 : decode cW_law 200 = .ok (.iload 4, 2) := by decide +kernel
theorem dW_law_202 : decode cW_law 202 = .ok (.iconst 4, 1) := by decide +kernel
theorem dW_law_203 : decode cW_law 203 = .ok (.iadd, 1) := by decide +kernel
theorem dW_law_204 : decode cW_law 204 = .ok (.iaload, 1) := by decide +kernel
theorem dW_law_205 : decode cW_law 205 = .ok (.i2l, 1) := by decide +kernel
theorem dW_law_206 : decode cW_law 206 = .ok (.ldc2_w 84, 3) := by decide +kernel
theorem dW_law_209 : decode cW_law 209 = .ok (.land, 1) := by decide +kernel
theorem dW_law_210 : decode cW_law 210 = .ok (.lor, 1) := by decide +kernel
theorem dW_law_211 : decode cW_law 211 = .ok (.aload_n 0, 1) := by decide +kernel
theorem dW_law_212 : decode cW_law 212 = .ok (.iload 4, 2) := by decide +kernel
theorem dW_law_214 : decode cW_law 214 = .ok (.iconst 5, 1) := by decide +kernel
theorem dW_law_215 : decode cW_law 215 = .ok (.iadd, 1) := by decide +kernel
theorem dW_law_216 : decode cW_law 216 = .ok (.iaload, 1) := by decide +kernel
theorem dW_law_217 : decode cW_law 217 = .ok (.i2l, 1) := by decide +kernel
theorem dW_law_218 : decode cW_law 218 = .ok (.bipush 32, 2) := by decide +kernel
theorem dW_law_220 : decode cW_law 220 = .ok (.lshl, 1) := by decide +kernel
theorem dW_law_221 : decode cW_law 221 = .ok (.aload_n 0, 1) := by decide +kernel
theorem dW_law_222 : decode cW_law 222 = .ok (.iload 4, 2) := by decide +kernel
theorem dW_law_224 : decode cW_law 224 = .ok (.bipush 6, 2) := by decide +kernel
theorem dW_law_226 : decode cW_law 226 = .ok (.iadd, 1) := by decide +kernel
theorem dW_law_227 : decode cW_law 227 = .ok (.iaload, 1) := by decide +kernel
theorem dW_law_228 : decode cW_law 228 = .ok (.i2l, 1) := by decide +kernel
theorem dW_law_229 : decode cW_law 229 = .ok (.ldc2_w 84, 3) := by decide +kernel
theorem dW_law_232 : decode cW_law 232 = .ok (.land, 1) := by decide +kernel
theorem dW_law_233 : decode cW_law 233 = .ok (.lor, 1) := by decide +kernel
theorem dW_law_234 : decode cW_law 234 = .ok (.aload_n 3, 1) := by decide +kernel
theorem dW_law_235 : decode cW_law 235 = .ok (.invokestatic 86, 3) := by decide +kernel
theorem dW_law_238 : decode cW_law 238 = .ok (.istore 5, 2) := by decide +kernel
theorem dW_law_240 : decode cW_law 240 = .ok (.aload_n 2, 1) := by decide +kernel
theorem dW_law_241 : decode cW_law 241 = .ok (.aload_n 0, 1) := by decide +kernel
theorem dW_law_242 : decode cW_law 242 = .ok (.iload 4, 2) := by decide +kernel
theorem dW_law_244 : decode cW_law 244 = .ok (.iconst 1, 1) := by decide +kernel
theorem dW_law_245 : decode cW_law 245 = .ok (.iadd, 1) := by decide +kernel
theorem dW_law_246 : decode cW_law 246 = .ok (.iaload, 1) := by decide +kernel
theorem dW_law_247 : decode cW_law 247 = .ok (.aload_n 0, 1) := by decide +kernel
theorem dW_law_248 : decode cW_law 248 = .ok (.iload 4, 2) := by decide +kernel
theorem dW_law_250 : decode cW_law 250 = .ok (.iconst 2, 1) := by decide +kernel
theorem dW_law_251 : decode cW_law 251 = .ok (.iadd, 1) := by decide +kernel
theorem dW_law_252 : decode cW_law 252 = .ok (.iaload, 1) := by decide +kernel
theorem dW_law_253 : decode cW_law 253 = .ok (.aload_n 0, 1) := by decide +kernel
theorem dW_law_254 : decode cW_law 254 = .ok (.iload 4, 2) := by decide +kernel
theorem dW_law_256 : decode cW_law 256 = .ok (.iconst 3, 1) := by decide +kernel
theorem dW_law_257 : decode cW_law 257 = .ok (.iadd, 1) := by decide +kernel
theorem dW_law_258 : decode cW_law 258 = .ok (.iaload, 1) := by decide +kernel
theorem dW_law_259 : decode cW_law 259 = .ok (.i2l, 1) := by decide +kernel
theorem dW_law_260 : decode cW_law 260 = .ok (.bipush 32, 2) := by decide +kernel
theorem dW_law_262 : decode cW_law 262 = .ok (.lshl, 1) := by decide +kernel
theorem dW_law_263 : decode cW_law 263 = .ok (.aload_n 0, 1) := by decide +kernel
theorem dW_law_264 : decode cW_law 264 = .ok (.iload 4, 2) := by decide +kernel
theorem dW_law_266 : decode cW_law 266 = .ok (.iconst 4, 1) := by decide +kernel
theorem dW_law_267 : decode cW_law 267 = .ok (.iadd, 1) := by decide +kernel
theorem dW_law_268 : decode cW_law 268 = .ok (.iaload, 1) := by decide +kernel
theorem dW_law_269 : decode cW_law 269 = .ok (.i2l, 1) := by decide +kernel
theorem dW_law_270 : decode cW_law 270 = .ok (.ldc2_w 84, 3) := by decide +kernel
theorem dW_law_273 : decode cW_law 273 = .ok (.land, 1) := by decide +kernel
theorem dW_law_274 : decode cW_law 274 = .ok (.lor, 1) := by decide +kernel
theorem dW_law_275 : decode cW_law 275 = .ok (.aload_n 0, 1) := by decide +kernel
theorem dW_law_276 : decode cW_law 276 = .ok (.iload 4, 2) := by decide +kernel
theorem dW_law_278 : decode cW_law 278 = .ok (.iconst 5, 1) := by decide +kernel
theorem dW_law_279 : decode cW_law 279 = .ok (.iadd, 1) := by decide +kernel
theorem dW_law_280 : decode cW_law 280 = .ok (.iaload, 1) := by decide +kernel
theorem dW_law_281 : decode cW_law 281 = .ok (.i2l, 1) := by decide +kernel
theorem dW_law_282 : decode cW_law 282 = .ok (.bipush 32, 2) := by decide +kernel
theorem dW_law_284 : decode cW_law 284 = .ok (.lshl, 1) := by decide +kernel
theorem dW_law_285 : decode cW_law 285 = .ok (.aload_n 0, 1) := by decide +kernel
theorem dW_law_286 : decode cW_law 286 = .ok (.iload 4, 2) := by decide +kernel
theorem dW_law_288 : decode cW_law 288 = .ok (.bipush 6, 2) := by decide +kernel
theorem dW_law_290 : decode cW_law 290 = .ok (.iadd, 1) := by decide +kernel
theorem dW_law_291 : decode cW_law 291 = .ok (.iaload, 1) := by decide +kernel
theorem dW_law_292 : decode cW_law 292 = .ok (.i2l, 1) := by decide +kernel
theorem dW_law_293 : decode cW_law 293 = .ok (.ldc2_w 84, 3) := by decide +kernel
theorem dW_law_296 : decode cW_law 296 = .ok (.land, 1) := by decide +kernel
theorem dW_law_297 : decode cW_law 297 = .ok (.lor, 1) := by decide +kernel
theorem dW_law_298 : decode cW_law 298 = .ok (.invokevirtual 89, 3) := by decide +kernel
theorem dW_law_301 : decode cW_law 301 = .ok (.istore 6, 2) := by decide +kernel
theorem dW_law_303 : decode cW_law 303 = .ok (.aload_n 2, 1) := by decide +kernel
theorem dW_law_304 : decode cW_law 304 = .ok (.invokevirtual 80, 3) := by decide +kernel
theorem dW_law_307 : decode cW_law 307 = .ok (.iload 5, 2) := by decide +kernel
theorem dW_law_309 : decode cW_law 309 = .ok (.if_icmp .eq 5, 3) := by decide +kernel
theorem dW_law_312 : decode cW_law 312 = .ok (.iconst 0, 1) := by decide +kernel
theorem dW_law_313 : decode cW_law 313 = .ok (.ireturn, 1) := by decide +kernel
theorem dW_law_314 : decode cW_law 314 = .ok (.iload 5, 2) := by decide +kernel
theorem dW_law_316 : decode cW_law 316 = .ok (.ifCond .ne 15, 3) := by decide +kernel
theorem dW_law_319 : decode cW_law 319 = .ok (.aload_n 3, 1) := by decide +kernel
theorem dW_law_320 : decode cW_law 320 = .ok (.iconst 0, 1) := by decide +kernel
theorem dW_law_321 : decode cW_law 321 = .ok (.laload, 1) := by decide +kernel
theorem dW_law_322 : decode cW_law 322 = .ok (.iload 6, 2) := by decide +kernel
theorem dW_law_324 : decode cW_law 324 = .ok (.i2l, 1) := by decide +kernel
theorem dW_law_325 : decode cW_law 325 = .ok (.lcmp, 1) := by decide +kernel
theorem dW_law_326 : decode cW_law 326 = .ok (.ifCond .eq 5, 3) := by decide +kernel
theorem dW_law_329 : decode cW_law 329 = .ok (.iconst 0, 1) := by decide +kernel
theorem dW_law_330 : decode cW_law 330 = .ok (.ireturn, 1) := by decide +kernel
theorem dW_law_331 : decode cW_law 331 = .ok (.goto 1112, 3) := by decide +kernel
theorem dW_law_334 : decode cW_law 334 = .ok (.aload_n 1, 1) := by decide +kernel
theorem dW_law_335 : decode cW_law 335 = .ok (.aload_n 0, 1) := by decide +kernel
theorem dW_law_336 : decode cW_law 336 = .ok (.iload 4, 2) := by decide +kernel
theorem dW_law_338 : decode cW_law 338 = .ok (.iconst 1, 1) := by decide +kernel
theorem dW_law_339 : decode cW_law 339 = .ok (.iadd, 1) := by decide +kernel
theorem dW_law_340 : decode cW_law 340 = .ok (.iaload, 1) := by decide +kernel
theorem dW_law_341 : decode cW_law 341 = .ok (.aload_n 0, 1) := by decide +kernel
theorem dW_law_342 : decode cW_law 342 = .ok (.iload 4, 2) := by decide +kernel
theorem dW_law_344 : decode cW_law 344 = .ok (.iconst 2, 1) := by decide +kernel
theorem dW_law_345 : decode cW_law 345 = .ok (.iadd, 1) := by decide +kernel
theorem dW_law_346 : decode cW_law 346 = .ok (.iaload, 1) := by decide +kernel
theorem dW_law_347 : decode cW_law 347 = .ok (.aload_n 0, 1) := by decide +kernel
theorem dW_law_348 : decode cW_law 348 = .ok (.iload 4, 2) := by decide +kernel
theorem dW_law_350 : decode cW_law 350 = .ok (.iconst 3, 1) := by decide +kernel
theorem dW_law_351 : decode cW_law 351 = .ok (.iadd, 1) := by decide +kernel
theorem dW_law_352 : decode cW_law 352 = .ok (.iaload, 1) := by decide +kernel
theorem dW_law_353 : decode cW_law 353 = .ok (.i2l, 1) := by decide +kernel
theorem dW_law_354 : decode cW_law 354 = .ok (.bipush 32, 2) := by decide +kernel
theorem dW_law_356 : decode cW_law 356 = .ok (.lshl, 1) := by decide +kernel
theorem dW_law_357 : decode cW_law 357 = .ok (.aload_n 0, 1) := by decide +kernel
theorem dW_law_358 : decode cW_law 358 = .ok (.iload 4, 2) := by decide +kernel
theorem dW_law_360 : decode cW_law 360 = .ok (.iconst 4, 1) := by decide +kernel
theorem dW_law_361 : decode cW_law 361 = .ok (.iadd, 1) := by decide +kernel
theorem dW_law_362 : decode cW_law 362 = .ok (.iaload, 1) := by decide +kernel
theorem dW_law_363 : decode cW_law 363 = .ok (.i2l, 1) := by decide +kernel
theorem dW_law_364 : decode cW_law 364 = .ok (.ldc2_w 84, 3) := by decide +kernel
theorem dW_law_367 : decode cW_law 367 = .ok (.land, 1) := by decide +kernel
theorem dW_law_368 : decode cW_law 368 = .ok (.lor, 1) := by decide +kernel
theorem dW_law_369 : decode cW_law 369 = .ok (.aload_n 3, 1) := by decide +kernel
theorem dW_law_370 : decode cW_law 370 = .ok (.invokestatic 90, 3) := by decide +kernel
theorem dW_law_373 : decode cW_law 373 = .ok (.istore 5, 2) := by decide +kernel
theorem dW_law_375 : decode cW_law 375 = .ok (.aload_n 2, 1) := by decide +kernel
theorem dW_law_376 : decode cW_law 376 = .ok (.aload_n 0, 1) := by decide +kernel
theorem dW_law_377 : decode cW_law 377 = .ok (.iload 4, 2) := by decide +kernel
theorem dW_law_379 : decode cW_law 379 = .ok (.iconst 1, 1) := by decide +kernel
theorem dW_law_380 : decode cW_law 380 = .ok (.iadd, 1) := by decide +kernel
theorem dW_law_381 : decode cW_law 381 = .ok (.iaload, 1) := by decide +kernel
theorem dW_law_382 : decode cW_law 382 = .ok (.aload_n 0, 1) := by decide +kernel
theorem dW_law_383 : decode cW_law 383 = .ok (.iload 4, 2) := by decide +kernel
theorem dW_law_385 : decode cW_law 385 = .ok (.iconst 2, 1) := by decide +kernel
theorem dW_law_386 : decode cW_law 386 = .ok (.iadd, 1) := by decide +kernel
theorem dW_law_387 : decode cW_law 387 = .ok (.iaload, 1) := by decide +kernel
theorem dW_law_388 : decode cW_law 388 = .ok (.aload_n 0, 1) := by decide +kernel
theorem dW_law_389 : decode cW_law 389 = .ok (.iload 4, 2) := by decide +kernel
theorem dW_law_391 : decode cW_law 391 = .ok (.iconst 3, 1) := by decide +kernel
theorem dW_law_392 : decode cW_law 392 = .ok (.iadd, 1) := by decide +kernel
theorem dW_law_393 : decode cW_law 393 = .ok (.iaload, 1) := by decide +kernel
theorem dW_law_394 : decode cW_law 394 = .ok (.i2l, 1) := by decide +kernel
theorem dW_law_395 : decode cW_law 395 = .ok (.bipush 32, 2) := by decide +kernel
theorem dW_law_397 : decode cW_law 397 = .ok (.lshl, 1) := by decide +kernel
theorem dW_law_398 : decode cW_law 398 = .ok (.aload_n 0, 1) := by decide +kernel
theorem dW_law_399 : decode cW_law 399 = .ok (.iload 4, 2) := by decide +kernel
theorem dW_law_401 : decode cW_law 401 = .ok (.iconst 4, 1) := by decide +kernel
theorem dW_law_402 : decode cW_law 402 = .ok (.iadd, 1) := by decide +kernel
theorem dW_law_403 : decode cW_law 403 = .ok (.iaload, 1) := by decide +kernel
theorem dW_law_404 : decode cW_law 404 = .ok (.i2l, 1) := by decide +kernel
theorem dW_law_405 : decode cW_law 405 = .ok (.ldc2_w 84, 3) := by decide +kernel
theorem dW_law_408 : decode cW_law 408 = .ok (.land, 1) := by decide +kernel
theorem dW_law_409 : decode cW_law 409 = .ok (.lor, 1) := by decide +kernel
theorem dW_law_410 : decode cW_law 410 = .ok (.invokevirtual 93, 3) := by decide +kernel
theorem dW_law_413 : decode cW_law 413 = .ok (.istore 6, 2) := by decide +kernel
theorem dW_law_415 : decode cW_law 415 = .ok (.aload_n 2, 1) := by decide +kernel
theorem dW_law_416 : decode cW_law 416 = .ok (.invokevirtual 80, 3) := by decide +kernel
theorem dW_law_419 : decode cW_law 419 = .ok (.iload 5, 2) := by decide +kernel
theorem dW_law_421 : decode cW_law 421 = .ok (.if_icmp .eq 5, 3) := by decide +kernel
theorem dW_law_424 : decode cW_law 424 = .ok (.iconst 0, 1) := by decide +kernel
theorem dW_law_425 : decode cW_law 425 = .ok (.ireturn, 1) := by decide +kernel
theorem dW_law_426 : decode cW_law 426 = .ok (.iload 5, 2) := by decide +kernel
theorem dW_law_428 : decode cW_law 428 = .ok (.ifCond .ne 15, 3) := by decide +kernel
theorem dW_law_431 : decode cW_law 431 = .ok (.aload_n 3, 1) := by decide +kernel
theorem dW_law_432 : decode cW_law 432 = .ok (.iconst 0, 1) := by decide +kernel
theorem dW_law_433 : decode cW_law 433 = .ok (.laload, 1) := by decide +kernel
theorem dW_law_434 : decode cW_law 434 = .ok (.iload 6, 2) := by decide +kernel
theorem dW_law_436 : decode cW_law 436 = .ok (.i2l, 1) := by decide +kernel
theorem dW_law_437 : decode cW_law 437 = .ok (.lcmp, 1) := by decide +kernel
theorem dW_law_438 : decode cW_law 438 = .ok (.ifCond .eq 5, 3) := by decide +kernel
theorem dW_law_441 : decode cW_law 441 = .ok (.iconst 0, 1) := by decide +kernel
theorem dW_law_442 : decode cW_law 442 = .ok (.ireturn, 1) := by decide +kernel
theorem dW_law_443 : decode cW_law 443 = .ok (.goto 1000, 3) := by decide +kernel
theorem dW_law_446 : decode cW_law 446 = .ok (.aload_n 1, 1) := by decide +kernel
theorem dW_law_447 : decode cW_law 447 = .ok (.aload_n 0, 1) := by decide +kernel
theorem dW_law_448 : decode cW_law 448 = .ok (.iload 4, 2) := by decide +kernel
theorem dW_law_450 : decode cW_law 450 = .ok (.iconst 1, 1) := by decide +kernel
theorem dW_law_451 : decode cW_law 451 = .ok (.iadd, 1) := by decide +kernel
theorem dW_law_452 : decode cW_law 452 = .ok (.iaload, 1) := by decide +kernel
theorem dW_law_453 : decode cW_law 453 = .ok (.aload_n 0, 1) := by decide +kernel
theorem dW_law_454 : decode cW_law 454 = .ok (.iload 4, 2) := by decide +kernel
theorem dW_law_456 : decode cW_law 456 = .ok (.iconst 2, 1) := by decide +kernel
theorem dW_law_457 : decode cW_law 457 = .ok (.iadd, 1) := by decide +kernel
theorem dW_law_458 : decode cW_law 458 = .ok (.iaload, 1) := by decide +kernel
theorem dW_law_459 : decode cW_law 459 = .ok (.aload_n 0, 1) := by decide +kernel
theorem dW_law_460 : decode cW_law 460 = .ok (.iload 4, 2) := by decide +kernel
theorem dW_law_462 : decode cW_law 462 = .ok (.iconst 3, 1) := by decide +kernel
theorem dW_law_463 : decode cW_law 463 = .ok (.iadd, 1) := by decide +kernel
theorem dW_law_464 : decode cW_law 464 = .ok (.iaload, 1) := by decide +kernel
theorem dW_law_465 : decode cW_law 465 = .ok (.i2l, 1) := by decide +kernel
theorem dW_law_466 : decode cW_law 466 = .ok (.bipush 32, 2) := by decide +kernel
theorem dW_law_468 : decode cW_law 468 = .ok (.lshl, 1) := by decide +kernel
theorem dW_law_469 : decode cW_law 469 = .ok (.aload_n 0, 1) := by decide +kernel
theorem dW_law_470 : decode cW_law 470 = .ok (.iload 4, 2) := by decide +kernel
theorem dW_law_472 : decode cW_law 472 = .ok (.iconst 4, 1) := by decide +kernel
theorem dW_law_473 : decode cW_law 473 = .ok (.iadd, 1) := by decide +kernel
theorem dW_law_474 : decode cW_law 474 = .ok (.iaload, 1) := by decide +kernel
theorem dW_law_475 : decode cW_law 475 = .ok (.i2l, 1) := by decide +kernel
theorem dW_law_476 : decode cW_law 476 = .ok (.ldc2_w 84, 3) := by decide +kernel
theorem dW_law_479 : decode cW_law 479 = .ok (.land, 1) := by decide +kernel
theorem dW_law_480 : decode cW_law 480 = .ok (.lor, 1) := by decide +kernel
theorem dW_law_481 : decode cW_law 481 = .ok (.invokestatic 94, 3) := by decide +kernel
theorem dW_law_484 : decode cW_law 484 = .ok (.istore 5, 2) := by decide +kernel
theorem dW_law_486 : decode cW_law 486 = .ok (.aload_n 2, 1) := by decide +kernel
theorem dW_law_487 : decode cW_law 487 = .ok (.aload_n 0, 1) := by decide +kernel
theorem dW_law_488 : decode cW_law 488 = .ok (.iload 4, 2) := by decide +kernel
theorem dW_law_490 : decode cW_law 490 = .ok (.iconst 1, 1) := by decide +kernel
theorem dW_law_491 : decode cW_law 491 = .ok (.iadd, 1) := by decide +kernel
theorem dW_law_492 : decode cW_law 492 = .ok (.iaload, 1) := by decide +kernel
theorem dW_law_493 : decode cW_law 493 = .ok (.aload_n 0, 1) := by decide +kernel
theorem dW_law_494 : decode cW_law 494 = .ok (.iload 4, 2) := by decide +kernel
theorem dW_law_496 : decode cW_law 496 = .ok (.iconst 2, 1) := by decide +kernel
theorem dW_law_497 : decode cW_law 497 = .ok (.iadd, 1) := by decide +kernel
theorem dW_law_498 : decode cW_law 498 = .ok (.iaload, 1) := by decide +kernel
theorem dW_law_499 : decode cW_law 499 = .ok (.aload_n 0, 1) := by decide +kernel
theorem dW_law_500 : decode cW_law 500 = .ok (.iload 4, 2) := by decide +kernel
theorem dW_law_502 : decode cW_law 502 = .ok (.iconst 3, 1) := by decide +kernel
theorem dW_law_503 : decode cW_law 503 = .ok (.iadd, 1) := by decide +kernel
theorem dW_law_504 : decode cW_law 504 = .ok (.iaload, 1) := by decide +kernel
theorem dW_law_505 : decode cW_law 505 = .ok (.i2l, 1) := by decide +kernel
theorem dW_law_506 : decode cW_law 506 = .ok (.bipush 32, 2) := by decide +kernel
theorem dW_law_508 : decode cW_law 508 = .ok (.lshl, 1) := by decide +kernel
theorem dW_law_509 : decode cW_law 509 = .ok (.aload_n 0, 1) := by decide +kernel
theorem dW_law_510 : decode cW_law 510 = .ok (.iload 4, 2) := by decide +kernel
theorem dW_law_512 : decode cW_law 512 = .ok (.iconst 4, 1) := by decide +kernel
theorem dW_law_513 : decode cW_law 513 = .ok (.iadd, 1) := by decide +kernel
theorem dW_law_514 : decode cW_law 514 = .ok (.iaload, 1) := by decide +kernel
theorem dW_law_515 : decode cW_law 515 = .ok (.i2l, 1) := by decide +kernel
theorem dW_law_516 : decode cW_law 516 = .ok (.ldc2_w 84, 3) := by decide +kernel
theorem dW_law_519 : decode cW_law 519 = .ok (.land, 1) := by decide +kernel
theorem dW_law_520 : decode cW_law 520 = .ok (.lor, 1) := by decide +kernel
theorem dW_law_521 : decode cW_law 521 = .ok (.invokevirtual 97, 3) := by decide +kernel
theorem dW_law_524 : decode cW_law 524 = .ok (.aload_n 2, 1) := by decide +kernel
theorem dW_law_525 : decode cW_law 525 = .ok (.invokevirtual 80, 3) := by decide +kernel
theorem dW_law_528 : decode cW_law 528 = .ok (.iload 5, 2) := by decide +kernel
theorem dW_law_530 : decode cW_law 530 = .ok (.if_icmp .eq 5, 3) := by decide +kernel
theorem dW_law_533 : decode cW_law 533 = .ok (.iconst 0, 1) := by decide +kernel
theorem dW_law_534 : decode cW_law 534 = .ok (.ireturn, 1) := by decide +kernel
theorem dW_law_535 : decode cW_law 535 = .ok (.goto 908, 3) := by decide +kernel
theorem dW_law_538 : decode cW_law 538 = .ok (.aload_n 1, 1) := by decide +kernel
theorem dW_law_539 : decode cW_law 539 = .ok (.aload_n 0, 1) := by decide +kernel
theorem dW_law_540 : decode cW_law 540 = .ok (.iload 4, 2) := by decide +kernel
theorem dW_law_542 : decode cW_law 542 = .ok (.iconst 1, 1) := by decide +kernel
theorem dW_law_543 : decode cW_law 543 = .ok (.iadd, 1) := by decide +kernel
theorem dW_law_544 : decode cW_law 544 = .ok (.iaload, 1) := by decide +kernel
theorem dW_law_545 : decode cW_law 545 = .ok (.aload_n 0, 1) := by decide +kernel
theorem dW_law_546 : decode cW_law 546 = .ok (.iload 4, 2) := by decide +kernel
theorem dW_law_548 : decode cW_law 548 = .ok (.iconst 2, 1) := by decide +kernel
theorem dW_law_549 : decode cW_law 549 = .ok (.iadd, 1) := by decide +kernel
theorem dW_law_550 : decode cW_law 550 = .ok (.iaload, 1) := by decide +kernel
theorem dW_law_551 : decode cW_law 551 = .ok (.i2l, 1) := by decide +kernel
theorem dW_law_552 : decode cW_law 552 = .ok (.bipush 32, 2) := by decide +kernel
theorem dW_law_554 : decode cW_law 554 = .ok (.lshl, 1) := by decide +kernel
theorem dW_law_555 : decode cW_law 555 = .ok (.aload_n 0, 1) := by decide +kernel
theorem dW_law_556 : decode cW_law 556 = .ok (.iload 4, 2) := by decide +kernel
theorem dW_law_558 : decode cW_law 558 = .ok (.iconst 3, 1) := by decide +kernel
theorem dW_law_559 : decode cW_law 559 = .ok (.iadd, 1) := by decide +kernel
theorem dW_law_560 : decode cW_law 560 = .ok (.iaload, 1) := by decide +kernel
theorem dW_law_561 : decode cW_law 561 = .ok (.i2l, 1) := by decide +kernel
theorem dW_law_562 : decode cW_law 562 = .ok (.ldc2_w 84, 3) := by decide +kernel
theorem dW_law_565 : decode cW_law 565 = .ok (.land, 1) := by decide +kernel
theorem dW_law_566 : decode cW_law 566 = .ok (.lor, 1) := by decide +kernel
theorem dW_law_567 : decode cW_law 567 = .ok (.aload_n 3, 1) := by decide +kernel
theorem dW_law_568 : decode cW_law 568 = .ok (.invokestatic 98, 3) := by decide +kernel
theorem dW_law_571 : decode cW_law 571 = .ok (.istore 5, 2) := by decide +kernel
theorem dW_law_573 : decode cW_law 573 = .ok (.aload_n 2, 1) := by decide +kernel
theorem dW_law_574 : decode cW_law 574 = .ok (.aload_n 0, 1) := by decide +kernel
theorem dW_law_575 : decode cW_law 575 = .ok (.iload 4, 2) := by decide +kernel
theorem dW_law_577 : decode cW_law 577 = .ok (.iconst 1, 1) := by decide +kernel
theorem dW_law_578 : decode cW_law 578 = .ok (.iadd, 1) := by decide +kernel
theorem dW_law_579 : decode cW_law 579 = .ok (.iaload, 1) := by decide +kernel
theorem dW_law_580 : decode cW_law 580 = .ok (.aload_n 0, 1) := by decide +kernel
theorem dW_law_581 : decode cW_law 581 = .ok (.iload 4, 2) := by decide +kernel
theorem dW_law_583 : decode cW_law 583 = .ok (.iconst 2, 1) := by decide +kernel
theorem dW_law_584 : decode cW_law 584 = .ok (.iadd, 1) := by decide +kernel
theorem dW_law_585 : decode cW_law 585 = .ok (.iaload, 1) := by decide +kernel
theorem dW_law_586 : decode cW_law 586 = .ok (.i2l, 1) := by decide +kernel
theorem dW_law_587 : decode cW_law 587 = .ok (.bipush 32, 2) := by decide +kernel
theorem dW_law_589 : decode cW_law 589 = .ok (.lshl, 1) := by decide +kernel
theorem dW_law_590 : decode cW_law 590 = .ok (.aload_n 0, 1) := by decide +kernel
theorem dW_law_591 : decode cW_law 591 = .ok (.iload 4, 2) := by decide +kernel
theorem dW_law_593 : decode cW_law 593 = .ok (.iconst 3, 1) := by decide +kernel
theorem dW_law_594 : decode cW_law 594 = .ok (.iadd, 1) := by decide +kernel
theorem dW_law_595 : decode cW_law 595 = .ok (.iaload, 1) := by decide +kernel
theorem dW_law_596 : decode cW_law 596 = .ok (.i2l, 1) := by decide +kernel
theorem dW_law_597 : decode cW_law 597 = .ok (.ldc2_w 84, 3) := by decide +kernel
theorem dW_law_600 : decode cW_law 600 = .ok (.land, 1) := by decide +kernel
theorem dW_law_601 : decode cW_law 601 = .ok (.lor, 1) := by decide +kernel
theorem dW_law_602 : decode cW_law 602 = .ok (.invokevirtual 101, 3) := by decide +kernel
theorem dW_law_605 : decode cW_law 605 = .ok (.istore 6, 2) := by decide +kernel
theorem dW_law_607 : decode cW_law 607 = .ok (.aload_n 2, 1) := by decide +kernel
theorem dW_law_608 : decode cW_law 608 = .ok (.invokevirtual 80, 3) := by decide +kernel
theorem dW_law_611 : decode cW_law 611 = .ok (.iload 5, 2) := by decide +kernel
theorem dW_law_613 : decode cW_law 613 = .ok (.if_icmp .eq 5, 3) := by decide +kernel
theorem dW_law_616 : decode cW_law 616 = .ok (.iconst 0, 1) := by decide +kernel
theorem dW_law_617 : decode cW_law 617 = .ok (.ireturn, 1) := by decide +kernel
theorem dW_law_618 : decode cW_law 618 = .ok (.iload 5, 2) := by decide +kernel
theorem dW_law_620 : decode cW_law 620 = .ok (.ifCond .ne 15, 3) := by decide +kernel
theorem dW_law_623 : decode cW_law 623 = .ok (.aload_n 3, 1) := by decide +kernel
theorem dW_law_624 : decode cW_law 624 = .ok (.iconst 0, 1) := by decide +kernel
theorem dW_law_625 : decode cW_law 625 = .ok (.laload, 1) := by decide +kernel
theorem dW_law_626 : decode cW_law 626 = .ok (.iload 6, 2) := by decide +kernel
theorem dW_law_628 : decode cW_law 628 = .ok (.i2l, 1) := by decide +kernel
theorem dW_law_629 : decode cW_law 629 = .ok (.lcmp, 1) := by decide +kernel
theorem dW_law_630 : decode cW_law 630 = .ok (.ifCond .eq 5, 3) := by decide +kernel
theorem dW_law_633 : decode cW_law 633 = .ok (.iconst 0, 1) := by decide +kernel
theorem dW_law_634 : decode cW_law 634 = .ok (.ireturn, 1) := by decide +kernel
theorem dW_law_635 : decode cW_law 635 = .ok (.goto 808, 3) := by decide +kernel
theorem dW_law_638 : decode cW_law 638 = .ok (.aload_n 1, 1) := by decide +kernel
theorem dW_law_639 : decode cW_law 639 = .ok (.aload_n 0, 1) := by decide +kernel
theorem dW_law_640 : decode cW_law 640 = .ok (.iload 4, 2) := by decide +kernel
theorem dW_law_642 : decode cW_law 642 = .ok (.iconst 1, 1) := by decide +kernel
theorem dW_law_643 : decode cW_law 643 = .ok (.iadd, 1) := by decide +kernel
theorem dW_law_644 : decode cW_law 644 = .ok (.iaload, 1) := by decide +kernel
theorem dW_law_645 : decode cW_law 645 = .ok (.aload_n 0, 1) := by decide +kernel
theorem dW_law_646 : decode cW_law 646 = .ok (.iload 4, 2) := by decide +kernel
theorem dW_law_648 : decode cW_law 648 = .ok (.iconst 2, 1) := by decide +kernel
theorem dW_law_649 : decode cW_law 649 = .ok (.iadd, 1) := by decide +kernel
theorem dW_law_650 : decode cW_law 650 = .ok (.iaload, 1) := by decide +kernel
theorem dW_law_651 : decode cW_law 651 = .ok (.ifCond .eq 7, 3) := by decide +kernel
theorem dW_law_654 : decode cW_law 654 = .ok (.iconst 1, 1) := by decide +kernel
theorem dW_law_655 : decode cW_law 655 = .ok (.goto 4, 3) := by decide +kernel
end
section
theorem dW_law_658 : decode cW_law 658 = .ok (.iconst 0, 1) := by decide +kernel
theorem dW_law_659 : decode cW_law 659 = .ok (.aload_n 3, 1) := by decide +kernel
theorem dW_law_660 : decode cW_law 660 = .ok (.invokestatic 102, 3) := by decide +kernel
theorem dW_law_663 : decode cW_law 663 = .ok (.istore 5, 2) := by decide +kernel
theorem dW_law_665 : decode cW_law 665 = .ok (.aload_n 2, 1) := by decide +kernel
theorem dW_law_666 : decode cW_law 666 = .ok (.aload_n 0, 1) := by decide +kernel
theorem dW_law_667 : decode cW_law 667 = .ok (.iload 4, 2) := by decide +kernel
theorem dW_law_669 : decode cW_law 669 = .ok (.iconst 1, 1) := by decide +kernel
theorem dW_law_670 : decode cW_law 670 = .ok (.iadd, 1) := by decide +kernel
theorem dW_law_671 : decode cW_law 671 = .ok (.iaload, 1) := by decide +kernel
theorem dW_law_672 : decode cW_law 672 = .ok (.aload_n 0, 1) := by decide +kernel
theorem dW_law_673 : decode cW_law 673 = .ok (.iload 4, 2) := by decide +kernel
theorem dW_law_675 : decode cW_law 675 = .ok (.iconst 2, 1) := by decide +kernel
theorem dW_law_676 : decode cW_law 676 = .ok (.iadd, 1) := by decide +kernel
theorem dW_law_677 : decode cW_law 677 = .ok (.iaload, 1) := by decide +kernel
theorem dW_law_678 : decode cW_law 678 = .ok (.ifCond .eq 7, 3) := by decide +kernel
theorem dW_law_681 : decode cW_law 681 = .ok (.iconst 1, 1) := by decide +kernel
theorem dW_law_682 : decode cW_law 682 = .ok (.goto 4, 3) := by decide +kernel
theorem dW_law_685 : decode cW_law 685 = .ok (.iconst 0, 1) := by decide +kernel
theorem dW_law_686 : decode cW_law 686 = .ok (.invokevirtual 105, 3) := by decide +kernel
theorem dW_law_689 : decode cW_law 689 = .ok (.istore 6, 2) := by decide +kernel
theorem dW_law_691 : decode cW_law 691 = .ok (.aload_n 2, 1) := by decide +kernel
theorem dW_law_692 : decode cW_law 692 = .ok (.invokevirtual 80, 3) := by decide +kernel
theorem dW_law_695 : decode cW_law 695 = .ok (.iload 5, 2) := by decide +kernel
theorem dW_law_697 : decode cW_law 697 = .ok (.if_icmp .eq 5, 3) := by decide +kernel
theorem dW_law_700 : decode cW_law 700 = .ok (.iconst 0, 1) := by decide +kernel
theorem dW_law_701 : decode cW_law 701 = .ok (.ireturn, 1) := by decide +kernel
theorem dW_law_702 : decode cW_law 702 = .ok (.iload 5, 2) := by decide +kernel
theorem dW_law_704 : decode cW_law 704 = .ok (.ifCond .ne 15, 3) := by decide +kernel
theorem dW_law_707 : decode cW_law 707 = .ok (.aload_n 3, 1) := by decide +kernel
theorem dW_law_708 : decode cW_law 708 = .ok (.iconst 0, 1) := by decide +kernel
theorem dW_law_709 : decode cW_law 709 = .ok (.laload, 1) := by decide +kernel
theorem dW_law_710 : decode cW_law 710 = .ok (.iload 6, 2) := by decide +kernel
theorem dW_law_712 : decode cW_law 712 = .ok (.i2l, 1) := by decide +kernel
theorem dW_law_713 : decode cW_law 713 = .ok (.lcmp, 1) := by decide +kernel
theorem dW_law_714 : decode cW_law 714 = .ok (.ifCond .eq 5, 3) := by decide +kernel
theorem dW_law_717 : decode cW_law 717 = .ok (.iconst 0, 1) := by decide +kernel
theorem dW_law_718 : decode cW_law 718 = .ok (.ireturn, 1) := by decide +kernel
theorem dW_law_719 : decode cW_law 719 = .ok (.goto 724, 3) := by decide +kernel
theorem dW_law_722 : decode cW_law 722 = .ok (.aload_n 1, 1) := by decide +kernel
theorem dW_law_723 : decode cW_law 723 = .ok (.aload_n 0, 1) := by decide +kernel
theorem dW_law_724 : decode cW_law 724 = .ok (.iload 4, 2) := by decide +kernel
theorem dW_law_726 : decode cW_law 726 = .ok (.iconst 1, 1) := by decide +kernel
theorem dW_law_727 : decode cW_law 727 = .ok (.iadd, 1) := by decide +kernel
theorem dW_law_728 : decode cW_law 728 = .ok (.iaload, 1) := by decide +kernel
theorem dW_law_729 : decode cW_law 729 = .ok (.aload_n 0, 1) := by decide +kernel
theorem dW_law_730 : decode cW_law 730 = .ok (.iload 4, 2) := by decide +kernel
theorem dW_law_732 : decode cW_law 732 = .ok (.iconst 2, 1) := by decide +kernel
theorem dW_law_733 : decode cW_law 733 = .ok (.iadd, 1) := by decide +kernel
theorem dW_law_734 : decode cW_law 734 = .ok (.iaload, 1) := by decide +kernel
theorem dW_law_735 : decode cW_law 735 = .ok (.aload_n 0, 1) := by decide +kernel
theorem dW_law_736 : decode cW_law 736 = .ok (.iload 4, 2) := by decide +kernel
theorem dW_law_738 : decode cW_law 738 = .ok (.iconst 3, 1) := by decide +kernel
theorem dW_law_739 : decode cW_law 739 = .ok (.iadd, 1) := by decide +kernel
theorem dW_law_740 : decode cW_law 740 = .ok (.iaload, 1) := by decide +kernel
theorem dW_law_741 : decode cW_law 741 = .ok (.ifCond .eq 7, 3) := by decide +kernel
theorem dW_law_744 : decode cW_law 744 = .ok (.iconst 1, 1) := by decide +kernel
theorem dW_law_745 : decode cW_law 745 = .ok (.goto 4, 3) := by decide +kernel
theorem dW_law_748 : decode cW_law 748 = .ok (.iconst 0, 1) := by decide +kernel
theorem dW_law_749 : decode cW_law 749 = .ok (.aload_n 3, 1) := by decide +kernel
theorem dW_law_750 : decode cW_law 750 = .ok (.invokestatic 106, 3) := by decide +kernel
theorem dW_law_753 : decode cW_law 753 = .ok (.istore 5, 2) := by decide +kernel
theorem dW_law_755 : decode cW_law 755 = .ok (.aload_n 2, 1) := by decide +kernel
theorem dW_law_756 : decode cW_law 756 = .ok (.aload_n 0, 1) := by decide +kernel
theorem dW_law_757 : decode cW_law 757 = .ok (.iload 4, 2) := by decide +kernel
theorem dW_law_759 : decode cW_law 759 = .ok (.iconst 1, 1) := by decide +kernel
theorem dW_law_760 : decode cW_law 760 = .ok (.iadd, 1) := by decide +kernel
theorem dW_law_761 : decode cW_law 761 = .ok (.iaload, 1) := by decide +kernel
theorem dW_law_762 : decode cW_law 762 = .ok (.aload_n 0, 1) := by decide +kernel
theorem dW_law_763 : decode cW_law 763 = .ok (.iload 4, 2) := by decide +kernel
theorem dW_law_765 : decode cW_law 765 = .ok (.iconst 2, 1) := by decide +kernel
theorem dW_law_766 : decode cW_law 766 = .ok (.iadd, 1) := by decide +kernel
theorem dW_law_767 : decode cW_law 767 = .ok (.iaload, 1) := by decide +kernel
theorem dW_law_768 : decode cW_law 768 = .ok (.aload_n 0, 1) := by decide +kernel
theorem dW_law_769 : decode cW_law 769 = .ok (.iload 4, 2) := by decide +kernel
theorem dW_law_771 : decode cW_law 771 = .ok (.iconst 3, 1) := by decide +kernel
theorem dW_law_772 : decode cW_law 772 = .ok (.iadd, 1) := by decide +kernel
theorem dW_law_773 : decode cW_law 773 = .ok (.iaload, 1) := by decide +kernel
theorem dW_law_774 : decode cW_law 774 = .ok (.ifCond .eq 7, 3) := by decide +kernel
theorem dW_law_777 : decode cW_law 777 = .ok (.iconst 1, 1) := by decide +kernel
theorem dW_law_778 : decode cW_law 778 = .ok (.goto 4, 3) := by decide +kernel
theorem dW_law_781 : decode cW_law 781 = .ok (.iconst 0, 1) := by decide +kernel
theorem dW_law_782 : decode cW_law 782 = .ok (.invokevirtual 109, 3) := by decide +kernel
theorem dW_law_785 : decode cW_law 785 = .ok (.istore 6, 2) := by decide +kernel
theorem dW_law_787 : decode cW_law 787 = .ok (.aload_n 2, 1) := by decide +kernel
theorem dW_law_788 : decode cW_law 788 = .ok (.invokevirtual 80, 3) := by decide +kernel
theorem dW_law_791 : decode cW_law 791 = .ok (.iload 5, 2) := by decide +kernel
theorem dW_law_793 : decode cW_law 793 = .ok (.if_icmp .eq 5, 3) := by decide +kernel
theorem dW_law_796 : decode cW_law 796 = .ok (.iconst 0, 1) := by decide +kernel
theorem dW_law_797 : decode cW_law 797 = .ok (.ireturn, 1) := by decide +kernel
theorem dW_law_798 : decode cW_law 798 = .ok (.iload 5, 2) := by decide +kernel
theorem dW_law_800 : decode cW_law 800 = .ok (.ifCond .ne 15, 3) := by decide +kernel
theorem dW_law_803 : decode cW_law 803 = .ok (.aload_n 3, 1) := by decide +kernel
theorem dW_law_804 : decode cW_law 804 = .ok (.iconst 0, 1) := by decide +kernel
theorem dW_law_805 : decode cW_law 805 = .ok (.laload, 1) := by decide +kernel
theorem dW_law_806 : decode cW_law 806 = .ok (.iload 6, 2) := by decide +kernel
theorem dW_law_808 : decode cW_law 808 = .ok (.i2l, 1) := by decide +kernel
theorem dW_law_809 : decode cW_law 809 = .ok (.lcmp, 1) := by decide +kernel
theorem dW_law_810 : decode cW_law 810 = .ok (.ifCond .eq 5, 3) := by decide +kernel
theorem dW_law_813 : decode cW_law 813 = .ok (.iconst 0, 1) := by decide +kernel
theorem dW_law_814 : decode cW_law 814 = .ok (.ireturn, 1) := by decide +kernel
theorem dW_law_815 : decode cW_law 815 = .ok (.goto 628, 3) := by decide +kernel
theorem dW_law_818 : decode cW_law 818 = .ok (.aload_n 1, 1) := by decide +kernel
theorem dW_law_819 : decode cW_law 819 = .ok (.aload_n 0, 1) := by decide +kernel
theorem dW_law_820 : decode cW_law 820 = .ok (.iload 4, 2) := by decide +kernel
theorem dW_law_822 : decode cW_law 822 = .ok (.iconst 1, 1) := by decide +kernel
theorem dW_law_823 : decode cW_law 823 = .ok (.iadd, 1) := by decide +kernel
theorem dW_law_824 : decode cW_law 824 = .ok (.iaload, 1) := by decide +kernel
theorem dW_law_825 : decode cW_law 825 = .ok (.aload_n 0, 1) := by decide +kernel
theorem dW_law_826 : decode cW_law 826 = .ok (.iload 4, 2) := by decide +kernel
theorem dW_law_828 : decode cW_law 828 = .ok (.iconst 2, 1) := by decide +kernel
theorem dW_law_829 : decode cW_law 829 = .ok (.iadd, 1) := by decide +kernel
theorem dW_law_830 : decode cW_law 830 = .ok (.iaload, 1) := by decide +kernel
theorem dW_law_831 : decode cW_law 831 = .ok (.aload_n 0, 1) := by decide +kernel
theorem dW_law_832 : decode cW_law 832 = .ok (.iload 4, 2) := by decide +kernel
theorem dW_law_834 : decode cW_law 834 = .ok (.iconst 3, 1) := by decide +kernel
theorem dW_law_835 : decode cW_law 835 = .ok (.iadd, 1) := by decide +kernel
theorem dW_law_836 : decode cW_law 836 = .ok (.iaload, 1) := by decide +kernel
theorem dW_law_837 : decode cW_law 837 = .ok (.ifCond .eq 7, 3) := by decide +kernel
theorem dW_law_840 : decode cW_law 840 = .ok (.iconst 1, 1) := by decide +kernel
theorem dW_law_841 : decode cW_law 841 = .ok (.goto 4, 3) := by decide +kernel
theorem dW_law_844 : decode cW_law 844 = .ok (.iconst 0, 1) := by decide +kernel
theorem dW_law_845 : decode cW_law 845 = .ok (.aload_n 3, 1) := by decide +kernel
theorem dW_law_846 : decode cW_law 846 = .ok (.invokestatic 110, 3) := by decide +kernel
theorem dW_law_849 : decode cW_law 849 = .ok (.istore 5, 2) := by decide +kernel
theorem dW_law_851 : decode cW_law 851 = .ok (.aload_n 2, 1) := by decide +kernel
theorem dW_law_852 : decode cW_law 852 = .ok (.aload_n 0, 1) := by decide +kernel
theorem dW_law_853 : decode cW_law 853 = .ok (.iload 4, 2) := by decide +kernel
theorem dW_law_855 : decode cW_law 855 = .ok (.iconst 1, 1) := by decide +kernel
theorem dW_law_856 : decode cW_law 856 = .ok (.iadd, 1) := by decide +kernel
theorem dW_law_857 : decode cW_law 857 = .ok (.iaload, 1) := by decide +kernel
theorem dW_law_858 : decode cW_law 858 = .ok (.aload_n 0, 1) := by decide +kernel
theorem dW_law_859 : decode cW_law 859 = .ok (.iload 4, 2) := by decide +kernel
theorem dW_law_861 : decode cW_law 861 = .ok (.iconst 2, 1) := by decide +kernel
theorem dW_law_862 : decode cW_law 862 = .ok (.iadd, 1) := by decide +kernel
theorem dW_law_863 : decode cW_law 863 = .ok (.iaload, 1) := by decide +kernel
theorem dW_law_864 : decode cW_law 864 = .ok (.aload_n 0, 1) := by decide +kernel
theorem dW_law_865 : decode cW_law 865 = .ok (.iload 4, 2) := by decide +kernel
theorem dW_law_867 : decode cW_law 867 = .ok (.iconst 3, 1) := by decide +kernel
theorem dW_law_868 : decode cW_law 868 = .ok (.iadd, 1) := by decide +kernel
theorem dW_law_869 : decode cW_law 869 = .ok (.iaload, 1) := by decide +kernel
theorem dW_law_870 : decode cW_law 870 = .ok (.ifCond .eq 7, 3) := by decide +kernel
theorem dW_law_873 : decode cW_law 873 = .ok (.iconst 1, 1) := by decide +kernel
theorem dW_law_874 : decode cW_law 874 = .ok (.goto 4, 3) := by decide +kernel
theorem dW_law_877 : decode cW_law 877 = .ok (.iconst 0, 1) := by decide +kernel
theorem dW_law_878 : decode cW_law 878 = .ok (.invokevirtual 112, 3) := by decide +kernel
theorem dW_law_881 : decode cW_law 881 = .ok (.istore 6, 2) := by decide +kernel
theorem dW_law_883 : decode cW_law 883 = .ok (.aload_n 2, 1) := by decide +kernel
theorem dW_law_884 : decode cW_law 884 = .ok (.invokevirtual 80, 3) := by decide +kernel
theorem dW_law_887 : decode cW_law 887 = .ok (.iload 5, 2) := by decide +kernel
theorem dW_law_889 : decode cW_law 889 = .ok (.if_icmp .eq 5, 3) := by decide +kernel
theorem dW_law_892 : decode cW_law 892 = .ok (.iconst 0, 1) := by decide +kernel
theorem dW_law_893 : decode cW_law 893 = .ok (.ireturn, 1) := by decide +kernel
theorem dW_law_894 : decode cW_law 894 = .ok (.iload 5, 2) := by decide +kernel
theorem dW_law_896 : decode cW_law 896 = .ok (.ifCond .ne 15, 3) := by decide +kernel
theorem dW_law_899 : decode cW_law 899 = .ok (.aload_n 3, 1) := by decide +kernel
theorem dW_law_900 : decode cW_law 900 = .ok (.iconst 0, 1) := by decide +kernel
theorem dW_law_901 : decode cW_law 901 = .ok (.laload, 1) := by decide +kernel
theorem dW_law_902 : decode cW_law 902 = .ok (.iload 6, 2) := by decide +kernel
theorem dW_law_904 : decode cW_law 904 = .ok (.i2l, 1) := by decide +kernel
theorem dW_law_905 : decode cW_law 905 = .ok (.lcmp, 1) := by decide +kernel
theorem dW_law_906 : decode cW_law 906 = .ok (.ifCond .eq 5, 3) := by decide +kernel
theorem dW_law_909 : decode cW_law 909 = .ok (.iconst 0, 1) := by decide +kernel
theorem dW_law_910 : decode cW_law 910 = .ok (.ireturn, 1) := by decide +kernel
theorem dW_law_911 : decode cW_law 911 = .ok (.goto 532, 3) := by decide +kernel
theorem dW_law_914 : decode cW_law 914 = .ok (.aload_n 1, 1) := by decide +kernel
theorem dW_law_915 : decode cW_law 915 = .ok (.aload_n 0, 1) := by decide +kernel
theorem dW_law_916 : decode cW_law 916 = .ok (.iload 4, 2) := by decide +kernel
theorem dW_law_918 : decode cW_law 918 = .ok (.iconst 1, 1) := by decide +kernel
theorem dW_law_919 : decode cW_law 919 = .ok (.iadd, 1) := by decide +kernel
theorem dW_law_920 : decode cW_law 920 = .ok (.iaload, 1) := by decide +kernel
theorem dW_law_921 : decode cW_law 921 = .ok (.aload_n 0, 1) := by decide +kernel
theorem dW_law_922 : decode cW_law 922 = .ok (.iload 4, 2) := by decide +kernel
theorem dW_law_924 : decode cW_law 924 = .ok (.iconst 2, 1) := by decide +kernel
theorem dW_law_925 : decode cW_law 925 = .ok (.iadd, 1) := by decide +kernel
theorem dW_law_926 : decode cW_law 926 = .ok (.iaload, 1) := by decide +kernel
theorem dW_law_927 : decode cW_law 927 = .ok (.aload_n 0, 1) := by decide +kernel
theorem dW_law_928 : decode cW_law 928 = .ok (.iload 4, 2) := by decide +kernel
theorem dW_law_930 : decode cW_law 930 = .ok (.iconst 3, 1) := by decide +kernel
theorem dW_law_931 : decode cW_law 931 = .ok (.iadd, 1) := by decide +kernel
theorem dW_law_932 : decode cW_law 932 = .ok (.iaload, 1) := by decide +kernel
theorem dW_law_933 : decode cW_law 933 = .ok (.aload_n 0, 1) := by decide +kernel
theorem dW_law_934 : decode cW_law 934 = .ok (.iload 4, 2) := by decide +kernel
theorem dW_law_936 : decode cW_law 936 = .ok (.iconst 4, 1) := by decide +kernel
theorem dW_law_937 : decode cW_law 937 = .ok (.iadd, 1) := by decide +kernel
theorem dW_law_938 : decode cW_law 938 = .ok (.iaload, 1) := by decide +kernel
theorem dW_law_939 : decode cW_law 939 = .ok (.i2l, 1) := by decide +kernel
theorem dW_law_940 : decode cW_law 940 = .ok (.bipush 32, 2) := by decide +kernel
theorem dW_law_942 : decode cW_law 942 = .ok (.lshl, 1) := by decide +kernel
theorem dW_law_943 : decode cW_law 943 = .ok (.aload_n 0, 1) := by decide +kernel
theorem dW_law_944 : decode cW_law 944 = .ok (.iload 4, 2) := by decide +kernel
theorem dW_law_946 : decode cW_law 946 = .ok (.iconst 5, 1) := by decide +kernel
theorem dW_law_947 : decode cW_law 947 = .ok (.iadd, 1) := by decide +kernel
theorem dW_law_948 : decode cW_law 948 = .ok (.iaload, 1) := by decide +kernel
theorem dW_law_949 : decode cW_law 949 = .ok (.i2l, 1) := by decide +kernel
theorem dW_law_950 : decode cW_law 950 = .ok (.ldc2_w 84, 3) := by decide +kernel
theorem dW_law_953 : decode cW_law 953 = .ok (.land, 1) := by decide +kernel
theorem dW_law_954 : decode cW_law 954 = .ok (.lor, 1) := by decide +kernel
theorem dW_law_955 : decode cW_law 955 = .ok (.aload_n 3, 1) := by decide +kernel
theorem dW_law_956 : decode cW_law 956 = .ok (.invokestatic 113, 3) := by decide +kernel
theorem dW_law_959 : decode cW_law 959 = .ok (.istore 5, 2) := by decide +kernel
theorem dW_law_961 : decode cW_law 961 = .ok (.aload_n 2, 1) := by decide +kernel
theorem dW_law_962 : decode cW_law 962 = .ok (.aload_n 0, 1) := by decide +kernel
theorem dW_law_963 : decode cW_law 963 = .ok (.iload 4, 2) := by decide +kernel
theorem dW_law_965 : decode cW_law 965 = .ok (.iconst 1, 1) := by decide +kernel
theorem dW_law_966 : decode cW_law 966 = .ok (.iadd, 1) := by decide +kernel
theorem dW_law_967 : decode cW_law 967 = .ok (.iaload, 1) := by decide +kernel
theorem dW_law_968 : decode cW_law 968 = .ok (.aload_n 0, 1) := by decide +kernel
theorem dW_law_969 : decode cW_law 969 = .ok (.iload 4, 2) := by decide +kernel
theorem dW_law_971 : decode cW_law 971 = .ok (.iconst 2, 1) := by decide +kernel
theorem dW_law_972 : decode cW_law 972 = .ok (.iadd, 1) := by decide +kernel
theorem dW_law_973 : decode cW_law 973 = .ok (.iaload, 1) := by decide +kernel
theorem dW_law_974 : decode cW_law 974 = .ok (.aload_n 0, 1) := by decide +kernel
theorem dW_law_975 : decode cW_law 975 = .ok (.iload 4, 2) := by decide +kernel
theorem dW_law_977 : decode cW_law 977 = .ok (.iconst 3, 1) := by decide +kernel
theorem dW_law_978 : decode cW_law 978 = .ok (.iadd, 1) := by decide +kernel
theorem dW_law_979 : decode cW_law 979 = .ok (.iaload, 1) := by decide +kernel
theorem dW_law_980 : decode cW_law 980 = .ok (.aload_n 0, 1) := by decide +kernel
theorem dW_law_981 : decode cW_law 981 = .ok (.iload 4, 2) := by decide +kernel
theorem dW_law_983 : decode cW_law 983 = .ok (.iconst 4, 1) := by decide +kernel
theorem dW_law_984 : decode cW_law 984 = .ok (.iadd, 1) := by decide +kernel
theorem dW_law_985 : decode cW_law 985 = .ok (.iaload, 1) := by decide +kernel
theorem dW_law_986 : decode cW_law 986 = .ok (.i2l, 1) := by decide +kernel
theorem dW_law_987 : decode cW_law 987 = .ok (.bipush 32, 2) := by decide +kernel
theorem dW_law_989 : decode cW_law 989 = .ok (.lshl, 1) := by decide +kernel
theorem dW_law_990 : decode cW_law 990 = .ok (.aload_n 0, 1) := by decide +kernel
theorem dW_law_991 : decode cW_law 991 = .ok (.iload 4, 2) := by decide +kernel
theorem dW_law_993 : decode cW_law 993 = .ok (.iconst 5, 1) := by decide +kernel
theorem dW_law_994 : decode cW_law 994 = .ok (.iadd, 1) := by decide +kernel
theorem dW_law_995 : decode cW_law 995 = .ok (.iaload, 1) := by decide +kernel
theorem dW_law_996 : decode cW_law 996 = .ok (.i2l, 1) := by decide +kernel
theorem dW_law_997 : decode cW_law 997 = .ok (.ldc2_w 84, 3) := by decide +kernel
theorem dW_law_1000 : decode cW_law 1000 = .ok (.land, 1) := by decide +kernel
theorem dW_law_1001 : decode cW_law 1001 = .ok (.lor, 1) := by decide +kernel
theorem dW_law_1002 : decode cW_law 1002 = .ok (.invokevirtual 116, 3) := by decide +kernel
theorem dW_law_1005 : decode cW_law 1005 = .ok (.lstore 6, 2) := by decide +kernel
theorem dW_law_1007 : decode cW_law 1007 = .ok (.aload_n 2, 1) := by decide +kernel
theorem dW_law_1008 : decode cW_law 1008 = .ok (.invokevirtual 80, 3) := by decide +kernel
theorem dW_law_1011 : decode cW_law 1011 = .ok (.iload 5, 2) := by decide +kernel
theorem dW_law_1013 : decode cW_law 1013 = .ok (.if_icmp .eq 5, 3) := by decide +kernel
theorem dW_law_1016 : decode cW_law 1016 = .ok (.iconst 0, 1) := by decide +kernel
theorem dW_law_1017 : decode cW_law 1017 = .ok (.ireturn, 1) := by decide +kernel
theorem dW_law_1018 : decode cW_law 1018 = .ok (.iload 5, 2) := by decide +kernel
theorem dW_law_1020 : decode cW_law 1020 = .ok (.ifCond .ne 14, 3) := by decide +kernel
theorem dW_law_1023 : decode cW_law 1023 = .ok (.aload_n 3, 1) := by decide +kernel
theorem dW_law_1024 : decode cW_law 1024 = .ok (.iconst 0, 1) := by decide +kernel
theorem dW_law_1025 : decode cW_law 1025 = .ok (.laload, 1) := by decide +kernel
theorem dW_law_1026 : decode cW_law 1026 = .ok (.lload 6, 2) := by decide +kernel
theorem dW_law_1028 : decode cW_law 1028 = .ok (.lcmp, 1) := by decide +kernel
theorem dW_law_1029 : decode cW_law 1029 = .ok (.ifCond .eq 5, 3) := by decide +kernel
theorem dW_law_1032 : decode cW_law 1032 = .ok (.iconst 0, 1) := by decide +kernel
theorem dW_law_1033 : decode cW_law 1033 = .ok (.ireturn, 1) := by decide +kernel
theorem dW_law_1034 : decode cW_law 1034 = .ok (.goto 409, 3) := by decide +kernel
theorem dW_law_1037 : decode cW_law 1037 = .ok (.aload_n 1, 1) := by decide +kernel
theorem dW_law_1038 : decode cW_law 1038 = .ok (.aload_n 0, 1) := by decide +kernel
theorem dW_law_1039 : decode cW_law 1039 = .ok (.iload 4, 2) := by decide +kernel
theorem dW_law_1041 : decode cW_law 1041 = .ok (.iconst 1, 1) := by decide +kernel
theorem dW_law_1042 : decode cW_law 1042 = .ok (.iadd, 1) := by decide +kernel
theorem dW_law_1043 : decode cW_law 1043 = .ok (.iaload, 1) := by decide +kernel
theorem dW_law_1044 : decode cW_law 1044 = .ok (.invokevirtual 117, 3) := by decide +kernel
theorem dW_law_1047 : decode cW_law 1047 = .ok (.aload_n 2, 1) := by decide +kernel
theorem dW_law_1048 : decode cW_law 1048 = .ok (.aload_n 0, 1) := by decide +kernel
theorem dW_law_1049 : decode cW_law 1049 = .ok (.iload 4, 2) := by decide +kernel
theorem dW_law_1051 : decode cW_law 1051 = .ok (.iconst 1, 1) := by decide +kernel
theorem dW_law_1052 : decode cW_law 1052 = .ok (.iadd, 1) := by decide +kernel
theorem dW_law_1053 : decode cW_law 1053 = .ok (.iaload, 1) := by decide +kernel
theorem dW_law_1054 : decode cW_law 1054 = .ok (.invokevirtual 120, 3) := by decide +kernel
theorem dW_law_1057 : decode cW_law 1057 = .ok (.if_icmp .eq 386, 3) := by decide +kernel
theorem dW_law_1060 : decode cW_law 1060 = .ok (.iconst 0, 1) := by decide +kernel
theorem dW_law_1061 : decode cW_law 1061 = .ok (.ireturn, 1) := by decide +kernel
theorem dW_law_1062 : decode cW_law 1062 = .ok (.aload_n 1, 1) := by decide +kernel
theorem dW_law_1063 : decode cW_law 1063 = .ok (.aload_n 0, 1) := by decide +kernel
theorem dW_law_1064 : decode cW_law 1064 = .ok (.iload 4, 2) := by decide +kernel
theorem dW_law_1066 : decode cW_law 1066 = .ok (.iconst 1, 1) := by decide +kernel
theorem dW_law_1067 : decode cW_law 1067 = .ok (.iadd, 1) := by decide +kernel
theorem dW_law_1068 : decode cW_law 1068 = .ok (.iaload, 1) := by decide +kernel
theorem dW_law_1069 : decode cW_law 1069 = .ok (.aload_n 0, 1) := by decide +kernel
theorem dW_law_1070 : decode cW_law 1070 = .ok (.iload 4, 2) := by decide +kernel
theorem dW_law_1072 : decode cW_law 1072 = .ok (.iconst 2, 1) := by decide +kernel
theorem dW_law_1073 : decode cW_law 1073 = .ok (.iadd, 1) := by decide +kernel
theorem dW_law_1074 : decode cW_law 1074 = .ok (.iaload, 1) := by decide +kernel
theorem dW_law_1075 : decode cW_law 1075 = .ok (.aload_n 0, 1) := by decide +kernel
theorem dW_law_1076 : decode cW_law 1076 = .ok (.iload 4, 2) := by decide +kernel
theorem dW_law_1078 : decode cW_law 1078 = .ok (.iconst 3, 1) := by decide +kernel
theorem dW_law_1079 : decode cW_law 1079 = .ok (.iadd, 1) := by decide +kernel
theorem dW_law_1080 : decode cW_law 1080 = .ok (.iaload, 1) := by decide +kernel
theorem dW_law_1081 : decode cW_law 1081 = .ok (.aload_n 3, 1) := by decide +kernel
theorem dW_law_1082 : decode cW_law 1082 = .ok (.invokestatic 121, 3) := by decide +kernel
theorem dW_law_1085 : decode cW_law 1085 = .ok (.istore 5, 2) := by decide +kernel
theorem dW_law_1087 : decode cW_law 1087 = .ok (.aload_n 2, 1) := by decide +kernel
theorem dW_law_1088 : decode cW_law 1088 = .ok (.aload_n 0, 1) := by decide +kernel
theorem dW_law_1089 : decode cW_law 1089 = .ok (.iload 4, 2) := by decide +kernel
theorem dW_law_1091 : decode cW_law 1091 = .ok (.iconst 1, 1) := by decide +kernel
theorem dW_law_1092 : decode cW_law 1092 = .ok (.iadd, 1) := by decide +kernel
theorem dW_law_1093 : decode cW_law 1093 = .ok (.iaload, 1) := by decide +kernel
theorem dW_law_1094 : decode cW_law 1094 = .ok (.aload_n 0, 1) := by decide +kernel
theorem dW_law_1095 : decode cW_law 1095 = .ok (.iload 4, 2) := by decide +kernel
theorem dW_law_1097 : decode cW_law 1097 = .ok (.iconst 2, 1) := by decide +kernel
theorem dW_law_1098 : decode cW_law 1098 = .ok (.iadd, 1) := by decide +kernel
theorem dW_law_1099 : decode cW_law 1099 = .ok (.iaload, 1) := by decide +kernel
theorem dW_law_1100 : decode cW_law 1100 = .ok (.aload_n 0, 1) := by decide +kernel
theorem dW_law_1101 : decode cW_law 1101 = .ok (.iload 4, 2) := by decide +kernel
theorem dW_law_1103 : decode cW_law 1103 = .ok (.iconst 3, 1) := by decide +kernel
theorem dW_law_1104 : decode cW_law 1104 = .ok (.iadd, 1) := by decide +kernel
theorem dW_law_1105 : decode cW_law 1105 = .ok (.iaload, 1) := by decide +kernel
theorem dW_law_1106 : decode cW_law 1106 = .ok (.invokevirtual 124, 3) := by decide +kernel
theorem dW_law_1109 : decode cW_law 1109 = .ok (.istore 6, 2) := by decide +kernel
theorem dW_law_1111 : decode cW_law 1111 = .ok (.aload_n 2, 1) := by decide +kernel
theorem dW_law_1112 : decode cW_law 1112 = .ok (.invokevirtual 80, 3) := by decide +kernel
theorem dW_law_1115 : decode cW_law 1115 = .ok (.iload 5, 2) := by decide +kernel
theorem dW_law_1117 : decode cW_law 1117 = .ok (.if_icmp .eq 5, 3) := by decide +kernel
theorem dW_law_1120 : decode cW_law 1120 = .ok (.iconst 0, 1) := by decide +kernel
theorem dW_law_1121 : decode cW_law 1121 = .ok (.ireturn, 1) := by decide +kernel
theorem dW_law_1122 : decode cW_law 1122 = .ok (.iload 5, 2) := by decide +kernel
theorem dW_law_1124 : decode cW_law 1124 = .ok (.ifCond .ne 22, 3) := by decide +kernel
theorem dW_law_1127 : decode cW_law 1127 = .ok (.aload_n 3, 1) := by decide +kernel
theorem dW_law_1128 : decode cW_law 1128 = .ok (.iconst 0, 1) := by decide +kernel
theorem dW_law_1129 : decode cW_law 1129 = .ok (.laload, 1) := by decide +kernel
theorem dW_law_1130 : decode cW_law 1130 = .ok (.iload 6, 2) := by decide +kernel
theorem dW_law_1132 : decode cW_law 1132 = .ok (.ifCond .eq 7, 3) := by decide +kernel
theorem dW_law_1135 : decode cW_law 1135 = .ok (.lconst 1, 1) := by decide +kernel
theorem dW_law_1136 : decode cW_law 1136 = .ok (.goto 4, 3) := by decide +kernel
theorem dW_law_1139 : decode cW_law 1139 = .ok (.lconst 0, 1) := by decide +kernel
theorem dW_law_1140 : decode cW_law 1140 = .ok (.lcmp, 1) := by decide +kernel
theorem dW_law_1141 : decode cW_law 1141 = .ok (.ifCond .eq 5, 3) := by decide +kernel
theorem dW_law_1144 : decode cW_law 1144 = .ok (.iconst 0, 1) := by decide +kernel
theorem dW_law_1145 : decode cW_law 1145 = .ok (.ireturn, 1) := by decide +kernel
theorem dW_law_1146 : decode cW_law 1146 = .ok (.goto 297, 3) := by decide +kernel
theorem dW_law_1149 : decode cW_law 1149 = .ok (.aload_n 1, 1) := by decide +kernel
theorem dW_law_1150 : decode cW_law 1150 = .ok (.aload_n 0, 1) := by decide +kernel
theorem dW_law_1151 : decode cW_law 1151 = .ok (.iload 4, 2) := by decide +kernel
theorem dW_law_1153 : decode cW_law 1153 = .ok (.iconst 1, 1) := by decide +kernel
theorem dW_law_1154 : decode cW_law 1154 = .ok (.iadd, 1) := by decide +kernel
theorem dW_law_1155 : decode cW_law 1155 = .ok (.iaload, 1) := by decide +kernel
theorem dW_law_1156 : decode cW_law 1156 = .ok (.aload_n 3, 1) := by decide +kernel
theorem dW_law_1157 : decode cW_law 1157 = .ok (.invokestatic 125, 3) := by decide +kernel
theorem dW_law_1160 : decode cW_law 1160 = .ok (.istore 5, 2) := by decide +kernel
theorem dW_law_1162 : decode cW_law 1162 = .ok (.aload_n 2, 1) := by decide +kernel
theorem dW_law_1163 : decode cW_law 1163 = .ok (.aload_n 0, 1) := by decide +kernel
theorem dW_law_1164 : decode cW_law 1164 = .ok (.iload 4, 2) := by decide +kernel
theorem dW_law_1166 : decode cW_law 1166 = .ok (.iconst 1, 1) := by decide +kernel
theorem dW_law_1167 : decode cW_law 1167 = .ok (.iadd, 1) := by decide +kernel
theorem dW_law_1168 : decode cW_law 1168 = .ok (.iaload, 1) := by decide +kernel
theorem dW_law_1169 : decode cW_law 1169 = .ok (.invokevirtual 127, 3) := by decide +kernel
theorem dW_law_1172 : decode cW_law 1172 = .ok (.istore 6, 2) := by decide +kernel
theorem dW_law_1174 : decode cW_law 1174 = .ok (.aload_n 2, 1) := by decide +kernel
theorem dW_law_1175 : decode cW_law 1175 = .ok (.invokevirtual 80, 3) := by decide +kernel
theorem dW_law_1178 : decode cW_law 1178 = .ok (.iload 5, 2) := by decide +kernel
theorem dW_law_1180 : decode cW_law 1180 = .ok (.if_icmp .eq 5, 3) := by decide +kernel
theorem dW_law_1183 : decode cW_law 1183 = .ok (.iconst 0, 1) := by decide +kernel
theorem dW_law_1184 : decode cW_law 1184 = .ok (.ireturn, 1) := by decide +kernel
theorem dW_law_1185 : decode cW_law 1185 = .ok (.iload 5, 2) := by decide +kernel
theorem dW_law_1187 : decode cW_law 1187 = .ok (.ifCond .ne 15, 3) := by decide +kernel
theorem dW_law_1190 : decode cW_law 1190 = .ok (.aload_n 3, 1) := by decide +kernel
theorem dW_law_1191 : decode cW_law 1191 = .ok (.iconst 0, 1) := by decide +kernel
theorem dW_law_1192 : decode cW_law 1192 = .ok (.laload, 1) := by decide +kernel
theorem dW_law_1193 : decode cW_law 1193 = .ok (.iload 6, 2) := by decide +kernel
theorem dW_law_1195 : decode cW_law 1195 = .ok (.i2l, 1) := by decide +kernel
theorem dW_law_1196 : decode cW_law 1196 = .ok (.lcmp, 1) := by decide +kernel
theorem dW_law_1197 : decode cW_law 1197 = .ok (.ifCond .eq 5, 3) := by decide +kernel
theorem dW_law_1200 : decode cW_law 1200 = .ok (.iconst 0, 1) := by decide +kernel
theorem dW_law_1201 : decode cW_law 1201 = .ok (.ireturn, 1) := by decide +kernel
theorem dW_law_1202 : decode cW_law 1202 = .ok (.goto 241, 3) := by decide +kernel
theorem dW_law_1205 : decode cW_law 1205 = .ok (.aload_n 1, 1) := by decide +kernel
theorem dW_law_1206 : decode cW_law 1206 = .ok (.aload_n 0, 1) := by decide +kernel
theorem dW_law_1207 : decode cW_law 1207 = .ok (.iload 4, 2) := by decide +kernel
theorem dW_law_1209 : decode cW_law 1209 = .ok (.iconst 1, 1) := by decide +kernel
theorem dW_law_1210 : decode cW_law 1210 = .ok (.iadd, 1) := by decide +kernel
theorem dW_law_1211 : decode cW_law 1211 = .ok (.iaload, 1) := by decide +kernel
theorem dW_law_1212 : decode cW_law 1212 = .ok (.aload_n 0, 1) := by decide +kernel
theorem dW_law_1213 : decode cW_law 1213 = .ok (.iload 4, 2) := by decide +kernel
theorem dW_law_1215 : decode cW_law 1215 = .ok (.iconst 2, 1) := by decide +kernel
theorem dW_law_1216 : decode cW_law 1216 = .ok (.iadd, 1) := by decide +kernel
theorem dW_law_1217 : decode cW_law 1217 = .ok (.iaload, 1) := by decide +kernel
theorem dW_law_1218 : decode cW_law 1218 = .ok (.aload_n 3, 1) := by decide +kernel
theorem dW_law_1219 : decode cW_law 1219 = .ok (.invokestatic 128, 3) := by decide +kernel
theorem dW_law_1222 : decode cW_law 1222 = .ok (.istore 5, 2) := by decide +kernel
theorem dW_law_1224 : decode cW_law 1224 = .ok (.aload_n 2, 1) := by decide +kernel
theorem dW_law_1225 : decode cW_law 1225 = .ok (.aload_n 0, 1) := by decide +kernel
theorem dW_law_1226 : decode cW_law 1226 = .ok (.iload 4, 2) := by decide +kernel
theorem dW_law_1228 : decode cW_law 1228 = .ok (.iconst 1, 1) := by decide +kernel
theorem dW_law_1229 : decode cW_law 1229 = .ok (.iadd, 1) := by decide +kernel
theorem dW_law_1230 : decode cW_law 1230 = .ok (.iaload, 1) := by decide +kernel
theorem dW_law_1231 : decode cW_law 1231 = .ok (.aload_n 0, 1) := by decide +kernel
theorem dW_law_1232 : decode cW_law 1232 = .ok (.iload 4, 2) := by decide +kernel
theorem dW_law_1234 : decode cW_law 1234 = .ok (.iconst 2, 1) := by decide +kernel
theorem dW_law_1235 : decode cW_law 1235 = .ok (.iadd, 1) := by decide +kernel
theorem dW_law_1236 : decode cW_law 1236 = .ok (.iaload, 1) := by decide +kernel
theorem dW_law_1237 : decode cW_law 1237 = .ok (.invokevirtual 131, 3) := by decide +kernel
theorem dW_law_1240 : decode cW_law 1240 = .ok (.lstore 6, 2) := by decide +kernel
theorem dW_law_1242 : decode cW_law 1242 = .ok (.aload_n 2, 1) := by decide +kernel
theorem dW_law_1243 : decode cW_law 1243 = .ok (.invokevirtual 80, 3) := by decide +kernel
theorem dW_law_1246 : decode cW_law 1246 = .ok (.iload 5, 2) := by decide +kernel
theorem dW_law_1248 : decode cW_law 1248 = .ok (.if_icmp .eq 5, 3) := by decide +kernel
theorem dW_law_1251 : decode cW_law 1251 = .ok (.iconst 0, 1) := by decide +kernel
theorem dW_law_1252 : decode cW_law 1252 = .ok (.ireturn, 1) := by decide +kernel
theorem dW_law_1253 : decode cW_law 1253 = .ok (.iload 5, 2) := by decide +kernel
theorem dW_law_1255 : decode cW_law 1255 = .ok (.ifCond .ne 14, 3) := by decide +kernel
theorem dW_law_1258 : decode cW_law 1258 = .ok (.aload_n 3, 1) := by decide +kernel
theorem dW_law_1259 : decode cW_law 1259 = .ok (.iconst 0, 1) := by decide +kernel
theorem dW_law_1260 : decode cW_law 1260 = .ok (.laload, 1) := by decide +kernel
theorem dW_law_1261 : decode cW_law 1261 = .ok (.lload 6, 2) := by decide +kernel
theorem dW_law_1263 : decode cW_law 1263 = .ok (.lcmp, 1) := by decide +kernel
theorem dW_law_1264 : decode cW_law 1264 = .ok (.ifCond .eq 5, 3) := by decide +kernel
theorem dW_law_1267 : decode cW_law 1267 = .ok (.iconst 0, 1) := by decide +kernel
theorem dW_law_1268 : decode cW_law 1268 = .ok (.ireturn, 1) := by decide +kernel
theorem dW_law_1269 : decode cW_law 1269 = .ok (.goto 174, 3) := by decide +kernel
theorem dW_law_1272 : decode cW_law 1272 = .ok (.aload_n 1, 1) := by decide +kernel
theorem dW_law_1273 : decode cW_law 1273 = .ok (.aload_n 0, 1) := by decide +kernel
theorem dW_law_1274 : decode cW_law 1274 = .ok (.iload 4, 2) := by decide +kernel
theorem dW_law_1276 : decode cW_law 1276 = .ok (.iconst 1, 1) := by decide +kernel
theorem dW_law_1277 : decode cW_law 1277 = .ok (.iadd, 1) := by decide +kernel
theorem dW_law_1278 : decode cW_law 1278 = .ok (.iaload, 1) := by decide +kernel
theorem dW_law_1279 : decode cW_law 1279 = .ok (.aload_n 0, 1) := by decide +kernel
theorem dW_law_1280 : decode cW_law 1280 = .ok (.iload 4, 2) := by decide +kernel
theorem dW_law_1282 : decode cW_law 1282 = .ok (.iconst 2, 1) := by decide +kernel
theorem dW_law_1283 : decode cW_law 1283 = .ok (.iadd, 1) := by decide +kernel
theorem dW_law_1284 : decode cW_law 1284 = .ok (.iaload, 1) := by decide +kernel
theorem dW_law_1285 : decode cW_law 1285 = .ok (.aload_n 0, 1) := by decide +kernel
theorem dW_law_1286 : decode cW_law 1286 = .ok (.iload 4, 2) := by decide +kernel
theorem dW_law_1288 : decode cW_law 1288 = .ok (.iconst 3, 1) := by decide +kernel
theorem dW_law_1289 : decode cW_law 1289 = .ok (.iadd, 1) := by decide +kernel
theorem dW_law_1290 : decode cW_law 1290 = .ok (.iaload, 1) := by decide +kernel
theorem dW_law_1291 : decode cW_law 1291 = .ok (.aload_n 3, 1) := by decide +kernel
theorem dW_law_1292 : decode cW_law 1292 = .ok (.invokestatic 132, 3) := by decide +kernel
theorem dW_law_1295 : decode cW_law 1295 = .ok (.istore 5, 2) := by decide +kernel
theorem dW_law_1297 : decode cW_law 1297 = .ok (.aload_n 2, 1) := by decide +kernel
theorem dW_law_1298 : decode cW_law 1298 = .ok (.aload_n 0, 1) := by decide +kernel
theorem dW_law_1299 : decode cW_law 1299 = .ok (.iload 4, 2) := by decide +kernel
theorem dW_law_1301 : decode cW_law 1301 = .ok (.iconst 1, 1) := by decide +kernel
theorem dW_law_1302 : decode cW_law 1302 = .ok (.iadd, 1) := by decide +kernel
theorem dW_law_1303 : decode cW_law 1303 = .ok (.iaload, 1) := by decide +kernel
theorem dW_law_1304 : decode cW_law 1304 = .ok (.aload_n 0, 1) := by decide +kernel
theorem dW_law_1305 : decode cW_law 1305 = .ok (.iload 4, 2) := by decide +kernel
theorem dW_law_1307 : decode cW_law 1307 = .ok (.iconst 2, 1) := by decide +kernel
theorem dW_law_1308 : decode cW_law 1308 = .ok (.iadd, 1) := by decide +kernel
theorem dW_law_1309 : decode cW_law 1309 = .ok (.iaload, 1) := by decide +kernel
theorem dW_law_1310 : decode cW_law 1310 = .ok (.aload_n 0, 1) := by decide +kernel
theorem dW_law_1311 : decode cW_law 1311 = .ok (.iload 4, 2) := by decide +kernel
theorem dW_law_1313 : decode cW_law 1313 = .ok (.iconst 3, 1) := by decide +kernel
theorem dW_law_1314 : decode cW_law 1314 = .ok (.iadd, 1) := by decide +kernel
theorem dW_law_1315 : decode cW_law 1315 = .ok (.iaload, 1) := by decide +kernel
theorem dW_law_1316 : decode cW_law 1316 = .ok (.invokevirtual 134, 3) := by decide +kernel
theorem dW_law_1319 : decode cW_law 1319 = .ok (.lstore 6, 2) := by decide +kernel
theorem dW_law_1321 : decode cW_law 1321 = .ok (.aload_n 2, 1) := by decide +kernel
theorem dW_law_1322 : decode cW_law 1322 = .ok (.invokevirtual 80, 3) := by decide +kernel
theorem dW_law_1325 : decode cW_law 1325 = .ok (.iload 5, 2) := by decide +kernel
theorem dW_law_1327 : decode cW_law 1327 = .ok (.if_icmp .eq 5, 3) := by decide +kernel
theorem dW_law_1330 : decode cW_law 1330 = .ok (.iconst 0, 1) := by decide +kernel
theorem dW_law_1331 : decode cW_law 1331 = .ok (.ireturn, 1) := by decide +kernel
theorem dW_law_1332 : decode cW_law 1332 = .ok (.iload 5, 2) := by decide +kernel
theorem dW_law_1334 : decode cW_law 1334 = .ok (.ifCond .ne 14, 3) := by decide +kernel
theorem dW_law_1337 : decode cW_law 1337 = .ok (.aload_n 3, 1) := by decide +kernel
theorem dW_law_1338 : decode cW_law 1338 = .ok (.iconst 0, 1) := by decide +kernel
theorem dW_law_1339 : decode cW_law 1339 = .ok (.laload, 1) := by decide +kernel
theorem dW_law_1340 : decode cW_law 1340 = .ok (.lload 6, 2) := by decide +kernel
theorem dW_law_1342 : decode cW_law 1342 = .ok (.lcmp, 1) := by decide +kernel
theorem dW_law_1343 : decode cW_law 1343 = .ok (.ifCond .eq 5, 3) := by decide +kernel
theorem dW_law_1346 : decode cW_law 1346 = .ok (.iconst 0, 1) := by decide +kernel
theorem dW_law_1347 : decode cW_law 1347 = .ok (.ireturn, 1) := by decide +kernel
theorem dW_law_1348 : decode cW_law 1348 = .ok (.goto 95, 3) := by decide +kernel
theorem dW_law_1351 : decode cW_law 1351 = .ok (.aload_n 1, 1) := by decide +kernel
theorem dW_law_1352 : decode cW_law 1352 = .ok (.aload_n 0, 1) := by decide +kernel
theorem dW_law_1353 : decode cW_law 1353 = .ok (.iload 4, 2) := by decide +kernel
theorem dW_law_1355 : decode cW_law 1355 = .ok (.iconst 1, 1) := by decide +kernel
theorem dW_law_1356 : decode cW_law 1356 = .ok (.iadd, 1) := by decide +kernel
theorem dW_law_1357 : decode cW_law 1357 = .ok (.iaload, 1) := by decide +kernel
theorem dW_law_1358 : decode cW_law 1358 = .ok (.aload_n 0, 1) := by decide +kernel
theorem dW_law_1359 : decode cW_law 1359 = .ok (.iload 4, 2) := by decide +kernel
theorem dW_law_1361 : decode cW_law 1361 = .ok (.iconst 2, 1) := by decide +kernel
theorem dW_law_1362 : decode cW_law 1362 = .ok (.iadd, 1) := by decide +kernel
theorem dW_law_1363 : decode cW_law 1363 = .ok (.iaload, 1) := by decide +kernel
theorem dW_law_1364 : decode cW_law 1364 = .ok (.aload_n 3, 1) := by decide +kernel
theorem dW_law_1365 : decode cW_law 1365 = .ok (.invokestatic 135, 3) := by decide +kernel
theorem dW_law_1368 : decode cW_law 1368 = .ok (.istore 5, 2) := by decide +kernel
theorem dW_law_1370 : decode cW_law 1370 = .ok (.aload_n 2, 1) := by decide +kernel
theorem dW_law_1371 : decode cW_law 1371 = .ok (.aload_n 0, 1) := by decide +kernel
theorem dW_law_1372 : decode cW_law 1372 = .ok (.iload 4, 2) := by decide +kernel
theorem dW_law_1374 : decode cW_law 1374 = .ok (.iconst 1, 1) := by decide +kernel
theorem dW_law_1375 : decode cW_law 1375 = .ok (.iadd, 1) := by decide +kernel
theorem dW_law_1376 : decode cW_law 1376 = .ok (.iaload, 1) := by decide +kernel
theorem dW_law_1377 : decode cW_law 1377 = .ok (.aload_n 0, 1) := by decide +kernel
theorem dW_law_1378 : decode cW_law 1378 = .ok (.iload 4, 2) := by decide +kernel
theorem dW_law_1380 : decode cW_law 1380 = .ok (.iconst 2, 1) := by decide +kernel
theorem dW_law_1381 : decode cW_law 1381 = .ok (.iadd, 1) := by decide +kernel
theorem dW_law_1382 : decode cW_law 1382 = .ok (.iaload, 1) := by decide +kernel
theorem dW_law_1383 : decode cW_law 1383 = .ok (.invokevirtual 137, 3) := by decide +kernel
theorem dW_law_1386 : decode cW_law 1386 = .ok (.lstore 6, 2) := by decide +kernel
theorem dW_law_1388 : decode cW_law 1388 = .ok (.aload_n 2, 1) := by decide +kernel
theorem dW_law_1389 : decode cW_law 1389 = .ok (.invokevirtual 80, 3) := by decide +kernel
theorem dW_law_1392 : decode cW_law 1392 = .ok (.iload 5, 2) := by decide +kernel
theorem dW_law_1394 : decode cW_law 1394 = .ok (.if_icmp .eq 5, 3) := by decide +kernel
theorem dW_law_1397 : decode cW_law 1397 = .ok (.iconst 0, 1) := by decide +kernel
theorem dW_law_1398 : decode cW_law 1398 = .ok (.ireturn, 1) := by decide +kernel
theorem dW_law_1399 : decode cW_law 1399 = .ok (.iload 5, 2) := by decide +kernel
theorem dW_law_1401 : decode cW_law 1401 = .ok (.ifCond .ne 14, 3) := by decide +kernel
theorem dW_law_1404 : decode cW_law 1404 = .ok (.aload_n 3, 1) := by decide +kernel
theorem dW_law_1405 : decode cW_law 1405 = .ok (.iconst 0, 1) := by decide +kernel
theorem dW_law_1406 : decode cW_law 1406 = .ok (.laload, 1) := by decide +kernel
theorem dW_law_1407 : decode cW_law 1407 = .ok (.lload 6, 2) := by decide +kernel
theorem dW_law_1409 : decode cW_law 1409 = .ok (.lcmp, 1) := by decide +kernel
theorem dW_law_1410 : decode cW_law 1410 = .ok (.ifCond .eq 5, 3) := by decide +kernel
theorem dW_law_1413 : decode cW_law 1413 = .ok (.iconst 0, 1) := by decide +kernel
theorem dW_law_1414 : decode cW_law 1414 = .ok (.ireturn, 1) := by decide +kernel
theorem dW_law_1415 : decode cW_law 1415 = .ok (.goto 28, 3) := by decide +kernel
theorem dW_law_1418 : decode cW_law 1418 = .ok (.aload_n 1, 1) := by decide +kernel
theorem dW_law_1419 : decode cW_law 1419 = .ok (.aload_n 0, 1) := by decide +kernel
theorem dW_law_1420 : decode cW_law 1420 = .ok (.iload 4, 2) := by decide +kernel
theorem dW_law_1422 : decode cW_law 1422 = .ok (.iconst 1, 1) := by decide +kernel
theorem dW_law_1423 : decode cW_law 1423 = .ok (.iadd, 1) := by decide +kernel
theorem dW_law_1424 : decode cW_law 1424 = .ok (.iaload, 1) := by decide +kernel
theorem dW_law_1425 : decode cW_law 1425 = .ok (.invokevirtual 138, 3) := by decide +kernel
theorem dW_law_1428 : decode cW_law 1428 = .ok (.aload_n 2, 1) := by decide +kernel
theorem dW_law_1429 : decode cW_law 1429 = .ok (.aload_n 0, 1) := by decide +kernel
theorem dW_law_1430 : decode cW_law 1430 = .ok (.iload 4, 2) := by decide +kernel
theorem dW_law_1432 : decode cW_law 1432 = .ok (.iconst 1, 1) := by decide +kernel
theorem dW_law_1433 : decode cW_law 1433 = .ok (.iadd, 1) := by decide +kernel
theorem dW_law_1434 : decode cW_law 1434 = .ok (.iaload, 1) := by decide +kernel
theorem dW_law_1435 : decode cW_law 1435 = .ok (.invokevirtual 141, 3) := by decide +kernel
theorem dW_law_1438 : decode cW_law 1438 = .ok (.if_icmp .eq 5, 3) := by decide +kernel
theorem dW_law_1441 : decode cW_law 1441 = .ok (.iconst 0, 1) := by decide +kernel
theorem dW_law_1442 : decode cW_law 1442 = .ok (.ireturn, 1) := by decide +kernel
theorem dW_law_1443 : decode cW_law 1443 = .ok (.iinc 4 7, 3) := by decide +kernel
theorem dW_law_1446 : decode cW_law 1446 = .ok (.goto (-1423), 3) := by decide +kernel
theorem dW_law_1449 : decode cW_law 1449 = .ok (.iconst 1, 1) := by decide +kernel
theorem dW_law_1450 : decode cW_law 1450 = .ok (.ireturn, 1) := by decide +kernel
end
section
/-! ===== rows of my own: instructions over Nat-coded ints and longs, arrays at Nat places ===== -/
def bI (b : Bool) : Int32 := if b then 1 else 0
theorem bI_0 {b : Bool} : bI b = 0 ↔ b = false := by cases b <;> decide
theorem bI_n0 {b : Bool} : ¬ bI b = 0 ↔ b = true := by cases b <;> decide
theorem bI_nar (b : Bool) : narrow .boolean (.int (bI b)) = .int (bI b) := by cases b <;> decide
section RowsN
variable {p : Program} {l : Launch} {e : Env} {R : Room} {s : State} {m : MethodId} {args : Array Value} {below : List Frame} {meth : Method} {c : Code} {H : Heap} {locs : List Loc} {cells slots : Nat} {Q : State → Prop}
variable {cc : ByteArray} {pc : Nat} {ls : Array Slot} {rest : List Value} {D : va_G} {cl : List vw_C} {tys : List (ClassId × FieldType)} {ws : va_W} {A : Nat → Prop} {H0 : Heap} {a : Nat}
theorem tp_i {x y : Int32} (h : x = y) (k : W p l e R s m args below meth c H locs cells slots Q (F0 m pc ls (.int y :: rest))) : W p l e R s m args below meth c H locs cells slots Q (F0 m pc ls (.int x :: rest)) := by rw [h]; exact k
theorem tp_l {x y : Int64} (h : x = y) (k : W p l e R s m args below meth c H locs cells slots Q (F0 m pc ls (.long y :: rest))) : W p l e R s m args below meth c H locs cells slots Q (F0 m pc ls (.long x :: rest)) := by rw [h]; exact k
theorem rn_iconst (hexec : p.tables.exec = Jvm.exec) (hb : c.code = cc) {n : Int} (v : Nat) (hdg : decode cc pc = .ok (.iconst n, 1)) (hv : Int32.ofInt n = nI v)
    (k : W p l e R s m args below meth c H locs cells slots Q (F0 m (pc + 1) ls (.int (nI v) :: rest))) : W p l e R s m args below meth c H locs cells slots Q (F0 m pc ls rest) := lv_iconst hexec hb hdg hv k
theorem rn_bipush (hexec : p.tables.exec = Jvm.exec) (hb : c.code = cc) {n : Int} (v : Nat) (hdg : decode cc pc = .ok (.bipush n, 2)) (hv : (Int8.ofInt n).toInt32 = nI v)
    (k : W p l e R s m args below meth c H locs cells slots Q (F0 m (pc + 2) ls (.int (nI v) :: rest))) : W p l e R s m args below meth c H locs cells slots Q (F0 m pc ls rest) := lv_bipush hexec hb hdg hv k
theorem rn_sipush (hexec : p.tables.exec = Jvm.exec) (hb : c.code = cc) {n : Int} (v : Nat) (hdg : decode cc pc = .ok (.sipush n, 3)) (hv : (Int16.ofInt n).toInt32 = nI v)
    (k : W p l e R s m args below meth c H locs cells slots Q (F0 m (pc + 3) ls (.int (nI v) :: rest))) : W p l e R s m args below meth c H locs cells slots Q (F0 m pc ls rest) := lv_sipush hexec hb hdg hv k
theorem rn_lconst (hexec : p.tables.exec = Jvm.exec) (hb : c.code = cc) {n : Fin 2} (v : Nat) (hdg : decode cc pc = .ok (.lconst n, 1)) (hv : (n : Nat) = v)
    (k : W p l e R s m args below meth c H locs cells slots Q (F0 m (pc + 1) ls (.long (lN v) :: rest))) : W p l e R s m args below meth c H locs cells slots Q (F0 m pc ls rest) := lv_lconst (v := lN v) hexec hb hdg (by rw [hv]; rfl) k
theorem rn_iadd (hexec : p.tables.exec = Jvm.exec) (hb : c.code = cc) {x y : Nat} (hdg : decode cc pc = .ok (.iadd, 1))
    (k : W p l e R s m args below meth c H locs cells slots Q (F0 m (pc + 1) ls (.int (nI (x + y)) :: rest))) : W p l e R s m args below meth c H locs cells slots Q (F0 m pc ls (.int (nI y) :: .int (nI x) :: rest)) := by
  refine lv_iadd hexec hb hdg ?_
  rw [nI_add]; exact k
theorem rn_isub (hexec : p.tables.exec = Jvm.exec) (hb : c.code = cc) {x y : Nat} (hdg : decode cc pc = .ok (.isub, 1)) (h : y ≤ x)
    (k : W p l e R s m args below meth c H locs cells slots Q (F0 m (pc + 1) ls (.int (nI (x - y)) :: rest))) : W p l e R s m args below meth c H locs cells slots Q (F0 m pc ls (.int (nI y) :: .int (nI x) :: rest)) := by
  refine lv_isub hexec hb hdg ?_
  rw [pk_sub h]; exact k
theorem rn_imul (hexec : p.tables.exec = Jvm.exec) (hb : c.code = cc) {x y : Nat} (hdg : decode cc pc = .ok (.imul, 1))
    (k : W p l e R s m args below meth c H locs cells slots Q (F0 m (pc + 1) ls (.int (nI (x * y)) :: rest))) : W p l e R s m args below meth c H locs cells slots Q (F0 m pc ls (.int (nI y) :: .int (nI x) :: rest)) := by
  refine lv_imul hexec hb hdg ?_
  rw [pk_mul]; exact k
theorem rn_ladd (hexec : p.tables.exec = Jvm.exec) (hb : c.code = cc) {x y : Nat} (hdg : decode cc pc = .ok (.ladd, 1))
    (k : W p l e R s m args below meth c H locs cells slots Q (F0 m (pc + 1) ls (.long (lN (x + y)) :: rest))) : W p l e R s m args below meth c H locs cells slots Q (F0 m pc ls (.long (lN y) :: .long (lN x) :: rest)) := by
  refine lv_ladd hexec hb hdg ?_
  rw [lN_add]; exact k
theorem rn_lsub (hexec : p.tables.exec = Jvm.exec) (hb : c.code = cc) {x y : Nat} (hdg : decode cc pc = .ok (.lsub, 1)) (h : y ≤ x)
    (k : W p l e R s m args below meth c H locs cells slots Q (F0 m (pc + 1) ls (.long (lN (x - y)) :: rest))) : W p l e R s m args below meth c H locs cells slots Q (F0 m pc ls (.long (lN y) :: .long (lN x) :: rest)) := by
  refine lv_lsub hexec hb hdg ?_
  rw [lN_sub h]; exact k
theorem rn_lmul (hexec : p.tables.exec = Jvm.exec) (hb : c.code = cc) {x y : Nat} (hdg : decode cc pc = .ok (.lmul, 1))
    (k : W p l e R s m args below meth c H locs cells slots Q (F0 m (pc + 1) ls (.long (lN (x * y)) :: rest))) : W p l e R s m args below meth c H locs cells slots Q (F0 m pc ls (.long (lN y) :: .long (lN x) :: rest)) := by
  refine lv_lmul hexec hb hdg ?_
  rw [lN_mul]; exact k
theorem lN_n0 {y : Nat} (h0 : 0 < y) (h : y < 2 ^ 63) : ¬ lN y = 0 := by
  intro q
  have h1 : lN y = lN 0 := q
  rw [pk_lEQ h (by omega)] at h1
  omega
theorem rn_ldiv (hexec : p.tables.exec = Jvm.exec) (hb : c.code = cc) {x y : Nat} (hdg : decode cc pc = .ok (.ldiv, 1)) (hx : x < 2 ^ 63) (h0 : 0 < y) (hy : y < 2 ^ 63)
    (k : W p l e R s m args below meth c H locs cells slots Q (F0 m (pc + 1) ls (.long (lN (x / y)) :: rest))) : W p l e R s m args below meth c H locs cells slots Q (F0 m pc ls (.long (lN y) :: .long (lN x) :: rest)) := by
  refine lv_ldiv hexec hb hdg (lN_n0 h0 hy) ?_
  rw [pk_lDiv hx h0 hy]; exact k
theorem rn_lrem (hexec : p.tables.exec = Jvm.exec) (hb : c.code = cc) {x y : Nat} (hdg : decode cc pc = .ok (.lrem, 1)) (hx : x < 2 ^ 63) (h0 : 0 < y) (hy : y < 2 ^ 63)
    (k : W p l e R s m args below meth c H locs cells slots Q (F0 m (pc + 1) ls (.long (lN (x % y)) :: rest))) : W p l e R s m args below meth c H locs cells slots Q (F0 m pc ls (.long (lN y) :: .long (lN x) :: rest)) := by
  refine lv_lrem hexec hb hdg (lN_n0 h0 hy) ?_
  rw [pk_lRem hx h0 hy]; exact k
theorem rn_i2l (hexec : p.tables.exec = Jvm.exec) (hb : c.code = cc) {x : Nat} (hdg : decode cc pc = .ok (.i2l, 1)) (hx : x < 2 ^ 31)
    (k : W p l e R s m args below meth c H locs cells slots Q (F0 m (pc + 1) ls (.long (lN x) :: rest))) : W p l e R s m args below meth c H locs cells slots Q (F0 m pc ls (.int (nI x) :: rest)) := lv_i2l hexec hb hdg (nI_l hx) k
theorem rn_l2i (hexec : p.tables.exec = Jvm.exec) (hb : c.code = cc) {x : Nat} (hdg : decode cc pc = .ok (.l2i, 1))
    (k : W p l e R s m args below meth c H locs cells slots Q (F0 m (pc + 1) ls (.int (nI x) :: rest))) : W p l e R s m args below meth c H locs cells slots Q (F0 m pc ls (.long (lN x) :: rest)) := lv_l2i hexec hb hdg (lN_i x) k
theorem rn_iinc (hexec : p.tables.exec = Jvm.exec) (hb : c.code = cc) {i nL k x : Nat} {lv lv' : List (Nat × Value)} (hdg : decode cc pc = .ok (.iinc i 1, 3)) (h : lv_has ls nL lv) (hk : lv[k]? = some (i, .int (nI x))) (hn : i < nL) (hl : (i, Value.int (nI (x + 1))) :: lv.filter (fun q => !(q.1 == i) && !(q.1 + 1 == i && q.2.category == 2)) = lv')
    (kk : ∀ ls', lv_has ls' nL lv' → W p l e R s m args below meth c H locs cells slots Q (F0 m (pc + 3) ls' rest)) : W p l e R s m args below meth c H locs cells slots Q (F0 m pc ls rest) :=
  lv_iinc hexec hb hdg h hk (show nI x + Int32.ofInt 1 = nI (x + 1) from nI_1 x) hn hl kk
theorem rn_iincm (hexec : p.tables.exec = Jvm.exec) (hb : c.code = cc) {i nL k x : Nat} {lv lv' : List (Nat × Value)} (hdg : decode cc pc = .ok (.iinc i (-1), 3)) (h : lv_has ls nL lv) (hk : lv[k]? = some (i, .int (nI (x + 1)))) (hn : i < nL) (hl : (i, Value.int (nI x)) :: lv.filter (fun q => !(q.1 == i) && !(q.1 + 1 == i && q.2.category == 2)) = lv')
    (kk : ∀ ls', lv_has ls' nL lv' → W p l e R s m args below meth c H locs cells slots Q (F0 m (pc + 3) ls' rest)) : W p l e R s m args below meth c H locs cells slots Q (F0 m pc ls rest) :=
  lv_iinc hexec hb hdg h hk (show nI (x + 1) + Int32.ofInt (-1) = nI x from pk_m1 x) hn hl kk
theorem rn_icmp_eq (hexec : p.tables.exec = Jvm.exec) (hb : c.code = cc) {x y : Nat} {off : Int} {tgt : Nat} (hdg : decode cc pc = .ok (.if_icmp .eq off, 3)) (ht : (pc : Int) + off = (tgt : Int)) (hx : x < 2 ^ 31) (hy : y < 2 ^ 31)
    (kt : x = y → W p l e R s m args below meth c H locs cells slots Q (F0 m tgt ls rest)) (kf : ¬ x = y → W p l e R s m args below meth c H locs cells slots Q (F0 m (pc + 3) ls rest)) : W p l e R s m args below meth c H locs cells slots Q (F0 m pc ls (.int (nI y) :: .int (nI x) :: rest)) :=
  lv_icmp_eq hexec hb hdg ht (fun h => kt ((nI_eq hx hy).mp h)) (fun h => kf (fun q => h ((nI_eq hx hy).mpr q)))
theorem rn_icmp_ne (hexec : p.tables.exec = Jvm.exec) (hb : c.code = cc) {x y : Nat} {off : Int} {tgt : Nat} (hdg : decode cc pc = .ok (.if_icmp .ne off, 3)) (ht : (pc : Int) + off = (tgt : Int)) (hx : x < 2 ^ 31) (hy : y < 2 ^ 31)
    (kt : ¬ x = y → W p l e R s m args below meth c H locs cells slots Q (F0 m tgt ls rest)) (kf : x = y → W p l e R s m args below meth c H locs cells slots Q (F0 m (pc + 3) ls rest)) : W p l e R s m args below meth c H locs cells slots Q (F0 m pc ls (.int (nI y) :: .int (nI x) :: rest)) :=
  lv_icmp_ne hexec hb hdg ht (fun h => kt (fun q => h ((nI_eq hx hy).mpr q))) (fun h => kf ((nI_eq hx hy).mp h))
theorem rn_icmp_lt (hexec : p.tables.exec = Jvm.exec) (hb : c.code = cc) {x y : Nat} {off : Int} {tgt : Nat} (hdg : decode cc pc = .ok (.if_icmp .lt off, 3)) (ht : (pc : Int) + off = (tgt : Int)) (hx : x < 2 ^ 31) (hy : y < 2 ^ 31)
    (kt : x < y → W p l e R s m args below meth c H locs cells slots Q (F0 m tgt ls rest)) (kf : ¬ x < y → W p l e R s m args below meth c H locs cells slots Q (F0 m (pc + 3) ls rest)) : W p l e R s m args below meth c H locs cells slots Q (F0 m pc ls (.int (nI y) :: .int (nI x) :: rest)) :=
  lv_icmp_lt hexec hb hdg ht (fun h => kt ((nI_ltI hx hy).mp h)) (fun h => kf (fun q => h ((nI_ltI hx hy).mpr q)))
theorem rn_icmp_ge (hexec : p.tables.exec = Jvm.exec) (hb : c.code = cc) {x y : Nat} {off : Int} {tgt : Nat} (hdg : decode cc pc = .ok (.if_icmp .ge off, 3)) (ht : (pc : Int) + off = (tgt : Int)) (hx : x < 2 ^ 31) (hy : y < 2 ^ 31)
    (kt : y ≤ x → W p l e R s m args below meth c H locs cells slots Q (F0 m tgt ls rest)) (kf : ¬ y ≤ x → W p l e R s m args below meth c H locs cells slots Q (F0 m (pc + 3) ls rest)) : W p l e R s m args below meth c H locs cells slots Q (F0 m pc ls (.int (nI y) :: .int (nI x) :: rest)) :=
  lv_icmp_ge hexec hb hdg ht (fun h => kt ((nI_leI hy hx).mp h)) (fun h => kf (fun q => h ((nI_leI hy hx).mpr q)))
theorem rn_icmp_gt (hexec : p.tables.exec = Jvm.exec) (hb : c.code = cc) {x y : Nat} {off : Int} {tgt : Nat} (hdg : decode cc pc = .ok (.if_icmp .gt off, 3)) (ht : (pc : Int) + off = (tgt : Int)) (hx : x < 2 ^ 31) (hy : y < 2 ^ 31)
    (kt : y < x → W p l e R s m args below meth c H locs cells slots Q (F0 m tgt ls rest)) (kf : ¬ y < x → W p l e R s m args below meth c H locs cells slots Q (F0 m (pc + 3) ls rest)) : W p l e R s m args below meth c H locs cells slots Q (F0 m pc ls (.int (nI y) :: .int (nI x) :: rest)) :=
  lv_icmp_gt hexec hb hdg ht (fun h => kt ((nI_ltI hy hx).mp h)) (fun h => kf (fun q => h ((nI_ltI hy hx).mpr q)))
theorem rn_icmp_le (hexec : p.tables.exec = Jvm.exec) (hb : c.code = cc) {x y : Nat} {off : Int} {tgt : Nat} (hdg : decode cc pc = .ok (.if_icmp .le off, 3)) (ht : (pc : Int) + off = (tgt : Int)) (hx : x < 2 ^ 31) (hy : y < 2 ^ 31)
    (kt : x ≤ y → W p l e R s m args below meth c H locs cells slots Q (F0 m tgt ls rest)) (kf : ¬ x ≤ y → W p l e R s m args below meth c H locs cells slots Q (F0 m (pc + 3) ls rest)) : W p l e R s m args below meth c H locs cells slots Q (F0 m pc ls (.int (nI y) :: .int (nI x) :: rest)) :=
  lv_icmp_le hexec hb hdg ht (fun h => kt ((nI_leI hx hy).mp h)) (fun h => kf (fun q => h ((nI_leI hx hy).mpr q)))
theorem lc_eq (x y : Int64) : lg_cmp x y = 0 ↔ x = y := by
  unfold lg_cmp
  simp only [gt_iff_lt, Int64.lt_iff_toInt_lt, Int64.le_iff_toInt_le, ← Int64.toInt_inj]
  repeat' split
  all_goals (constructor <;> intro hh <;> first | omega | decide | exact absurd hh (by decide))
theorem lc_lt (x y : Int64) : lg_cmp x y < 0 ↔ x < y := by
  unfold lg_cmp
  simp only [gt_iff_lt, Int64.lt_iff_toInt_lt, Int64.le_iff_toInt_le, ← Int64.toInt_inj]
  repeat' split
  all_goals (constructor <;> intro hh <;> first | omega | decide | exact absurd hh (by decide))
theorem lc_ge (x y : Int64) : 0 ≤ lg_cmp x y ↔ y ≤ x := by
  unfold lg_cmp
  simp only [gt_iff_lt, Int64.lt_iff_toInt_lt, Int64.le_iff_toInt_le, ← Int64.toInt_inj]
  repeat' split
  all_goals (constructor <;> intro hh <;> first | omega | decide | exact absurd hh (by decide))
theorem lc_gt (x y : Int64) : 0 < lg_cmp x y ↔ y < x := by
  unfold lg_cmp
  simp only [gt_iff_lt, Int64.lt_iff_toInt_lt, Int64.le_iff_toInt_le, ← Int64.toInt_inj]
  repeat' split
  all_goals (constructor <;> intro hh <;> first | omega | decide | exact absurd hh (by decide))
theorem lc_le (x y : Int64) : lg_cmp x y ≤ 0 ↔ x ≤ y := by
  unfold lg_cmp
  simp only [gt_iff_lt, Int64.lt_iff_toInt_lt, Int64.le_iff_toInt_le, ← Int64.toInt_inj]
  repeat' split
  all_goals (constructor <;> intro hh <;> first | omega | decide | exact absurd hh (by decide))
theorem rl_cmp_eq (hexec : p.tables.exec = Jvm.exec) (hb : c.code = cc) {x y : Int64} {off : Int} {tgt : Nat} (hdc : decode cc pc = .ok (.lcmp, 1)) (hdg : decode cc (pc + 1) = .ok (.ifCond .eq off, 3)) (ht : ((pc + 1 : Nat) : Int) + off = (tgt : Int))
    (kt : x = y → W p l e R s m args below meth c H locs cells slots Q (F0 m tgt ls rest)) (kf : ¬ x = y → W p l e R s m args below meth c H locs cells slots Q (F0 m (pc + 1 + 3) ls rest)) : W p l e R s m args below meth c H locs cells slots Q (F0 m pc ls (.long y :: .long x :: rest)) :=
  W.lcmp hexec hb hdc (lv_if_eq hexec hb hdg ht (fun h => kt ((lc_eq _ _).mp h)) (fun h => kf (fun q => h ((lc_eq _ _).mpr q))))
theorem rn_lcmp_eq (hexec : p.tables.exec = Jvm.exec) (hb : c.code = cc) {x y : Nat} {off : Int} {tgt : Nat} (hdc : decode cc pc = .ok (.lcmp, 1)) (hdg : decode cc (pc + 1) = .ok (.ifCond .eq off, 3)) (ht : ((pc + 1 : Nat) : Int) + off = (tgt : Int)) (hx : x < 2 ^ 63) (hy : y < 2 ^ 63)
    (kt : x = y → W p l e R s m args below meth c H locs cells slots Q (F0 m tgt ls rest)) (kf : ¬ x = y → W p l e R s m args below meth c H locs cells slots Q (F0 m (pc + 1 + 3) ls rest)) : W p l e R s m args below meth c H locs cells slots Q (F0 m pc ls (.long (lN y) :: .long (lN x) :: rest)) :=
  rl_cmp_eq hexec hb hdc hdg ht (fun h => kt ((pk_lEQ hx hy).mp h)) (fun h => kf (fun q => h ((pk_lEQ hx hy).mpr q)))
theorem rl_cmp_ne (hexec : p.tables.exec = Jvm.exec) (hb : c.code = cc) {x y : Int64} {off : Int} {tgt : Nat} (hdc : decode cc pc = .ok (.lcmp, 1)) (hdg : decode cc (pc + 1) = .ok (.ifCond .ne off, 3)) (ht : ((pc + 1 : Nat) : Int) + off = (tgt : Int))
    (kt : ¬ x = y → W p l e R s m args below meth c H locs cells slots Q (F0 m tgt ls rest)) (kf : x = y → W p l e R s m args below meth c H locs cells slots Q (F0 m (pc + 1 + 3) ls rest)) : W p l e R s m args below meth c H locs cells slots Q (F0 m pc ls (.long y :: .long x :: rest)) :=
  W.lcmp hexec hb hdc (lv_if_ne hexec hb hdg ht (fun h => kt (fun q => h ((lc_eq _ _).mpr q))) (fun h => kf ((lc_eq _ _).mp h)))
theorem rn_lcmp_ne (hexec : p.tables.exec = Jvm.exec) (hb : c.code = cc) {x y : Nat} {off : Int} {tgt : Nat} (hdc : decode cc pc = .ok (.lcmp, 1)) (hdg : decode cc (pc + 1) = .ok (.ifCond .ne off, 3)) (ht : ((pc + 1 : Nat) : Int) + off = (tgt : Int)) (hx : x < 2 ^ 63) (hy : y < 2 ^ 63)
    (kt : ¬ x = y → W p l e R s m args below meth c H locs cells slots Q (F0 m tgt ls rest)) (kf : x = y → W p l e R s m args below meth c H locs cells slots Q (F0 m (pc + 1 + 3) ls rest)) : W p l e R s m args below meth c H locs cells slots Q (F0 m pc ls (.long (lN y) :: .long (lN x) :: rest)) :=
  rl_cmp_ne hexec hb hdc hdg ht (fun h => kt (fun q => h ((pk_lEQ hx hy).mpr q))) (fun h => kf ((pk_lEQ hx hy).mp h))
theorem rl_cmp_lt (hexec : p.tables.exec = Jvm.exec) (hb : c.code = cc) {x y : Int64} {off : Int} {tgt : Nat} (hdc : decode cc pc = .ok (.lcmp, 1)) (hdg : decode cc (pc + 1) = .ok (.ifCond .lt off, 3)) (ht : ((pc + 1 : Nat) : Int) + off = (tgt : Int))
    (kt : x < y → W p l e R s m args below meth c H locs cells slots Q (F0 m tgt ls rest)) (kf : ¬ x < y → W p l e R s m args below meth c H locs cells slots Q (F0 m (pc + 1 + 3) ls rest)) : W p l e R s m args below meth c H locs cells slots Q (F0 m pc ls (.long y :: .long x :: rest)) :=
  W.lcmp hexec hb hdc (lv_if_lt hexec hb hdg ht (fun h => kt ((lc_lt _ _).mp h)) (fun h => kf (fun q => h ((lc_lt _ _).mpr q))))
theorem rn_lcmp_lt (hexec : p.tables.exec = Jvm.exec) (hb : c.code = cc) {x y : Nat} {off : Int} {tgt : Nat} (hdc : decode cc pc = .ok (.lcmp, 1)) (hdg : decode cc (pc + 1) = .ok (.ifCond .lt off, 3)) (ht : ((pc + 1 : Nat) : Int) + off = (tgt : Int)) (hx : x < 2 ^ 63) (hy : y < 2 ^ 63)
    (kt : x < y → W p l e R s m args below meth c H locs cells slots Q (F0 m tgt ls rest)) (kf : ¬ x < y → W p l e R s m args below meth c H locs cells slots Q (F0 m (pc + 1 + 3) ls rest)) : W p l e R s m args below meth c H locs cells slots Q (F0 m pc ls (.long (lN y) :: .long (lN x) :: rest)) :=
  rl_cmp_lt hexec hb hdc hdg ht (fun h => kt ((pk_lLT hx hy).mp h)) (fun h => kf (fun q => h ((pk_lLT hx hy).mpr q)))
theorem rl_cmp_ge (hexec : p.tables.exec = Jvm.exec) (hb : c.code = cc) {x y : Int64} {off : Int} {tgt : Nat} (hdc : decode cc pc = .ok (.lcmp, 1)) (hdg : decode cc (pc + 1) = .ok (.ifCond .ge off, 3)) (ht : ((pc + 1 : Nat) : Int) + off = (tgt : Int))
    (kt : y ≤ x → W p l e R s m args below meth c H locs cells slots Q (F0 m tgt ls rest)) (kf : ¬ y ≤ x → W p l e R s m args below meth c H locs cells slots Q (F0 m (pc + 1 + 3) ls rest)) : W p l e R s m args below meth c H locs cells slots Q (F0 m pc ls (.long y :: .long x :: rest)) :=
  W.lcmp hexec hb hdc (lv_if_ge hexec hb hdg ht (fun h => kt ((lc_ge _ _).mp h)) (fun h => kf (fun q => h ((lc_ge _ _).mpr q))))
theorem rn_lcmp_ge (hexec : p.tables.exec = Jvm.exec) (hb : c.code = cc) {x y : Nat} {off : Int} {tgt : Nat} (hdc : decode cc pc = .ok (.lcmp, 1)) (hdg : decode cc (pc + 1) = .ok (.ifCond .ge off, 3)) (ht : ((pc + 1 : Nat) : Int) + off = (tgt : Int)) (hx : x < 2 ^ 63) (hy : y < 2 ^ 63)
    (kt : y ≤ x → W p l e R s m args below meth c H locs cells slots Q (F0 m tgt ls rest)) (kf : ¬ y ≤ x → W p l e R s m args below meth c H locs cells slots Q (F0 m (pc + 1 + 3) ls rest)) : W p l e R s m args below meth c H locs cells slots Q (F0 m pc ls (.long (lN y) :: .long (lN x) :: rest)) :=
  rl_cmp_ge hexec hb hdc hdg ht (fun h => kt ((pk_lLE hy hx).mp h)) (fun h => kf (fun q => h ((pk_lLE hy hx).mpr q)))
theorem rl_cmp_gt (hexec : p.tables.exec = Jvm.exec) (hb : c.code = cc) {x y : Int64} {off : Int} {tgt : Nat} (hdc : decode cc pc = .ok (.lcmp, 1)) (hdg : decode cc (pc + 1) = .ok (.ifCond .gt off, 3)) (ht : ((pc + 1 : Nat) : Int) + off = (tgt : Int))
    (kt : y < x → W p l e R s m args below meth c H locs cells slots Q (F0 m tgt ls rest)) (kf : ¬ y < x → W p l e R s m args below meth c H locs cells slots Q (F0 m (pc + 1 + 3) ls rest)) : W p l e R s m args below meth c H locs cells slots Q (F0 m pc ls (.long y :: .long x :: rest)) :=
  W.lcmp hexec hb hdc (lv_if_gt hexec hb hdg ht (fun h => kt ((lc_gt _ _).mp h)) (fun h => kf (fun q => h ((lc_gt _ _).mpr q))))
theorem rn_lcmp_gt (hexec : p.tables.exec = Jvm.exec) (hb : c.code = cc) {x y : Nat} {off : Int} {tgt : Nat} (hdc : decode cc pc = .ok (.lcmp, 1)) (hdg : decode cc (pc + 1) = .ok (.ifCond .gt off, 3)) (ht : ((pc + 1 : Nat) : Int) + off = (tgt : Int)) (hx : x < 2 ^ 63) (hy : y < 2 ^ 63)
    (kt : y < x → W p l e R s m args below meth c H locs cells slots Q (F0 m tgt ls rest)) (kf : ¬ y < x → W p l e R s m args below meth c H locs cells slots Q (F0 m (pc + 1 + 3) ls rest)) : W p l e R s m args below meth c H locs cells slots Q (F0 m pc ls (.long (lN y) :: .long (lN x) :: rest)) :=
  rl_cmp_gt hexec hb hdc hdg ht (fun h => kt ((pk_lLT hy hx).mp h)) (fun h => kf (fun q => h ((pk_lLT hy hx).mpr q)))
theorem rl_cmp_le (hexec : p.tables.exec = Jvm.exec) (hb : c.code = cc) {x y : Int64} {off : Int} {tgt : Nat} (hdc : decode cc pc = .ok (.lcmp, 1)) (hdg : decode cc (pc + 1) = .ok (.ifCond .le off, 3)) (ht : ((pc + 1 : Nat) : Int) + off = (tgt : Int))
    (kt : x ≤ y → W p l e R s m args below meth c H locs cells slots Q (F0 m tgt ls rest)) (kf : ¬ x ≤ y → W p l e R s m args below meth c H locs cells slots Q (F0 m (pc + 1 + 3) ls rest)) : W p l e R s m args below meth c H locs cells slots Q (F0 m pc ls (.long y :: .long x :: rest)) :=
  W.lcmp hexec hb hdc (lv_if_le hexec hb hdg ht (fun h => kt ((lc_le _ _).mp h)) (fun h => kf (fun q => h ((lc_le _ _).mpr q))))
theorem rn_lcmp_le (hexec : p.tables.exec = Jvm.exec) (hb : c.code = cc) {x y : Nat} {off : Int} {tgt : Nat} (hdc : decode cc pc = .ok (.lcmp, 1)) (hdg : decode cc (pc + 1) = .ok (.ifCond .le off, 3)) (ht : ((pc + 1 : Nat) : Int) + off = (tgt : Int)) (hx : x < 2 ^ 63) (hy : y < 2 ^ 63)
    (kt : x ≤ y → W p l e R s m args below meth c H locs cells slots Q (F0 m tgt ls rest)) (kf : ¬ x ≤ y → W p l e R s m args below meth c H locs cells slots Q (F0 m (pc + 1 + 3) ls rest)) : W p l e R s m args below meth c H locs cells slots Q (F0 m pc ls (.long (lN y) :: .long (lN x) :: rest)) :=
  rl_cmp_le hexec hb hdc hdg ht (fun h => kt ((pk_lLE hx hy).mp h)) (fun h => kf (fun q => h ((pk_lLE hx hy).mpr q)))
theorem rb_eq (hexec : p.tables.exec = Jvm.exec) (hb : c.code = cc) {b : Bool} {off : Int} {tgt : Nat} (hdg : decode cc pc = .ok (.ifCond .eq off, 3)) (ht : (pc : Int) + off = (tgt : Int))
    (kt : b = false → W p l e R s m args below meth c H locs cells slots Q (F0 m tgt ls rest)) (kf : b = true → W p l e R s m args below meth c H locs cells slots Q (F0 m (pc + 3) ls rest)) : W p l e R s m args below meth c H locs cells slots Q (F0 m pc ls (.int (bI b) :: rest)) :=
  lv_if_eq hexec hb hdg ht (fun h => kt (bI_0.mp h)) (fun h => kf (bI_n0.mp h))
theorem rb_ne (hexec : p.tables.exec = Jvm.exec) (hb : c.code = cc) {b : Bool} {off : Int} {tgt : Nat} (hdg : decode cc pc = .ok (.ifCond .ne off, 3)) (ht : (pc : Int) + off = (tgt : Int))
    (kt : b = true → W p l e R s m args below meth c H locs cells slots Q (F0 m tgt ls rest)) (kf : b = false → W p l e R s m args below meth c H locs cells slots Q (F0 m (pc + 3) ls rest)) : W p l e R s m args below meth c H locs cells slots Q (F0 m pc ls (.int (bI b) :: rest)) :=
  lv_if_ne hexec hb hdg ht (fun h => kt (bI_n0.mp h)) (fun h => kf (bI_0.mp h))
theorem ga_i (hexec : p.tables.exec = Jvm.exec) (hb : c.code = cc) (hK : va_K D cl tys s) (hP : va_P D cl ws H) (q0 t0 : Nat) {cA : ClassId} {n k : Nat} {f : Nat → Nat} (ha : ws[q0]? = some (a, .inl (cA, n, .inl (fun j => nI (f j))))) (ht : tys[t0]? = some (cA, .int)) (hk : k < n) (hn : n < 2 ^ 31) (hdg : decode cc pc = .ok (.iaload, 1))
    (kk : W p l e R s m args below meth c H locs cells slots Q (F0 m (pc + 1) ls (.int (nI (f k)) :: rest))) : W p l e R s m args below meth c H locs cells slots Q (F0 m pc ls (.int (nI k) :: .ref a :: rest)) := by
  refine va_iald hexec hb hK hP q0 t0 ha ht (vp_in_nI hk hn) hdg ?_
  rw [nI_clamp (by omega)]
  exact kk
theorem en_i (f : Nat → Nat) (k v : Nat) : upd (fun j => nI (f j)) k (nI v) = fun j => nI (va_up f k v j) := by
  funext j
  by_cases h : j = k
  · simp [upd, va_up, h]
  · simp [upd, va_up, h]
theorem sa_i (hexec : p.tables.exec = Jvm.exec) (hb : c.code = cc) (hK : va_K D cl tys s) (hP : va_P D cl ws H) (hD : va_D A ws) (hS : va_S A H0 H locs) (q0 t0 : Nat) {cA : ClassId} {n k v : Nat} {f : Nat → Nat} (ha : ws[q0]? = some (a, .inl (cA, n, .inl (fun j => nI (f j))))) (ht : tys[t0]? = some (cA, .int)) (hk : k < n) (hn : n < 2 ^ 31) (hdg : decode cc pc = .ok (.iastore, 1))
    (kk : ∀ (H1 : Heap) (locs1 : List Loc), va_P D cl (ws.set q0 (a, .inl (cA, n, .inl (fun j => nI (va_up f k v j))))) H1 → va_D A (ws.set q0 (a, .inl (cA, n, .inl (fun j => nI (va_up f k v j))))) → va_S A H0 H1 locs1 → W p l e R s m args below meth c H1 locs1 cells slots Q (F0 m (pc + 1) ls rest)) : W p l e R s m args below meth c H locs cells slots Q (F0 m pc ls (.int (nI v) :: .int (nI k) :: .ref a :: rest)) := by
  refine va_iast hexec hb hK hP hD hS q0 t0 ha ht (vp_in_nI hk hn) hdg ?_
  rw [nI_clamp (by omega), en_i]
  exact kk
theorem ga_l (hexec : p.tables.exec = Jvm.exec) (hb : c.code = cc) (hK : va_K D cl tys s) (hP : va_P D cl ws H) (q0 t0 : Nat) {cA : ClassId} {n k : Nat} {f : Nat → Nat} (ha : ws[q0]? = some (a, .inl (cA, n, .inr (.inl (fun j => lN (f j)))))) (ht : tys[t0]? = some (cA, .long)) (hk : k < n) (hn : n < 2 ^ 31) (hdg : decode cc pc = .ok (.laload, 1))
    (kk : W p l e R s m args below meth c H locs cells slots Q (F0 m (pc + 1) ls (.long (lN (f k)) :: rest))) : W p l e R s m args below meth c H locs cells slots Q (F0 m pc ls (.int (nI k) :: .ref a :: rest)) := by
  refine va_lald hexec hb hK hP q0 t0 ha ht (vp_in_nI hk hn) hdg ?_
  rw [nI_clamp (by omega)]
  exact kk
theorem en_l (f : Nat → Nat) (k v : Nat) : vp_updL (fun j => lN (f j)) k (lN v) = fun j => lN (va_up f k v j) := by
  funext j
  by_cases h : j = k
  · simp [vp_updL, va_up, h]
  · simp [vp_updL, va_up, h]
theorem sa_l (hexec : p.tables.exec = Jvm.exec) (hb : c.code = cc) (hK : va_K D cl tys s) (hP : va_P D cl ws H) (hD : va_D A ws) (hS : va_S A H0 H locs) (q0 t0 : Nat) {cA : ClassId} {n k v : Nat} {f : Nat → Nat} (ha : ws[q0]? = some (a, .inl (cA, n, .inr (.inl (fun j => lN (f j)))))) (ht : tys[t0]? = some (cA, .long)) (hk : k < n) (hn : n < 2 ^ 31) (hdg : decode cc pc = .ok (.lastore, 1))
    (kk : ∀ (H1 : Heap) (locs1 : List Loc), va_P D cl (ws.set q0 (a, .inl (cA, n, .inr (.inl (fun j => lN (va_up f k v j)))))) H1 → va_D A (ws.set q0 (a, .inl (cA, n, .inr (.inl (fun j => lN (va_up f k v j)))))) → va_S A H0 H1 locs1 → W p l e R s m args below meth c H1 locs1 cells slots Q (F0 m (pc + 1) ls rest)) : W p l e R s m args below meth c H locs cells slots Q (F0 m pc ls (.long (lN v) :: .int (nI k) :: .ref a :: rest)) := by
  refine va_last hexec hb hK hP hD hS q0 t0 ha ht (vp_in_nI hk hn) hdg ?_
  rw [nI_clamp (by omega), en_l]
  exact kk
end RowsN
/-! ===== lN n to 2^64: shifts, and, or, masks, one bit ===== -/
theorem wb_tb (n : Nat) : (lN n).toBitVec = BitVec.ofNat 64 n := rfl
theorem wb_inj {a b : Int64} (h : a.toBitVec = b.toBitVec) : a = b := Int64.toBitVec_inj.mp h
theorem wb_tn {n : Nat} (h : n < 2 ^ 64) : (lN n).toBitVec.toNat = n := by rw [wb_tb, BitVec.toNat_ofNat, Nat.mod_eq_of_lt h]
theorem wb_of (x : Int64) : ∃ n, n < 2 ^ 64 ∧ x = lN n := ⟨x.toBitVec.toNat, x.toBitVec.isLt, wb_inj (by rw [wb_tb]; simp)⟩
theorem wb_of32 (x : Int32) : ∃ n, n < 2 ^ 32 ∧ x = nI n := ⟨x.toBitVec.toNat, x.toBitVec.isLt, Int32.toBitVec_inj.mp (by show _ = BitVec.ofNat 32 _; simp)⟩
theorem wb_c : ∀ k, k < 64 → ((nI k).toInt64 &&& 63) = lN k := by decide +kernel
theorem wb_cu : ∀ k, k < 64 → ((nI k).toInt64.toUInt64 &&& Int64.toUInt64 63) = UInt64.ofNat k := by decide +kernel
theorem wb_sm : ∀ k, k < 64 → (BitVec.ofNat 64 k).smod 64 = BitVec.ofNat 64 k := by decide +kernel
theorem wb_pw {a b : Nat} (h : a ≤ b) : 2 ^ b = 2 ^ a * 2 ^ (b - a) := by rw [← Nat.pow_add]; congr 1; omega
theorem wb_lt2 {a b : Nat} (h : a < b) : 2 ^ a < 2 ^ b := Nat.pow_lt_pow_right (by decide) h
theorem wb_mod (n : Nat) : lN n = lN (n % 2 ^ 64) := wb_inj (by rw [wb_tb, wb_tb]; apply BitVec.eq_of_toNat_eq; rw [BitVec.toNat_ofNat, BitVec.toNat_ofNat, Nat.mod_mod])
theorem wb_shr {n k : Nat} (hn : n < 2 ^ 64) (hk : k < 64) : ((lN n).toUInt64 >>> ((nI k).toInt64.toUInt64 &&& Int64.toUInt64 63)).toInt64 = lN (n / 2 ^ k) := by
  rw [wb_cu k hk]
  apply wb_inj
  apply BitVec.eq_of_toNat_eq
  show ((lN n).toUInt64 >>> UInt64.ofNat k).toNat = (BitVec.ofNat 64 _).toNat
  have h1 : (UInt64.ofNat k).toNat = k := by
    show (BitVec.ofNat 64 k).toNat = k
    rw [BitVec.toNat_ofNat, Nat.mod_eq_of_lt (by omega)]
  have h2 : (lN n).toUInt64.toNat = n := wb_tn hn
  rw [UInt64.toNat_shiftRight, h1, h2, Nat.mod_eq_of_lt hk, Nat.shiftRight_eq_div_pow, BitVec.toNat_ofNat, Nat.mod_eq_of_lt (Nat.lt_of_le_of_lt (Nat.div_le_self _ _) hn)]
theorem wb_shl (n : Nat) {k : Nat} (hk : k < 64) : lN n <<< ((nI k).toInt64 &&& 63) = lN (n * 2 ^ k) := by
  rw [wb_c k hk]
  apply wb_inj
  rw [Int64.toBitVec_shiftLeft, wb_tb, wb_tb, wb_tb, wb_sm k hk]
  apply BitVec.eq_of_toNat_eq
  rw [BitVec.shiftLeft_eq', BitVec.toNat_shiftLeft, BitVec.toNat_ofNat, BitVec.toNat_ofNat, BitVec.toNat_ofNat, Nat.mod_eq_of_lt (show k < 2 ^ 64 by omega), Nat.shiftLeft_eq, Nat.mul_mod, Nat.mod_mod, ← Nat.mul_mod]
theorem wb_and {a b : Nat} (ha : a < 2 ^ 64) (hb : b < 2 ^ 64) : lN a &&& lN b = lN (a &&& b) := by
  apply wb_inj
  rw [Int64.toBitVec_and, wb_tb, wb_tb, wb_tb]
  apply BitVec.eq_of_toNat_eq
  rw [BitVec.toNat_and, BitVec.toNat_ofNat, BitVec.toNat_ofNat, BitVec.toNat_ofNat, Nat.mod_eq_of_lt ha, Nat.mod_eq_of_lt hb, Nat.mod_eq_of_lt (Nat.and_lt_two_pow _ hb)]
theorem wb_or {a b : Nat} (ha : a < 2 ^ 64) (hb : b < 2 ^ 64) : lN a ||| lN b = lN (a ||| b) := by
  apply wb_inj
  rw [Int64.toBitVec_or, wb_tb, wb_tb, wb_tb]
  apply BitVec.eq_of_toNat_eq
  rw [BitVec.toNat_or, BitVec.toNat_ofNat, BitVec.toNat_ofNat, BitVec.toNat_ofNat, Nat.mod_eq_of_lt ha, Nat.mod_eq_of_lt hb, Nat.mod_eq_of_lt (Nat.or_lt_two_pow ha hb)]
theorem wb_mask {n k : Nat} (hn : n < 2 ^ 64) (hk : k < 64) : lN n &&& lN (2 ^ k - 1) = lN (n % 2 ^ k) := by
  rw [wb_and hn (by have := wb_lt2 hk; omega), Nat.and_two_pow_sub_one_eq_mod]
theorem wb_a1 {n : Nat} (hn : n < 2 ^ 64) : lN n &&& 1 = lN (n % 2) := wb_mask (k := 1) hn (by decide)
theorem wb_bit {n k : Nat} (hn : n < 2 ^ 64) (hk : k < 64) : ((lN n).toUInt64 >>> ((nI k).toInt64.toUInt64 &&& Int64.toUInt64 63)).toInt64 &&& 1 = lN (n / 2 ^ k % 2) := by
  rw [wb_shr hn hk, wb_a1 (Nat.lt_of_le_of_lt (Nat.div_le_self _ _) hn)]
theorem wb_xor {q k : Nat} (hk : k < 63) (h : 2 ^ k ≤ q) (h2 : q < 2 ^ (k + 1)) : lN q ^^^ lN (2 ^ k) = lN (q - 2 ^ k) := by
  obtain ⟨r, rfl⟩ : ∃ r, q = 2 ^ k + r := ⟨q - 2 ^ k, by omega⟩
  have hr : r < 2 ^ k := by rw [Nat.pow_succ] at h2; omega
  have hx : (2 ^ k + r) ^^^ 2 ^ k = r := by
    apply Nat.eq_of_testBit_eq
    intro i
    rw [Nat.testBit_xor, Nat.testBit_two_pow]
    rcases Nat.lt_trichotomy i k with h | h | h
    · rw [Nat.testBit_two_pow_add_gt h]
      simp [show ¬ k = i by omega]
    · subst h
      rw [Nat.testBit_two_pow_add_eq]
      simp
    · have a1 : 2 ^ (k + 1) ≤ 2 ^ i := Nat.pow_le_pow_right (by decide) h
      rw [Nat.testBit_lt_two_pow (show 2 ^ k + r < 2 ^ i by omega), Nat.testBit_lt_two_pow (show r < 2 ^ i by omega)]
      simp [show ¬ k = i by omega]
  have b1 := wb_lt2 (show k + 1 < 64 by omega)
  have b2 := wb_lt2 (show k < 64 by omega)
  apply wb_inj
  rw [Int64.toBitVec_xor, wb_tb, wb_tb, wb_tb]
  apply BitVec.eq_of_toNat_eq
  rw [BitVec.toNat_xor, BitVec.toNat_ofNat, BitVec.toNat_ofNat, BitVec.toNat_ofNat, Nat.mod_eq_of_lt (by omega : 2 ^ k + r < 2 ^ 64), Nat.mod_eq_of_lt b2, hx, Nat.add_sub_cancel_left, Nat.mod_eq_of_lt (by omega)]
/-! ===== lN to 2^62 under >> and >>> ===== -/
theorem pf_lI {a : Nat} (h : a < 2 ^ 63) : (lN a).toInt = (a : Int) := lg_ofNat_toInt h
theorem pf_shr {a d : Nat} {D : Int64} (hD : (D.toBitVec.smod 64).toNat = d) (h : a < 2 ^ 62) : lN a >>> D = lN (a / 2 ^ d) := by
  have hd : a / 2 ^ d ≤ a := Nat.div_le_self _ _
  apply Int64.toInt_inj.mp
  have e : (lN a >>> D).toInt = (lN a).toInt >>> d := by
    rw [← hD]
    exact BitVec.toInt_sshiftRight ..
  rw [e, Int.shiftRight_eq_div_pow, pf_lI (by omega), pf_lI (by omega)]
  rfl
theorem pf_ushr {a d : Nat} {D : UInt64} (hD : D.toNat % 64 = d) (h : a < 2 ^ 62) : ((lN a).toUInt64 >>> D).toInt64 = lN (a / 2 ^ d) := by
  have hd : a / 2 ^ d ≤ a := Nat.div_le_self _ _
  have e : (lN a).toUInt64 >>> D = UInt64.ofNat (a / 2 ^ d) := UInt64.toNat_inj.mp (by
    rw [UInt64.toNat_shiftRight, hD, Nat.shiftRight_eq_div_pow, UInt64.toNat_ofNat']
    show (UInt64.ofNat a).toNat / 2 ^ d = _
    rw [UInt64.toNat_ofNat', Nat.mod_eq_of_lt (by omega), Nat.mod_eq_of_lt (by omega)])
  rw [e]
  rfl
theorem pf_andw (x : Int64) : ∃ m, m < 2 ^ 32 ∧ x &&& 4294967295 = lN m := ⟨x.toBitVec.toNat % 2 ^ 32, Nat.mod_lt _ (by decide), Int64.toBitVec_inj.mp (BitVec.eq_of_toNat_eq (by
  show (x.toBitVec &&& 4294967295#64).toNat = (BitVec.ofNat 64 (x.toBitVec.toNat % 2 ^ 32)).toNat
  rw [BitVec.toNat_and, show (4294967295#64).toNat = 2 ^ 32 - 1 from by decide, Nat.and_two_pow_sub_one_eq_mod, BitVec.toNat_ofNat]
  omega))⟩
section RowsB
variable {p : Program} {l : Launch} {e : Env} {R : Room} {s : State} {m : MethodId} {args : Array Value} {below : List Frame} {meth : Method} {c : Code} {H : Heap} {locs : List Loc} {cells slots : Nat} {Q : State → Prop}
variable {cc : ByteArray} {pc : Nat} {ls : Array Slot} {rest : List Value}
theorem lN_not {a : Nat} (ha : a < 2 ^ 64) : lN a ^^^ (-1) = lN (2 ^ 64 - (a + 1)) := by
  apply wb_inj
  rw [Int64.toBitVec_xor, wb_tb, wb_tb]
  rw [show (-1 : Int64).toBitVec = BitVec.allOnes 64 from by decide, BitVec.xor_allOnes]
  apply BitVec.eq_of_toNat_eq
  rw [BitVec.toNat_not, BitVec.toNat_ofNat, BitVec.toNat_ofNat, Nat.mod_eq_of_lt ha, Nat.mod_eq_of_lt (by omega)]
  omega
theorem lN_shr {x k : Nat} (hx : x < 2 ^ 62) (hk : k < 64) : lN x >>> ((nI k).toInt64 &&& 63) = lN (x / 2 ^ k) := by
  rw [wb_c k hk]
  refine pf_shr ?_ hx
  rw [wb_tb, wb_sm k hk, BitVec.toNat_ofNat]
  omega
theorem rn_land (hexec : p.tables.exec = Jvm.exec) (hb : c.code = cc) {x y : Nat} (hdg : decode cc pc = .ok (.land, 1)) (hx : x < 2 ^ 64) (hy : y < 2 ^ 64)
    (k : W p l e R s m args below meth c H locs cells slots Q (F0 m (pc + 1) ls (.long (lN (x &&& y)) :: rest))) : W p l e R s m args below meth c H locs cells slots Q (F0 m pc ls (.long (lN y) :: .long (lN x) :: rest)) := by
  refine lv_land hexec hb hdg ?_
  rw [wb_and hx hy]; exact k
theorem rn_lor (hexec : p.tables.exec = Jvm.exec) (hb : c.code = cc) {x y : Nat} (hdg : decode cc pc = .ok (.lor, 1)) (hx : x < 2 ^ 64) (hy : y < 2 ^ 64)
    (k : W p l e R s m args below meth c H locs cells slots Q (F0 m (pc + 1) ls (.long (lN (x ||| y)) :: rest))) : W p l e R s m args below meth c H locs cells slots Q (F0 m pc ls (.long (lN y) :: .long (lN x) :: rest)) := by
  refine lv_lor hexec hb hdg ?_
  rw [wb_or hx hy]; exact k
theorem rn_lnot (hexec : p.tables.exec = Jvm.exec) (hb : c.code = cc) {x : Nat} (hdg : decode cc pc = .ok (.lxor, 1)) (hx : x < 2 ^ 64)
    (k : W p l e R s m args below meth c H locs cells slots Q (F0 m (pc + 1) ls (.long (lN (2 ^ 64 - (x + 1))) :: rest))) : W p l e R s m args below meth c H locs cells slots Q (F0 m pc ls (.long (-1) :: .long (lN x) :: rest)) := by
  refine lv_lxor hexec hb hdg ?_
  rw [lN_not hx]; exact k
theorem rn_lushr (hexec : p.tables.exec = Jvm.exec) (hb : c.code = cc) {x n : Nat} (hdg : decode cc pc = .ok (.lushr, 1)) (hx : x < 2 ^ 64) (hn : n < 64)
    (k : W p l e R s m args below meth c H locs cells slots Q (F0 m (pc + 1) ls (.long (lN (x / 2 ^ n)) :: rest))) : W p l e R s m args below meth c H locs cells slots Q (F0 m pc ls (.int (nI n) :: .long (lN x) :: rest)) := lv_lushr hexec hb hdg (wb_shr hx hn) k
theorem rn_lshr (hexec : p.tables.exec = Jvm.exec) (hb : c.code = cc) {x n : Nat} (hdg : decode cc pc = .ok (.lshr, 1)) (hx : x < 2 ^ 62) (hn : n < 64)
    (k : W p l e R s m args below meth c H locs cells slots Q (F0 m (pc + 1) ls (.long (lN (x / 2 ^ n)) :: rest))) : W p l e R s m args below meth c H locs cells slots Q (F0 m pc ls (.int (nI n) :: .long (lN x) :: rest)) := lv_lshr hexec hb hdg (lN_shr hx hn) k
theorem rn_lshl1 (hexec : p.tables.exec = Jvm.exec) (hb : c.code = cc) {n : Nat} (hdg : decode cc pc = .ok (.lshl, 1)) (hn : n < 64)
    (k : W p l e R s m args below meth c H locs cells slots Q (F0 m (pc + 1) ls (.long (lN (2 ^ n)) :: rest))) : W p l e R s m args below meth c H locs cells slots Q (F0 m pc ls (.int (nI n) :: .long (lN 1) :: rest)) := lv_lshl hexec hb hdg (by rw [wb_shl 1 hn, Nat.one_mul]) k
theorem tb_div (b k : Nat) : (b / 2 ^ k) &&& 1 = (b.testBit k).toNat := by
  rw [Nat.testBit_eq_decide_div_mod_eq, Nat.and_one_is_mod]
  have : b / 2 ^ k % 2 < 2 := Nat.mod_lt _ (by decide)
  by_cases h : b / 2 ^ k % 2 = 1
  · simp [h]
  · have h0 : b / 2 ^ k % 2 = 0 := by omega
    simp [h0]
end RowsB
end
section
/-! ===== calls of methods that only read: the heap stays ===== -/
def EV (U : State) : Prop := ∀ w ∈ nwL, va_Nw w U
theorem EV.warm {s U : State} (hW : s.WarmedH U.vm) (h : EV s) : EV U := fun w hw => by
  obtain ⟨a, i, x, q, rfl⟩ := nwL_ok w hw
  exact va_Nw.warmM hW (h _ hw)
theorem EV.same {u U : State} (hv : u.vm = U.vm) (h : EV u) : EV U := fun w hw => by
  obtain ⟨a, i, x, q, rfl⟩ := nwL_ok w hw
  exact va_Nw.same rfl hv (h _ hw)
abbrev PcR (D : va_G) (ws : va_W) (tys : List (ClassId × FieldType)) (av : List Value) : Array Value → State → Prop := va_Pc av (fun U => va_P D vwCl ws U.heap ∧ va_K D vwCl tys U ∧ EV U)
abbrev PcW (D : va_G) (ws : va_W) (tys : List (ClassId × FieldType)) (sz : Nat) (av : List Value) : Array Value → State → Prop := va_Pc av (fun U => U.heap.size = sz ∧ va_P D vwCl ws U.heap ∧ va_K D vwCl tys U ∧ va_D (fun _ => True) ws ∧ EV U)
theorem fbR {D : va_G} {ws : va_W} {tys : List (ClassId × FieldType)} {av : List Value} : FrameBlind (PcR D ws tys av) := fun a U g mk q => by
  obtain ⟨q0, qP, qK, qE⟩ := q
  exact ⟨q0, qP, va_K.moved (u := U) (U := U.calling g mk a) (Vm.Alike.refl U.vm) qK, EV.same (u := U) (U := U.calling g mk a) rfl qE⟩
theorem fbW {D : va_G} {ws : va_W} {tys : List (ClassId × FieldType)} {sz : Nat} {av : List Value} : FrameBlind (PcW D ws tys sz av) := fun a U g mk q => by
  obtain ⟨q0, q1, qP, qK, qD, qE⟩ := q
  exact ⟨q0, q1, qP, va_K.moved (u := U) (U := U.calling g mk a) (Vm.Alike.refl U.vm) qK, qD, EV.same (u := U) (U := U.calling g mk a) rfl qE⟩
section CallsR
variable {p : Program} {l : Launch} {e : Env} {R : Room} {s : State} {m : MethodId} {args : Array Value} {below : List Frame} {meth : Method} {c : Code} {H : Heap} {locs : List Loc} {cells slots : Nat} {Q : State → Prop}
variable {cc bytes : ByteArray} {pc : Nat} {ls : Array Slot} {rest st0 As : List Value} {D : va_G} {tc : List (ClassId × FieldType)} {wc : va_W} {a b : Nat} {y : MethodName} {wsc Ts : List Cond} {rm : Room} {maxL nL n index : Nat} {ret : Option FieldType} {own C host : String}
theorem cr_of {mc ms : Nat} {g : JFrame} {Qa : State → Outcome → State → Prop} {free : Addr → Prop} (h : va_Run p l e R s m args below meth c H locs cells slots mc ms g rest Qa free) : CallRun p l e R s m args below meth c H locs cells slots mc ms g rest Qa free := by
  intro T hT X
  obtain ⟨v, st₀, t, T', L, h0, X', hL, e1, e2, hq, st⟩ := h T hT X
  exact ⟨v, st₀, t, T', L, h0, X', hL, e1, hq, st⟩
theorem preR (hP : va_P D vwCl wc H) (hK : va_K D vwCl tc s) (hE : EV s) : PreS s H (PcR D wc tc As) As := ⟨fbR, fun U hU hW => ⟨rfl, by rw [hU]; exact hP, va_K.moved hW.alike hK, EV.warm hW hE⟩⟩
theorem preRV (hP : va_P D vwCl wc H) (hK : va_K D vwCl tc s) (hE : EV s) (hrc : ∃ cell : Cell, H[b]? = some cell ∧ cell.vm.isStatics = false ∧ s.vm.findClass C = some cell.cls) : PreV s H C b (PcR D wc tc (.ref b :: As)) As := ⟨fbR, hrc, fun U hU hW => ⟨rfl, by rw [hU]; exact hP, va_K.moved hW.alike hK, EV.warm hW hE⟩⟩
theorem cpS_i {post : Int32 → Prop} (S : CallFix p m c cc nL s args Ts own) (hM : Met l y wsc rm (PcR D wc tc As) (vp_Si post) 0 0 (fun _ => False)) (cw : CallB R s args own index y bytes maxL ret wsc rm 0 0 n ∧ (Cond.static y).before args s = true)
    (hP : va_P D vwCl wc H) (hK : va_K D vwCl tc s) (hE : EV s) (hn : As.length = n) (hl : ls.size = nL) (hst : st0 = As.reverse ++ rest) (hW : (rest.map fun v => v.category).sum ≤ 8) (hdg : decode cc pc = .ok (.invokestatic index, 3)) (hf : cells ≤ R.cells ∧ slots ≤ R.slots)
    (kk : ∀ r : Int32, post r → W p l e R s m args below meth c H locs cells slots Q (F0 m (pc + 3) ls (.int r :: rest))) : W p l e R s m args below meth c H locs cells slots Q (F0 m pc ls st0) := by
  subst hst
  exact vp_callSi (cr_of (va_runS (g := F0 m pc ls (As.reverse ++ rest)) S hM cw (preR hP hK hE) rfl hn hl rfl (lv_room hW) hdg hf)) kk
theorem cpS_l {post : Int64 → Prop} (S : CallFix p m c cc nL s args Ts own) (hM : Met l y wsc rm (PcR D wc tc As) (vp_Sl post) 0 0 (fun _ => False)) (cw : CallB R s args own index y bytes maxL ret wsc rm 0 0 n ∧ (Cond.static y).before args s = true)
    (hP : va_P D vwCl wc H) (hK : va_K D vwCl tc s) (hE : EV s) (hn : As.length = n) (hl : ls.size = nL) (hst : st0 = As.reverse ++ rest) (hW : (rest.map fun v => v.category).sum ≤ 8) (hdg : decode cc pc = .ok (.invokestatic index, 3)) (hf : cells ≤ R.cells ∧ slots ≤ R.slots)
    (kk : ∀ r : Int64, post r → W p l e R s m args below meth c H locs cells slots Q (F0 m (pc + 3) ls (.long r :: rest))) : W p l e R s m args below meth c H locs cells slots Q (F0 m pc ls st0) := by
  subst hst
  exact vp_callSl (cr_of (va_runS (g := F0 m pc ls (As.reverse ++ rest)) S hM cw (preR hP hK hE) rfl hn hl rfl (lv_room hW) hdg hf)) kk
theorem cpN_i {post : Int32 → Prop} (S : CallFix p m c cc nL s args Ts own) (hM : Met l y wsc rm (PcR D wc tc As) (vp_Si post) 0 0 (fun _ => False)) (cw : va_CN R s args own index y host bytes maxL ret wsc rm 0 0 n ∧ (Cond.static y).before args s = true ∧ True)
    (hP : va_P D vwCl wc H) (hK : va_K D vwCl tc s) (hE : EV s) (hn : As.length = n) (hl : ls.size = nL) (hst : st0 = As.reverse ++ rest) (hW : (rest.map fun v => v.category).sum ≤ 8) (hdg : decode cc pc = .ok (.invokestatic index, 3)) (hf : cells ≤ R.cells ∧ slots ≤ R.slots)
    (kk : ∀ r : Int32, post r → W p l e R s m args below meth c H locs cells slots Q (F0 m (pc + 3) ls (.int r :: rest))) : W p l e R s m args below meth c H locs cells slots Q (F0 m pc ls st0) := by
  subst hst
  exact vp_callSi (cr_of (va_runSN (g := F0 m pc ls (As.reverse ++ rest)) S hM cw (preR hP hK hE) rfl hn hl rfl (lv_room hW) hdg hf)) kk
theorem cpN_l {post : Int64 → Prop} (S : CallFix p m c cc nL s args Ts own) (hM : Met l y wsc rm (PcR D wc tc As) (vp_Sl post) 0 0 (fun _ => False)) (cw : va_CN R s args own index y host bytes maxL ret wsc rm 0 0 n ∧ (Cond.static y).before args s = true ∧ True)
    (hP : va_P D vwCl wc H) (hK : va_K D vwCl tc s) (hE : EV s) (hn : As.length = n) (hl : ls.size = nL) (hst : st0 = As.reverse ++ rest) (hW : (rest.map fun v => v.category).sum ≤ 8) (hdg : decode cc pc = .ok (.invokestatic index, 3)) (hf : cells ≤ R.cells ∧ slots ≤ R.slots)
    (kk : ∀ r : Int64, post r → W p l e R s m args below meth c H locs cells slots Q (F0 m (pc + 3) ls (.long r :: rest))) : W p l e R s m args below meth c H locs cells slots Q (F0 m pc ls st0) := by
  subst hst
  exact vp_callSl (cr_of (va_runSN (g := F0 m pc ls (As.reverse ++ rest)) S hM cw (preR hP hK hE) rfl hn hl rfl (lv_room hW) hdg hf)) kk
theorem cpV_i {post : Int32 → Prop} (S : CallFix p m c cc nL s args Ts own) (hM : Met l y wsc rm (PcR D wc tc (.ref b :: As)) (vp_Si post) 0 0 (fun _ => False)) (cw : CallW R s args own C index y bytes maxL ret wsc rm 0 0 n)
    (hrc : ∃ cell : Cell, H[b]? = some cell ∧ cell.vm.isStatics = false ∧ s.vm.findClass C = some cell.cls) (hP : va_P D vwCl wc H) (hK : va_K D vwCl tc s) (hE : EV s) (hn : As.length = n) (hl : ls.size = nL) (hst : st0 = As.reverse ++ .ref b :: rest) (hW : (rest.map fun v => v.category).sum ≤ 8) (hdg : decode cc pc = .ok (.invokevirtual index, 3)) (hf : cells ≤ R.cells ∧ slots ≤ R.slots)
    (kk : ∀ r : Int32, post r → W p l e R s m args below meth c H locs cells slots Q (F0 m (pc + 3) ls (.int r :: rest))) : W p l e R s m args below meth c H locs cells slots Q (F0 m pc ls st0) := by
  subst hst
  exact vp_callSi (cr_of (va_runV (g := F0 m pc ls (As.reverse ++ .ref b :: rest)) S hM cw (preRV hP hK hE hrc) rfl hn hl rfl (lv_room hW) hdg hf)) kk
theorem cpV_l {post : Int64 → Prop} (S : CallFix p m c cc nL s args Ts own) (hM : Met l y wsc rm (PcR D wc tc (.ref b :: As)) (vp_Sl post) 0 0 (fun _ => False)) (cw : CallW R s args own C index y bytes maxL ret wsc rm 0 0 n)
    (hrc : ∃ cell : Cell, H[b]? = some cell ∧ cell.vm.isStatics = false ∧ s.vm.findClass C = some cell.cls) (hP : va_P D vwCl wc H) (hK : va_K D vwCl tc s) (hE : EV s) (hn : As.length = n) (hl : ls.size = nL) (hst : st0 = As.reverse ++ .ref b :: rest) (hW : (rest.map fun v => v.category).sum ≤ 8) (hdg : decode cc pc = .ok (.invokevirtual index, 3)) (hf : cells ≤ R.cells ∧ slots ≤ R.slots)
    (kk : ∀ r : Int64, post r → W p l e R s m args below meth c H locs cells slots Q (F0 m (pc + 3) ls (.long r :: rest))) : W p l e R s m args below meth c H locs cells slots Q (F0 m pc ls st0) := by
  subst hst
  exact vp_callSl (cr_of (va_runV (g := F0 m pc ls (As.reverse ++ .ref b :: rest)) S hM cw (preRV hP hK hE hrc) rfl hn hl rfl (lv_room hW) hdg hf)) kk
end CallsR
end
section
/-! ===== the number of bits of a word, as Long.bitCount computes it ===== -/
def pcn (x : Nat) : Nat → Nat
  | 0 => 0
  | k + 1 => pcn x k + (x.testBit k).toNat
theorem and_sp {w a c : Nat} (b d : Nat) (ha : a < 2 ^ w) (hc : c < 2 ^ w) : (a + 2 ^ w * b) &&& (c + 2 ^ w * d) = (a &&& c) + 2 ^ w * (b &&& d) := by
  have hac : a &&& c < 2 ^ w := Nat.lt_of_le_of_lt Nat.and_le_left ha
  rw [Nat.add_comm a, Nat.add_comm c, Nat.add_comm (a &&& c)]
  apply Nat.eq_of_testBit_eq
  intro i
  rw [Nat.testBit_and, Nat.testBit_two_pow_mul_add _ ha, Nat.testBit_two_pow_mul_add _ hc, Nat.testBit_two_pow_mul_add _ hac]
  by_cases h : i < w
  · simp [h]
  · simp [h]
/-- a mask of m bytes c -/
def bm (c : Nat) : Nat → Nat
  | 0 => 0
  | m + 1 => c + 256 * bm c m
/-- the bytes of x through f -/
def bv (f : Nat → Nat) (x : Nat) : Nat → Nat
  | 0 => 0
  | m + 1 => f (x % 256) + 256 * bv f (x / 256) m
def s1 (a : Nat) : Nat := a - ((a / 2) &&& 85)
def s2 (a : Nat) : Nat := (a &&& 51) + ((a / 4) &&& 51)
def s3 (a : Nat) : Nat := (a + a / 16) &&& 15
theorem d1 : ∀ a : Fin 256, ∀ r : Fin 2, ((a.val / 2 + 128 * r.val) &&& 85) = ((a.val / 2) &&& 85) ∧ ((a.val / 2) &&& 85) ≤ a.val ∧ s1 a.val ≤ 170 := by decide +kernel
theorem d2 : ∀ a : Fin 256, ∀ r : Fin 4, ((a.val / 4 + 64 * r.val) &&& 51) = ((a.val / 4) &&& 51) := by decide +kernel
theorem d2b : ∀ a : Fin 256, s2 (s1 a.val) ≤ 68 ∧ s2 (s1 a.val) % 16 ≤ 4 ∧ s1 a.val < 256 ∧ s3 (s2 (s1 a.val)) = pcn a.val 8 ∧ pcn a.val 8 ≤ 8 := by decide +kernel
theorem d3 : ∀ a : Fin 69, ∀ r : Fin 5, ((a.val + a.val / 16 + 16 * r.val) &&& 15) = ((a.val + a.val / 16) &&& 15) := by decide +kernel
theorem st1 : ∀ (m x : Nat), x < 256 ^ m → ((x / 2) &&& bm 85 m) ≤ x ∧ x - ((x / 2) &&& bm 85 m) = bv s1 x m := by
  intro m
  induction m with
  | zero =>
    intro x hx
    have : x = 0 := by simpa using hx
    subst this
    exact ⟨by simp [bm], by simp [bm, bv]⟩
  | succ m ih =>
    intro x hx
    obtain ⟨i1, i2⟩ := ih (x / 256) (by rw [Nat.pow_succ] at hx; omega)
    obtain ⟨e1, e2, -⟩ := d1 ⟨x % 256, by omega⟩ ⟨x / 256 % 2, by omega⟩
    dsimp only at e1 e2
    have hx2 : x / 2 = (x % 256 / 2 + 128 * (x / 256 % 2)) + 2 ^ 8 * (x / 256 / 2) := by omega
    have key : (x / 2) &&& bm 85 (m + 1) = ((x % 256 / 2) &&& 85) + 256 * ((x / 256 / 2) &&& bm 85 m) := by
      rw [hx2]
      show _ &&& (85 + 2 ^ 8 * bm 85 m) = _
      rw [and_sp _ _ (by omega) (by decide), e1]
    rw [key]
    refine ⟨by omega, ?_⟩
    show _ = s1 (x % 256) + 256 * bv s1 (x / 256) m
    rw [← i2]
    show _ = (x % 256 - ((x % 256 / 2) &&& 85)) + _
    omega
theorem st2 : ∀ (m y : Nat), y < 256 ^ m → (y &&& bm 51 m) + ((y / 4) &&& bm 51 m) = bv s2 y m := by
  intro m
  induction m with
  | zero =>
    intro y hy
    simp [bm, bv]
  | succ m ih =>
    intro y hy
    have i2 := ih (y / 256) (by rw [Nat.pow_succ] at hy; omega)
    have e1 := d2 ⟨y % 256, by omega⟩ ⟨y / 256 % 4, by omega⟩
    dsimp only at e1
    have h4 : y / 4 = (y % 256 / 4 + 64 * (y / 256 % 4)) + 2 ^ 8 * (y / 256 / 4) := by omega
    have h1 : y = y % 256 + 2 ^ 8 * (y / 256) := by omega
    have k1 : y &&& bm 51 (m + 1) = ((y % 256) &&& 51) + 256 * ((y / 256) &&& bm 51 m) := by
      rw [show y &&& bm 51 (m + 1) = (y % 256 + 2 ^ 8 * (y / 256)) &&& (51 + 2 ^ 8 * bm 51 m) by rw [← h1]; rfl]
      rw [and_sp _ _ (by omega) (by decide)]
    have k2 : (y / 4) &&& bm 51 (m + 1) = ((y % 256 / 4) &&& 51) + 256 * ((y / 256 / 4) &&& bm 51 m) := by
      rw [h4]
      show _ &&& (51 + 2 ^ 8 * bm 51 m) = _
      rw [and_sp _ _ (by omega) (by decide), e1]
    rw [k1, k2]
    show _ = s2 (y % 256) + 256 * bv s2 (y / 256) m
    rw [← i2]
    show _ = ((y % 256) &&& 51) + ((y % 256 / 4) &&& 51) + _
    omega
/-- all bytes of z are small, as the third step asks -/
def sm (z : Nat) : Prop := ∀ j, z / 256 ^ j % 256 ≤ 68 ∧ z / 256 ^ j % 16 ≤ 4
theorem sm_next {z : Nat} (h : sm z) : sm (z / 256) := fun j => by
  have := h (j + 1)
  rw [Nat.pow_succ, Nat.mul_comm, ← Nat.div_div_eq_div_mul] at this
  exact this
theorem st3 : ∀ (m z : Nat), z < 256 ^ m → sm z → (z + z / 16) &&& bm 15 m = bv s3 z m := by
  intro m
  induction m with
  | zero =>
    intro z hz _
    simp [bm, bv]
  | succ m ih =>
    intro z hz hs
    have i2 := ih (z / 256) (by rw [Nat.pow_succ] at hz; omega) (sm_next hs)
    have b0 := hs 0
    have b1 := hs 1
    simp only [Nat.pow_zero, Nat.div_one, Nat.pow_one] at b0 b1
    have e1 := d3 ⟨z % 256, by omega⟩ ⟨z / 256 % 16, by omega⟩
    dsimp only at e1
    have h16 : z + z / 16 = (z % 256 + z % 256 / 16 + 16 * (z / 256 % 16)) + 2 ^ 8 * (z / 256 + z / 256 / 16) := by omega
    rw [h16]
    show _ &&& (15 + 2 ^ 8 * bm 15 m) = _
    rw [and_sp _ _ (by omega) (by decide), e1, i2]
    rfl
theorem bv_lt {f : Nat → Nat} (hf : ∀ a, a < 256 → f a < 256) : ∀ (m x : Nat), bv f x m < 256 ^ m := by
  intro m
  induction m with
  | zero => intro x; simp [bv]
  | succ m ih =>
    intro x
    have h1 := ih (x / 256)
    have h2 := hf (x % 256) (by omega)
    show f (x % 256) + 256 * bv f (x / 256) m < 256 ^ (m + 1)
    rw [Nat.pow_succ]
    omega
theorem bv_bv {f g : Nat → Nat} (hf : ∀ a, a < 256 → f a < 256) : ∀ (m x : Nat), bv g (bv f x m) m = bv (fun a => g (f a)) x m := by
  intro m
  induction m with
  | zero => intro x; rfl
  | succ m ih =>
    intro x
    have h2 := hf (x % 256) (by omega)
    show g ((f (x % 256) + 256 * bv f (x / 256) m) % 256) + 256 * bv g ((f (x % 256) + 256 * bv f (x / 256) m) / 256) m = g (f (x % 256)) + 256 * bv (fun a => g (f a)) (x / 256) m
    rw [show (f (x % 256) + 256 * bv f (x / 256) m) % 256 = f (x % 256) by omega, show (f (x % 256) + 256 * bv f (x / 256) m) / 256 = bv f (x / 256) m by omega, ih]
theorem bv_congr {f g : Nat → Nat} (h : ∀ a, a < 256 → f a = g a) : ∀ (m x : Nat), bv f x m = bv g x m := by
  intro m
  induction m with
  | zero => intro x; rfl
  | succ m ih =>
    intro x
    show f (x % 256) + 256 * bv f (x / 256) m = g (x % 256) + 256 * bv g (x / 256) m
    rw [h _ (by omega), ih]
theorem bv_sm {f : Nat → Nat} (hf : ∀ a, a < 256 → f a ≤ 68 ∧ f a % 16 ≤ 4) : ∀ (m x : Nat), sm (bv f x m) := by
  intro m
  induction m with
  | zero => intro x j; simp [bv]
  | succ m ih =>
    intro x j
    have h2 := hf (x % 256) (by omega)
    cases j with
    | zero =>
      show (f (x % 256) + 256 * bv f (x / 256) m) / 256 ^ 0 % 256 ≤ 68 ∧ (f (x % 256) + 256 * bv f (x / 256) m) / 256 ^ 0 % 16 ≤ 4
      simp only [Nat.pow_zero, Nat.div_one]
      omega
    | succ j =>
      show (f (x % 256) + 256 * bv f (x / 256) m) / 256 ^ (j + 1) % 256 ≤ 68 ∧ (f (x % 256) + 256 * bv f (x / 256) m) / 256 ^ (j + 1) % 16 ≤ 4
      rw [Nat.pow_succ, Nat.mul_comm (256 ^ j), ← Nat.div_div_eq_div_mul, show (f (x % 256) + 256 * bv f (x / 256) m) / 256 = bv f (x / 256) m by omega]
      exact ih _ j
theorem pcn_mod (x : Nat) : ∀ k, k ≤ 8 → pcn (x % 256) k = pcn x k := by
  intro k
  induction k with
  | zero => intro _; rfl
  | succ k ih =>
    intro hk
    show pcn (x % 256) k + ((x % 256).testBit k).toNat = pcn x k + (x.testBit k).toNat
    rw [ih (by omega), show (256 : Nat) = 2 ^ 8 from rfl, Nat.testBit_mod_two_pow]
    simp [show k < 8 by omega]
theorem pcn_add (x : Nat) : ∀ k, pcn x (8 + k) = pcn (x % 256) 8 + pcn (x / 256) k := by
  intro k
  induction k with
  | zero => rw [pcn_mod x 8 (Nat.le_refl 8)]; rfl
  | succ k ih =>
    show pcn x (8 + k) + (x.testBit (8 + k)).toNat = pcn (x % 256) 8 + (pcn (x / 256) k + ((x / 256).testBit k).toNat)
    rw [ih, show (256 : Nat) = 2 ^ 8 from rfl, Nat.testBit_div_two_pow, Nat.add_comm k 8]
    omega
/-- Long.bitCount over the numbers -/
def bcN (x : Nat) : Nat :=
  let a := x - ((x / 2) &&& 6148914691236517205)
  let b := (a &&& 3689348814741910323) + ((a / 4) &&& 3689348814741910323)
  let d := (b + b / 16) &&& 1085102592571150095
  let f := d + d / 256
  let g := f + f / 65536
  let h := g + g / 4294967296
  h % 128
theorem s1_lt : ∀ a, a < 256 → s1 a < 256 := fun a h => (d2b ⟨a, h⟩).2.2.1
theorem s21_lt : ∀ a, a < 256 → s2 (s1 a) ≤ 68 ∧ s2 (s1 a) % 16 ≤ 4 := fun a h => ⟨(d2b ⟨a, h⟩).1, (d2b ⟨a, h⟩).2.1⟩
theorem bc_steps {x : Nat} (hx : x < 256 ^ 8) : x - ((x / 2) &&& 6148914691236517205) = bv s1 x 8 ∧ (bv s1 x 8 &&& 3689348814741910323) + ((bv s1 x 8 / 4) &&& 3689348814741910323) = bv (fun a => s2 (s1 a)) x 8 ∧ (bv (fun a => s2 (s1 a)) x 8 + bv (fun a => s2 (s1 a)) x 8 / 16) &&& 1085102592571150095 = bv (fun a => pcn a 8) x 8 := by
  refine ⟨(st1 8 x hx).2, ?_, ?_⟩
  · rw [← bv_bv s1_lt]
    exact st2 8 _ (bv_lt s1_lt 8 x)
  · have h1 := st3 8 (bv (fun a => s2 (s1 a)) x 8) (bv_lt (fun a h => by have := s21_lt a h; omega) 8 x) (bv_sm s21_lt 8 x)
    rw [bv_bv (f := fun a => s2 (s1 a)) (g := s3) (fun a h => by have := s21_lt a h; omega)] at h1
    rw [show bv (fun a => pcn a 8) x 8 = bv (fun a => s3 (s2 (s1 a))) x 8 from bv_congr (fun a h => ((d2b ⟨a, h⟩).2.2.2.1).symm) 8 x]
    exact h1
theorem p8_le (x : Nat) : pcn (x % 256) 8 ≤ 8 := (d2b ⟨x % 256, by omega⟩).2.2.2.2
theorem dg1 {a : Nat} (t : Nat) (h : a < 256) : (a + 256 * t) / 256 = t := by omega
theorem dg2 {a b : Nat} (t : Nat) (h : a < 256) (h2 : b < 256) : (a + 256 * (b + 256 * t)) / 65536 = t := by omega
theorem dg4 {a b c d : Nat} (t : Nat) (h : a < 256) (h2 : b < 256) (h3 : c < 256) (h4 : d < 256) : (a + 256 * (b + 256 * (c + 256 * (d + 256 * t)))) / 4294967296 = t := by omega
theorem dg7 {a : Nat} (t : Nat) (h : a < 128) : (a + 256 * t) % 128 = a := by omega
theorem bc_fin (c0 c1 c2 c3 c4 c5 c6 c7 : Nat) (l0 : c0 ≤ 8) (l1 : c1 ≤ 8) (l2 : c2 ≤ 8) (l3 : c3 ≤ 8) (l4 : c4 ≤ 8) (l5 : c5 ≤ 8) (l6 : c6 ≤ 8) (l7 : c7 ≤ 8) :
    (c0 + 256 * (c1 + 256 * (c2 + 256 * (c3 + 256 * (c4 + 256 * (c5 + 256 * (c6 + 256 * (c7 + 256 * 0))))))) + (c0 + 256 * (c1 + 256 * (c2 + 256 * (c3 + 256 * (c4 + 256 * (c5 + 256 * (c6 + 256 * (c7 + 256 * 0)))))))) / 256 +
      (c0 + 256 * (c1 + 256 * (c2 + 256 * (c3 + 256 * (c4 + 256 * (c5 + 256 * (c6 + 256 * (c7 + 256 * 0))))))) + (c0 + 256 * (c1 + 256 * (c2 + 256 * (c3 + 256 * (c4 + 256 * (c5 + 256 * (c6 + 256 * (c7 + 256 * 0)))))))) / 256) / 65536 +
      (c0 + 256 * (c1 + 256 * (c2 + 256 * (c3 + 256 * (c4 + 256 * (c5 + 256 * (c6 + 256 * (c7 + 256 * 0))))))) + (c0 + 256 * (c1 + 256 * (c2 + 256 * (c3 + 256 * (c4 + 256 * (c5 + 256 * (c6 + 256 * (c7 + 256 * 0)))))))) / 256 +
      (c0 + 256 * (c1 + 256 * (c2 + 256 * (c3 + 256 * (c4 + 256 * (c5 + 256 * (c6 + 256 * (c7 + 256 * 0))))))) + (c0 + 256 * (c1 + 256 * (c2 + 256 * (c3 + 256 * (c4 + 256 * (c5 + 256 * (c6 + 256 * (c7 + 256 * 0)))))))) / 256) / 65536) / 4294967296) % 128 = c0 + (c1 + (c2 + (c3 + (c4 + (c5 + (c6 + c7)))))) := by
  rw [dg1 _ (show c0 < 256 by omega)]
  rw [show c0 + 256 * (c1 + 256 * (c2 + 256 * (c3 + 256 * (c4 + 256 * (c5 + 256 * (c6 + 256 * (c7 + 256 * 0))))))) + (c1 + 256 * (c2 + 256 * (c3 + 256 * (c4 + 256 * (c5 + 256 * (c6 + 256 * (c7 + 256 * 0))))))) = (c0 + c1) + 256 * ((c1 + c2) + 256 * ((c2 + c3) + 256 * ((c3 + c4) + 256 * ((c4 + c5) + 256 * ((c5 + c6) + 256 * ((c6 + c7) + 256 * c7)))))) by omega]
  rw [dg2 _ (show c0 + c1 < 256 by omega) (show c1 + c2 < 256 by omega)]
  rw [show (c0 + c1) + 256 * ((c1 + c2) + 256 * ((c2 + c3) + 256 * ((c3 + c4) + 256 * ((c4 + c5) + 256 * ((c5 + c6) + 256 * ((c6 + c7) + 256 * c7)))))) + ((c2 + c3) + 256 * ((c3 + c4) + 256 * ((c4 + c5) + 256 * ((c5 + c6) + 256 * ((c6 + c7) + 256 * c7))))) = (c0 + c1 + c2 + c3) + 256 * ((c1 + c2 + c3 + c4) + 256 * ((c2 + c3 + c4 + c5) + 256 * ((c3 + c4 + c5 + c6) + 256 * ((c4 + c5 + c6 + c7) + 256 * ((c5 + c6 + c7) + 256 * ((c6 + c7) + 256 * c7)))))) by omega]
  rw [dg4 _ (show c0 + c1 + c2 + c3 < 256 by omega) (show c1 + c2 + c3 + c4 < 256 by omega) (show c2 + c3 + c4 + c5 < 256 by omega) (show c3 + c4 + c5 + c6 < 256 by omega)]
  rw [show (c0 + c1 + c2 + c3) + 256 * ((c1 + c2 + c3 + c4) + 256 * ((c2 + c3 + c4 + c5) + 256 * ((c3 + c4 + c5 + c6) + 256 * ((c4 + c5 + c6 + c7) + 256 * ((c5 + c6 + c7) + 256 * ((c6 + c7) + 256 * c7)))))) + ((c4 + c5 + c6 + c7) + 256 * ((c5 + c6 + c7) + 256 * ((c6 + c7) + 256 * c7))) = (c0 + (c1 + (c2 + (c3 + (c4 + (c5 + (c6 + c7))))))) + 256 * ((c1 + c2 + c3 + c4 + (c5 + c6 + c7)) + 256 * ((c2 + c3 + c4 + c5 + (c6 + c7)) + 256 * ((c3 + c4 + c5 + c6 + c7) + 256 * ((c4 + c5 + c6 + c7) + 256 * ((c5 + c6 + c7) + 256 * ((c6 + c7) + 256 * c7)))))) by omega]
  exact dg7 _ (by omega)
theorem bcN_eq {x : Nat} (hx : x < 2 ^ 64) : bcN x = pcn x 64 := by
  obtain ⟨h1, h2, h3⟩ := bc_steps (x := x) (by omega)
  unfold bcN
  dsimp only
  rw [h1, h2, h3]
  rw [show (64 : Nat) = 8 + (8 + (8 + (8 + (8 + (8 + (8 + 8)))))) from rfl]
  rw [pcn_add, pcn_add, pcn_add, pcn_add, pcn_add, pcn_add, pcn_add]
  have l0 := p8_le x
  have l1 := p8_le (x / 256)
  have l2 := p8_le (x / 256 / 256)
  have l3 := p8_le (x / 256 / 256 / 256)
  have l4 := p8_le (x / 256 / 256 / 256 / 256)
  have l5 := p8_le (x / 256 / 256 / 256 / 256 / 256)
  have l6 := p8_le (x / 256 / 256 / 256 / 256 / 256 / 256)
  have l7 := p8_le (x / 256 / 256 / 256 / 256 / 256 / 256 / 256)
  have e7 : pcn (x / 256 / 256 / 256 / 256 / 256 / 256 / 256) 8 = pcn (x / 256 / 256 / 256 / 256 / 256 / 256 / 256 % 256) 8 := by rw [pcn_mod _ 8 (Nat.le_refl 8)]
  rw [e7]
  simp only [bv]
  generalize pcn (x % 256) 8 = c0 at *
  generalize pcn (x / 256 % 256) 8 = c1 at *
  generalize pcn (x / 256 / 256 % 256) 8 = c2 at *
  generalize pcn (x / 256 / 256 / 256 % 256) 8 = c3 at *
  generalize pcn (x / 256 / 256 / 256 / 256 % 256) 8 = c4 at *
  generalize pcn (x / 256 / 256 / 256 / 256 / 256 % 256) 8 = c5 at *
  generalize pcn (x / 256 / 256 / 256 / 256 / 256 / 256 % 256) 8 = c6 at *
  generalize pcn (x / 256 / 256 / 256 / 256 / 256 / 256 / 256 % 256) 8 = c7 at *
  clear h1 h2 h3 e7
  exact bc_fin c0 c1 c2 c3 c4 c5 c6 c7 l0 l1 l2 l3 l4 l5 l6 l7
end
section
/-! ===== when a piece is left, if used from a moment on; the least moments ===== -/
def NVc : Nat := 1152921504606846976
def ewL (oh sec m : Nat) : Nat → Nat → Nat
  | 0, _ => NVc
  | c + 1, hr => if oh.testBit (hr % 24) = true then max m (hr * 3600) + sec else ewL oh sec m c (hr + 1)
def ew (oh sec m : Nat) : Nat := ewL oh sec m 24 (m / 3600)
theorem ewL_spec {oh sec m : Nat} : ∀ (c hr : Nat), m / 3600 ≤ hr → (∀ y, m ≤ y → y < hr * 3600 → oh.testBit (y / 3600 % 24) = false) → hr + c = m / 3600 + 24 → (∃ k, hr ≤ k ∧ k < hr + c ∧ oh.testBit (k % 24) = true) →
    ∃ x, ewL oh sec m c hr = x + sec ∧ m ≤ x ∧ x < m + 86400 ∧ oh.testBit (x / 3600 % 24) = true ∧ ∀ y, m ≤ y → y < x → oh.testBit (y / 3600 % 24) = false := by
  intro c
  induction c with
  | zero =>
    intro hr _ _ _ ⟨k, h1, h2, _⟩
    omega
  | succ c ih =>
    intro hr h1 h2 h3 ⟨k, k1, k2, k3⟩
    by_cases ho : oh.testBit (hr % 24) = true
    · refine ⟨max m (hr * 3600), by simp [ewL, ho], by omega, by omega, ?_, ?_⟩
      · have : max m (hr * 3600) / 3600 = hr := by omega
        rw [this]; exact ho
      · intro y y1 y2
        exact h2 y y1 (by omega)
    · have hne : k ≠ hr := fun q => ho (by rw [← q]; exact k3)
      have := ih (hr + 1) (by omega) (fun y y1 y2 => by
        by_cases hy : y < hr * 3600
        · exact h2 y y1 hy
        · have : y / 3600 = hr := by omega
          rw [this]
          simpa using ho) (by omega) ⟨k, by omega, by omega, k3⟩
      obtain ⟨x, x1, x2⟩ := this
      exact ⟨x, by simp [ewL, ho]; exact x1, x2⟩
theorem ew_spec {oh : Nat} (sec m : Nat) (h : ∃ k, k < 24 ∧ oh.testBit k = true) :
    ∃ x, ew oh sec m = x + sec ∧ m ≤ x ∧ x < m + 86400 ∧ oh.testBit (x / 3600 % 24) = true ∧ ∀ y, m ≤ y → y < x → oh.testBit (y / 3600 % 24) = false := by
  obtain ⟨k, k1, k2⟩ := h
  refine ewL_spec 24 (m / 3600) (Nat.le_refl _) (fun y y1 y2 => by omega) rfl ?_
  by_cases hk : m / 3600 % 24 ≤ k
  · exact ⟨m / 3600 - m / 3600 % 24 + k, by omega, by omega, by rw [show (m / 3600 - m / 3600 % 24 + k) % 24 = k by omega]; exact k2⟩
  · exact ⟨m / 3600 - m / 3600 % 24 + 24 + k, by omega, by omega, by rw [show (m / 3600 - m / 3600 % 24 + 24 + k) % 24 = k by omega]; exact k2⟩
theorem ew_gt {oh sec m : Nat} (h : ∃ k, k < 24 ∧ oh.testBit k = true) (hs : 1 ≤ sec) : m < ew oh sec m ∧ ew oh sec m < m + 86400 + sec := by
  obtain ⟨x, x1, x2, x3, -⟩ := ew_spec sec m h
  omega
theorem ew_mono {oh sec m m' : Nat} (h : ∃ k, k < 24 ∧ oh.testBit k = true) (hm : m ≤ m') : ew oh sec m ≤ ew oh sec m' := by
  obtain ⟨x, x1, x2, x3, x4, x5⟩ := ew_spec sec m h
  obtain ⟨y, y1, y2, y3, y4, y5⟩ := ew_spec sec m' h
  rw [x1, y1]
  by_cases hxy : x ≤ y
  · omega
  · have := x5 y (by omega) (by omega)
    rw [y4] at this
    exact absurd this (by decide)
/-- r tells of each of n pieces the least moment at which it is reached (N: never) -/
def isR (n N : Nat) (us : Nat → Bool) (st : Nat → Bool) (fo : Nat → Nat → Bool) (use : Nat → Nat → Nat) (t : Nat) (r : Nat → Nat) : Prop :=
  (∀ i, i < n → r i ≤ N) ∧ (∀ i, i < n → us i = false → r i = N) ∧ (∀ i, i < n → us i = true → st i = true → r i ≤ use i t) ∧
  (∀ i j, i < n → j < n → us i = true → r j < N → fo j i = true → r i ≤ use i (r j)) ∧
  (∀ i, i < n → r i < N → us i = true ∧ ((st i = true ∧ r i = use i t) ∨ ∃ j, j < n ∧ r j < N ∧ fo j i = true ∧ r i = use i (r j)))
theorem isR_le {n N : Nat} {us st : Nat → Bool} {fo : Nat → Nat → Bool} {use : Nat → Nat → Nat} {t : Nat} {r r' : Nat → Nat}
    (hgt : ∀ i m, i < n → us i = true → m < use i m) (hmo : ∀ i m m', i < n → us i = true → m ≤ m' → use i m ≤ use i m') (h : isR n N us st fo use t r) (h' : isR n N us st fo use t r') :
    ∀ v i, i < n → r i = v → r' i ≤ v := by
  intro v
  induction v using Nat.strongRecOn with
  | _ v ih =>
    intro i hi hv
    by_cases hN : v < N
    · obtain ⟨hu, hc⟩ := h.2.2.2.2 i hi (by omega)
      rcases hc with ⟨hs, he⟩ | ⟨j, hj, hjN, hf, he⟩
      · have := h'.2.2.1 i hi hu hs
        omega
      · have hlt : r j < use i (r j) := hgt i (r j) hi hu
        have hj' := ih (r j) (by omega) j hj rfl
        have h1 := h'.2.2.2.1 i j hi hj hu (by omega) hf
        have h2 := hmo i (r' j) (r j) hi hu hj'
        omega
    · have := h'.1 i hi
      omega
theorem isR_eq {n N : Nat} {us st : Nat → Bool} {fo : Nat → Nat → Bool} {use : Nat → Nat → Nat} {t : Nat} {r r' : Nat → Nat}
    (hgt : ∀ i m, i < n → us i = true → m < use i m) (hmo : ∀ i m m', i < n → us i = true → m ≤ m' → use i m ≤ use i m') (h : isR n N us st fo use t r) (h' : isR n N us st fo use t r') :
    ∀ i, i < n → r i = r' i := by
  intro i hi
  have h1 := isR_le hgt hmo h h' (r i) i hi rfl
  have h2 := isR_le hgt hmo h' h (r' i) i hi rfl
  omega
/-! bits of a mask set and taken -/
def sB (b k : Nat) (on : Bool) : Nat := if on = true then b ||| 2 ^ k else b &&& (2 ^ 64 - (2 ^ k + 1))
theorem sB_tb {b k : Nat} (on : Bool) (hb : b < 2 ^ 64) (hk : k < 64) (j : Nat) : (sB b k on).testBit j = if j = k then on else b.testBit j := by
  unfold sB
  cases on
  · simp only [Bool.false_eq_true, if_false, Nat.testBit_and]
    rw [Nat.testBit_two_pow_sub_succ (Nat.pow_lt_pow_right (by decide) hk), Nat.testBit_two_pow]
    by_cases h : j = k
    · subst h; simp
    · by_cases h64 : j < 64
      · simp [h, h64, Ne.symm h]
      · have : b.testBit j = false := Nat.testBit_lt_two_pow (Nat.lt_of_lt_of_le hb (Nat.pow_le_pow_right (by decide) (by omega)))
        simp [h, this]
  · simp only [if_true, Nat.testBit_or, Nat.testBit_two_pow]
    by_cases h : j = k
    · subst h; simp
    · simp [h, Ne.symm h]
theorem sB_lt {b k w : Nat} (on : Bool) (hb : b < 2 ^ w) (hk : k < w) : sB b k on < 2 ^ w := by
  unfold sB
  cases on
  · simp only [Bool.false_eq_true, if_false]
    exact Nat.lt_of_le_of_lt Nat.and_le_left hb
  · simp only [if_true]
    exact Nat.or_lt_two_pow hb (Nat.pow_lt_pow_right (by decide) hk)
theorem pcn_le (x : Nat) : ∀ k, pcn x k ≤ k := by
  intro k
  induction k with
  | zero => exact Nat.le_refl 0
  | succ k ih =>
    show pcn x k + (x.testBit k).toNat ≤ k + 1
    have := Bool.toNat_le (x.testBit k)
    omega
theorem pcn_0 {x : Nat} : ∀ k, pcn x k = 0 → ∀ j, j < k → x.testBit j = false := by
  intro k
  induction k with
  | zero => intro _ j hj; omega
  | succ k ih =>
    intro h j hj
    have h' : pcn x k + (x.testBit k).toNat = 0 := h
    by_cases hk : j = k
    · subst hk
      cases hb : x.testBit j
      · rfl
      · rw [hb] at h'; simp at h'
    · exact ih (by omega) j (by omega)
theorem pcn_congr {x y : Nat} : ∀ k, (∀ j, j < k → x.testBit j = y.testBit j) → pcn x k = pcn y k := by
  intro k
  induction k with
  | zero => intro _; rfl
  | succ k ih =>
    intro h
    show pcn x k + (x.testBit k).toNat = pcn y k + (y.testBit k).toNat
    rw [ih (fun j hj => h j (by omega)), h k (by omega)]
theorem pcn_sB {b x : Nat} (hb : b < 2 ^ 64) (hx : x < 64) (hbx : b.testBit x = true) : ∀ k, x < k → pcn (sB b x false) k + 1 = pcn b k := by
  intro k
  induction k with
  | zero => intro h; omega
  | succ k ih =>
    intro h
    show pcn (sB b x false) k + ((sB b x false).testBit k).toNat + 1 = pcn b k + (b.testBit k).toNat
    rw [sB_tb false hb hx]
    by_cases hk : k = x
    · subst hk
      rw [pcn_congr (y := b) k (fun j hj => by rw [sB_tb false hb hx]; simp [show j ≠ k by omega]), hbx]
      simp
    · have := ih (by omega)
      simp only [hk, if_false]
      omega
/-! the search -/
def erL (op : Nat) (R : Nat → Nat) : Nat → Option Nat × Nat
  | 0 => (none, NVc)
  | k + 1 => if op.testBit k = true ∧ R k < (erL op R k).2 then (some k, R k) else erL op R k
theorem erL_ok (op : Nat) (R : Nat → Nat) : ∀ k, (erL op R k).2 ≤ NVc ∧ (∀ j, j < k → op.testBit j = true → (erL op R k).2 ≤ R j) ∧ ((erL op R k).1 = none → (erL op R k).2 = NVc) ∧ ∀ i, (erL op R k).1 = some i → i < k ∧ op.testBit i = true ∧ R i = (erL op R k).2 ∧ R i < NVc := by
  intro k
  induction k with
  | zero => exact ⟨Nat.le_refl _, fun j hj => (by omega), fun _ => rfl, fun i h => (by cases h)⟩
  | succ k ih =>
    obtain ⟨h1, h2, h3, h4⟩ := ih
    by_cases h : op.testBit k = true ∧ R k < (erL op R k).2
    · have e : erL op R (k + 1) = (some k, R k) := by simp [erL, h]
      rw [e]
      refine ⟨by dsimp only; omega, fun j hj hb => ?_, fun q => (by cases q), fun i hi => ?_⟩
      · by_cases hjk : j = k
        · subst hjk; exact Nat.le_refl _
        · have := h2 j (by omega) hb
          dsimp only; omega
      · cases hi
        exact ⟨by omega, h.1, rfl, by omega⟩
    · have e : erL op R (k + 1) = erL op R k := by simp [erL, h]
      rw [e]
      refine ⟨h1, fun j hj hb => ?_, h3, fun i hi => ?_⟩
      · by_cases hjk : j = k
        · subst hjk
          have : ¬ R j < (erL op R j).2 := fun q => h ⟨hb, q⟩
          omega
        · exact h2 j (by omega) hb
      · obtain ⟨a1, a2⟩ := h4 i hi
        exact ⟨by omega, a2⟩
def gL (fo : Nat → Nat → Bool) (use : Nat → Nat → Nat) (x op : Nat) (R : Nat → Nat) : Nat → Nat → Nat
  | 0 => R
  | k + 1 => if op.testBit k = true ∧ fo x k = true then va_up (gL fo use x op R k) k (min (gL fo use x op R k k) (use k (gL fo use x op R k x))) else gL fo use x op R k
theorem gL_ok {fo : Nat → Nat → Bool} {use : Nat → Nat → Nat} {x op : Nat} {R : Nat → Nat} (hx : op.testBit x = false) : ∀ k i, gL fo use x op R k i = if i < k ∧ op.testBit i = true ∧ fo x i = true then min (R i) (use i (R x)) else R i := by
  intro k
  induction k with
  | zero => intro i; simp [gL]
  | succ k ih =>
    intro i
    have e0 : gL fo use x op R k x = R x := by rw [ih]; simp [hx]
    have ek : gL fo use x op R k k = R k := by rw [ih]; simp
    by_cases h : op.testBit k = true ∧ fo x k = true
    · have e : gL fo use x op R (k + 1) = va_up (gL fo use x op R k) k (min (R k) (use k (R x))) := by simp [gL, h, e0, ek]
      rw [e]
      by_cases hik : i = k
      · subst hik; simp [va_up, h]
      · have : va_up (gL fo use x op R k) k (min (R k) (use k (R x))) i = gL fo use x op R k i := by simp [va_up, hik]
        rw [this, ih]
        by_cases h2 : i < k
        · simp [h2, show i < k + 1 by omega]
        · simp [h2, show ¬ i < k + 1 by omega]
    · have e : gL fo use x op R (k + 1) = gL fo use x op R k := by simp [gL, h]
      rw [e, ih]
      by_cases hik : i = k
      · subst hik
        rw [if_neg (by omega), if_neg (fun q => h q.2)]
      · by_cases h2 : i < k
        · simp [h2, show i < k + 1 by omega]
        · simp [h2, show ¬ i < k + 1 by omega]
def sL (n : Nat) (fo : Nat → Nat → Bool) (use : Nat → Nat → Nat) : Nat → Nat → (Nat → Nat) → Nat → Nat
  | 0, _, R => R
  | c + 1, op, R => match (erL op R n).1 with
    | none => R
    | some x => sL n fo use c (sB op x false) (gL fo use x (sB op x false) R n)
def sInv (n : Nat) (us : Nat) (st : Nat → Bool) (fo : Nat → Nat → Bool) (use : Nat → Nat → Nat) (t op : Nat) (R : Nat → Nat) : Prop :=
  (∀ i, i < n → R i ≤ NVc) ∧ (∀ i, i < n → us.testBit i = false → R i = NVc) ∧ (∀ i, op.testBit i = true → us.testBit i = true) ∧ (∀ i, i < n → us.testBit i = true → st i = true → R i ≤ use i t) ∧
  (∀ i j, i < n → j < n → us.testBit i = true → us.testBit j = true → op.testBit j = false → fo j i = true → R j < NVc → R i ≤ use i (R j)) ∧
  (∀ i, i < n → R i < NVc → us.testBit i = true ∧ ((st i = true ∧ R i = use i t) ∨ ∃ j, j < n ∧ us.testBit j = true ∧ op.testBit j = false ∧ R j < NVc ∧ fo j i = true ∧ R i = use i (R j))) ∧
  (∀ i j, i < n → j < n → us.testBit i = true → op.testBit i = false → op.testBit j = true → R i ≤ R j)
theorem sInv_end {n us : Nat} {st : Nat → Bool} {fo : Nat → Nat → Bool} {use : Nat → Nat → Nat} {t op : Nat} {R : Nat → Nat} (h : sInv n us st fo use t op R) (ho : ∀ j, j < n → op.testBit j = true → NVc ≤ R j) :
    isR n NVc (fun i => us.testBit i) st fo use t R := by
  obtain ⟨h0, h1, h2, h3, h4, h5, h6⟩ := h
  have hset : ∀ j, j < n → R j < NVc → op.testBit j = false := fun j hj hr => by
    cases hb : op.testBit j
    · rfl
    · have := ho j hj hb; omega
  refine ⟨h0, h1, h3, fun i j hi hj hu hr hf => h4 i j hi hj hu (h5 j hj hr).1 (hset j hj hr) hf hr, fun i hi hr => ?_⟩
  obtain ⟨a, b⟩ := h5 i hi hr
  refine ⟨a, ?_⟩
  rcases b with b | ⟨j, j1, j2, j3, j4, j5, j6⟩
  · exact Or.inl b
  · exact Or.inr ⟨j, j1, j4, j5, j6⟩
theorem sL_ok {n us : Nat} {st : Nat → Bool} {fo : Nat → Nat → Bool} {use : Nat → Nat → Nat} {t : Nat} (hn : n ≤ 64) (hgt : ∀ i m, i < n → us.testBit i = true → m < use i m) :
    ∀ c op R, op < 2 ^ 64 → pcn op n ≤ c → sInv n us st fo use t op R → isR n NVc (fun i => us.testBit i) st fo use t (sL n fo use c op R) := by
  intro c
  induction c with
  | zero =>
    intro op R _ hc h
    exact sInv_end h (fun j hj hb => by rw [pcn_0 n (by omega) j hj] at hb; cases hb)
  | succ c ih =>
    intro op R hop hc h
    obtain ⟨e1, e2, e3, e4⟩ := erL_ok op R n
    cases he : (erL op R n).1 with
    | none =>
      have : sL n fo use (c + 1) op R = R := by simp [sL, he]
      rw [this]
      exact sInv_end h (fun j hj hb => by have := e2 j hj hb; rw [e3 he] at this; exact this)
    | some x =>
      have : sL n fo use (c + 1) op R = sL n fo use c (sB op x false) (gL fo use x (sB op x false) R n) := by simp [sL, he]
      rw [this]
      obtain ⟨x1, x2, x3, x4⟩ := e4 x he
      have hx64 : x < 64 := by omega
      have tb : ∀ j, (sB op x false).testBit j = if j = x then false else op.testBit j := sB_tb false hop hx64
      have hxo : (sB op x false).testBit x = false := by rw [tb]; simp
      have hg := gL_ok (fo := fo) (use := use) (R := R) hxo n
      have hmin : ∀ j, j < n → op.testBit j = true → R x ≤ R j := fun j hj hb => by rw [x3]; exact e2 j hj hb
      obtain ⟨h0, h1, h2, h3, h4, h5, h6⟩ := h
      have hux := h2 x x2
      have hle : ∀ i, gL fo use x (sB op x false) R n i ≤ R i := fun i => by
        rw [hg]; split
        · exact Nat.min_le_left _ _
        · exact Nat.le_refl _
      have hkeep : ∀ i, (sB op x false).testBit i = false → gL fo use x (sB op x false) R n i = R i := fun i hi => by rw [hg]; simp [hi]
      have hset : ∀ i, (sB op x false).testBit i = false → i = x ∨ op.testBit i = false := fun i hi => by
        rw [tb] at hi
        by_cases q : i = x
        · exact Or.inl q
        · simp [q] at hi; exact Or.inr hi
      have hopen : ∀ i, (sB op x false).testBit i = true → i ≠ x ∧ op.testBit i = true := fun i hi => by
        rw [tb] at hi
        by_cases q : i = x
        · simp [q] at hi
        · simp [q] at hi; exact ⟨q, hi⟩
      have hrx : ∀ i, i < n → us.testBit i = true → (sB op x false).testBit i = false → R i ≤ R x := fun i hi hu hs => by
        rcases hset i hs with q | q
        · subst q; exact Nat.le_refl _
        · exact h6 i x hi x1 hu q x2
      refine ih _ _ (sB_lt false hop hx64) (by have := pcn_sB hop hx64 x2 n x1; omega) ⟨fun i hi => Nat.le_trans (hle i) (h0 i hi), fun i hi hu => ?_, fun i hi => h2 i (hopen i hi).2, fun i hi hu hs => Nat.le_trans (hle i) (h3 i hi hu hs), ?_, ?_, ?_⟩
      · rw [hkeep i]
        · exact h1 i hi hu
        · cases hb : (sB op x false).testBit i
          · rfl
          · rw [h2 i (hopen i hb).2] at hu; cases hu
      · intro i j hi hj hui huj hsj hf hr
        rw [hkeep j hsj] at hr ⊢
        rcases hset j hsj with q | q
        · subst q
          by_cases hoi : (sB op j false).testBit i = true
          · rw [hg]
            rw [if_pos ⟨hi, hoi, hf⟩]
            exact Nat.min_le_right _ _
          · have hoi' : (sB op j false).testBit i = false := by simpa using hoi
            rw [hkeep i hoi']
            have := hrx i hi hui hoi'
            have := hgt i (R j) hi hui
            omega
        · exact Nat.le_trans (hle i) (h4 i j hi hj hui huj q hf hr)
      · intro i hi hr
        by_cases hri : gL fo use x (sB op x false) R n i = R i
        · rw [hri] at hr ⊢
          obtain ⟨a, b⟩ := h5 i hi hr
          refine ⟨a, ?_⟩
          rcases b with b | ⟨j, j1, j2, j3, j4, j5, j6⟩
          · exact Or.inl b
          · have hsj : (sB op x false).testBit j = false := by rw [tb]; split <;> simp_all
            refine Or.inr ⟨j, j1, j2, hsj, ?_, j5, ?_⟩
            · rw [hkeep j hsj]; exact j4
            · rw [hkeep j hsj]; exact j6
        · have hc : i < n ∧ (sB op x false).testBit i = true ∧ fo x i = true := by
            by_cases q : i < n ∧ (sB op x false).testBit i = true ∧ fo x i = true
            · exact q
            · exact absurd (by rw [hg, if_neg q]) hri
          have hv : gL fo use x (sB op x false) R n i = min (R i) (use i (R x)) := by rw [hg, if_pos hc]
          rw [hv] at hri ⊢
          refine ⟨h2 i (hopen i hc.2.1).2, Or.inr ⟨x, x1, hux, hxo, ?_, hc.2.2, ?_⟩⟩
          · rw [hkeep x hxo]; exact x4
          · rw [hkeep x hxo]; omega
      · intro i j hi hj hui hsi hoj
        rw [hkeep i hsi]
        have a1 := hrx i hi hui hsi
        have a2 := hmin j hj (hopen j hoj).2
        have a3 := hgt j (R x) hj (h2 j (hopen j hoj).2)
        rw [hg]
        split
        · omega
        · omega
def iL (us : Nat) (st : Nat → Bool) (use : Nat → Nat → Nat) (t : Nat) (R0 : Nat → Nat) : Nat → Nat → Nat
  | 0 => R0
  | k + 1 => va_up (iL us st use t R0 k) k (if us.testBit k = true ∧ st k = true then use k t else NVc)
theorem iL_ok (us : Nat) (st : Nat → Bool) (use : Nat → Nat → Nat) (t : Nat) (R0 : Nat → Nat) : ∀ k i, iL us st use t R0 k i = if i < k then (if us.testBit i = true ∧ st i = true then use i t else NVc) else R0 i := by
  intro k
  induction k with
  | zero => intro i; simp [iL]
  | succ k ih =>
    intro i
    by_cases h : i = k
    · subst h; simp [iL, va_up]
    · have : iL us st use t R0 (k + 1) i = iL us st use t R0 k i := by simp [iL, va_up, h]
      rw [this, ih]
      by_cases h2 : i < k
      · simp [h2, show i < k + 1 by omega]
      · simp [h2, show ¬ i < k + 1 by omega]
/-- the class's search: what stands in 'reached' behind it -/
def srch (n us : Nat) (st : Nat → Bool) (fo : Nat → Nat → Bool) (use : Nat → Nat → Nat) (t : Nat) (R0 : Nat → Nat) : Nat → Nat := sL n fo use n us (iL us st use t R0 n)
theorem srch_ok {n us : Nat} {st : Nat → Bool} {fo : Nat → Nat → Bool} {use : Nat → Nat → Nat} {t : Nat} {R0 : Nat → Nat} (hn : n ≤ 64) (hus : us < 2 ^ 64) (hgt : ∀ i m, i < n → us.testBit i = true → m < use i m) (hT : ∀ i, i < n → us.testBit i = true → use i t ≤ NVc) :
    isR n NVc (fun i => us.testBit i) st fo use t (srch n us st fo use t R0) := by
  have hi := iL_ok us st use t R0 n
  refine sL_ok hn hgt n us _ hus (pcn_le us n) ⟨fun i h => ?_, fun i h hu => ?_, fun i h => h, fun i h hu hs => ?_, fun i j _ _ _ h1 h2 => ?_, fun i h hr => ?_, fun i j _ _ h1 h2 => ?_⟩
  · rw [hi]; simp only [h, if_true]
    split
    · rename_i q; exact hT i h q.1
    · exact Nat.le_refl _
  · rw [hi]; simp [h, hu]
  · rw [hi]; simp [h, hu, hs]
  · rw [h1] at h2; cases h2
  · rw [hi] at hr ⊢
    simp only [h, if_true] at hr ⊢
    by_cases q : us.testBit i = true ∧ st i = true
    · rw [if_pos q]; exact ⟨q.1, Or.inl ⟨q.2, rfl⟩⟩
    · rw [if_neg q] at hr; omega
  · rw [h1] at h2; cases h2
theorem gL_hi {fo : Nat → Nat → Bool} {use : Nat → Nat → Nat} {x op : Nat} {R : Nat → Nat} : ∀ k j, k ≤ j → gL fo use x op R k j = R j := by
  intro k
  induction k with
  | zero => intro j _; rfl
  | succ k ih =>
    intro j hj
    unfold gL
    split
    · simp [va_up, show j ≠ k by omega, ih j (by omega)]
    · exact ih j (by omega)
end
section
section RowsB
variable {p : Program} {l : Launch} {e : Env} {R : Room} {s : State} {m : MethodId} {args : Array Value} {below : List Frame} {meth : Method} {c : Code} {H : Heap} {locs : List Loc} {cells slots : Nat} {Q : State → Prop}
variable {cc : ByteArray} {pc : Nat} {ls : Array Slot} {rest : List Value}
theorem nI_m {k : Nat} (n : Nat) {q : Nat} (hk : k ≤ 31) (hq : (nI q).toBitVec.toNat = 2 ^ k - 1) : nI n &&& nI q = nI (n % 2 ^ k) := by
  rw [pk_and (nI n) k hq]
  have h : (nI n).toBitVec.toNat = n % 2 ^ 32 := by show (BitVec.ofNat 32 n).toNat = _; rw [BitVec.toNat_ofNat]
  rw [h]
  have hd : 2 ^ k ∣ 2 ^ 32 := Nat.pow_dvd_pow 2 (by omega)
  rw [Nat.mod_mod_of_dvd n hd]
theorem rn_iand127 (hexec : p.tables.exec = Jvm.exec) (hb : c.code = cc) {x : Nat} (hdg : decode cc pc = .ok (.iand, 1))
    (k : W p l e R s m args below meth c H locs cells slots Q (F0 m (pc + 1) ls (.int (nI (x % 128)) :: rest))) : W p l e R s m args below meth c H locs cells slots Q (F0 m pc ls (.int (nI 127) :: .int (nI x) :: rest)) := by
  refine lv_iand hexec hb hdg ?_
  rw [nI_m (k := 7) x (by decide) (by decide)]; exact k
theorem rn_iand15 (hexec : p.tables.exec = Jvm.exec) (hb : c.code = cc) {x : Nat} (hdg : decode cc pc = .ok (.iand, 1))
    (k : W p l e R s m args below meth c H locs cells slots Q (F0 m (pc + 1) ls (.int (nI (x % 16)) :: rest))) : W p l e R s m args below meth c H locs cells slots Q (F0 m pc ls (.int (nI 15) :: .int (nI x) :: rest)) := by
  refine lv_iand hexec hb hdg ?_
  rw [nI_m (k := 4) x (by decide) (by decide)]; exact k
theorem rn_iand1 (hexec : p.tables.exec = Jvm.exec) (hb : c.code = cc) {x : Nat} (hdg : decode cc pc = .ok (.iand, 1))
    (k : W p l e R s m args below meth c H locs cells slots Q (F0 m (pc + 1) ls (.int (nI (x % 2)) :: rest))) : W p l e R s m args below meth c H locs cells slots Q (F0 m pc ls (.int (nI 1) :: .int (nI x) :: rest)) := by
  refine lv_iand hexec hb hdg ?_
  rw [nI_m (k := 1) x (by decide) (by decide)]; exact k
end RowsB
end
section
/-! ===== worlds of the class ===== -/
def oI (o : Option Nat) : Int32 := match o with
  | none => -1
  | some i => nI i
abbrev tyE (cI cJ cZ : ClassId) : List (ClassId × FieldType) := [(cI, .int), (cJ, .long), (cZ, .boolean)]
abbrev wP (cI cJ cZ : ClassId) (q : Nat → Nat) (bg en sc wd ht oh bt : Nat → Nat) (co n : Nat) : va_W :=
  [(q 0, .inr (1, [.ref (q 1), .ref (q 2), .ref (q 3), .ref (q 4), .ref (q 5), .ref (q 6), .ref (q 7), .long (lN co), .int (nI n)])), (q 1, .inl (cI, 40, .inl (fun j => nI (bg j)))), (q 2, .inl (cI, 40, .inl (fun j => nI (en j)))), (q 3, .inl (cJ, 40, .inr (.inl (fun j => lN (sc j))))), (q 4, .inl (cI, 40, .inl (fun j => nI (wd j)))), (q 5, .inl (cJ, 40, .inr (.inl (fun j => lN (ht j))))), (q 6, .inl (cJ, 40, .inr (.inl (fun j => lN (oh j))))), (q 7, .inl (cJ, 40, .inr (.inl (fun j => lN (bt j)))))]
/-- the bounds of what the pieces' cells hold -/
def bP (bg en sc wd ht oh bt : Nat → Nat) (co n : Nat) : Prop := n ≤ 40 ∧ co < 1099511627776 ∧ ∀ i, bg i < 20 ∧ en i < 20 ∧ sc i ≤ 10000000 ∧ wd i ≤ 10000 ∧ ht i ≤ 10000 ∧ oh i < 16777216 ∧ bt i < 1099511627776
theorem gi {A : Cond} {y : MethodName} {b : ByteArray} {n : Nat} {r : Option FieldType} (h : Cond.code y b n r ∈ gw) : GoodIn (A :: gw) (Cond.code y b n r :: gw) := fun w hw => by
  rcases List.mem_cons.mp hw with rfl | h2
  · exact ⟨List.mem_cons_of_mem _ h, gw_g h⟩
  · exact ⟨List.mem_cons_of_mem _ h2, gw_g h2⟩
theorem gv {A : Cond} {own C : String} {idx : Nat} {y : MethodName} {b : ByteArray} {n : Nat} {r : Option FieldType} (h1 : Cond.methodLink own idx y ∈ gw) (h2 : Cond.instanceMethod y ∈ gw) (h3 : Cond.selects C y y ∈ gw) (h4 : Cond.initialized C ∈ gw) (h : Cond.code y b n r ∈ gw) : GoodIn (A :: gw) (wsV own idx C y (Cond.code y b n r :: gw)) := fun w hw => by
  have hm : w ∈ gw := by
    simp only [wsV, List.cons_append, List.nil_append, List.mem_cons] at hw
    rcases hw with rfl | rfl | rfl | rfl | rfl | hw
    · exact h1
    · exact h2
    · exact h3
    · exact h4
    · exact h
    · exact hw
  exact ⟨List.mem_cons_of_mem _ hm, gw_g hm⟩
theorem gs {A : Cond} {own : String} {idx : Nat} {y : MethodName} {b : ByteArray} {n : Nat} {r : Option FieldType} (h1 : Cond.methodLink own idx y ∈ gw) (h2 : Cond.static y ∈ gw) (h4 : Cond.initialized y.cls ∈ gw) (h : Cond.code y b n r ∈ gw) : GoodIn (A :: gw) (va_wsS own idx y (Cond.code y b n r :: gw)) := fun w hw => by
  have hm : w ∈ gw := by
    simp only [va_wsS, List.cons_append, List.nil_append, List.mem_cons] at hw
    rcases hw with rfl | rfl | rfl | rfl | hw
    · exact h1
    · exact h2
    · exact h4
    · exact h
    · exact hw
  exact ⟨List.mem_cons_of_mem _ hm, gw_g hm⟩
end
section
set_option maxHeartbeats 4000000 in
set_option maxRecDepth 100000 in
theorem ct_JM_max_J (l : Launch) (dC : Nat → ClassId) (dI : Nat → Nat → Nat) (cI cJ cZ : ClassId) (x y : Nat) (h1 : x < 9223372036854775808) (h2 : y < 9223372036854775808) : Met l yJM_max_J wsJM_max_J ({ frames := 0, cells := 0, slots := 0, locals := 0 }) (PcR (dC, dI) [] (tyE cI cJ cZ) [.long (lN x), .long (lN y)]) (vp_Sl (fun r => r = lN (max x y))) 0 0 (fun _ => False) := by
  refine va_MetF (cc := cJM_max_J) (maxL := 4) (ret := (some .long)) (by decide +kernel) rfl ?_
  intro p e s m args below meth c s₁ B hml hv
  obtain ⟨rfl, hP, hK, hE⟩ := hv
  have hx := B.exec
  have hb := B.bytes
  have hr := B.returns
  have hts := atoms_spec (ws := wsJM_max_J) B.pre
  have hg : ∀ w ∈ gw, w.before _ s = true := fun w h => hts w (List.mem_cons_of_mem _ h)
  have hown : s.vm.findClass nJM = some m.cls := findClass_of_methodNamed B.named
  have hlocks := B.notSynchronized
  have hR : 0 ≤ (headSpec wsJM_max_J ({ frames := 0, cells := 0, slots := 0, locals := 0 })).room.frames ∧ 0 ≤ (headSpec wsJM_max_J ({ frames := 0, cells := 0, slots := 0, locals := 0 })).room.locals := ⟨Nat.le_refl _, Nat.le_refl _⟩
  have hcs : 0 ≤ (headSpec wsJM_max_J ({ frames := 0, cells := 0, slots := 0, locals := 0 })).room.cells ∧ 0 ≤ (headSpec wsJM_max_J ({ frames := 0, cells := 0, slots := 0, locals := 0 })).room.slots := ⟨Nat.zero_le _, Nat.zero_le _⟩
  have hl := lv_entry ([.long (lN x), .long (lN y)]) (n := 4) (Nat.le_of_ble_eq_true rfl)
  rw [lg_entry_eq]
  generalize (lg_sl ([.long (lN x), .long (lN y)]) ++ List.replicate (4 - (lg_sl ([.long (lN x), .long (lN y)])).length) Slot.unset).toArray = ls at hl ⊢
  have hl : lv_has ls 4 [(0, .long (lN x)), (2, .long (lN y))] := hl
  refine lv_lload_n hx hb dJM_max_J_0 rfl (lv_at hl 0 rfl) ?_
  refine lv_lload_n hx hb dJM_max_J_1 rfl (lv_at hl 1 rfl) ?_
  refine rn_lcmp_lt (tgt := 10) hx hb dJM_max_J_2 dJM_max_J_3 (by decide) (by omega) (by omega) (fun c3 => ?_) (fun c3 => ?_)
  · refine lv_lload_n hx hb dJM_max_J_10 rfl (lv_at hl 1 rfl) ?_
    exact W.lret hx hb hr (fun t ht hW => ⟨_, rfl, (congrArg lN (by omega)), ht⟩) (fun _ h9 => nomatch h9) dJM_max_J_11
  · refine lv_lload_n hx hb dJM_max_J_6 rfl (lv_at hl 0 rfl) ?_
    refine lv_goto (tgt := 11) hx hb dJM_max_J_7 (by decide) ?_
    exact W.lret hx hb hr (fun t ht hW => ⟨_, rfl, (congrArg lN (by omega)), ht⟩) (fun _ h9 => nomatch h9) dJM_max_J_11

set_option maxHeartbeats 4000000 in
set_option maxRecDepth 100000 in
theorem ct_JM_min_J (l : Launch) (dC : Nat → ClassId) (dI : Nat → Nat → Nat) (cI cJ cZ : ClassId) (x y : Nat) (h1 : x < 9223372036854775808) (h2 : y < 9223372036854775808) : Met l yJM_min_J wsJM_min_J ({ frames := 0, cells := 0, slots := 0, locals := 0 }) (PcR (dC, dI) [] (tyE cI cJ cZ) [.long (lN x), .long (lN y)]) (vp_Sl (fun r => r = lN (min x y))) 0 0 (fun _ => False) := by
  refine va_MetF (cc := cJM_min_J) (maxL := 4) (ret := (some .long)) (by decide +kernel) rfl ?_
  intro p e s m args below meth c s₁ B hml hv
  obtain ⟨rfl, hP, hK, hE⟩ := hv
  have hx := B.exec
  have hb := B.bytes
  have hr := B.returns
  have hts := atoms_spec (ws := wsJM_min_J) B.pre
  have hg : ∀ w ∈ gw, w.before _ s = true := fun w h => hts w (List.mem_cons_of_mem _ h)
  have hown : s.vm.findClass nJM = some m.cls := findClass_of_methodNamed B.named
  have hlocks := B.notSynchronized
  have hR : 0 ≤ (headSpec wsJM_min_J ({ frames := 0, cells := 0, slots := 0, locals := 0 })).room.frames ∧ 0 ≤ (headSpec wsJM_min_J ({ frames := 0, cells := 0, slots := 0, locals := 0 })).room.locals := ⟨Nat.le_refl _, Nat.le_refl _⟩
  have hcs : 0 ≤ (headSpec wsJM_min_J ({ frames := 0, cells := 0, slots := 0, locals := 0 })).room.cells ∧ 0 ≤ (headSpec wsJM_min_J ({ frames := 0, cells := 0, slots := 0, locals := 0 })).room.slots := ⟨Nat.zero_le _, Nat.zero_le _⟩
  have hl := lv_entry ([.long (lN x), .long (lN y)]) (n := 4) (Nat.le_of_ble_eq_true rfl)
  rw [lg_entry_eq]
  generalize (lg_sl ([.long (lN x), .long (lN y)]) ++ List.replicate (4 - (lg_sl ([.long (lN x), .long (lN y)])).length) Slot.unset).toArray = ls at hl ⊢
  have hl : lv_has ls 4 [(0, .long (lN x)), (2, .long (lN y))] := hl
  refine lv_lload_n hx hb dJM_min_J_0 rfl (lv_at hl 0 rfl) ?_
  refine lv_lload_n hx hb dJM_min_J_1 rfl (lv_at hl 1 rfl) ?_
  refine rn_lcmp_gt (tgt := 10) hx hb dJM_min_J_2 dJM_min_J_3 (by decide) (by omega) (by omega) (fun c3 => ?_) (fun c3 => ?_)
  · refine lv_lload_n hx hb dJM_min_J_10 rfl (lv_at hl 1 rfl) ?_
    exact W.lret hx hb hr (fun t ht hW => ⟨_, rfl, (congrArg lN (by omega)), ht⟩) (fun _ h9 => nomatch h9) dJM_min_J_11
  · refine lv_lload_n hx hb dJM_min_J_6 rfl (lv_at hl 0 rfl) ?_
    refine lv_goto (tgt := 11) hx hb dJM_min_J_7 (by decide) ?_
    exact W.lret hx hb hr (fun t ht hW => ⟨_, rfl, (congrArg lN (by omega)), ht⟩) (fun _ h9 => nomatch h9) dJM_min_J_11

set_option maxHeartbeats 4000000 in
set_option maxRecDepth 100000 in
theorem ct_JM_min_I (l : Launch) (dC : Nat → ClassId) (dI : Nat → Nat → Nat) (cI cJ cZ : ClassId) (x y : Nat) (h1 : x < 2147483648) (h2 : y < 2147483648) : Met l yJM_min_I wsJM_min_I ({ frames := 0, cells := 0, slots := 0, locals := 0 }) (PcR (dC, dI) [] (tyE cI cJ cZ) [.int (nI x), .int (nI y)]) (vp_Si (fun r => r = nI (min x y))) 0 0 (fun _ => False) := by
  refine va_MetF (cc := cJM_min_I) (maxL := 2) (ret := (some .int)) (by decide +kernel) rfl ?_
  intro p e s m args below meth c s₁ B hml hv
  obtain ⟨rfl, hP, hK, hE⟩ := hv
  have hx := B.exec
  have hb := B.bytes
  have hr := B.returns
  have hts := atoms_spec (ws := wsJM_min_I) B.pre
  have hg : ∀ w ∈ gw, w.before _ s = true := fun w h => hts w (List.mem_cons_of_mem _ h)
  have hown : s.vm.findClass nJM = some m.cls := findClass_of_methodNamed B.named
  have hlocks := B.notSynchronized
  have hR : 0 ≤ (headSpec wsJM_min_I ({ frames := 0, cells := 0, slots := 0, locals := 0 })).room.frames ∧ 0 ≤ (headSpec wsJM_min_I ({ frames := 0, cells := 0, slots := 0, locals := 0 })).room.locals := ⟨Nat.le_refl _, Nat.le_refl _⟩
  have hcs : 0 ≤ (headSpec wsJM_min_I ({ frames := 0, cells := 0, slots := 0, locals := 0 })).room.cells ∧ 0 ≤ (headSpec wsJM_min_I ({ frames := 0, cells := 0, slots := 0, locals := 0 })).room.slots := ⟨Nat.zero_le _, Nat.zero_le _⟩
  have hl := lv_entry ([.int (nI x), .int (nI y)]) (n := 2) (Nat.le_of_ble_eq_true rfl)
  rw [lg_entry_eq]
  generalize (lg_sl ([.int (nI x), .int (nI y)]) ++ List.replicate (2 - (lg_sl ([.int (nI x), .int (nI y)])).length) Slot.unset).toArray = ls at hl ⊢
  have hl : lv_has ls 2 [(0, .int (nI x)), (1, .int (nI y))] := hl
  refine lv_iload_n hx hb dJM_min_I_0 rfl (lv_at hl 0 rfl) ?_
  refine lv_iload_n hx hb dJM_min_I_1 rfl (lv_at hl 1 rfl) ?_
  refine rn_icmp_gt (tgt := 9) hx hb dJM_min_I_2 (by decide) (by omega) (by omega) (fun c2 => ?_) (fun c2 => ?_)
  · refine lv_iload_n hx hb dJM_min_I_9 rfl (lv_at hl 1 rfl) ?_
    exact W.iret hx hb hr (fun t ht hW => ⟨_, rfl, (congrArg nI (by omega)), ht⟩) (fun _ h9 => nomatch h9) dJM_min_I_10
  · refine lv_iload_n hx hb dJM_min_I_5 rfl (lv_at hl 0 rfl) ?_
    refine lv_goto (tgt := 10) hx hb dJM_min_I_6 (by decide) ?_
    exact W.iret hx hb hr (fun t ht hW => ⟨_, rfl, (congrArg nI (by omega)), ht⟩) (fun _ h9 => nomatch h9) dJM_min_I_10

theorem bc_bound {x : Nat} (h : x < 2 ^ 64) : ((x / 2 ^ 1) &&& 6148914691236517205) ≤ x ∧ x - ((x / 2 ^ 1) &&& 6148914691236517205) < 2 ^ 64 ∧ (x - ((x / 2 ^ 1) &&& 6148914691236517205) = bv s1 x 8) := by
  have h1 := st1 8 x (by omega)
  have e : bm 85 8 = 6148914691236517205 := by decide
  rw [e] at h1
  exact ⟨h1.1, by omega, h1.2⟩
theorem bv_le68 {f : Nat → Nat} (hf : ∀ a, a < 256 → f a ≤ 68) : ∀ (m x : Nat), 3 * bv f x m < 256 ^ m := by
  intro m
  induction m with
  | zero => intro x; simp [bv]
  | succ m ih =>
    intro x
    have h1 := ih (x / 256)
    have h2 := hf (x % 256) (by omega)
    show 3 * (f (x % 256) + 256 * bv f (x / 256) m) < 256 ^ (m + 1)
    rw [Nat.pow_succ]
    omega
theorem bv_le8 {f : Nat → Nat} (hf : ∀ a, a < 256 → f a ≤ 8) : ∀ (m x : Nat), 31 * bv f x m < 256 ^ m := by
  intro m
  induction m with
  | zero => intro x; simp [bv]
  | succ m ih =>
    intro x
    have h1 := ih (x / 256)
    have h2 := hf (x % 256) (by omega)
    show 31 * (f (x % 256) + 256 * bv f (x / 256) m) < 256 ^ (m + 1)
    rw [Nat.pow_succ]
    omega

set_option maxHeartbeats 4000000 in
set_option maxRecDepth 100000 in
theorem ct_JL_bitCount (l : Launch) (dC : Nat → ClassId) (dI : Nat → Nat → Nat) (cI cJ cZ : ClassId) (x : Nat) (hx0 : x < 4611686018427387904) : Met l yJL_bitCount wsJL_bitCount ({ frames := 0, cells := 0, slots := 0, locals := 0 }) (PcR (dC, dI) [] (tyE cI cJ cZ) [.long (lN x)]) (vp_Si (fun r => r = nI (pcn x 64))) 0 0 (fun _ => False) := by
  refine va_MetF (cc := cJL_bitCount) (maxL := 2) (ret := (some .int)) (by decide +kernel) rfl ?_
  intro p e s m args below meth c s₁ B hml hv
  obtain ⟨rfl, hP, hK, hE⟩ := hv
  have hx := B.exec
  have hb := B.bytes
  have hr := B.returns
  have hts := atoms_spec (ws := wsJL_bitCount) B.pre
  have hg : ∀ w ∈ gw, w.before _ s = true := fun w h => hts w (List.mem_cons_of_mem _ h)
  have hown : s.vm.findClass nJL = some m.cls := findClass_of_methodNamed B.named
  have hlocks := B.notSynchronized
  have hR : 0 ≤ (headSpec wsJL_bitCount ({ frames := 0, cells := 0, slots := 0, locals := 0 })).room.frames ∧ 0 ≤ (headSpec wsJL_bitCount ({ frames := 0, cells := 0, slots := 0, locals := 0 })).room.locals := ⟨Nat.le_refl _, Nat.le_refl _⟩
  have hcs : 0 ≤ (headSpec wsJL_bitCount ({ frames := 0, cells := 0, slots := 0, locals := 0 })).room.cells ∧ 0 ≤ (headSpec wsJL_bitCount ({ frames := 0, cells := 0, slots := 0, locals := 0 })).room.slots := ⟨Nat.zero_le _, Nat.zero_le _⟩
  obtain ⟨f1, f2, f3⟩ := bc_bound (x := x) (by omega)
  obtain ⟨-, g2, g3⟩ := bc_steps (x := x) (by omega)
  have l1 := bv_lt s1_lt 8 x
  have l2 := bv_le68 (f := fun a => s2 (s1 a)) (fun a h => (s21_lt a h).1) 8 x
  have l3 := bv_le8 (f := fun a => pcn a 8) (fun a h => (d2b ⟨a, h⟩).2.2.2.2) 8 x
  have hfin := bcN_eq (x := x) (by omega)
  have hl := lv_entry ([.long (lN x)]) (n := 2) (Nat.le_of_ble_eq_true rfl)
  rw [lg_entry_eq]
  generalize (lg_sl ([.long (lN x)]) ++ List.replicate (2 - (lg_sl ([.long (lN x)])).length) Slot.unset).toArray = ls at hl ⊢
  have hl : lv_has ls 2 [(0, .long (lN x))] := hl
  refine lv_lload_n hx hb dJL_bitCount_0 rfl (lv_at hl 0 rfl) ?_
  refine lv_lload_n hx hb dJL_bitCount_1 rfl (lv_at hl 0 rfl) ?_
  refine rn_iconst hx hb 1 dJL_bitCount_2 (by decide) ?_
  refine rn_lushr hx hb dJL_bitCount_3 (by omega) (by omega) ?_
  refine lv_ldc2 (v := 6148914691236517205) hx hb hown (hg _ kJL_314) dJL_bitCount_4 ?_
  refine tp_l (y := lN 6148914691236517205) rfl ?_
  refine rn_land hx hb dJL_bitCount_7 (by omega) (by omega) ?_
  refine rn_lsub hx hb dJL_bitCount_8 (by omega) ?_
  refine tp_l (y := lN (bv s1 x 8)) (by rw [f3]) ?_
  refine lv_lstore_n (lv' := [(0, .long (lN (bv s1 x 8)))]) hx hb dJL_bitCount_9 rfl hl (by decide) rfl (fun ls hl => ?_)
  refine lv_lload_n hx hb dJL_bitCount_10 rfl (lv_at hl 0 rfl) ?_
  refine lv_ldc2 (v := 3689348814741910323) hx hb hown (hg _ kJL_316) dJL_bitCount_11 ?_
  refine tp_l (y := lN 3689348814741910323) rfl ?_
  refine rn_land hx hb dJL_bitCount_14 (by omega) (by omega) ?_
  refine lv_lload_n hx hb dJL_bitCount_15 rfl (lv_at hl 0 rfl) ?_
  refine rn_iconst hx hb 2 dJL_bitCount_16 (by decide) ?_
  refine rn_lushr hx hb dJL_bitCount_17 (by omega) (by omega) ?_
  refine lv_ldc2 (v := 3689348814741910323) hx hb hown (hg _ kJL_316) dJL_bitCount_18 ?_
  refine tp_l (y := lN 3689348814741910323) rfl ?_
  refine rn_land hx hb dJL_bitCount_21 (by omega) (by omega) ?_
  refine rn_ladd hx hb dJL_bitCount_22 ?_
  refine tp_l (y := lN (bv (fun a => s2 (s1 a)) x 8)) (congrArg lN g2) ?_
  refine lv_lstore_n (lv' := [(0, .long (lN (bv (fun a => s2 (s1 a)) x 8)))]) hx hb dJL_bitCount_23 rfl hl (by decide) rfl (fun ls hl => ?_)
  refine lv_lload_n hx hb dJL_bitCount_24 rfl (lv_at hl 0 rfl) ?_
  refine lv_lload_n hx hb dJL_bitCount_25 rfl (lv_at hl 0 rfl) ?_
  refine rn_iconst hx hb 4 dJL_bitCount_26 (by decide) ?_
  refine rn_lushr hx hb dJL_bitCount_27 (by omega) (by omega) ?_
  refine rn_ladd hx hb dJL_bitCount_28 ?_
  refine lv_ldc2 (v := 1085102592571150095) hx hb hown (hg _ kJL_318) dJL_bitCount_29 ?_
  refine tp_l (y := lN 1085102592571150095) rfl ?_
  refine rn_land hx hb dJL_bitCount_32 (by omega) (by omega) ?_
  refine tp_l (y := lN (bv (fun a => pcn a 8) x 8)) (congrArg lN g3) ?_
  refine lv_lstore_n (lv' := [(0, .long (lN (bv (fun a => pcn a 8) x 8)))]) hx hb dJL_bitCount_33 rfl hl (by decide) rfl (fun ls hl => ?_)
  refine lv_lload_n hx hb dJL_bitCount_34 rfl (lv_at hl 0 rfl) ?_
  refine lv_lload_n hx hb dJL_bitCount_35 rfl (lv_at hl 0 rfl) ?_
  refine rn_bipush hx hb 8 dJL_bitCount_36 (by decide) ?_
  refine rn_lushr hx hb dJL_bitCount_38 (by omega) (by omega) ?_
  refine rn_ladd hx hb dJL_bitCount_39 ?_
  refine lv_lstore_n (lv' := [(0, .long (lN ((bv (fun a => pcn a 8) x 8) + ((bv (fun a => pcn a 8) x 8) / 2 ^ 8))))]) hx hb dJL_bitCount_40 rfl hl (by decide) rfl (fun ls hl => ?_)
  refine lv_lload_n hx hb dJL_bitCount_41 rfl (lv_at hl 0 rfl) ?_
  refine lv_lload_n hx hb dJL_bitCount_42 rfl (lv_at hl 0 rfl) ?_
  refine rn_bipush hx hb 16 dJL_bitCount_43 (by decide) ?_
  refine rn_lushr hx hb dJL_bitCount_45 (by omega) (by omega) ?_
  refine rn_ladd hx hb dJL_bitCount_46 ?_
  refine lv_lstore_n (lv' := [(0, .long (lN (((bv (fun a => pcn a 8) x 8) + ((bv (fun a => pcn a 8) x 8) / 2 ^ 8)) + (((bv (fun a => pcn a 8) x 8) + ((bv (fun a => pcn a 8) x 8) / 2 ^ 8)) / 2 ^ 16))))]) hx hb dJL_bitCount_47 rfl hl (by decide) rfl (fun ls hl => ?_)
  refine lv_lload_n hx hb dJL_bitCount_48 rfl (lv_at hl 0 rfl) ?_
  refine lv_lload_n hx hb dJL_bitCount_49 rfl (lv_at hl 0 rfl) ?_
  refine rn_bipush hx hb 32 dJL_bitCount_50 (by decide) ?_
  refine rn_lushr hx hb dJL_bitCount_52 (by omega) (by omega) ?_
  refine rn_ladd hx hb dJL_bitCount_53 ?_
  refine lv_lstore_n (lv' := [(0, .long (lN ((((bv (fun a => pcn a 8) x 8) + ((bv (fun a => pcn a 8) x 8) / 2 ^ 8)) + (((bv (fun a => pcn a 8) x 8) + ((bv (fun a => pcn a 8) x 8) / 2 ^ 8)) / 2 ^ 16)) + ((((bv (fun a => pcn a 8) x 8) + ((bv (fun a => pcn a 8) x 8) / 2 ^ 8)) + (((bv (fun a => pcn a 8) x 8) + ((bv (fun a => pcn a 8) x 8) / 2 ^ 8)) / 2 ^ 16)) / 2 ^ 32))))]) hx hb dJL_bitCount_54 rfl hl (by decide) rfl (fun ls hl => ?_)
  refine lv_lload_n hx hb dJL_bitCount_55 rfl (lv_at hl 0 rfl) ?_
  refine rn_l2i hx hb dJL_bitCount_56 ?_
  refine rn_bipush hx hb 127 dJL_bitCount_57 (by decide) ?_
  refine rn_iand127 hx hb dJL_bitCount_59 ?_
  exact W.iret hx hb hr (fun t ht hW => ⟨_, rfl, (by have h9 := hfin; unfold bcN at h9; dsimp only at h9; rw [show x / 2 = x / 2 ^ 1 from rfl, f3, g2, g3] at h9; exact congrArg nI h9), ht⟩) (fun _ h9 => nomatch h9) dJL_bitCount_60

set_option maxHeartbeats 4000000 in
set_option maxRecDepth 100000 in
theorem ct_G_hasBit (l : Launch) (dC : Nat → ClassId) (dI : Nat → Nat → Nat) (cI cJ cZ : ClassId) (b k : Nat) (hb0 : b < 4611686018427387904) (hk : k < 64) : Met l yG_hasBit wsG_hasBit ({ frames := 0, cells := 0, slots := 0, locals := 0 }) (PcR (dC, dI) [] (tyE cI cJ cZ) [.long (lN b), .int (nI k)]) (vp_Si (fun r => r = bI (b.testBit k))) 0 0 (fun _ => False) := by
  refine Met.ofW (cc := cG_hasBit) (maxL := 3) (ret := (some .boolean)) (by decide) rfl ?_
  intro p e s m args below meth c s₁ B hml hv
  obtain ⟨rfl, hP, hK, hE⟩ := hv
  have hx := B.exec
  have hb := B.bytes
  have hr := B.returns
  have hts := atoms_spec (ws := wsG_hasBit) B.pre
  have hg : ∀ w ∈ gw, w.before _ s = true := fun w h => hts w (List.mem_cons_of_mem _ h)
  have hown : s.vm.findClass nG = some m.cls := findClass_of_methodNamed B.named
  have hlocks := B.notSynchronized
  have hR : 0 ≤ (headSpec wsG_hasBit ({ frames := 0, cells := 0, slots := 0, locals := 0 })).room.frames ∧ 0 ≤ (headSpec wsG_hasBit ({ frames := 0, cells := 0, slots := 0, locals := 0 })).room.locals := ⟨Nat.le_refl _, Nat.le_refl _⟩
  have hcs : 0 ≤ (headSpec wsG_hasBit ({ frames := 0, cells := 0, slots := 0, locals := 0 })).room.cells ∧ 0 ≤ (headSpec wsG_hasBit ({ frames := 0, cells := 0, slots := 0, locals := 0 })).room.slots := ⟨Nat.zero_le _, Nat.zero_le _⟩
  have hl := lv_entry ([.long (lN b), .int (nI k)]) (n := 3) (Nat.le_of_ble_eq_true rfl)
  rw [lg_entry_eq]
  generalize (lg_sl ([.long (lN b), .int (nI k)]) ++ List.replicate (3 - (lg_sl ([.long (lN b), .int (nI k)])).length) Slot.unset).toArray = ls at hl ⊢
  have hl : lv_has ls 3 [(0, .long (lN b)), (2, .int (nI k))] := hl
  refine lv_lload_n hx hb dG_hasBit_0 rfl (lv_at hl 0 rfl) ?_
  refine lv_iload_n hx hb dG_hasBit_1 rfl (lv_at hl 1 rfl) ?_
  refine rn_lshr hx hb dG_hasBit_2 (by omega) (by omega) ?_
  refine rn_lconst hx hb 1 dG_hasBit_3 rfl ?_
  refine rn_land hx hb dG_hasBit_4 (by have := Nat.div_le_self b (2 ^ k); omega) (by have := Nat.div_le_self b (2 ^ k); omega) ?_
  refine tp_l (y := lN ((b.testBit k).toNat)) (by rw [tb_div]) ?_
  have hbt := Bool.toNat_le (b.testBit k)
  refine rn_lconst hx hb 0 dG_hasBit_5 rfl ?_
  refine rn_lcmp_eq (tgt := 14) hx hb dG_hasBit_6 dG_hasBit_7 (by decide) (by omega) (by omega) (fun c7 => ?_) (fun c7 => ?_)
  · refine rn_iconst hx hb 0 dG_hasBit_14 (by decide) ?_
    exact W.zret hx hb hr rfl (fun t ht hW => ⟨_, rfl, (by cases hq : b.testBit k <;> simp_all [bI, nI]), ht⟩) (fun _ h9 => nomatch h9) dG_hasBit_15
  · refine rn_iconst hx hb 1 dG_hasBit_10 (by decide) ?_
    refine lv_goto (tgt := 15) hx hb dG_hasBit_11 (by decide) ?_
    exact W.zret hx hb hr rfl (fun t ht hW => ⟨_, rfl, (by cases hq : b.testBit k <;> simp_all [bI, nI]), ht⟩) (fun _ h9 => nomatch h9) dG_hasBit_15

set_option maxHeartbeats 4000000 in
set_option maxRecDepth 100000 in
theorem ct_G_withBit (l : Launch) (dC : Nat → ClassId) (dI : Nat → Nat → Nat) (cI cJ cZ : ClassId) (b k : Nat) (on : Bool) (hb0 : b < 4611686018427387904) (hk : k < 62) : Met l yG_withBit wsG_withBit ({ frames := 0, cells := 0, slots := 0, locals := 0 }) (PcR (dC, dI) [] (tyE cI cJ cZ) [.long (lN b), .int (nI k), .int (bI on)]) (vp_Sl (fun r => r = lN (sB b k on))) 0 0 (fun _ => False) := by
  refine Met.ofW (cc := cG_withBit) (maxL := 6) (ret := (some .long)) (by decide) rfl ?_
  intro p e s m args below meth c s₁ B hml hv
  obtain ⟨rfl, hP, hK, hE⟩ := hv
  have hx := B.exec
  have hb := B.bytes
  have hr := B.returns
  have hts := atoms_spec (ws := wsG_withBit) B.pre
  have hg : ∀ w ∈ gw, w.before _ s = true := fun w h => hts w (List.mem_cons_of_mem _ h)
  have hown : s.vm.findClass nG = some m.cls := findClass_of_methodNamed B.named
  have hlocks := B.notSynchronized
  have hR : 0 ≤ (headSpec wsG_withBit ({ frames := 0, cells := 0, slots := 0, locals := 0 })).room.frames ∧ 0 ≤ (headSpec wsG_withBit ({ frames := 0, cells := 0, slots := 0, locals := 0 })).room.locals := ⟨Nat.le_refl _, Nat.le_refl _⟩
  have hcs : 0 ≤ (headSpec wsG_withBit ({ frames := 0, cells := 0, slots := 0, locals := 0 })).room.cells ∧ 0 ≤ (headSpec wsG_withBit ({ frames := 0, cells := 0, slots := 0, locals := 0 })).room.slots := ⟨Nat.zero_le _, Nat.zero_le _⟩
  have h2k : 2 ^ k < 4611686018427387904 := Nat.pow_lt_pow_right (a := 2) (n := 62) (by decide) hk
  have hl := lv_entry ([.long (lN b), .int (nI k), .int (bI on)]) (n := 6) (Nat.le_of_ble_eq_true rfl)
  rw [lg_entry_eq]
  generalize (lg_sl ([.long (lN b), .int (nI k), .int (bI on)]) ++ List.replicate (6 - (lg_sl ([.long (lN b), .int (nI k), .int (bI on)])).length) Slot.unset).toArray = ls at hl ⊢
  have hl : lv_has ls 6 [(0, .long (lN b)), (2, .int (nI k)), (3, .int (bI on))] := hl
  refine rn_lconst hx hb 1 dG_withBit_0 rfl ?_
  refine lv_iload_n hx hb dG_withBit_1 rfl (lv_at hl 1 rfl) ?_
  refine rn_lshl1 hx hb dG_withBit_2 (by omega) ?_
  refine lv_lstore (lv' := [(4, .long (lN (2 ^ k))), (0, .long (lN b)), (2, .int (nI k)), (3, .int (bI on))]) hx hb dG_withBit_3 hl (by decide) rfl (fun ls hl => ?_)
  refine lv_iload_n hx hb dG_withBit_5 rfl (lv_at hl 3 rfl) ?_
  refine rb_eq (tgt := 16) hx hb dG_withBit_6 (by decide) (fun c6 => ?_) (fun c6 => ?_)
  · refine lv_lload_n hx hb dG_withBit_16 rfl (lv_at hl 1 rfl) ?_
    refine lv_lload hx hb dG_withBit_17 (lv_at hl 0 rfl) ?_
    refine lv_ldc2 (v := -1) hx hb hown (hg _ kG_179) dG_withBit_19 ?_
    refine rn_lnot hx hb dG_withBit_22 (by omega) ?_
    refine rn_land hx hb dG_withBit_23 (by omega) (Nat.sub_lt (by decide) (Nat.succ_pos _)) ?_
    exact W.lret hx hb hr (fun t ht hW => ⟨_, rfl, (congrArg lN (by simp [sB, c6])), ht⟩) (fun _ h9 => nomatch h9) dG_withBit_24
  · refine lv_lload_n hx hb dG_withBit_9 rfl (lv_at hl 1 rfl) ?_
    refine lv_lload hx hb dG_withBit_10 (lv_at hl 0 rfl) ?_
    refine rn_lor hx hb dG_withBit_12 (by omega) (by omega) ?_
    refine lv_goto (tgt := 24) hx hb dG_withBit_13 (by decide) ?_
    exact W.lret hx hb hr (fun t ht hW => ⟨_, rfl, (congrArg lN (by simp [sB, c6])), ht⟩) (fun _ h9 => nomatch h9) dG_withBit_24

theorem wi_t {v lo hi : Int64} (h1 : ¬ v < lo) (h2 : ¬ hi < v) : nI 1 = bI (decide (lo ≤ v ∧ v ≤ hi)) := by
  rw [decide_eq_true (by rw [Int64.lt_iff_toInt_lt] at h1 h2; rw [Int64.le_iff_toInt_le, Int64.le_iff_toInt_le]; omega)]; rfl
theorem wi_1 {v lo hi : Int64} (h1 : v < lo) : nI 0 = bI (decide (lo ≤ v ∧ v ≤ hi)) := by
  rw [decide_eq_false (by rw [Int64.lt_iff_toInt_lt] at h1; rw [Int64.le_iff_toInt_le, Int64.le_iff_toInt_le]; omega)]; rfl
theorem wi_2 {v lo hi : Int64} (h2 : hi < v) : nI 0 = bI (decide (lo ≤ v ∧ v ≤ hi)) := by
  rw [decide_eq_false (by rw [Int64.lt_iff_toInt_lt] at h2; rw [Int64.le_iff_toInt_le, Int64.le_iff_toInt_le]; omega)]; rfl

set_option maxHeartbeats 4000000 in
set_option maxRecDepth 100000 in
theorem ct_G_within (l : Launch) (dC : Nat → ClassId) (dI : Nat → Nat → Nat) (cI cJ cZ : ClassId) (v lo hi : Int64) : Met l yG_within wsG_within ({ frames := 0, cells := 0, slots := 0, locals := 0 }) (PcR (dC, dI) [] (tyE cI cJ cZ) [.long v, .long lo, .long hi]) (vp_Si (fun r => r = bI (decide (lo ≤ v ∧ v ≤ hi)))) 0 0 (fun _ => False) := by
  refine Met.ofW (cc := cG_within) (maxL := 6) (ret := (some .boolean)) (by decide) rfl ?_
  intro p e s m args below meth c s₁ B hml hv
  obtain ⟨rfl, hP, hK, hE⟩ := hv
  have hx := B.exec
  have hb := B.bytes
  have hr := B.returns
  have hts := atoms_spec (ws := wsG_within) B.pre
  have hg : ∀ w ∈ gw, w.before _ s = true := fun w h => hts w (List.mem_cons_of_mem _ h)
  have hown : s.vm.findClass nG = some m.cls := findClass_of_methodNamed B.named
  have hlocks := B.notSynchronized
  have hR : 0 ≤ (headSpec wsG_within ({ frames := 0, cells := 0, slots := 0, locals := 0 })).room.frames ∧ 0 ≤ (headSpec wsG_within ({ frames := 0, cells := 0, slots := 0, locals := 0 })).room.locals := ⟨Nat.le_refl _, Nat.le_refl _⟩
  have hcs : 0 ≤ (headSpec wsG_within ({ frames := 0, cells := 0, slots := 0, locals := 0 })).room.cells ∧ 0 ≤ (headSpec wsG_within ({ frames := 0, cells := 0, slots := 0, locals := 0 })).room.slots := ⟨Nat.zero_le _, Nat.zero_le _⟩
  have hl := lv_entry ([.long v, .long lo, .long hi]) (n := 6) (Nat.le_of_ble_eq_true rfl)
  rw [lg_entry_eq]
  generalize (lg_sl ([.long v, .long lo, .long hi]) ++ List.replicate (6 - (lg_sl ([.long v, .long lo, .long hi])).length) Slot.unset).toArray = ls at hl ⊢
  have hl : lv_has ls 6 [(0, .long v), (2, .long lo), (4, .long hi)] := hl
  refine lv_lload_n hx hb dG_within_0 rfl (lv_at hl 0 rfl) ?_
  refine lv_lload_n hx hb dG_within_1 rfl (lv_at hl 1 rfl) ?_
  refine rl_cmp_lt (tgt := 17) hx hb dG_within_2 dG_within_3 (by decide) (fun c3 => ?_) (fun c3 => ?_)
  · refine rn_iconst hx hb 0 dG_within_17 (by decide) ?_
    exact W.zret hx hb hr rfl (fun t ht hW => ⟨_, rfl, (by first | exact wi_t c3 c10 | exact wi_1 c3 | exact wi_2 c10), ht⟩) (fun _ h9 => nomatch h9) dG_within_18
  · refine lv_lload_n hx hb dG_within_6 rfl (lv_at hl 0 rfl) ?_
    refine lv_lload hx hb dG_within_7 (lv_at hl 2 rfl) ?_
    refine rl_cmp_gt (tgt := 17) hx hb dG_within_9 dG_within_10 (by decide) (fun c10 => ?_) (fun c10 => ?_)
    · refine rn_iconst hx hb 0 dG_within_17 (by decide) ?_
      exact W.zret hx hb hr rfl (fun t ht hW => ⟨_, rfl, (by first | exact wi_t c3 c10 | exact wi_1 c3 | exact wi_2 c10), ht⟩) (fun _ h9 => nomatch h9) dG_within_18
    · refine rn_iconst hx hb 1 dG_within_13 (by decide) ?_
      refine lv_goto (tgt := 18) hx hb dG_within_14 (by decide) ?_
      exact W.zret hx hb hr rfl (fun t ht hW => ⟨_, rfl, (by first | exact wi_t c3 c10 | exact wi_1 c3 | exact wi_2 c10), ht⟩) (fun _ h9 => nomatch h9) dG_within_18
end
section
theorem ha_t {x y : Int32} (h1 : ¬ x < 0) (h2 : ¬ y ≤ x) : nI 1 = bI (decide (0 ≤ x ∧ x < y)) := by
  rw [decide_eq_true (by rw [Int32.lt_iff_toInt_lt] at h1; rw [Int32.le_iff_toInt_le] at h2; rw [Int32.le_iff_toInt_le, Int32.lt_iff_toInt_lt]; rw [Int32.toInt_zero] at *; omega)]; rfl
theorem ha_1 {x y : Int32} (h1 : x < 0) : nI 0 = bI (decide (0 ≤ x ∧ x < y)) := by
  rw [decide_eq_false (by rw [Int32.lt_iff_toInt_lt] at h1; rw [Int32.le_iff_toInt_le, Int32.lt_iff_toInt_lt]; rw [Int32.toInt_zero] at *; omega)]; rfl
theorem ha_2 {x y : Int32} (h2 : y ≤ x) : nI 0 = bI (decide (0 ≤ x ∧ x < y)) := by
  rw [decide_eq_false (by rw [Int32.le_iff_toInt_le] at h2; rw [Int32.le_iff_toInt_le, Int32.lt_iff_toInt_lt]; omega)]; rfl

set_option maxHeartbeats 4000000 in
set_option maxRecDepth 100000 in
theorem ct_P_has (l : Launch) (dC : Nat → ClassId) (dI : Nat → Nat → Nat) (cI cJ cZ : ClassId) (q : Nat → Nat) (bg en sc wd ht oh bt : Nat → Nat) (co n : Nat) (x : Int32) (hB : bP bg en sc wd ht oh bt co n) : Met l yP_has wsP_has ({ frames := 0, cells := 0, slots := 0, locals := 0 }) (PcR (dC, dI) (wP cI cJ cZ q bg en sc wd ht oh bt co n) (tyE cI cJ cZ) [.ref (q 0), .int x]) (vp_Si (fun r => r = bI (decide (0 ≤ x ∧ x < nI n)))) 0 0 (fun _ => False) := by
  refine Met.ofW (cc := cP_has) (maxL := 2) (ret := (some .boolean)) (by decide) rfl ?_
  intro p e s m args below meth c s₁ B hml hv
  obtain ⟨rfl, hP, hK, hE⟩ := hv
  have hx := B.exec
  have hb := B.bytes
  have hr := B.returns
  have hts := atoms_spec (ws := wsP_has) B.pre
  have hg : ∀ w ∈ gw, w.before _ s = true := fun w h => hts w (List.mem_cons_of_mem _ h)
  have hown : s.vm.findClass nP = some m.cls := findClass_of_methodNamed B.named
  have hlocks := B.notSynchronized
  have hR : 0 ≤ (headSpec wsP_has ({ frames := 0, cells := 0, slots := 0, locals := 0 })).room.frames ∧ 0 ≤ (headSpec wsP_has ({ frames := 0, cells := 0, slots := 0, locals := 0 })).room.locals := ⟨Nat.le_refl _, Nat.le_refl _⟩
  have hcs : 0 ≤ (headSpec wsP_has ({ frames := 0, cells := 0, slots := 0, locals := 0 })).room.cells ∧ 0 ≤ (headSpec wsP_has ({ frames := 0, cells := 0, slots := 0, locals := 0 })).room.slots := ⟨Nat.zero_le _, Nat.zero_le _⟩
  have hl := lv_entry ([.ref (q 0), .int x]) (n := 2) (Nat.le_of_ble_eq_true rfl)
  rw [lg_entry_eq]
  generalize (lg_sl ([.ref (q 0), .int x]) ++ List.replicate (2 - (lg_sl ([.ref (q 0), .int x])).length) Slot.unset).toArray = ls at hl ⊢
  have hl : lv_has ls 2 [(0, .ref (q 0)), (1, .int x)] := hl
  refine lv_iload_n hx hb dP_has_0 rfl (lv_at hl 1 rfl) ?_
  refine lv_if_lt (tgt := 16) hx hb dP_has_1 (by decide) (fun c1 => ?_) (fun c1 => ?_)
  · refine rn_iconst hx hb 0 dP_has_16 (by decide) ?_
    exact W.zret hx hb hr rfl (fun t ht hW => ⟨_, rfl, (by first | exact ha_t c1 c9 | exact ha_1 c1 | exact ha_2 c9), ht⟩) (fun _ h9 => nomatch h9) dP_has_17
  · refine lv_iload_n hx hb dP_has_4 rfl (lv_at hl 1 rfl) ?_
    refine lv_aload_n hx hb dP_has_5 rfl (lv_at hl 0 rfl) ?_
    refine va_get (D := (dC, dI)) (ci := 1) (v := .int (nI n)) (C := nP) (T := TP) (N := 9) hx hb hg inP hown hK hP 0 rfl rfl 8 (by decide) (hg _ kP_34) (fun _ h9 => h9) rfl dP_has_6 ?_
    refine lv_icmp_ge (tgt := 16) hx hb dP_has_9 (by decide) (fun c9 => ?_) (fun c9 => ?_)
    · refine rn_iconst hx hb 0 dP_has_16 (by decide) ?_
      exact W.zret hx hb hr rfl (fun t ht hW => ⟨_, rfl, (by first | exact ha_t c1 c9 | exact ha_1 c1 | exact ha_2 c9), ht⟩) (fun _ h9 => nomatch h9) dP_has_17
    · refine rn_iconst hx hb 1 dP_has_12 (by decide) ?_
      refine lv_goto (tgt := 17) hx hb dP_has_13 (by decide) ?_
      exact W.zret hx hb hr rfl (fun t ht hW => ⟨_, rfl, (by first | exact ha_t c1 c9 | exact ha_1 c1 | exact ha_2 c9), ht⟩) (fun _ h9 => nomatch h9) dP_has_17

set_option maxHeartbeats 4000000 in
set_option maxRecDepth 100000 in
theorem ct_P_isBarred (l : Launch) (dC : Nat → ClassId) (dI : Nat → Nat → Nat) (cI cJ cZ : ClassId) (q : Nat → Nat) (bg en sc wd ht oh bt : Nat → Nat) (co n : Nat) (f t : Nat) (hB : bP bg en sc wd ht oh bt co n) (hf : f < 40) (ht0 : t < 40) : Met l yP_isBarred wsP_isBarred ({ frames := 1, cells := 0, slots := 0, locals := 22 }) (PcR (dC, dI) (wP cI cJ cZ q bg en sc wd ht oh bt co n) (tyE cI cJ cZ) [.ref (q 0), .int (nI f), .int (nI t)]) (vp_Si (fun r => r = bI ((bt f).testBit t))) 0 0 (fun _ => False) := by
  refine Met.ofW (cc := cP_isBarred) (maxL := 3) (ret := (some .boolean)) (by decide) rfl ?_
  intro p e s m args below meth c s₁ B hml hv
  obtain ⟨rfl, hP, hK, hE⟩ := hv
  have hx := B.exec
  have hb := B.bytes
  have hr := B.returns
  have hts := atoms_spec (ws := wsP_isBarred) B.pre
  have hg : ∀ w ∈ gw, w.before _ s = true := fun w h => hts w (List.mem_cons_of_mem _ h)
  have hown : s.vm.findClass nP = some m.cls := findClass_of_methodNamed B.named
  have hlocks := B.notSynchronized
  have hR : 1 ≤ (headSpec wsP_isBarred ({ frames := 1, cells := 0, slots := 0, locals := 22 })).room.frames ∧ 22 ≤ (headSpec wsP_isBarred ({ frames := 1, cells := 0, slots := 0, locals := 22 })).room.locals := ⟨Nat.le_refl _, Nat.le_refl _⟩
  have hcs : 0 ≤ (headSpec wsP_isBarred ({ frames := 1, cells := 0, slots := 0, locals := 22 })).room.cells ∧ 0 ≤ (headSpec wsP_isBarred ({ frames := 1, cells := 0, slots := 0, locals := 22 })).room.slots := ⟨Nat.zero_le _, Nat.zero_le _⟩
  have hn := hB.1
  have hco := hB.2.1
  have hbi := hB.2.2
  have bf := hbi f
  have hl := lv_entry ([.ref (q 0), .int (nI f), .int (nI t)]) (n := 3) (Nat.le_of_ble_eq_true rfl)
  rw [lg_entry_eq]
  generalize (lg_sl ([.ref (q 0), .int (nI f), .int (nI t)]) ++ List.replicate (3 - (lg_sl ([.ref (q 0), .int (nI f), .int (nI t)])).length) Slot.unset).toArray = ls at hl ⊢
  have hl : lv_has ls 3 [(0, .ref (q 0)), (1, .int (nI f)), (2, .int (nI t))] := hl
  refine lv_aload_n hx hb dP_isBarred_0 rfl (lv_at hl 0 rfl) ?_
  refine va_get (D := (dC, dI)) (ci := 1) (v := .ref (q 7)) (C := nP) (T := TP) (N := 9) hx hb hg inP hown hK hP 0 rfl rfl 6 (by decide) (hg _ kP_31) (fun _ h9 => h9) rfl dP_isBarred_1 ?_
  refine lv_iload_n hx hb dP_isBarred_4 rfl (lv_at hl 1 rfl) ?_
  refine ga_l (f := bt) hx hb hK hP 7 1 rfl rfl (by omega) (by decide) dP_isBarred_5 ?_
  refine lv_iload_n hx hb dP_isBarred_6 rfl (lv_at hl 2 rfl) ?_
  refine cpN_i (As := [.long (lN (bt f)), .int (nI t)]) (rest := []) (post := fun r : Int32 => r = bI ((bt f).testBit t)) ⟨hx, hb, hml, hown, hts⟩ (ct_G_hasBit l dC dI cI cJ cZ (bt f) t (by omega) (by omega)) ⟨va_cnB 2 hts (gi kc_G_hasBit) rfl rfl rfl (hE _ kNP_42) (hg _ kin_G) (by decide +kernel) ⟨Nat.le_trans (by decide) hR.1, Nat.le_trans (by decide) hR.2⟩, hg _ ks_G_hasBit, trivial⟩ (hP.sub (ws' := []) [] rfl) hK hE rfl hl.1 rfl (Nat.le_of_ble_eq_true rfl) dP_isBarred_7 hcs (fun r hr => ?_)
  subst hr
  exact W.zret hx hb hr (bI_nar _) (fun t ht hW => ⟨_, rfl, (rfl), ht⟩) (fun _ h9 => nomatch h9) dP_isBarred_10

set_option maxHeartbeats 4000000 in
set_option maxRecDepth 100000 in
theorem ct_P_fits (l : Launch) (dC : Nat → ClassId) (dI : Nat → Nat → Nat) (cI cJ cZ : ClassId) (q : Nat → Nat) (bg en sc wd ht oh bt : Nat → Nat) (co n : Nat) (i w h : Nat) (hB : bP bg en sc wd ht oh bt co n) (hi : i < 40) (hw : w ≤ 10000) (hh : h ≤ 10000) : Met l yP_fits wsP_fits ({ frames := 0, cells := 0, slots := 0, locals := 0 }) (PcR (dC, dI) (wP cI cJ cZ q bg en sc wd ht oh bt co n) (tyE cI cJ cZ) [.ref (q 0), .int (nI i), .int (nI w), .long (lN h)]) (vp_Si (fun r => r = bI (decide (w ≤ wd i ∧ h ≤ ht i)))) 0 0 (fun _ => False) := by
  refine Met.ofW (cc := cP_fits) (maxL := 5) (ret := (some .boolean)) (by decide) rfl ?_
  intro p e s m args below meth c s₁ B hml hv
  obtain ⟨rfl, hP, hK, hE⟩ := hv
  have hx := B.exec
  have hb := B.bytes
  have hr := B.returns
  have hts := atoms_spec (ws := wsP_fits) B.pre
  have hg : ∀ w ∈ gw, w.before _ s = true := fun w h => hts w (List.mem_cons_of_mem _ h)
  have hown : s.vm.findClass nP = some m.cls := findClass_of_methodNamed B.named
  have hlocks := B.notSynchronized
  have hR : 0 ≤ (headSpec wsP_fits ({ frames := 0, cells := 0, slots := 0, locals := 0 })).room.frames ∧ 0 ≤ (headSpec wsP_fits ({ frames := 0, cells := 0, slots := 0, locals := 0 })).room.locals := ⟨Nat.le_refl _, Nat.le_refl _⟩
  have hcs : 0 ≤ (headSpec wsP_fits ({ frames := 0, cells := 0, slots := 0, locals := 0 })).room.cells ∧ 0 ≤ (headSpec wsP_fits ({ frames := 0, cells := 0, slots := 0, locals := 0 })).room.slots := ⟨Nat.zero_le _, Nat.zero_le _⟩
  have hn := hB.1
  have hco := hB.2.1
  have hbi := hB.2.2
  have bi := hbi i
  have hl := lv_entry ([.ref (q 0), .int (nI i), .int (nI w), .long (lN h)]) (n := 5) (Nat.le_of_ble_eq_true rfl)
  rw [lg_entry_eq]
  generalize (lg_sl ([.ref (q 0), .int (nI i), .int (nI w), .long (lN h)]) ++ List.replicate (5 - (lg_sl ([.ref (q 0), .int (nI i), .int (nI w), .long (lN h)])).length) Slot.unset).toArray = ls at hl ⊢
  have hl : lv_has ls 5 [(0, .ref (q 0)), (1, .int (nI i)), (2, .int (nI w)), (3, .long (lN h))] := hl
  refine lv_iload_n hx hb dP_fits_0 rfl (lv_at hl 2 rfl) ?_
  refine lv_aload_n hx hb dP_fits_1 rfl (lv_at hl 0 rfl) ?_
  refine va_get (D := (dC, dI)) (ci := 1) (v := .ref (q 4)) (C := nP) (T := TP) (N := 9) hx hb hg inP hown hK hP 0 rfl rfl 3 (by decide) (hg _ kP_22) (fun _ h9 => h9) rfl dP_fits_2 ?_
  refine lv_iload_n hx hb dP_fits_5 rfl (lv_at hl 1 rfl) ?_
  refine ga_i (f := wd) hx hb hK hP 4 0 rfl rfl (by omega) (by decide) dP_fits_6 ?_
  refine rn_icmp_gt (tgt := 25) hx hb dP_fits_7 (by decide) (by omega) (by omega) (fun c7 => ?_) (fun c7 => ?_)
  · refine rn_iconst hx hb 0 dP_fits_25 (by decide) ?_
    exact W.zret hx hb hr rfl (fun t ht hW => ⟨_, rfl, (by first | (rw [decide_eq_true (by omega)]; rfl) | (rw [decide_eq_false (by omega)]; rfl)), ht⟩) (fun _ h9 => nomatch h9) dP_fits_26
  · refine lv_lload_n hx hb dP_fits_10 rfl (lv_at hl 3 rfl) ?_
    refine lv_aload_n hx hb dP_fits_11 rfl (lv_at hl 0 rfl) ?_
    refine va_get (D := (dC, dI)) (ci := 1) (v := .ref (q 5)) (C := nP) (T := TP) (N := 9) hx hb hg inP hown hK hP 0 rfl rfl 4 (by decide) (hg _ kP_25) (fun _ h9 => h9) rfl dP_fits_12 ?_
    refine lv_iload_n hx hb dP_fits_15 rfl (lv_at hl 1 rfl) ?_
    refine ga_l (f := ht) hx hb hK hP 5 1 rfl rfl (by omega) (by decide) dP_fits_16 ?_
    refine rn_lcmp_gt (tgt := 25) hx hb dP_fits_17 dP_fits_18 (by decide) (by omega) (by omega) (fun c18 => ?_) (fun c18 => ?_)
    · refine rn_iconst hx hb 0 dP_fits_25 (by decide) ?_
      exact W.zret hx hb hr rfl (fun t ht hW => ⟨_, rfl, (by first | (rw [decide_eq_true (by omega)]; rfl) | (rw [decide_eq_false (by omega)]; rfl)), ht⟩) (fun _ h9 => nomatch h9) dP_fits_26
    · refine rn_iconst hx hb 1 dP_fits_21 (by decide) ?_
      refine lv_goto (tgt := 26) hx hb dP_fits_22 (by decide) ?_
      exact W.zret hx hb hr rfl (fun t ht hW => ⟨_, rfl, (by first | (rw [decide_eq_true (by omega)]; rfl) | (rw [decide_eq_false (by omega)]; rfl)), ht⟩) (fun _ h9 => nomatch h9) dP_fits_26

def foB (bg en bt : Nat → Nat) (f t : Nat) : Bool := decide (bg t = en f) && !(bt f).testBit t

set_option maxHeartbeats 4000000 in
set_option maxRecDepth 100000 in
theorem ct_P_canFollow (l : Launch) (dC : Nat → ClassId) (dI : Nat → Nat → Nat) (cI cJ cZ : ClassId) (q : Nat → Nat) (bg en sc wd ht oh bt : Nat → Nat) (co n : Nat) (f t : Nat) (hB : bP bg en sc wd ht oh bt co n) (hf : f < 40) (ht0 : t < 40) : Met l yP_canFollow wsP_canFollow ({ frames := 2, cells := 0, slots := 0, locals := 44 }) (PcR (dC, dI) (wP cI cJ cZ q bg en sc wd ht oh bt co n) (tyE cI cJ cZ) [.ref (q 0), .int (nI f), .int (nI t)]) (vp_Si (fun r => r = bI (foB bg en bt f t))) 0 0 (fun _ => False) := by
  refine Met.ofW (cc := cP_canFollow) (maxL := 3) (ret := (some .boolean)) (by decide) rfl ?_
  intro p e s m args below meth c s₁ B hml hv
  obtain ⟨rfl, hP, hK, hE⟩ := hv
  have hx := B.exec
  have hb := B.bytes
  have hr := B.returns
  have hts := atoms_spec (ws := wsP_canFollow) B.pre
  have hg : ∀ w ∈ gw, w.before _ s = true := fun w h => hts w (List.mem_cons_of_mem _ h)
  have hown : s.vm.findClass nP = some m.cls := findClass_of_methodNamed B.named
  have hlocks := B.notSynchronized
  have hR : 2 ≤ (headSpec wsP_canFollow ({ frames := 2, cells := 0, slots := 0, locals := 44 })).room.frames ∧ 44 ≤ (headSpec wsP_canFollow ({ frames := 2, cells := 0, slots := 0, locals := 44 })).room.locals := ⟨Nat.le_refl _, Nat.le_refl _⟩
  have hcs : 0 ≤ (headSpec wsP_canFollow ({ frames := 2, cells := 0, slots := 0, locals := 44 })).room.cells ∧ 0 ≤ (headSpec wsP_canFollow ({ frames := 2, cells := 0, slots := 0, locals := 44 })).room.slots := ⟨Nat.zero_le _, Nat.zero_le _⟩
  have hn := hB.1
  have hco := hB.2.1
  have hbi := hB.2.2
  have bf := hbi f
  have bt0 := hbi t
  have hl := lv_entry ([.ref (q 0), .int (nI f), .int (nI t)]) (n := 3) (Nat.le_of_ble_eq_true rfl)
  rw [lg_entry_eq]
  generalize (lg_sl ([.ref (q 0), .int (nI f), .int (nI t)]) ++ List.replicate (3 - (lg_sl ([.ref (q 0), .int (nI f), .int (nI t)])).length) Slot.unset).toArray = ls at hl ⊢
  have hl : lv_has ls 3 [(0, .ref (q 0)), (1, .int (nI f)), (2, .int (nI t))] := hl
  refine lv_aload_n hx hb dP_canFollow_0 rfl (lv_at hl 0 rfl) ?_
  refine va_get (D := (dC, dI)) (ci := 1) (v := .ref (q 1)) (C := nP) (T := TP) (N := 9) hx hb hg inP hown hK hP 0 rfl rfl 0 (by decide) (hg _ kP_9) (fun _ h9 => h9) rfl dP_canFollow_1 ?_
  refine lv_iload_n hx hb dP_canFollow_4 rfl (lv_at hl 2 rfl) ?_
  refine ga_i (f := bg) hx hb hK hP 1 0 rfl rfl (by omega) (by decide) dP_canFollow_5 ?_
  refine lv_aload_n hx hb dP_canFollow_6 rfl (lv_at hl 0 rfl) ?_
  refine va_get (D := (dC, dI)) (ci := 1) (v := .ref (q 2)) (C := nP) (T := TP) (N := 9) hx hb hg inP hown hK hP 0 rfl rfl 1 (by decide) (hg _ kP_15) (fun _ h9 => h9) rfl dP_canFollow_7 ?_
  refine lv_iload_n hx hb dP_canFollow_10 rfl (lv_at hl 1 rfl) ?_
  refine ga_i (f := en) hx hb hK hP 2 0 rfl rfl (by omega) (by decide) dP_canFollow_11 ?_
  refine rn_icmp_ne (tgt := 28) hx hb dP_canFollow_12 (by decide) (by omega) (by omega) (fun c12 => ?_) (fun c12 => ?_)
  · refine rn_iconst hx hb 0 dP_canFollow_28 (by decide) ?_
    exact W.zret hx hb hr rfl (fun t ht hW => ⟨_, rfl, (by simp_all [foB, bI, nI]), ht⟩) (fun _ h9 => nomatch h9) dP_canFollow_29
  · refine lv_aload_n hx hb dP_canFollow_15 rfl (lv_at hl 0 rfl) ?_
    refine lv_iload_n hx hb dP_canFollow_16 rfl (lv_at hl 1 rfl) ?_
    refine lv_iload_n hx hb dP_canFollow_17 rfl (lv_at hl 2 rfl) ?_
    refine cpV_i (b := (q 0)) (C := nP) (As := [.int (nI f), .int (nI t)]) (rest := []) (post := fun r : Int32 => r = bI ((bt f).testBit t)) ⟨hx, hb, hml, hown, hts⟩ (ct_P_isBarred l dC dI cI cJ cZ q bg en sc wd ht oh bt co n f t (hB) (hf) (ht0)) (cwV 2 hts (gv kP_64 ki_P_isBarred ksel_P_isBarred kin_P kc_P_isBarred) rfl rfl rfl (by decide +kernel) ⟨Nat.le_trans (by decide) hR.1, Nat.le_trans (by decide) hR.2⟩) (va_recv hK hP (ci := 1) (q0 := 0) rfl rfl) hP hK hE rfl hl.1 rfl (Nat.le_of_ble_eq_true rfl) dP_canFollow_18 hcs (fun r hr => ?_)
    subst hr
    refine rb_ne (tgt := 28) hx hb dP_canFollow_21 (by decide) (fun c21 => ?_) (fun c21 => ?_)
    · refine rn_iconst hx hb 0 dP_canFollow_28 (by decide) ?_
      exact W.zret hx hb hr rfl (fun t ht hW => ⟨_, rfl, (by simp_all [foB, bI, nI]), ht⟩) (fun _ h9 => nomatch h9) dP_canFollow_29
    · refine rn_iconst hx hb 1 dP_canFollow_24 (by decide) ?_
      refine lv_goto (tgt := 29) hx hb dP_canFollow_25 (by decide) ?_
      exact W.zret hx hb hr rfl (fun t ht hW => ⟨_, rfl, (by simp_all [foB, bI, nI]), ht⟩) (fun _ h9 => nomatch h9) dP_canFollow_29

def afB (wd ht : Nat → Nat) (w h : Nat) : Nat → Bool
  | 0 => false
  | k + 1 => afB wd ht w h k || decide (w ≤ wd k ∧ h ≤ ht k)
theorem afB_le {wd ht : Nat → Nat} {w h k : Nat} (hk : decide (w ≤ wd k ∧ h ≤ ht k) = true) : ∀ n, k < n → afB wd ht w h n = true := by
  intro n
  induction n with
  | zero => intro q; omega
  | succ n ih =>
    intro q
    by_cases e : k = n
    · subst e; simp [afB] at *; exact Or.inr hk
    · simp [afB, ih (by omega)]

set_option maxHeartbeats 4000000 in
set_option maxRecDepth 100000 in
theorem lp_P_anyFits {p : Program} {l : Launch} {e : Env} {R : Room} {s : State} {m : MethodId} {args : Array Value} {below : List Frame} {meth : Method} {c : Code} {H : Heap} {locs : List Loc} {cells slots : Nat} {Q : State → Prop} {dC : Nat → ClassId} {dI : Nat → Nat → Nat} {cI cJ cZ : ClassId} (q : Nat → Nat) (bg en sc wd ht oh bt : Nat → Nat) (co n : Nat) (w h : Nat) (hB : bP bg en sc wd ht oh bt co n) (hw : w ≤ 10000) (hh : h ≤ 10000) (hx : p.tables.exec = Jvm.exec) (hb : c.code = cP_anyFits) (hml : c.maxLocals = 5) (hown : s.vm.findClass nP = some m.cls) (hts : ∀ w ∈ wsP_anyFits, w.before args s = true) (hK : va_K (dC, dI) vwCl (tyE cI cJ cZ) s) (hP : va_P (dC, dI) vwCl (wP cI cJ cZ q bg en sc wd ht oh bt co n) H) (hE : EV s) (hR : 1 ≤ R.frames ∧ 24 ≤ R.locals) (hcs : cells ≤ R.cells ∧ slots ≤ R.slots)
    (kx0 : ∀ (i : Nat) (hi : i ≤ n) (ha : afB wd ht w h i = false) (hx0 : n ≤ i) (ls : Array Slot), lv_has ls 5 [(0, .ref (q 0)), (1, .int (nI w)), (2, .long (lN h)), (4, .int (nI i))] → W p l e R s m args below meth c H locs cells slots Q (F0 m 31 ls []))
    (kx1 : ∀ (i : Nat) (hi : i ≤ n) (ha : afB wd ht w h i = false) (hx0 : i < n) (hx1 : decide (w ≤ wd i ∧ h ≤ ht i) = true) (ls : Array Slot), lv_has ls 5 [(0, .ref (q 0)), (1, .int (nI w)), (2, .long (lN h)), (4, .int (nI i))] → W p l e R s m args below meth c H locs cells slots Q (F0 m 23 ls []))
    : ∀ (fu : Nat) (i : Nat) (hi : i ≤ n) (ha : afB wd ht w h i = false), n - i < fu → ∀ ls : Array Slot, lv_has ls 5 [(0, .ref (q 0)), (1, .int (nI w)), (2, .long (lN h)), (4, .int (nI i))] → W p l e R s m args below meth c H locs cells slots Q (F0 m 3 ls []) := by
  have hg : ∀ w ∈ gw, w.before args s = true := fun w h => hts w (List.mem_cons_of_mem _ h)
  have hn := hB.1
  have hco := hB.2.1
  have hbi := hB.2.2
  intro fu
  induction fu with
  | zero => intro i hi ha h0; exact absurd h0 (Nat.not_lt_zero _)
  | succ fu ih =>
    intro i hi ha hfu ls hl
    refine lv_iload hx hb dP_anyFits_3 (lv_at hl 3 rfl) ?_
    refine lv_aload_n hx hb dP_anyFits_5 rfl (lv_at hl 0 rfl) ?_
    refine va_get (D := (dC, dI)) (ci := 1) (v := .int (nI n)) (C := nP) (T := TP) (N := 9) hx hb hg inP hown hK hP 0 rfl rfl 8 (by decide) (hg _ kP_34) (fun _ h9 => h9) rfl dP_anyFits_6 ?_
    refine rn_icmp_ge (tgt := 31) hx hb dP_anyFits_9 (by decide) (by omega) (by omega) (fun c9 => ?_) (fun c9 => ?_)
    · exact kx0 i hi ha (by omega) ls (lv_sub hl [0, 1, 2, 3] rfl)
    · refine lv_aload_n hx hb dP_anyFits_12 rfl (lv_at hl 0 rfl) ?_
      refine lv_iload hx hb dP_anyFits_13 (lv_at hl 3 rfl) ?_
      refine lv_iload_n hx hb dP_anyFits_15 rfl (lv_at hl 1 rfl) ?_
      refine lv_lload_n hx hb dP_anyFits_16 rfl (lv_at hl 2 rfl) ?_
      refine cpV_i (b := (q 0)) (C := nP) (As := [.int (nI i), .int (nI w), .long (lN h)]) (rest := []) (post := fun r : Int32 => r = bI (decide (w ≤ wd i ∧ h ≤ ht i))) ⟨hx, hb, hml, hown, hts⟩ (ct_P_fits l dC dI cI cJ cZ q bg en sc wd ht oh bt co n i w h (hB) (by omega) (hw) (hh)) (cwV 3 hts (gv kP_52 ki_P_fits ksel_P_fits kin_P kc_P_fits) rfl rfl rfl (by decide +kernel) ⟨Nat.le_trans (by decide) hR.1, Nat.le_trans (by decide) hR.2⟩) (va_recv hK hP (ci := 1) (q0 := 0) rfl rfl) hP hK hE rfl hl.1 rfl (Nat.le_of_ble_eq_true rfl) dP_anyFits_17 hcs (fun r hr => ?_)
      subst hr
      refine rb_eq (tgt := 25) hx hb dP_anyFits_20 (by decide) (fun c20 => ?_) (fun c20 => ?_)
      · refine rn_iinc (lv' := [(4, .int (nI (i + 1))), (0, .ref (q 0)), (1, .int (nI w)), (2, .long (lN h))]) hx hb dP_anyFits_25 hl (k := 3) rfl (by decide) rfl (fun ls hl => ?_)
        refine lv_goto (tgt := 3) hx hb dP_anyFits_28 (by decide) ?_
        exact ih (i + 1) (by omega) (by simp_all [afB]) (by omega) ls (lv_sub hl [1, 2, 3, 0] rfl)
      · exact kx1 i hi ha (by omega) (by assumption) ls (lv_sub hl [0, 1, 2, 3] rfl)

set_option maxHeartbeats 4000000 in
set_option maxRecDepth 100000 in
theorem ct_P_anyFits (l : Launch) (dC : Nat → ClassId) (dI : Nat → Nat → Nat) (cI cJ cZ : ClassId) (q : Nat → Nat) (bg en sc wd ht oh bt : Nat → Nat) (co n : Nat) (w h : Nat) (hB : bP bg en sc wd ht oh bt co n) (hw : w ≤ 10000) (hh : h ≤ 10000) : Met l yP_anyFits wsP_anyFits ({ frames := 1, cells := 0, slots := 0, locals := 24 }) (PcR (dC, dI) (wP cI cJ cZ q bg en sc wd ht oh bt co n) (tyE cI cJ cZ) [.ref (q 0), .int (nI w), .long (lN h)]) (vp_Si (fun r => r = bI (afB wd ht w h n))) 0 0 (fun _ => False) := by
  refine Met.ofW (cc := cP_anyFits) (maxL := 5) (ret := (some .boolean)) (by decide) rfl ?_
  intro p e s m args below meth c s₁ B hml hv
  obtain ⟨rfl, hP, hK, hE⟩ := hv
  have hx := B.exec
  have hb := B.bytes
  have hr := B.returns
  have hts := atoms_spec (ws := wsP_anyFits) B.pre
  have hg : ∀ w ∈ gw, w.before _ s = true := fun w h => hts w (List.mem_cons_of_mem _ h)
  have hown : s.vm.findClass nP = some m.cls := findClass_of_methodNamed B.named
  have hlocks := B.notSynchronized
  have hR : 1 ≤ (headSpec wsP_anyFits ({ frames := 1, cells := 0, slots := 0, locals := 24 })).room.frames ∧ 24 ≤ (headSpec wsP_anyFits ({ frames := 1, cells := 0, slots := 0, locals := 24 })).room.locals := ⟨Nat.le_refl _, Nat.le_refl _⟩
  have hcs : 0 ≤ (headSpec wsP_anyFits ({ frames := 1, cells := 0, slots := 0, locals := 24 })).room.cells ∧ 0 ≤ (headSpec wsP_anyFits ({ frames := 1, cells := 0, slots := 0, locals := 24 })).room.slots := ⟨Nat.zero_le _, Nat.zero_le _⟩
  have hn := hB.1
  have hco := hB.2.1
  have hbi := hB.2.2
  have hl := lv_entry ([.ref (q 0), .int (nI w), .long (lN h)]) (n := 5) (Nat.le_of_ble_eq_true rfl)
  rw [lg_entry_eq]
  generalize (lg_sl ([.ref (q 0), .int (nI w), .long (lN h)]) ++ List.replicate (5 - (lg_sl ([.ref (q 0), .int (nI w), .long (lN h)])).length) Slot.unset).toArray = ls at hl ⊢
  have hl : lv_has ls 5 [(0, .ref (q 0)), (1, .int (nI w)), (2, .long (lN h))] := hl
  refine rn_iconst hx hb 0 dP_anyFits_0 (by decide) ?_
  refine lv_istore (lv' := [(4, .int (nI 0)), (0, .ref (q 0)), (1, .int (nI w)), (2, .long (lN h))]) hx hb dP_anyFits_1 hl (by decide) rfl (fun ls hl => ?_)
  refine lp_P_anyFits q bg en sc wd ht oh bt co n w h hB hw hh hx hb hml hown hts hK hP hE (by first | exact hR | exact ⟨Nat.le_trans (by decide) hR.1, Nat.le_trans (by decide) hR.2⟩) hcs (fun i hi ha hx0 ls hl => ?_) (fun i hi ha hx0 hx1 ls hl => ?_) ((n - 0) + 1) 0 (by omega) (rfl) (by omega) ls (lv_sub hl [1, 2, 3, 0] rfl)
  · refine rn_iconst hx hb 0 dP_anyFits_31 (by decide) ?_
    exact W.zret hx hb hr rfl (fun t ht hW => ⟨_, rfl, (by first | (rw [afB_le hx1 n hx0]; rfl) | (rw [show n = i from (by omega), ha]; rfl)), ht⟩) (fun _ h9 => nomatch h9) dP_anyFits_32
  · refine rn_iconst hx hb 1 dP_anyFits_23 (by decide) ?_
    exact W.zret hx hb hr rfl (fun t ht hW => ⟨_, rfl, (by first | (rw [afB_le hx1 n hx0]; rfl) | (rw [show n = i from (by omega), ha]; rfl)), ht⟩) (fun _ h9 => nomatch h9) dP_anyFits_24

set_option maxHeartbeats 4000000 in
set_option maxRecDepth 100000 in
theorem lp_P_end {p : Program} {l : Launch} {e : Env} {R : Room} {s : State} {m : MethodId} {args : Array Value} {below : List Frame} {meth : Method} {c : Code} {H : Heap} {locs : List Loc} {cells slots : Nat} {Q : State → Prop} {dC : Nat → ClassId} {dI : Nat → Nat → Nat} {cI cJ cZ : ClassId} (q : Nat → Nat) (bg en sc wd ht oh bt : Nat → Nat) (co n : Nat) (i m0 : Nat) (hB : bP bg en sc wd ht oh bt co n) (hi : i < 40) (hm0 : m0 < 2305843009213693952) (hx : p.tables.exec = Jvm.exec) (hb : c.code = cP_endWhenUsedFrom) (hml : c.maxLocals = 8) (hown : s.vm.findClass nP = some m.cls) (hts : ∀ w ∈ wsP_endWhenUsedFrom, w.before args s = true) (hK : va_K (dC, dI) vwCl (tyE cI cJ cZ) s) (hP : va_P (dC, dI) vwCl (wP cI cJ cZ q bg en sc wd ht oh bt co n) H) (hE : EV s) (hR : 1 ≤ R.frames ∧ 22 ≤ R.locals) (hcs : cells ≤ R.cells ∧ slots ≤ R.slots)
    (kx0 : ∀ (hr0 : Nat) (h1 : m0 / 3600 ≤ hr0) (h2 : hr0 ≤ m0 / 3600 + 24) (h3 : ew (oh i) (sc i) m0 = ewL (oh i) (sc i) m0 (m0 / 3600 + 24 - hr0) hr0) (hx0 : m0 / 3600 + 24 ≤ hr0) (ls : Array Slot), lv_has ls 8 [(0, .ref (q 0)), (1, .int (nI i)), (2, .long (lN m0)), (4, .long (lN (m0 / 3600))), (6, .long (lN hr0))] → W p l e R s m args below meth c H locs cells slots Q (F0 m 69 ls []))
    (kx1 : ∀ (hr0 : Nat) (h1 : m0 / 3600 ≤ hr0) (h2 : hr0 ≤ m0 / 3600 + 24) (h3 : ew (oh i) (sc i) m0 = ewL (oh i) (sc i) m0 (m0 / 3600 + 24 - hr0) hr0) (hx0 : hr0 < m0 / 3600 + 24) (hx1 : (oh i).testBit (hr0 % 24) = true) (ls : Array Slot), lv_has ls 8 [(0, .ref (q 0)), (1, .int (nI i)), (2, .long (lN m0)), (4, .long (lN (m0 / 3600))), (6, .long (lN hr0))] → W p l e R s m args below meth c H locs cells slots Q (F0 m 42 ls []))
    : ∀ (fu : Nat) (hr0 : Nat) (h1 : m0 / 3600 ≤ hr0) (h2 : hr0 ≤ m0 / 3600 + 24) (h3 : ew (oh i) (sc i) m0 = ewL (oh i) (sc i) m0 (m0 / 3600 + 24 - hr0) hr0), m0 / 3600 + 24 - hr0 < fu → ∀ ls : Array Slot, lv_has ls 8 [(0, .ref (q 0)), (1, .int (nI i)), (2, .long (lN m0)), (4, .long (lN (m0 / 3600))), (6, .long (lN hr0))] → W p l e R s m args below meth c H locs cells slots Q (F0 m 11 ls []) := by
  have hg : ∀ w ∈ gw, w.before args s = true := fun w h => hts w (List.mem_cons_of_mem _ h)
  have hn := hB.1
  have hco := hB.2.1
  have hbi := hB.2.2
  have bi := hbi i
  have hdv : m0 / 3600 * 3600 ≤ m0 := Nat.div_mul_le_self m0 3600
  intro fu
  induction fu with
  | zero => intro hr0 h1 h2 h3 h0; exact absurd h0 (Nat.not_lt_zero _)
  | succ fu ih =>
    intro hr0 h1 h2 h3 hfu ls hl
    refine lv_lload hx hb dP_endWhenUsedFrom_11 (lv_at hl 4 rfl) ?_
    refine lv_lload hx hb dP_endWhenUsedFrom_13 (lv_at hl 3 rfl) ?_
    refine lv_ldc2 (v := 24) hx hb hown (hg _ kP_70) dP_endWhenUsedFrom_15 ?_
    refine tp_l (y := lN 24) rfl ?_
    refine rn_ladd hx hb dP_endWhenUsedFrom_18 ?_
    refine rn_lcmp_ge (tgt := 69) hx hb dP_endWhenUsedFrom_19 dP_endWhenUsedFrom_20 (by decide) (by omega) (by omega) (fun c20 => ?_) (fun c20 => ?_)
    · exact kx0 hr0 h1 h2 h3 (by omega) ls (lv_sub hl [0, 1, 2, 3, 4] rfl)
    · refine lv_aload_n hx hb dP_endWhenUsedFrom_23 rfl (lv_at hl 0 rfl) ?_
      refine va_get (D := (dC, dI)) (ci := 1) (v := .ref (q 6)) (C := nP) (T := TP) (N := 9) hx hb hg inP hown hK hP 0 rfl rfl 5 (by decide) (hg _ kP_28) (fun _ h9 => h9) rfl dP_endWhenUsedFrom_24 ?_
      refine lv_iload_n hx hb dP_endWhenUsedFrom_27 rfl (lv_at hl 1 rfl) ?_
      refine ga_l (f := oh) hx hb hK hP 6 1 rfl rfl (by omega) (by decide) dP_endWhenUsedFrom_28 ?_
      refine lv_lload hx hb dP_endWhenUsedFrom_29 (lv_at hl 4 rfl) ?_
      refine lv_ldc2 (v := 24) hx hb hown (hg _ kP_70) dP_endWhenUsedFrom_31 ?_
      refine tp_l (y := lN 24) rfl ?_
      refine rn_lrem hx hb dP_endWhenUsedFrom_34 (by omega) (by omega) (by omega) ?_
      refine rn_l2i hx hb dP_endWhenUsedFrom_35 ?_
      refine cpN_i (As := [.long (lN (oh i)), .int (nI (hr0 % 24))]) (rest := []) (post := fun r : Int32 => r = bI ((oh i).testBit (hr0 % 24))) ⟨hx, hb, hml, hown, hts⟩ (ct_G_hasBit l dC dI cI cJ cZ (oh i) (hr0 % 24) (by omega) (by omega)) ⟨va_cnB 2 hts (gi kc_G_hasBit) rfl rfl rfl (hE _ kNP_42) (hg _ kin_G) (by decide +kernel) ⟨Nat.le_trans (by decide) hR.1, Nat.le_trans (by decide) hR.2⟩, hg _ ks_G_hasBit, trivial⟩ (hP.sub (ws' := []) [] rfl) hK hE rfl hl.1 rfl (Nat.le_of_ble_eq_true rfl) dP_endWhenUsedFrom_36 hcs (fun r hr => ?_)
      subst hr
      refine rb_eq (tgt := 60) hx hb dP_endWhenUsedFrom_39 (by decide) (fun c39 => ?_) (fun c39 => ?_)
      · refine lv_lload hx hb dP_endWhenUsedFrom_60 (lv_at hl 4 rfl) ?_
        refine rn_lconst hx hb 1 dP_endWhenUsedFrom_62 rfl ?_
        refine rn_ladd hx hb dP_endWhenUsedFrom_63 ?_
        refine lv_lstore (lv' := [(6, .long (lN (hr0 + 1))), (0, .ref (q 0)), (1, .int (nI i)), (2, .long (lN m0)), (4, .long (lN (m0 / 3600)))]) hx hb dP_endWhenUsedFrom_64 hl (by decide) rfl (fun ls hl => ?_)
        refine lv_goto (tgt := 11) hx hb dP_endWhenUsedFrom_66 (by decide) ?_
        exact ih (hr0 + 1) (by omega) (by omega) (by rw [h3, show m0 / 3600 + 24 - hr0 = (m0 / 3600 + 24 - (hr0 + 1)) + 1 by omega]; simp only [ewL]; rw [if_neg (by simp_all)]) (by omega) ls (lv_sub hl [1, 2, 3, 4, 0] rfl)
      · exact kx1 hr0 h1 h2 h3 (by omega) (by assumption) ls (lv_sub hl [0, 1, 2, 3, 4] rfl)

set_option maxHeartbeats 4000000 in
set_option maxRecDepth 100000 in
theorem ct_P_endWhenUsedFrom (l : Launch) (dC : Nat → ClassId) (dI : Nat → Nat → Nat) (cI cJ cZ : ClassId) (q : Nat → Nat) (bg en sc wd ht oh bt : Nat → Nat) (co n : Nat) (i m0 : Nat) (hB : bP bg en sc wd ht oh bt co n) (hi : i < 40) (hm0 : m0 < 2305843009213693952) : Met l yP_endWhenUsedFrom wsP_endWhenUsedFrom ({ frames := 1, cells := 0, slots := 0, locals := 23 }) (PcR (dC, dI) (wP cI cJ cZ q bg en sc wd ht oh bt co n) (tyE cI cJ cZ) [.ref (q 0), .int (nI i), .long (lN m0)]) (vp_Sl (fun r => r = lN (ew (oh i) (sc i) m0))) 0 0 (fun _ => False) := by
  refine Met.ofW (cc := cP_endWhenUsedFrom) (maxL := 8) (ret := (some .long)) (by decide) rfl ?_
  intro p e s m args below meth c s₁ B hml hv
  obtain ⟨rfl, hP, hK, hE⟩ := hv
  have hx := B.exec
  have hb := B.bytes
  have hr := B.returns
  have hts := atoms_spec (ws := wsP_endWhenUsedFrom) B.pre
  have hg : ∀ w ∈ gw, w.before _ s = true := fun w h => hts w (List.mem_cons_of_mem _ h)
  have hown : s.vm.findClass nP = some m.cls := findClass_of_methodNamed B.named
  have hlocks := B.notSynchronized
  have hR : 1 ≤ (headSpec wsP_endWhenUsedFrom ({ frames := 1, cells := 0, slots := 0, locals := 23 })).room.frames ∧ 23 ≤ (headSpec wsP_endWhenUsedFrom ({ frames := 1, cells := 0, slots := 0, locals := 23 })).room.locals := ⟨Nat.le_refl _, Nat.le_refl _⟩
  have hcs : 0 ≤ (headSpec wsP_endWhenUsedFrom ({ frames := 1, cells := 0, slots := 0, locals := 23 })).room.cells ∧ 0 ≤ (headSpec wsP_endWhenUsedFrom ({ frames := 1, cells := 0, slots := 0, locals := 23 })).room.slots := ⟨Nat.zero_le _, Nat.zero_le _⟩
  have hn := hB.1
  have hco := hB.2.1
  have hbi := hB.2.2
  have bi := hbi i
  have hdv : m0 / 3600 * 3600 ≤ m0 := Nat.div_mul_le_self m0 3600
  have hl := lv_entry ([.ref (q 0), .int (nI i), .long (lN m0)]) (n := 8) (Nat.le_of_ble_eq_true rfl)
  rw [lg_entry_eq]
  generalize (lg_sl ([.ref (q 0), .int (nI i), .long (lN m0)]) ++ List.replicate (8 - (lg_sl ([.ref (q 0), .int (nI i), .long (lN m0)])).length) Slot.unset).toArray = ls at hl ⊢
  have hl : lv_has ls 8 [(0, .ref (q 0)), (1, .int (nI i)), (2, .long (lN m0))] := hl
  refine lv_lload_n hx hb dP_endWhenUsedFrom_0 rfl (lv_at hl 2 rfl) ?_
  refine lv_ldc2 (v := 3600) hx hb hown (hg _ kP_68) dP_endWhenUsedFrom_1 ?_
  refine tp_l (y := lN 3600) rfl ?_
  refine rn_ldiv hx hb dP_endWhenUsedFrom_4 (by omega) (by omega) (by omega) ?_
  refine lv_lstore (lv' := [(4, .long (lN (m0 / 3600))), (0, .ref (q 0)), (1, .int (nI i)), (2, .long (lN m0))]) hx hb dP_endWhenUsedFrom_5 hl (by decide) rfl (fun ls hl => ?_)
  refine lv_lload hx hb dP_endWhenUsedFrom_7 (lv_at hl 0 rfl) ?_
  refine lv_lstore (lv' := [(6, .long (lN (m0 / 3600))), (4, .long (lN (m0 / 3600))), (0, .ref (q 0)), (1, .int (nI i)), (2, .long (lN m0))]) hx hb dP_endWhenUsedFrom_9 hl (by decide) rfl (fun ls hl => ?_)
  refine lp_P_end q bg en sc wd ht oh bt co n i m0 hB hi hm0 hx hb hml hown hts hK hP hE (by first | exact hR | exact ⟨Nat.le_trans (by decide) hR.1, Nat.le_trans (by decide) hR.2⟩) hcs (fun hr0 h1 h2 h3 hx0 ls hl => ?_) (fun hr0 h1 h2 h3 hx0 hx1 ls hl => ?_) ((m0 / 3600 + 24 - (m0 / 3600)) + 1) (m0 / 3600) (by omega) (by omega) (by rw [show m0 / 3600 + 24 - m0 / 3600 = 24 by omega]; rfl) (by omega) ls (lv_sub hl [2, 3, 4, 1, 0] rfl)
  · refine lv_ldc2 (v := 1152921504606846976) hx hb hown (hg _ kP_78) dP_endWhenUsedFrom_69 ?_
    refine tp_l (y := lN 1152921504606846976) rfl ?_
    exact W.lret hx hb hr (fun t ht hW => ⟨_, rfl, (by first | (show lN _ = lN _; rw [h3, show m0 / 3600 + 24 - hr0 = (m0 / 3600 + 24 - (hr0 + 1)) + 1 by omega]; simp only [ewL]; rw [if_pos hx1]; done) | (show lN _ = lN _; rw [h3, show m0 / 3600 + 24 - hr0 = 0 by omega]; rfl)), ht⟩) (fun _ h9 => nomatch h9) dP_endWhenUsedFrom_72
  · refine lv_lload_n hx hb dP_endWhenUsedFrom_42 rfl (lv_at hl 2 rfl) ?_
    refine lv_lload hx hb dP_endWhenUsedFrom_43 (lv_at hl 4 rfl) ?_
    refine lv_ldc2 (v := 3600) hx hb hown (hg _ kP_68) dP_endWhenUsedFrom_45 ?_
    refine tp_l (y := lN 3600) rfl ?_
    refine rn_lmul hx hb dP_endWhenUsedFrom_48 ?_
    refine cpS_l (As := [.long (lN m0), .long (lN (hr0 * 3600))]) (rest := []) (post := fun r : Int64 => r = lN (max m0 (hr0 * 3600))) ⟨hx, hb, hml, hown, hts⟩ (ct_JM_max_J l dC dI cI cJ cZ m0 (hr0 * 3600) (by omega) (by omega)) (va_cwS 2 hts (gs kP_72 ks_JM_max_J kin_JM kc_JM_max_J) rfl rfl rfl (by decide +kernel) ⟨Nat.le_trans (by decide) hR.1, Nat.le_trans (by decide) hR.2⟩) (hP.sub (ws' := []) [] rfl) hK hE rfl hl.1 rfl (Nat.le_of_ble_eq_true rfl) dP_endWhenUsedFrom_49 hcs (fun r hr => ?_)
    subst hr
    refine lv_aload_n hx hb dP_endWhenUsedFrom_52 rfl (lv_at hl 0 rfl) ?_
    refine va_get (D := (dC, dI)) (ci := 1) (v := .ref (q 3)) (C := nP) (T := TP) (N := 9) hx hb hg inP hown hK hP 0 rfl rfl 2 (by decide) (hg _ kP_18) (fun _ h9 => h9) rfl dP_endWhenUsedFrom_53 ?_
    refine lv_iload_n hx hb dP_endWhenUsedFrom_56 rfl (lv_at hl 1 rfl) ?_
    refine ga_l (f := sc) hx hb hK hP 3 1 rfl rfl (by omega) (by decide) dP_endWhenUsedFrom_57 ?_
    refine rn_ladd hx hb dP_endWhenUsedFrom_58 ?_
    exact W.lret hx hb hr (fun t ht hW => ⟨_, rfl, (by first | (show lN _ = lN _; rw [h3, show m0 / 3600 + 24 - hr0 = (m0 / 3600 + 24 - (hr0 + 1)) + 1 by omega]; simp only [ewL]; rw [if_pos hx1]; done) | (show lN _ = lN _; rw [h3, show m0 / 3600 + 24 - hr0 = 0 by omega]; rfl)), ht⟩) (fun _ h9 => nomatch h9) dP_endWhenUsedFrom_59

def usB (wd ht oh : Nat → Nat) (co w h k : Nat) : Bool := decide (oh k ≠ 0) && !co.testBit k && decide (w ≤ wd k ∧ h ≤ ht k)
theorem us_0 {wd ht oh : Nat → Nat} {co w h k : Nat} (c : oh k = 0) : usB wd ht oh co w h k = false := by simp [usB, c]
theorem us_1 {wd ht oh : Nat → Nat} {co w h k : Nat} (c : co.testBit k = true) : usB wd ht oh co w h k = false := by simp [usB, c]
theorem us_2 {wd ht oh : Nat → Nat} {co w h k : Nat} (c : decide (w ≤ wd k ∧ h ≤ ht k) = false) : usB wd ht oh co w h k = false := by rw [usB, c]; simp
theorem us_3 {wd ht oh : Nat → Nat} {co w h k : Nat} (c1 : ¬ oh k = 0) (c2 : co.testBit k = false) (c3 : decide (w ≤ wd k ∧ h ≤ ht k) = true) : usB wd ht oh co w h k = true := by rw [usB, c3, c2]; simp [c1]
def uM (wd ht oh : Nat → Nat) (co w h : Nat) : Nat → Nat
  | 0 => 0
  | k + 1 => sB (uM wd ht oh co w h k) k (usB wd ht oh co w h k)
theorem uM_ok (wd ht oh : Nat → Nat) (co w h : Nat) : ∀ k, k ≤ 40 → uM wd ht oh co w h k < 1099511627776 ∧ ∀ j, (uM wd ht oh co w h k).testBit j = (decide (j < k) && usB wd ht oh co w h j) := by
  intro k
  induction k with
  | zero => intro _; exact ⟨(show 0 < 1099511627776 by decide), fun j => by simp [uM]⟩
  | succ k ih =>
    intro hk
    obtain ⟨h1, h2⟩ := ih (by omega)
    refine ⟨sB_lt (w := 40) _ h1 (by omega), fun j => ?_⟩
    show (sB (uM wd ht oh co w h k) k (usB wd ht oh co w h k)).testBit j = _
    rw [sB_tb _ (by omega) (by omega), h2]
    by_cases e : j = k
    · subst e; simp
    · by_cases e2 : j < k
      · simp [e, e2, show j < k + 1 by omega]
      · simp [e, e2, show ¬ j < k + 1 by omega]

set_option maxHeartbeats 4000000 in
set_option maxRecDepth 100000 in
theorem lp_P_usableBy {p : Program} {l : Launch} {e : Env} {R : Room} {s : State} {m : MethodId} {args : Array Value} {below : List Frame} {meth : Method} {c : Code} {H : Heap} {locs : List Loc} {cells slots : Nat} {Q : State → Prop} {dC : Nat → ClassId} {dI : Nat → Nat → Nat} {cI cJ cZ : ClassId} (q : Nat → Nat) (bg en sc wd ht oh bt : Nat → Nat) (co n : Nat) (w h : Nat) (hB : bP bg en sc wd ht oh bt co n) (hw : w ≤ 10000) (hh : h ≤ 10000) (hx : p.tables.exec = Jvm.exec) (hb : c.code = cP_usableBy) (hml : c.maxLocals = 8) (hown : s.vm.findClass nP = some m.cls) (hts : ∀ w ∈ wsP_usableBy, w.before args s = true) (hK : va_K (dC, dI) vwCl (tyE cI cJ cZ) s) (hP : va_P (dC, dI) vwCl (wP cI cJ cZ q bg en sc wd ht oh bt co n) H) (hE : EV s) (hR : 1 ≤ R.frames ∧ 25 ≤ R.locals) (hcs : cells ≤ R.cells ∧ slots ≤ R.slots)
    (kx0 : ∀ (i : Nat) (u : Nat) (hi : i ≤ n) (hu : u = uM wd ht oh co w h i) (hx0 : n ≤ i) (ls : Array Slot), lv_has ls 8 [(0, .ref (q 0)), (1, .int (nI w)), (2, .long (lN h)), (4, .long (lN u)), (6, .int (nI i))] → W p l e R s m args below meth c H locs cells slots Q (F0 m 82 ls []))
    : ∀ (fu : Nat) (i : Nat) (u : Nat) (hi : i ≤ n) (hu : u = uM wd ht oh co w h i), n - i < fu → ∀ ls : Array Slot, lv_has ls 8 [(0, .ref (q 0)), (1, .int (nI w)), (2, .long (lN h)), (4, .long (lN u)), (6, .int (nI i))] → W p l e R s m args below meth c H locs cells slots Q (F0 m 6 ls []) := by
  have hg : ∀ w ∈ gw, w.before args s = true := fun w h => hts w (List.mem_cons_of_mem _ h)
  have hn := hB.1
  have hco := hB.2.1
  have hbi := hB.2.2
  intro fu
  induction fu with
  | zero => intro i u hi hu h0; exact absurd h0 (Nat.not_lt_zero _)
  | succ fu ih =>
    intro i u hi hu hfu ls hl
    refine lv_iload hx hb dP_usableBy_6 (lv_at hl 4 rfl) ?_
    refine lv_aload_n hx hb dP_usableBy_8 rfl (lv_at hl 0 rfl) ?_
    refine va_get (D := (dC, dI)) (ci := 1) (v := .int (nI n)) (C := nP) (T := TP) (N := 9) hx hb hg inP hown hK hP 0 rfl rfl 8 (by decide) (hg _ kP_34) (fun _ h9 => h9) rfl dP_usableBy_9 ?_
    refine rn_icmp_ge (tgt := 82) hx hb dP_usableBy_12 (by decide) (by omega) (by omega) (fun c12 => ?_) (fun c12 => ?_)
    · exact kx0 i u hi hu (by omega) ls (lv_sub hl [0, 1, 2, 3, 4] rfl)
    · have bi := hbi i
      have hub := (uM_ok wd ht oh co w h i (by omega)).1
      rw [← hu] at hub
      refine lv_aload_n hx hb dP_usableBy_15 rfl (lv_at hl 0 rfl) ?_
      refine va_get (D := (dC, dI)) (ci := 1) (v := .ref (q 6)) (C := nP) (T := TP) (N := 9) hx hb hg inP hown hK hP 0 rfl rfl 5 (by decide) (hg _ kP_28) (fun _ h9 => h9) rfl dP_usableBy_16 ?_
      refine lv_iload hx hb dP_usableBy_19 (lv_at hl 4 rfl) ?_
      refine ga_l (f := oh) hx hb hK hP 6 1 rfl rfl (by omega) (by decide) dP_usableBy_21 ?_
      refine rn_lconst hx hb 0 dP_usableBy_22 rfl ?_
      refine rn_lcmp_eq (tgt := 43) hx hb dP_usableBy_23 dP_usableBy_24 (by decide) (by omega) (by omega) (fun c24 => ?_) (fun c24 => ?_)
      · refine rn_iconst hx hb 0 dP_usableBy_43 (by decide) ?_
        refine lv_istore (lv' := [(7, .int (nI 0)), (0, .ref (q 0)), (1, .int (nI w)), (2, .long (lN h)), (4, .long (lN u)), (6, .int (nI i))]) hx hb dP_usableBy_44 hl (by decide) rfl (fun ls hl => ?_)
        refine lv_lload hx hb dP_usableBy_46 (lv_at hl 4 rfl) ?_
        refine lv_iload hx hb dP_usableBy_48 (lv_at hl 5 rfl) ?_
        refine lv_iload hx hb dP_usableBy_50 (lv_at hl 0 rfl) ?_
        refine lv_if_eq (tgt := 70) hx hb dP_usableBy_52 (by decide) (fun c52 => ?_) (fun c52 => absurd c52 (by decide))
        refine rn_iconst hx hb 0 dP_usableBy_70 (by decide) ?_
        refine cpN_l (As := [.long (lN u), .int (nI i), .int (bI false)]) (rest := []) (post := fun r : Int64 => r = lN (sB u i false)) ⟨hx, hb, hml, hown, hts⟩ (ct_G_withBit l dC dI cI cJ cZ u i false (by omega) (by omega)) ⟨va_cnB 3 hts (gi kc_G_withBit) rfl rfl rfl (hE _ kNP_60) (hg _ kin_G) (by decide +kernel) ⟨Nat.le_trans (by decide) hR.1, Nat.le_trans (by decide) hR.2⟩, hg _ ks_G_withBit, trivial⟩ (hP.sub (ws' := []) [] rfl) hK hE rfl hl.1 rfl (Nat.le_of_ble_eq_true rfl) dP_usableBy_71 hcs (fun r hr => ?_)
        subst hr
        refine lv_lstore (lv' := [(4, .long (lN (sB u i false))), (7, .int (nI 0)), (0, .ref (q 0)), (1, .int (nI w)), (2, .long (lN h)), (6, .int (nI i))]) hx hb dP_usableBy_74 hl (by decide) rfl (fun ls hl => ?_)
        refine rn_iinc (lv' := [(6, .int (nI (i + 1))), (4, .long (lN (sB u i false))), (7, .int (nI 0)), (0, .ref (q 0)), (1, .int (nI w)), (2, .long (lN h))]) hx hb dP_usableBy_76 hl (k := 5) rfl (by decide) rfl (fun ls hl => ?_)
        refine lv_goto (tgt := 6) hx hb dP_usableBy_79 (by decide) ?_
        exact ih (i + 1) (sB u i false) (by omega) (by rw [hu]; show sB _ i _ = sB _ i (usB wd ht oh co w h i); first | rw [us_0 c24] | rw [us_1 c36] | rw [us_2 c63] | rw [us_3 c24 c36 c63]) (by omega) ls (lv_sub hl [3, 4, 5, 1, 0] rfl)
      · refine lv_aload_n hx hb dP_usableBy_27 rfl (lv_at hl 0 rfl) ?_
        refine va_get (D := (dC, dI)) (ci := 1) (v := .long (lN co)) (C := nP) (T := TP) (N := 9) hx hb hg inP hown hK hP 0 rfl rfl 7 (by decide) (hg _ kP_56) (fun _ h9 => h9) rfl dP_usableBy_28 ?_
        refine lv_iload hx hb dP_usableBy_31 (lv_at hl 4 rfl) ?_
        refine cpN_i (As := [.long (lN co), .int (nI i)]) (rest := []) (post := fun r : Int32 => r = bI (co.testBit i)) ⟨hx, hb, hml, hown, hts⟩ (ct_G_hasBit l dC dI cI cJ cZ co i (by omega) (by omega)) ⟨va_cnB 2 hts (gi kc_G_hasBit) rfl rfl rfl (hE _ kNP_42) (hg _ kin_G) (by decide +kernel) ⟨Nat.le_trans (by decide) hR.1, Nat.le_trans (by decide) hR.2⟩, hg _ ks_G_hasBit, trivial⟩ (hP.sub (ws' := []) [] rfl) hK hE rfl hl.1 rfl (Nat.le_of_ble_eq_true rfl) dP_usableBy_33 hcs (fun r hr => ?_)
        subst hr
        refine rb_ne (tgt := 43) hx hb dP_usableBy_36 (by decide) (fun c36 => ?_) (fun c36 => ?_)
        · refine rn_iconst hx hb 0 dP_usableBy_43 (by decide) ?_
          refine lv_istore (lv' := [(7, .int (nI 0)), (0, .ref (q 0)), (1, .int (nI w)), (2, .long (lN h)), (4, .long (lN u)), (6, .int (nI i))]) hx hb dP_usableBy_44 hl (by decide) rfl (fun ls hl => ?_)
          refine lv_lload hx hb dP_usableBy_46 (lv_at hl 4 rfl) ?_
          refine lv_iload hx hb dP_usableBy_48 (lv_at hl 5 rfl) ?_
          refine lv_iload hx hb dP_usableBy_50 (lv_at hl 0 rfl) ?_
          refine lv_if_eq (tgt := 70) hx hb dP_usableBy_52 (by decide) (fun c52 => ?_) (fun c52 => absurd c52 (by decide))
          refine rn_iconst hx hb 0 dP_usableBy_70 (by decide) ?_
          refine cpN_l (As := [.long (lN u), .int (nI i), .int (bI false)]) (rest := []) (post := fun r : Int64 => r = lN (sB u i false)) ⟨hx, hb, hml, hown, hts⟩ (ct_G_withBit l dC dI cI cJ cZ u i false (by omega) (by omega)) ⟨va_cnB 3 hts (gi kc_G_withBit) rfl rfl rfl (hE _ kNP_60) (hg _ kin_G) (by decide +kernel) ⟨Nat.le_trans (by decide) hR.1, Nat.le_trans (by decide) hR.2⟩, hg _ ks_G_withBit, trivial⟩ (hP.sub (ws' := []) [] rfl) hK hE rfl hl.1 rfl (Nat.le_of_ble_eq_true rfl) dP_usableBy_71 hcs (fun r hr => ?_)
          subst hr
          refine lv_lstore (lv' := [(4, .long (lN (sB u i false))), (7, .int (nI 0)), (0, .ref (q 0)), (1, .int (nI w)), (2, .long (lN h)), (6, .int (nI i))]) hx hb dP_usableBy_74 hl (by decide) rfl (fun ls hl => ?_)
          refine rn_iinc (lv' := [(6, .int (nI (i + 1))), (4, .long (lN (sB u i false))), (7, .int (nI 0)), (0, .ref (q 0)), (1, .int (nI w)), (2, .long (lN h))]) hx hb dP_usableBy_76 hl (k := 5) rfl (by decide) rfl (fun ls hl => ?_)
          refine lv_goto (tgt := 6) hx hb dP_usableBy_79 (by decide) ?_
          exact ih (i + 1) (sB u i false) (by omega) (by rw [hu]; show sB _ i _ = sB _ i (usB wd ht oh co w h i); first | rw [us_0 c24] | rw [us_1 c36] | rw [us_2 c63] | rw [us_3 c24 c36 c63]) (by omega) ls (lv_sub hl [3, 4, 5, 1, 0] rfl)
        · refine rn_iconst hx hb 1 dP_usableBy_39 (by decide) ?_
          refine lv_goto (tgt := 44) hx hb dP_usableBy_40 (by decide) ?_
          refine lv_istore (lv' := [(7, .int (nI 1)), (0, .ref (q 0)), (1, .int (nI w)), (2, .long (lN h)), (4, .long (lN u)), (6, .int (nI i))]) hx hb dP_usableBy_44 hl (by decide) rfl (fun ls hl => ?_)
          refine lv_lload hx hb dP_usableBy_46 (lv_at hl 4 rfl) ?_
          refine lv_iload hx hb dP_usableBy_48 (lv_at hl 5 rfl) ?_
          refine lv_iload hx hb dP_usableBy_50 (lv_at hl 0 rfl) ?_
          refine lv_if_eq (tgt := 70) hx hb dP_usableBy_52 (by decide) (fun c52 => absurd c52 (by decide)) (fun c52 => ?_)
          refine lv_aload_n hx hb dP_usableBy_55 rfl (lv_at hl 1 rfl) ?_
          refine lv_iload hx hb dP_usableBy_56 (lv_at hl 5 rfl) ?_
          refine lv_iload_n hx hb dP_usableBy_58 rfl (lv_at hl 2 rfl) ?_
          refine lv_lload_n hx hb dP_usableBy_59 rfl (lv_at hl 3 rfl) ?_
          refine cpV_i (b := (q 0)) (C := nP) (As := [.int (nI i), .int (nI w), .long (lN h)]) (rest := [.int (nI i), .long (lN u)]) (post := fun r : Int32 => r = bI (decide (w ≤ wd i ∧ h ≤ ht i))) ⟨hx, hb, hml, hown, hts⟩ (ct_P_fits l dC dI cI cJ cZ q bg en sc wd ht oh bt co n i w h (hB) (by omega) (hw) (hh)) (cwV 3 hts (gv kP_52 ki_P_fits ksel_P_fits kin_P kc_P_fits) rfl rfl rfl (by decide +kernel) ⟨Nat.le_trans (by decide) hR.1, Nat.le_trans (by decide) hR.2⟩) (va_recv hK hP (ci := 1) (q0 := 0) rfl rfl) hP hK hE rfl hl.1 rfl (Nat.le_of_ble_eq_true rfl) dP_usableBy_60 hcs (fun r hr => ?_)
          subst hr
          refine rb_eq (tgt := 70) hx hb dP_usableBy_63 (by decide) (fun c63 => ?_) (fun c63 => ?_)
          · refine rn_iconst hx hb 0 dP_usableBy_70 (by decide) ?_
            refine cpN_l (As := [.long (lN u), .int (nI i), .int (bI false)]) (rest := []) (post := fun r : Int64 => r = lN (sB u i false)) ⟨hx, hb, hml, hown, hts⟩ (ct_G_withBit l dC dI cI cJ cZ u i false (by omega) (by omega)) ⟨va_cnB 3 hts (gi kc_G_withBit) rfl rfl rfl (hE _ kNP_60) (hg _ kin_G) (by decide +kernel) ⟨Nat.le_trans (by decide) hR.1, Nat.le_trans (by decide) hR.2⟩, hg _ ks_G_withBit, trivial⟩ (hP.sub (ws' := []) [] rfl) hK hE rfl hl.1 rfl (Nat.le_of_ble_eq_true rfl) dP_usableBy_71 hcs (fun r hr => ?_)
            subst hr
            refine lv_lstore (lv' := [(4, .long (lN (sB u i false))), (7, .int (nI 1)), (0, .ref (q 0)), (1, .int (nI w)), (2, .long (lN h)), (6, .int (nI i))]) hx hb dP_usableBy_74 hl (by decide) rfl (fun ls hl => ?_)
            refine rn_iinc (lv' := [(6, .int (nI (i + 1))), (4, .long (lN (sB u i false))), (7, .int (nI 1)), (0, .ref (q 0)), (1, .int (nI w)), (2, .long (lN h))]) hx hb dP_usableBy_76 hl (k := 5) rfl (by decide) rfl (fun ls hl => ?_)
            refine lv_goto (tgt := 6) hx hb dP_usableBy_79 (by decide) ?_
            exact ih (i + 1) (sB u i false) (by omega) (by rw [hu]; show sB _ i _ = sB _ i (usB wd ht oh co w h i); first | rw [us_0 c24] | rw [us_1 c36] | rw [us_2 c63] | rw [us_3 c24 c36 c63]) (by omega) ls (lv_sub hl [3, 4, 5, 1, 0] rfl)
          · refine rn_iconst hx hb 1 dP_usableBy_66 (by decide) ?_
            refine lv_goto (tgt := 71) hx hb dP_usableBy_67 (by decide) ?_
            refine cpN_l (As := [.long (lN u), .int (nI i), .int (bI true)]) (rest := []) (post := fun r : Int64 => r = lN (sB u i true)) ⟨hx, hb, hml, hown, hts⟩ (ct_G_withBit l dC dI cI cJ cZ u i true (by omega) (by omega)) ⟨va_cnB 3 hts (gi kc_G_withBit) rfl rfl rfl (hE _ kNP_60) (hg _ kin_G) (by decide +kernel) ⟨Nat.le_trans (by decide) hR.1, Nat.le_trans (by decide) hR.2⟩, hg _ ks_G_withBit, trivial⟩ (hP.sub (ws' := []) [] rfl) hK hE rfl hl.1 rfl (Nat.le_of_ble_eq_true rfl) dP_usableBy_71 hcs (fun r hr => ?_)
            subst hr
            refine lv_lstore (lv' := [(4, .long (lN (sB u i true))), (7, .int (nI 1)), (0, .ref (q 0)), (1, .int (nI w)), (2, .long (lN h)), (6, .int (nI i))]) hx hb dP_usableBy_74 hl (by decide) rfl (fun ls hl => ?_)
            refine rn_iinc (lv' := [(6, .int (nI (i + 1))), (4, .long (lN (sB u i true))), (7, .int (nI 1)), (0, .ref (q 0)), (1, .int (nI w)), (2, .long (lN h))]) hx hb dP_usableBy_76 hl (k := 5) rfl (by decide) rfl (fun ls hl => ?_)
            refine lv_goto (tgt := 6) hx hb dP_usableBy_79 (by decide) ?_
            exact ih (i + 1) (sB u i true) (by omega) (by rw [hu]; show sB _ i _ = sB _ i (usB wd ht oh co w h i); first | rw [us_0 c24] | rw [us_1 c36] | rw [us_2 c63] | rw [us_3 c24 c36 c63]) (by omega) ls (lv_sub hl [3, 4, 5, 1, 0] rfl)

set_option maxHeartbeats 4000000 in
set_option maxRecDepth 100000 in
theorem ct_P_usableBy (l : Launch) (dC : Nat → ClassId) (dI : Nat → Nat → Nat) (cI cJ cZ : ClassId) (q : Nat → Nat) (bg en sc wd ht oh bt : Nat → Nat) (co n : Nat) (w h : Nat) (hB : bP bg en sc wd ht oh bt co n) (hw : w ≤ 10000) (hh : h ≤ 10000) : Met l yP_usableBy wsP_usableBy ({ frames := 1, cells := 0, slots := 0, locals := 25 }) (PcR (dC, dI) (wP cI cJ cZ q bg en sc wd ht oh bt co n) (tyE cI cJ cZ) [.ref (q 0), .int (nI w), .long (lN h)]) (vp_Sl (fun r => r = lN (uM wd ht oh co w h n))) 0 0 (fun _ => False) := by
  refine Met.ofW (cc := cP_usableBy) (maxL := 8) (ret := (some .long)) (by decide) rfl ?_
  intro p e s m args below meth c s₁ B hml hv
  obtain ⟨rfl, hP, hK, hE⟩ := hv
  have hx := B.exec
  have hb := B.bytes
  have hr := B.returns
  have hts := atoms_spec (ws := wsP_usableBy) B.pre
  have hg : ∀ w ∈ gw, w.before _ s = true := fun w h => hts w (List.mem_cons_of_mem _ h)
  have hown : s.vm.findClass nP = some m.cls := findClass_of_methodNamed B.named
  have hlocks := B.notSynchronized
  have hR : 1 ≤ (headSpec wsP_usableBy ({ frames := 1, cells := 0, slots := 0, locals := 25 })).room.frames ∧ 25 ≤ (headSpec wsP_usableBy ({ frames := 1, cells := 0, slots := 0, locals := 25 })).room.locals := ⟨Nat.le_refl _, Nat.le_refl _⟩
  have hcs : 0 ≤ (headSpec wsP_usableBy ({ frames := 1, cells := 0, slots := 0, locals := 25 })).room.cells ∧ 0 ≤ (headSpec wsP_usableBy ({ frames := 1, cells := 0, slots := 0, locals := 25 })).room.slots := ⟨Nat.zero_le _, Nat.zero_le _⟩
  have hn := hB.1
  have hco := hB.2.1
  have hbi := hB.2.2
  have hl := lv_entry ([.ref (q 0), .int (nI w), .long (lN h)]) (n := 8) (Nat.le_of_ble_eq_true rfl)
  rw [lg_entry_eq]
  generalize (lg_sl ([.ref (q 0), .int (nI w), .long (lN h)]) ++ List.replicate (8 - (lg_sl ([.ref (q 0), .int (nI w), .long (lN h)])).length) Slot.unset).toArray = ls at hl ⊢
  have hl : lv_has ls 8 [(0, .ref (q 0)), (1, .int (nI w)), (2, .long (lN h))] := hl
  refine rn_lconst hx hb 0 dP_usableBy_0 rfl ?_
  refine lv_lstore (lv' := [(4, .long (lN 0)), (0, .ref (q 0)), (1, .int (nI w)), (2, .long (lN h))]) hx hb dP_usableBy_1 hl (by decide) rfl (fun ls hl => ?_)
  refine rn_iconst hx hb 0 dP_usableBy_3 (by decide) ?_
  refine lv_istore (lv' := [(6, .int (nI 0)), (4, .long (lN 0)), (0, .ref (q 0)), (1, .int (nI w)), (2, .long (lN h))]) hx hb dP_usableBy_4 hl (by decide) rfl (fun ls hl => ?_)
  refine lp_P_usableBy q bg en sc wd ht oh bt co n w h hB hw hh hx hb hml hown hts hK hP hE (by first | exact hR | exact ⟨Nat.le_trans (by decide) hR.1, Nat.le_trans (by decide) hR.2⟩) hcs (fun i u hi hu hx0 ls hl => ?_) ((n - 0) + 1) 0 0 (by omega) (rfl) (by omega) ls (lv_sub hl [2, 3, 4, 1, 0] rfl)
  refine lv_lload hx hb dP_usableBy_82 (lv_at hl 3 rfl) ?_
  exact W.lret hx hb hr (fun t ht hW => ⟨_, rfl, (congrArg lN (by rw [hu, show n = i from by omega])), ht⟩) (fun _ h9 => nomatch h9) dP_usableBy_84

def cbN (bt : Nat → Nat) : Nat → Nat
  | 0 => 0
  | k + 1 => cbN bt k + pcn (bt k) 64

set_option maxHeartbeats 4000000 in
set_option maxRecDepth 100000 in
theorem lp_P_count {p : Program} {l : Launch} {e : Env} {R : Room} {s : State} {m : MethodId} {args : Array Value} {below : List Frame} {meth : Method} {c : Code} {H : Heap} {locs : List Loc} {cells slots : Nat} {Q : State → Prop} {dC : Nat → ClassId} {dI : Nat → Nat → Nat} {cI cJ cZ : ClassId} (q : Nat → Nat) (bg en sc wd ht oh bt : Nat → Nat) (co n : Nat) (hB : bP bg en sc wd ht oh bt co n) (hx : p.tables.exec = Jvm.exec) (hb : c.code = cP_countBarredTurns) (hml : c.maxLocals = 3) (hown : s.vm.findClass nP = some m.cls) (hts : ∀ w ∈ wsP_countBarredTurns, w.before args s = true) (hK : va_K (dC, dI) vwCl (tyE cI cJ cZ) s) (hP : va_P (dC, dI) vwCl (wP cI cJ cZ q bg en sc wd ht oh bt co n) H) (hE : EV s) (hR : 1 ≤ R.frames ∧ 21 ≤ R.locals) (hcs : cells ≤ R.cells ∧ slots ≤ R.slots)
    (kx0 : ∀ (i : Nat) (u : Nat) (hi : i ≤ n) (hu : u = cbN bt i) (hx0 : n ≤ i) (ls : Array Slot), lv_has ls 3 [(0, .ref (q 0)), (1, .int (nI u)), (2, .int (nI i))] → W p l e R s m args below meth c H locs cells slots Q (F0 m 30 ls []))
    : ∀ (fu : Nat) (i : Nat) (u : Nat) (hi : i ≤ n) (hu : u = cbN bt i), n - i < fu → ∀ ls : Array Slot, lv_has ls 3 [(0, .ref (q 0)), (1, .int (nI u)), (2, .int (nI i))] → W p l e R s m args below meth c H locs cells slots Q (F0 m 4 ls []) := by
  have hg : ∀ w ∈ gw, w.before args s = true := fun w h => hts w (List.mem_cons_of_mem _ h)
  have hn := hB.1
  have hco := hB.2.1
  have hbi := hB.2.2
  intro fu
  induction fu with
  | zero => intro i u hi hu h0; exact absurd h0 (Nat.not_lt_zero _)
  | succ fu ih =>
    intro i u hi hu hfu ls hl
    refine lv_iload_n hx hb dP_countBarredTurns_4 rfl (lv_at hl 2 rfl) ?_
    refine lv_aload_n hx hb dP_countBarredTurns_5 rfl (lv_at hl 0 rfl) ?_
    refine va_get (D := (dC, dI)) (ci := 1) (v := .int (nI n)) (C := nP) (T := TP) (N := 9) hx hb hg inP hown hK hP 0 rfl rfl 8 (by decide) (hg _ kP_34) (fun _ h9 => h9) rfl dP_countBarredTurns_6 ?_
    refine rn_icmp_ge (tgt := 30) hx hb dP_countBarredTurns_9 (by decide) (by omega) (by omega) (fun c9 => ?_) (fun c9 => ?_)
    · exact kx0 i u hi hu (by omega) ls (lv_sub hl [0, 1, 2] rfl)
    · have bi := hbi i
      refine lv_iload_n hx hb dP_countBarredTurns_12 rfl (lv_at hl 1 rfl) ?_
      refine lv_aload_n hx hb dP_countBarredTurns_13 rfl (lv_at hl 0 rfl) ?_
      refine va_get (D := (dC, dI)) (ci := 1) (v := .ref (q 7)) (C := nP) (T := TP) (N := 9) hx hb hg inP hown hK hP 0 rfl rfl 6 (by decide) (hg _ kP_31) (fun _ h9 => h9) rfl dP_countBarredTurns_14 ?_
      refine lv_iload_n hx hb dP_countBarredTurns_17 rfl (lv_at hl 2 rfl) ?_
      refine ga_l (f := bt) hx hb hK hP 7 1 rfl rfl (by omega) (by decide) dP_countBarredTurns_18 ?_
      refine cpS_i (As := [.long (lN (bt i))]) (rest := [.int (nI u)]) (post := fun r : Int32 => r = nI (pcn (bt i) 64)) ⟨hx, hb, hml, hown, hts⟩ (ct_JL_bitCount l dC dI cI cJ cZ (bt i) (by omega)) (va_cwS 1 hts (gs kP_46 ks_JL_bitCount kin_JL kc_JL_bitCount) rfl rfl rfl (by decide +kernel) ⟨Nat.le_trans (by decide) hR.1, Nat.le_trans (by decide) hR.2⟩) (hP.sub (ws' := []) [] rfl) hK hE rfl hl.1 rfl (Nat.le_of_ble_eq_true rfl) dP_countBarredTurns_19 hcs (fun r hr => ?_)
      subst hr
      refine rn_iadd hx hb dP_countBarredTurns_22 ?_
      refine lv_istore_n (lv' := [(1, .int (nI (u + (pcn (bt i) 64)))), (0, .ref (q 0)), (2, .int (nI i))]) hx hb dP_countBarredTurns_23 rfl hl (by decide) rfl (fun ls hl => ?_)
      refine rn_iinc (lv' := [(2, .int (nI (i + 1))), (1, .int (nI (u + (pcn (bt i) 64)))), (0, .ref (q 0))]) hx hb dP_countBarredTurns_24 hl (k := 2) rfl (by decide) rfl (fun ls hl => ?_)
      refine lv_goto (tgt := 4) hx hb dP_countBarredTurns_27 (by decide) ?_
      exact ih (i + 1) (u + (pcn (bt i) 64)) (by omega) (by simp_all [cbN]) (by omega) ls (lv_sub hl [2, 1, 0] rfl)

set_option maxHeartbeats 4000000 in
set_option maxRecDepth 100000 in
theorem ct_P_countBarredTurns (l : Launch) (dC : Nat → ClassId) (dI : Nat → Nat → Nat) (cI cJ cZ : ClassId) (q : Nat → Nat) (bg en sc wd ht oh bt : Nat → Nat) (co n : Nat) (hB : bP bg en sc wd ht oh bt co n) : Met l yP_countBarredTurns wsP_countBarredTurns ({ frames := 1, cells := 0, slots := 0, locals := 21 }) (PcR (dC, dI) (wP cI cJ cZ q bg en sc wd ht oh bt co n) (tyE cI cJ cZ) [.ref (q 0)]) (vp_Si (fun r => r = nI (cbN bt n))) 0 0 (fun _ => False) := by
  refine Met.ofW (cc := cP_countBarredTurns) (maxL := 3) (ret := (some .int)) (by decide) rfl ?_
  intro p e s m args below meth c s₁ B hml hv
  obtain ⟨rfl, hP, hK, hE⟩ := hv
  have hx := B.exec
  have hb := B.bytes
  have hr := B.returns
  have hts := atoms_spec (ws := wsP_countBarredTurns) B.pre
  have hg : ∀ w ∈ gw, w.before _ s = true := fun w h => hts w (List.mem_cons_of_mem _ h)
  have hown : s.vm.findClass nP = some m.cls := findClass_of_methodNamed B.named
  have hlocks := B.notSynchronized
  have hR : 1 ≤ (headSpec wsP_countBarredTurns ({ frames := 1, cells := 0, slots := 0, locals := 21 })).room.frames ∧ 21 ≤ (headSpec wsP_countBarredTurns ({ frames := 1, cells := 0, slots := 0, locals := 21 })).room.locals := ⟨Nat.le_refl _, Nat.le_refl _⟩
  have hcs : 0 ≤ (headSpec wsP_countBarredTurns ({ frames := 1, cells := 0, slots := 0, locals := 21 })).room.cells ∧ 0 ≤ (headSpec wsP_countBarredTurns ({ frames := 1, cells := 0, slots := 0, locals := 21 })).room.slots := ⟨Nat.zero_le _, Nat.zero_le _⟩
  have hn := hB.1
  have hco := hB.2.1
  have hbi := hB.2.2
  have hl := lv_entry ([.ref (q 0)]) (n := 3) (Nat.le_of_ble_eq_true rfl)
  rw [lg_entry_eq]
  generalize (lg_sl ([.ref (q 0)]) ++ List.replicate (3 - (lg_sl ([.ref (q 0)])).length) Slot.unset).toArray = ls at hl ⊢
  have hl : lv_has ls 3 [(0, .ref (q 0))] := hl
  refine rn_iconst hx hb 0 dP_countBarredTurns_0 (by decide) ?_
  refine lv_istore_n (lv' := [(1, .int (nI 0)), (0, .ref (q 0))]) hx hb dP_countBarredTurns_1 rfl hl (by decide) rfl (fun ls hl => ?_)
  refine rn_iconst hx hb 0 dP_countBarredTurns_2 (by decide) ?_
  refine lv_istore_n (lv' := [(2, .int (nI 0)), (1, .int (nI 0)), (0, .ref (q 0))]) hx hb dP_countBarredTurns_3 rfl hl (by decide) rfl (fun ls hl => ?_)
  refine lp_P_count q bg en sc wd ht oh bt co n hB hx hb hml hown hts hK hP hE (by first | exact hR | exact ⟨Nat.le_trans (by decide) hR.1, Nat.le_trans (by decide) hR.2⟩) hcs (fun i u hi hu hx0 ls hl => ?_) ((n - 0) + 1) 0 0 (by omega) (rfl) (by omega) ls (lv_sub hl [2, 1, 0] rfl)
  refine lv_iload_n hx hb dP_countBarredTurns_30 rfl (lv_at hl 1 rfl) ?_
  exact W.iret hx hb hr (fun t ht hW => ⟨_, rfl, (congrArg nI (by rw [hu, show n = i from by omega])), ht⟩) (fun _ h9 => nomatch h9) dP_countBarredTurns_31
end
section
/-! ===== calls of methods that write: their cells change as said, the rest stays ===== -/
abbrev QwB (D : va_G) (w1 : va_W) (tys : List (ClassId × FieldType)) (A : Nat → Prop) : Unit → State → Prop := fun _ t => va_P D vwCl w1 t.heap ∧ va_K D vwCl tys t ∧ va_D A w1
abbrev QwV (D : va_G) (w1 : va_W) (tys : List (ClassId × FieldType)) (A : Nat → Prop) : Array Value → State → Outcome → State → Prop := va_Qv (fun _ : Unit => True) (QwB D w1 tys A) A
abbrev QwI (D : va_G) (r0 : Int32) (w1 : va_W) (tys : List (ClassId × FieldType)) (A : Nat → Prop) : Array Value → State → Outcome → State → Prop := va_Qi (fun r (_ : Unit) => r = r0) (QwB D w1 tys A) A
abbrev QwL (D : va_G) (r0 : Int64) (w1 : va_W) (tys : List (ClassId × FieldType)) (A : Nat → Prop) : Array Value → State → Outcome → State → Prop := va_Ql (fun r (_ : Unit) => r = r0) (QwB D w1 tys A) A
theorem fm_of {α : Type} {f : Nat → Option α} : ∀ {is : List Nat} {w : List α}, is.map f = w.map some → is.filterMap f = w := by
  intro is
  induction is with
  | nil => intro w h; cases w with
    | nil => rfl
    | cons a w => simp at h
  | cons i is ih =>
    intro w h
    cases w with
    | nil => simp at h
    | cons a w =>
      simp only [List.map_cons, List.cons.injEq] at h
      rw [List.filterMap_cons, h.1, ih h.2]
section CallsW
variable {p : Program} {l : Launch} {e : Env} {R : Room} {s : State} {m : MethodId} {args : Array Value} {below : List Frame} {meth : Method} {c : Code} {H : Heap} {locs : List Loc} {cells slots : Nat} {Q : State → Prop}
variable {cc bytes : ByteArray} {pc : Nat} {ls : Array Slot} {rest st0 As : List Value} {D : va_G} {tc : List (ClassId × FieldType)} {ws wc wr w1 wn : va_W} {b : Nat} {y : MethodName} {wsc Ts : List Cond} {rm : Room} {maxL nL n index mc ms : Nat} {ret : Option FieldType} {own C : String} {A : Nat → Prop}
theorem preWV {sz : Nat} (hsz : H.size = sz) (hP : va_P D vwCl wc H) (hK : va_K D vwCl tc s) (hD : va_D A wc) (hE : EV s) (hrc : ∃ cell : Cell, H[b]? = some cell ∧ cell.vm.isStatics = false ∧ s.vm.findClass C = some cell.cls) : PreV s H C b (PcW D wc tc sz (.ref b :: As)) As :=
  ⟨fbW, hrc, fun U hU hW => ⟨rfl, by rw [hU]; exact hsz, by rw [hU]; exact hP, va_K.moved hW.alike hK, hD.weaken (fun _ _ _ _ => trivial), EV.warm hW hE⟩⟩
theorem kw_join {t : State} {H1 : Heap} (ht : t.heap = H1) (hP : va_P D vwCl ws H) (hD : va_D A ws) (isC isR perm : List Nat) (hC : isC.map (fun i => ws[i]?) = wc.map some) (hRr : isR.map (fun i => ws[i]?) = wr.map some) (hnd : va_nd isR = true) (hdis : ∀ i ∈ isR, i ∉ isC) (hp : perm.map (fun i => (wr ++ w1)[i]?) = wn.map some) (hnp : va_nd perm = true)
    (hk1 : ∀ q : Nat, q < H.size → ¬ va_A wc H.size q → H1[q]? = H[q]?) (hF : ∀ q, va_A wc H.size q → A q) (hB : QwB D w1 tc (va_A wc H.size) () t) : va_P D vwCl wn H1 ∧ va_D A wn := by
  obtain ⟨hP1, -, hD1⟩ := hB
  rw [ht] at hP1
  obtain ⟨a1, a2⟩ := va_join hP hD isC isR hC hRr hnd hdis hk1 hF hP1 hD1
  exact ⟨a1.sub perm (fm_of hp), a2.sub perm hnp hp⟩
theorem kwV_v (S : CallFix p m c cc nL s args Ts own) (hM : Met l y wsc rm (PcW D wc tc H.size (.ref b :: As)) (QwV D w1 tc (va_A wc H.size)) mc ms (va_A wc H.size)) (cw : CallW R s args own C index y bytes maxL ret wsc rm mc ms n)
    (hrc : ∃ cell : Cell, H[b]? = some cell ∧ cell.vm.isStatics = false ∧ s.vm.findClass C = some cell.cls) (hP : va_P D vwCl ws H) (hD : va_D A ws) (hK : va_K D vwCl tc s) (hE : EV s) (hS : va_S A s.heap H locs) (hA : ∀ q, s.heap.size ≤ q → A q) (isC isR perm : List Nat) (hC : isC.map (fun i => ws[i]?) = wc.map some) (hnc : va_nd isC = true) (hRr : isR.map (fun i => ws[i]?) = wr.map some) (hnd : va_nd isR = true) (hdis : ∀ i ∈ isR, i ∉ isC) (hp : perm.map (fun i => (wr ++ w1)[i]?) = wn.map some) (hnp : va_nd perm = true)
    (hn : As.length = n) (hl : ls.size = nL) (hst : st0 = As.reverse ++ .ref b :: rest) (hW : (rest.map fun v => v.category).sum ≤ 8) (hdg : decode cc pc = .ok (.invokevirtual index, 3)) (hf : cells + mc ≤ R.cells ∧ slots + ms ≤ R.slots)
    (kk : ∀ (H1 : Heap) (locs1 : List Loc), va_P D vwCl wn H1 → va_D A wn → va_S A s.heap H1 locs1 → W p l e R s m args below meth c H1 locs1 (cells + mc) (slots + ms) Q (F0 m (pc + 3) ls rest)) : W p l e R s m args below meth c H locs cells slots Q (F0 m pc ls st0) := by
  subst hst
  have hF := va_free (wc := wc) hD hS hA isC hC
  refine va_callv (va_runV (g := F0 m pc ls (As.reverse ++ .ref b :: rest)) S hM cw (preWV rfl (hP.sub isC (fm_of hC)) hK (hD.sub isC hnc hC) hE hrc) rfl hn hl rfl (lv_room hW) hdg hf) hS (fun q _ h => hF q h) hF (fun u t H1 locs1 ht hvm hw hB hz1 hk1 hS1 => ?_)
  obtain ⟨a1, a2⟩ := kw_join ht hP hD isC isR perm hC hRr hnd hdis hp hnp hk1 hF hB
  exact kk H1 locs1 a1 a2 hS1
theorem kwV_i {r0 : Int32} (S : CallFix p m c cc nL s args Ts own) (hM : Met l y wsc rm (PcW D wc tc H.size (.ref b :: As)) (QwI D r0 w1 tc (va_A wc H.size)) mc ms (va_A wc H.size)) (cw : CallW R s args own C index y bytes maxL ret wsc rm mc ms n)
    (hrc : ∃ cell : Cell, H[b]? = some cell ∧ cell.vm.isStatics = false ∧ s.vm.findClass C = some cell.cls) (hP : va_P D vwCl ws H) (hD : va_D A ws) (hK : va_K D vwCl tc s) (hE : EV s) (hS : va_S A s.heap H locs) (hA : ∀ q, s.heap.size ≤ q → A q) (isC isR perm : List Nat) (hC : isC.map (fun i => ws[i]?) = wc.map some) (hnc : va_nd isC = true) (hRr : isR.map (fun i => ws[i]?) = wr.map some) (hnd : va_nd isR = true) (hdis : ∀ i ∈ isR, i ∉ isC) (hp : perm.map (fun i => (wr ++ w1)[i]?) = wn.map some) (hnp : va_nd perm = true)
    (hn : As.length = n) (hl : ls.size = nL) (hst : st0 = As.reverse ++ .ref b :: rest) (hW : (rest.map fun v => v.category).sum ≤ 8) (hdg : decode cc pc = .ok (.invokevirtual index, 3)) (hf : cells + mc ≤ R.cells ∧ slots + ms ≤ R.slots)
    (kk : ∀ (H1 : Heap) (locs1 : List Loc), va_P D vwCl wn H1 → va_D A wn → va_S A s.heap H1 locs1 → W p l e R s m args below meth c H1 locs1 (cells + mc) (slots + ms) Q (F0 m (pc + 3) ls (.int r0 :: rest))) : W p l e R s m args below meth c H locs cells slots Q (F0 m pc ls st0) := by
  subst hst
  have hF := va_free (wc := wc) hD hS hA isC hC
  refine va_calli (va_runV (g := F0 m pc ls (As.reverse ++ .ref b :: rest)) S hM cw (preWV rfl (hP.sub isC (fm_of hC)) hK (hD.sub isC hnc hC) hE hrc) rfl hn hl rfl (lv_room hW) hdg hf) hS (fun q _ h => hF q h) hF (fun r u t H1 locs1 ht hvm hw hB hz1 hk1 hS1 => ?_)
  obtain ⟨a1, a2⟩ := kw_join ht hP hD isC isR perm hC hRr hnd hdis hp hnp hk1 hF hB
  subst hw
  exact kk H1 locs1 a1 a2 hS1
theorem kwV_l {r0 : Int64} (S : CallFix p m c cc nL s args Ts own) (hM : Met l y wsc rm (PcW D wc tc H.size (.ref b :: As)) (QwL D r0 w1 tc (va_A wc H.size)) mc ms (va_A wc H.size)) (cw : CallW R s args own C index y bytes maxL ret wsc rm mc ms n)
    (hrc : ∃ cell : Cell, H[b]? = some cell ∧ cell.vm.isStatics = false ∧ s.vm.findClass C = some cell.cls) (hP : va_P D vwCl ws H) (hD : va_D A ws) (hK : va_K D vwCl tc s) (hE : EV s) (hS : va_S A s.heap H locs) (hA : ∀ q, s.heap.size ≤ q → A q) (isC isR perm : List Nat) (hC : isC.map (fun i => ws[i]?) = wc.map some) (hnc : va_nd isC = true) (hRr : isR.map (fun i => ws[i]?) = wr.map some) (hnd : va_nd isR = true) (hdis : ∀ i ∈ isR, i ∉ isC) (hp : perm.map (fun i => (wr ++ w1)[i]?) = wn.map some) (hnp : va_nd perm = true)
    (hn : As.length = n) (hl : ls.size = nL) (hst : st0 = As.reverse ++ .ref b :: rest) (hW : (rest.map fun v => v.category).sum ≤ 8) (hdg : decode cc pc = .ok (.invokevirtual index, 3)) (hf : cells + mc ≤ R.cells ∧ slots + ms ≤ R.slots)
    (kk : ∀ (H1 : Heap) (locs1 : List Loc), va_P D vwCl wn H1 → va_D A wn → va_S A s.heap H1 locs1 → W p l e R s m args below meth c H1 locs1 (cells + mc) (slots + ms) Q (F0 m (pc + 3) ls (.long r0 :: rest))) : W p l e R s m args below meth c H locs cells slots Q (F0 m pc ls st0) := by
  subst hst
  have hF := va_free (wc := wc) hD hS hA isC hC
  refine va_calll (va_runV (g := F0 m pc ls (As.reverse ++ .ref b :: rest)) S hM cw (preWV rfl (hP.sub isC (fm_of hC)) hK (hD.sub isC hnc hC) hE hrc) rfl hn hl rfl (lv_room hW) hdg hf) hS (fun q _ h => hF q h) hF (fun r u t H1 locs1 ht hvm hw hB hz1 hk1 hS1 => ?_)
  obtain ⟨a1, a2⟩ := kw_join ht hP hD isC isR perm hC hRr hnd hdis hp hnp hk1 hF hB
  subst hw
  exact kk H1 locs1 a1 a2 hS1
end CallsW
/-! worlds of the other groups -/
abbrev wL (cI cJ cZ : ClassId) (ql : Nat → Nat) (re : Nat → Nat) (sa fm : Nat) : va_W := [(ql 0, .inr (2, [.ref (ql 1), .int (nI sa), .long (lN fm)])), (ql 1, .inl (cJ, 40, .inr (.inl (fun j => lN (re j)))))]
abbrev wR (cI cJ cZ : ClassId) (qr : Nat → Nat) (nu : Nat → Nat) (rl : Nat) : va_W := [(qr 0, .inr (4, [.ref (qr 1), .int (nI rl)])), (qr 1, .inl (cI, 40, .inl (fun j => nI (nu j))))]
abbrev wS (cI cJ cZ : ClassId) (qs : Nat → Nat) (tr rp rn rs : Nat → Nat) (rk us gl : Nat) : va_W := [(qs 0, .inr (3, [.ref (qs 1), .ref (qs 2), .ref (qs 3), .ref (qs 4), .int (nI rk), .long (lN us), .int (nI gl)])), (qs 1, .inl (cI, 5, .inl (fun j => nI (tr j)))), (qs 2, .inl (cI, 25, .inl (fun j => nI (rp j)))), (qs 3, .inl (cI, 5, .inl (fun j => nI (rn j)))), (qs 4, .inl (cJ, 5, .inr (.inl (fun j => lN (rs j)))))]
abbrev wG (cI cJ cZ : ClassId) (qg q ql qs qr : Nat → Nat) (lv mw mh mk : Nat → Nat) (pc mc kc : Nat) : va_W := [(qg 0, .inr (0, [.ref (qg 1), .int (nI pc), .ref (q 0), .ref (qg 2), .ref (qg 3), .int (nI mc), .ref (qg 4), .int (nI kc), .ref (ql 0), .ref (qs 0), .ref (qr 0)])), (qg 1, .inl (cI, 20, .inl (fun j => nI (lv j)))), (qg 2, .inl (cI, 6, .inl (fun j => nI (mw j)))), (qg 3, .inl (cJ, 6, .inr (.inl (fun j => lN (mh j))))), (qg 4, .inl (cI, 8, .inl (fun j => nI (mk j))))]
end
section
section RowsO
variable {p : Program} {l : Launch} {e : Env} {R : Room} {s : State} {m : MethodId} {args : Array Value} {below : List Frame} {meth : Method} {c : Code} {H : Heap} {locs : List Loc} {cells slots : Nat} {Q : State → Prop}
variable {cc : ByteArray} {pc : Nat} {ls : Array Slot} {rest : List Value}
theorem oI_m1 {o : Option Nat} (ho : ∀ i, o = some i → i < 2147483648) : oI o = -1 ↔ o = none := by
  cases o with
  | none => exact ⟨fun _ => rfl, fun _ => rfl⟩
  | some i =>
    refine ⟨fun h => ?_, fun h => by cases h⟩
    have h1 : (nI i).toInt = (i : Int) := nI_toInt (ho i rfl)
    have h2 : nI i = -1 := h
    rw [h2] at h1
    have h3 : (-1 : Int32).toInt = -1 := by decide
    omega
theorem ro_ne (hexec : p.tables.exec = Jvm.exec) (hb : c.code = cc) {o : Option Nat} {off : Int} {tgt : Nat} (hdg : decode cc pc = .ok (.if_icmp .ne off, 3)) (ht : (pc : Int) + off = (tgt : Int)) (ho : ∀ i, o = some i → i < 2147483648)
    (kt : ∀ i, o = some i → W p l e R s m args below meth c H locs cells slots Q (F0 m tgt ls rest)) (kf : o = none → W p l e R s m args below meth c H locs cells slots Q (F0 m (pc + 3) ls rest)) : W p l e R s m args below meth c H locs cells slots Q (F0 m pc ls (.int (-1) :: .int (oI o) :: rest)) := by
  refine lv_icmp_ne hexec hb hdg ht (fun h => ?_) (fun h => kf ((oI_m1 ho).mp h))
  cases o with
  | none => exact absurd rfl h
  | some i => exact kt i rfl
theorem ro_eq (hexec : p.tables.exec = Jvm.exec) (hb : c.code = cc) {o : Option Nat} {off : Int} {tgt : Nat} (hdg : decode cc pc = .ok (.if_icmp .eq off, 3)) (ht : (pc : Int) + off = (tgt : Int)) (ho : ∀ i, o = some i → i < 2147483648)
    (kt : o = none → W p l e R s m args below meth c H locs cells slots Q (F0 m tgt ls rest)) (kf : ∀ i, o = some i → W p l e R s m args below meth c H locs cells slots Q (F0 m (pc + 3) ls rest)) : W p l e R s m args below meth c H locs cells slots Q (F0 m pc ls (.int (-1) :: .int (oI o) :: rest)) := by
  refine lv_icmp_eq hexec hb hdg ht (fun h => kt ((oI_m1 ho).mp h)) (fun h => ?_)
  cases o with
  | none => exact absurd rfl h
  | some i => exact kf i rfl
theorem ix_of {x : Int32} {n : Nat} (h1 : ¬ x < 0) (h2 : ¬ nI n ≤ x) (hn : n < 2147483648) : ∃ j : Nat, j < n ∧ x = nI j := by
  obtain ⟨j, hj, rfl⟩ := nI_of h1
  refine ⟨j, ?_, rfl⟩
  rw [nI_leI (by omega) hj] at h2
  omega
theorem ix_in {x : Int32} {n : Nat} (h : decide (0 ≤ x ∧ x < nI n) = true) (hn : n < 2147483648) : ∃ j : Nat, j < n ∧ x = nI j := by
  have h1 := of_decide_eq_true h
  obtain ⟨j, hj, rfl⟩ := nI_of (x := x) (by rw [Int32.le_iff_toInt_le] at h1; rw [Int32.lt_iff_toInt_lt]; omega)
  rw [nI_ltI hj hn] at h1
  exact ⟨j, h1.2, rfl⟩
end RowsO

def atI (nu : Nat → Nat) (rl : Nat) (x : Int32) : Int32 := if 0 ≤ x ∧ x < nI rl then nI (nu x.toNatClampNeg) else -1
theorem atI_1 {nu : Nat → Nat} {rl : Nat} {x : Int32} (h : x < 0) : -1 = atI nu rl x := by
  rw [atI, if_neg (by rw [Int32.lt_iff_toInt_lt, Int32.toInt_zero] at h; rw [Int32.le_iff_toInt_le, Int32.toInt_zero]; omega)]
theorem atI_2 {nu : Nat → Nat} {rl : Nat} {x : Int32} (h : nI rl ≤ x) : -1 = atI nu rl x := by
  rw [atI, if_neg (by rw [Int32.le_iff_toInt_le] at h; rw [Int32.lt_iff_toInt_lt]; omega)]
theorem atI_3 {nu : Nat → Nat} {rl j : Nat} (hr : rl ≤ 40) (h : j < rl) : nI (nu j) = atI nu rl (nI j) := by
  rw [atI, if_pos ⟨nI_pos' (by omega), nI_lt h (by omega)⟩, nI_clamp (by omega)]

set_option maxHeartbeats 4000000 in
set_option maxRecDepth 100000 in
theorem ct_R_at (l : Launch) (dC : Nat → ClassId) (dI : Nat → Nat → Nat) (cI cJ cZ : ClassId) (qr : Nat → Nat) (nu : Nat → Nat) (rl : Nat) (x : Int32) (hrl : rl ≤ 40) : Met l yR_at wsR_at ({ frames := 0, cells := 0, slots := 0, locals := 0 }) (PcR (dC, dI) (wR cI cJ cZ qr nu rl) (tyE cI cJ cZ) [.ref (qr 0), .int x]) (vp_Si (fun r => r = atI nu rl x)) 0 0 (fun _ => False) := by
  refine Met.ofW (cc := cR_at) (maxL := 2) (ret := (some .int)) (by decide) rfl ?_
  intro p e s m args below meth c s₁ B hml hv
  obtain ⟨rfl, hP, hK, hE⟩ := hv
  have hx := B.exec
  have hb := B.bytes
  have hr := B.returns
  have hts := atoms_spec (ws := wsR_at) B.pre
  have hg : ∀ w ∈ gw, w.before _ s = true := fun w h => hts w (List.mem_cons_of_mem _ h)
  have hown : s.vm.findClass nR = some m.cls := findClass_of_methodNamed B.named
  have hlocks := B.notSynchronized
  have hR : 0 ≤ (headSpec wsR_at ({ frames := 0, cells := 0, slots := 0, locals := 0 })).room.frames ∧ 0 ≤ (headSpec wsR_at ({ frames := 0, cells := 0, slots := 0, locals := 0 })).room.locals := ⟨Nat.le_refl _, Nat.le_refl _⟩
  have hcs : 0 ≤ (headSpec wsR_at ({ frames := 0, cells := 0, slots := 0, locals := 0 })).room.cells ∧ 0 ≤ (headSpec wsR_at ({ frames := 0, cells := 0, slots := 0, locals := 0 })).room.slots := ⟨Nat.zero_le _, Nat.zero_le _⟩
  have hl := lv_entry ([.ref (qr 0), .int x]) (n := 2) (Nat.le_of_ble_eq_true rfl)
  rw [lg_entry_eq]
  generalize (lg_sl ([.ref (qr 0), .int x]) ++ List.replicate (2 - (lg_sl ([.ref (qr 0), .int x])).length) Slot.unset).toArray = ls at hl ⊢
  have hl : lv_has ls 2 [(0, .ref (qr 0)), (1, .int x)] := hl
  refine lv_iload_n hx hb dR_at_0 rfl (lv_at hl 1 rfl) ?_
  refine lv_if_lt (tgt := 21) hx hb dR_at_1 (by decide) (fun c1 => ?_) (fun c1 => ?_)
  · refine lv_iconst (v := -1) hx hb dR_at_21 (by decide) ?_
    exact W.iret hx hb hr (fun t ht hW => ⟨_, rfl, (by first | exact atI_1 c1 | exact atI_2 c9 | exact atI_3 hrl hj), ht⟩) (fun _ h9 => nomatch h9) dR_at_22
  · refine lv_iload_n hx hb dR_at_4 rfl (lv_at hl 1 rfl) ?_
    refine lv_aload_n hx hb dR_at_5 rfl (lv_at hl 0 rfl) ?_
    refine va_get (D := (dC, dI)) (ci := 4) (v := .int (nI rl)) (C := nR) (T := TR) (N := 2) hx hb hg inR hown hK hP 0 rfl rfl 1 (by decide) (hg _ kR_15) (fun _ h9 => h9) rfl dR_at_6 ?_
    refine lv_icmp_ge (tgt := 21) hx hb dR_at_9 (by decide) (fun c9 => ?_) (fun c9 => ?_)
    · refine lv_iconst (v := -1) hx hb dR_at_21 (by decide) ?_
      exact W.iret hx hb hr (fun t ht hW => ⟨_, rfl, (by first | exact atI_1 c1 | exact atI_2 c9 | exact atI_3 hrl hj), ht⟩) (fun _ h9 => nomatch h9) dR_at_22
    · obtain ⟨j, hj, rfl⟩ := ix_of c1 c9 (by omega)
      refine lv_aload_n hx hb dR_at_12 rfl (lv_at hl 0 rfl) ?_
      refine va_get (D := (dC, dI)) (ci := 4) (v := .ref (qr 1)) (C := nR) (T := TR) (N := 2) hx hb hg inR hown hK hP 0 rfl rfl 0 (by decide) (hg _ kR_9) (fun _ h9 => h9) rfl dR_at_13 ?_
      refine lv_iload_n hx hb dR_at_16 rfl (lv_at hl 1 rfl) ?_
      refine ga_i (f := nu) hx hb hK hP 1 0 rfl rfl (by omega) (by decide) dR_at_17 ?_
      refine lv_goto (tgt := 22) hx hb dR_at_18 (by decide) ?_
      exact W.iret hx hb hr (fun t ht hW => ⟨_, rfl, (by first | exact atI_1 c1 | exact atI_2 c9 | exact atI_3 hrl hj), ht⟩) (fun _ h9 => nomatch h9) dR_at_22

set_option maxHeartbeats 4000000 in
set_option maxRecDepth 100000 in
theorem ct_R_clear (l : Launch) (dC : Nat → ClassId) (dI : Nat → Nat → Nat) (cI cJ cZ : ClassId) (qr : Nat → Nat) (nu : Nat → Nat) (rl : Nat) (sz : Nat) (hrl : rl ≤ 40) : Met l yR_clear wsR_clear ({ frames := 0, cells := 0, slots := 0, locals := 0 }) (PcW (dC, dI) (wR cI cJ cZ qr nu rl) (tyE cI cJ cZ) sz [.ref (qr 0)]) (QwV (dC, dI) (wR cI cJ cZ qr nu 0) (tyE cI cJ cZ) (va_A (wR cI cJ cZ qr nu rl) sz)) 0 0 (va_A (wR cI cJ cZ qr nu rl) sz) := by
  refine Met.ofW (cc := cR_clear) (maxL := 1) (ret := none) (by decide) rfl ?_
  intro p e s m args below meth c s₁ B hml hv
  obtain ⟨rfl, hsz, hP, hK, hD0, hE⟩ := hv
  have hx := B.exec
  have hb := B.bytes
  have hr := B.returns
  have hts := atoms_spec (ws := wsR_clear) B.pre
  have hg : ∀ w ∈ gw, w.before _ s = true := fun w h => hts w (List.mem_cons_of_mem _ h)
  have hown : s.vm.findClass nR = some m.cls := findClass_of_methodNamed B.named
  have hlocks := B.notSynchronized
  have hR : 0 ≤ (headSpec wsR_clear ({ frames := 0, cells := 0, slots := 0, locals := 0 })).room.frames ∧ 0 ≤ (headSpec wsR_clear ({ frames := 0, cells := 0, slots := 0, locals := 0 })).room.locals := ⟨Nat.le_refl _, Nat.le_refl _⟩
  have hcs : 0 ≤ (headSpec wsR_clear ({ frames := 0, cells := 0, slots := 0, locals := 0 })).room.cells ∧ 0 ≤ (headSpec wsR_clear ({ frames := 0, cells := 0, slots := 0, locals := 0 })).room.slots := ⟨Nat.zero_le _, Nat.zero_le _⟩
  subst hsz
  have hD := hD0.self (sz := s.heap.size)
  generalize hAe : va_A (wR cI cJ cZ qr nu rl) s.heap.size = A at hD ⊢
  have hA : ∀ q : Nat, s.heap.size ≤ q → A q := fun q h => by rw [← hAe]; exact Or.inr h
  obtain ⟨H, hH⟩ : ∃ H, H = s.heap := ⟨_, rfl⟩
  have hS : va_S A s.heap H [] := by rw [hH]; exact va_S.rf
  rw [← hH] at hP ⊢
  have hl := lv_entry ([.ref (qr 0)]) (n := 1) (Nat.le_of_ble_eq_true rfl)
  rw [lg_entry_eq]
  generalize (lg_sl ([.ref (qr 0)]) ++ List.replicate (1 - (lg_sl ([.ref (qr 0)])).length) Slot.unset).toArray = ls at hl ⊢
  have hl : lv_has ls 1 [(0, .ref (qr 0))] := hl
  refine lv_aload_n hx hb dR_clear_0 rfl (lv_at hl 0 rfl) ?_
  refine rn_iconst hx hb 0 dR_clear_1 (by decide) ?_
  refine va_put (D := (dC, dI)) (ci := 4) (v := .int (nI 0)) (ty := .int) (C := nR) (T := TR) (N := 2) hx hb hg inR tR tR_ok nmR hown hK hP hD hS 0 rfl rfl 1 (by decide) (hg _ kR_15) (fun _ h9 => h9) rfl (by decide +kernel) rfl rfl (Nat.le_of_ble_eq_true rfl) dR_clear_2 (fun H locs hP hD hS => ?_)
  have hP : va_P (dC, dI) vwCl (wR cI cJ cZ qr nu 0) H := hP
  have hD : va_D A (wR cI cJ cZ qr nu 0) := hD
  have hP9 : va_P (dC, dI) vwCl (wR cI cJ cZ qr nu 0) H := by exact hP
  have hD9 : va_D A (wR cI cJ cZ qr nu 0) := by exact hD
  exact W.vret hx hb hr (fun t ht hW => ⟨⟨(), rfl, trivial, by rw [ht]; exact hP9, va_K.moved hW.alike hK, hD9⟩, hS.F ht⟩) hS.2.2 dR_clear_5

def apF (nu : Nat → Nat) (rl x : Nat) : Nat → Nat := if rl < 40 then va_up nu rl x else nu
def apN (rl : Nat) : Nat := if rl < 40 then rl + 1 else rl

set_option maxHeartbeats 4000000 in
set_option maxRecDepth 100000 in
theorem ct_R_append (l : Launch) (dC : Nat → ClassId) (dI : Nat → Nat → Nat) (cI cJ cZ : ClassId) (qr : Nat → Nat) (nu : Nat → Nat) (rl : Nat) (x : Nat) (sz : Nat) (hrl : rl ≤ 40) : Met l yR_append wsR_append ({ frames := 0, cells := 0, slots := 0, locals := 0 }) (PcW (dC, dI) (wR cI cJ cZ qr nu rl) (tyE cI cJ cZ) sz [.ref (qr 0), .int (nI x)]) (QwV (dC, dI) (wR cI cJ cZ qr (apF nu rl x) (apN rl)) (tyE cI cJ cZ) (va_A (wR cI cJ cZ qr nu rl) sz)) 0 0 (va_A (wR cI cJ cZ qr nu rl) sz) := by
  refine Met.ofW (cc := cR_append) (maxL := 2) (ret := none) (by decide) rfl ?_
  intro p e s m args below meth c s₁ B hml hv
  obtain ⟨rfl, hsz, hP, hK, hD0, hE⟩ := hv
  have hx := B.exec
  have hb := B.bytes
  have hr := B.returns
  have hts := atoms_spec (ws := wsR_append) B.pre
  have hg : ∀ w ∈ gw, w.before _ s = true := fun w h => hts w (List.mem_cons_of_mem _ h)
  have hown : s.vm.findClass nR = some m.cls := findClass_of_methodNamed B.named
  have hlocks := B.notSynchronized
  have hR : 0 ≤ (headSpec wsR_append ({ frames := 0, cells := 0, slots := 0, locals := 0 })).room.frames ∧ 0 ≤ (headSpec wsR_append ({ frames := 0, cells := 0, slots := 0, locals := 0 })).room.locals := ⟨Nat.le_refl _, Nat.le_refl _⟩
  have hcs : 0 ≤ (headSpec wsR_append ({ frames := 0, cells := 0, slots := 0, locals := 0 })).room.cells ∧ 0 ≤ (headSpec wsR_append ({ frames := 0, cells := 0, slots := 0, locals := 0 })).room.slots := ⟨Nat.zero_le _, Nat.zero_le _⟩
  subst hsz
  have hD := hD0.self (sz := s.heap.size)
  generalize hAe : va_A (wR cI cJ cZ qr nu rl) s.heap.size = A at hD ⊢
  have hA : ∀ q : Nat, s.heap.size ≤ q → A q := fun q h => by rw [← hAe]; exact Or.inr h
  obtain ⟨H, hH⟩ : ∃ H, H = s.heap := ⟨_, rfl⟩
  have hS : va_S A s.heap H [] := by rw [hH]; exact va_S.rf
  rw [← hH] at hP ⊢
  have hl := lv_entry ([.ref (qr 0), .int (nI x)]) (n := 2) (Nat.le_of_ble_eq_true rfl)
  rw [lg_entry_eq]
  generalize (lg_sl ([.ref (qr 0), .int (nI x)]) ++ List.replicate (2 - (lg_sl ([.ref (qr 0), .int (nI x)])).length) Slot.unset).toArray = ls at hl ⊢
  have hl : lv_has ls 2 [(0, .ref (qr 0)), (1, .int (nI x))] := hl
  refine lv_aload_n hx hb dR_append_0 rfl (lv_at hl 0 rfl) ?_
  refine va_get (D := (dC, dI)) (ci := 4) (v := .int (nI rl)) (C := nR) (T := TR) (N := 2) hx hb hg inR hown hK hP 0 rfl rfl 1 (by decide) (hg _ kR_15) (fun _ h9 => h9) rfl dR_append_1 ?_
  refine rn_bipush hx hb 40 dR_append_4 (by decide) ?_
  refine rn_icmp_ge (tgt := 29) hx hb dR_append_6 (by decide) (by omega) (by omega) (fun c6 => ?_) (fun c6 => ?_)
  · have hP9 : va_P (dC, dI) vwCl (wR cI cJ cZ qr (apF nu rl x) (apN rl)) H := by first | (rw [show apF nu rl x = va_up nu rl x from if_pos (by omega), show apN rl = rl + 1 from if_pos (by omega)]; exact hP) | (rw [show apF nu rl x = nu from if_neg (by omega), show apN rl = rl from if_neg (by omega)]; exact hP)
    have hD9 : va_D A (wR cI cJ cZ qr (apF nu rl x) (apN rl)) := by first | (rw [show apF nu rl x = va_up nu rl x from if_pos (by omega), show apN rl = rl + 1 from if_pos (by omega)]; exact hD) | (rw [show apF nu rl x = nu from if_neg (by omega), show apN rl = rl from if_neg (by omega)]; exact hD)
    exact W.vret hx hb hr (fun t ht hW => ⟨⟨(), rfl, trivial, by rw [ht]; exact hP9, va_K.moved hW.alike hK, hD9⟩, hS.F ht⟩) hS.2.2 dR_append_29
  · refine lv_aload_n hx hb dR_append_9 rfl (lv_at hl 0 rfl) ?_
    refine va_get (D := (dC, dI)) (ci := 4) (v := .ref (qr 1)) (C := nR) (T := TR) (N := 2) hx hb hg inR hown hK hP 0 rfl rfl 0 (by decide) (hg _ kR_9) (fun _ h9 => h9) rfl dR_append_10 ?_
    refine lv_aload_n hx hb dR_append_13 rfl (lv_at hl 0 rfl) ?_
    refine va_get (D := (dC, dI)) (ci := 4) (v := .int (nI rl)) (C := nR) (T := TR) (N := 2) hx hb hg inR hown hK hP 0 rfl rfl 1 (by decide) (hg _ kR_15) (fun _ h9 => h9) rfl dR_append_14 ?_
    refine lv_iload_n hx hb dR_append_17 rfl (lv_at hl 1 rfl) ?_
    refine sa_i (f := nu) (v := x) hx hb hK hP hD hS 1 0 rfl rfl (by omega) (by decide) dR_append_18 (fun H locs hP hD hS => ?_)
    have hP : va_P (dC, dI) vwCl (wR cI cJ cZ qr (va_up nu rl x) rl) H := hP
    have hD : va_D A (wR cI cJ cZ qr (va_up nu rl x) rl) := hD
    refine lv_aload_n hx hb dR_append_19 rfl (lv_at hl 0 rfl) ?_
    refine lv_dup hx hb dR_append_20 rfl ?_
    refine va_get (D := (dC, dI)) (ci := 4) (v := .int (nI rl)) (C := nR) (T := TR) (N := 2) hx hb hg inR hown hK hP 0 rfl rfl 1 (by decide) (hg _ kR_15) (fun _ h9 => h9) rfl dR_append_21 ?_
    refine rn_iconst hx hb 1 dR_append_24 (by decide) ?_
    refine rn_iadd hx hb dR_append_25 ?_
    refine va_put (D := (dC, dI)) (ci := 4) (v := .int (nI (rl + 1))) (ty := .int) (C := nR) (T := TR) (N := 2) hx hb hg inR tR tR_ok nmR hown hK hP hD hS 0 rfl rfl 1 (by decide) (hg _ kR_15) (fun _ h9 => h9) rfl (by decide +kernel) rfl rfl (Nat.le_of_ble_eq_true rfl) dR_append_26 (fun H locs hP hD hS => ?_)
    have hP : va_P (dC, dI) vwCl (wR cI cJ cZ qr (va_up nu rl x) (rl + 1)) H := hP
    have hD : va_D A (wR cI cJ cZ qr (va_up nu rl x) (rl + 1)) := hD
    have hP9 : va_P (dC, dI) vwCl (wR cI cJ cZ qr (apF nu rl x) (apN rl)) H := by first | (rw [show apF nu rl x = va_up nu rl x from if_pos (by omega), show apN rl = rl + 1 from if_pos (by omega)]; exact hP) | (rw [show apF nu rl x = nu from if_neg (by omega), show apN rl = rl from if_neg (by omega)]; exact hP)
    have hD9 : va_D A (wR cI cJ cZ qr (apF nu rl x) (apN rl)) := by first | (rw [show apF nu rl x = va_up nu rl x from if_pos (by omega), show apN rl = rl + 1 from if_pos (by omega)]; exact hD) | (rw [show apF nu rl x = nu from if_neg (by omega), show apN rl = rl from if_neg (by omega)]; exact hD)
    exact W.vret hx hb hr (fun t ht hW => ⟨⟨(), rfl, trivial, by rw [ht]; exact hP9, va_K.moved hW.alike hK, hD9⟩, hS.F ht⟩) hS.2.2 dR_append_29

set_option maxHeartbeats 4000000 in
set_option maxRecDepth 100000 in
theorem ct_P_add (l : Launch) (dC : Nat → ClassId) (dI : Nat → Nat → Nat) (cI cJ cZ : ClassId) (q : Nat → Nat) (bg en sc wd ht oh bt : Nat → Nat) (co n : Nat) (a b s0 : Nat) (sz : Nat) (hB : bP bg en sc wd ht oh bt co n) (hn0 : n < 40) : Met l yP_add wsP_add ({ frames := 0, cells := 0, slots := 0, locals := 0 }) (PcW (dC, dI) (wP cI cJ cZ q bg en sc wd ht oh bt co n) (tyE cI cJ cZ) sz [.ref (q 0), .int (nI a), .int (nI b), .long (lN s0)]) (QwI (dC, dI) (nI n) (wP cI cJ cZ q (va_up bg n a) (va_up en n b) (va_up sc n s0) (va_up wd n 2000) (va_up ht n 3000) (va_up oh n 16777215) bt co (n + 1)) (tyE cI cJ cZ) (va_A (wP cI cJ cZ q bg en sc wd ht oh bt co n) sz)) 0 0 (va_A (wP cI cJ cZ q bg en sc wd ht oh bt co n) sz) := by
  refine Met.ofW (cc := cP_add) (maxL := 5) (ret := (some .int)) (by decide) rfl ?_
  intro p e s m args below meth c s₁ B hml hv
  obtain ⟨rfl, hsz, hP, hK, hD0, hE⟩ := hv
  have hx := B.exec
  have hb := B.bytes
  have hr := B.returns
  have hts := atoms_spec (ws := wsP_add) B.pre
  have hg : ∀ w ∈ gw, w.before _ s = true := fun w h => hts w (List.mem_cons_of_mem _ h)
  have hown : s.vm.findClass nP = some m.cls := findClass_of_methodNamed B.named
  have hlocks := B.notSynchronized
  have hR : 0 ≤ (headSpec wsP_add ({ frames := 0, cells := 0, slots := 0, locals := 0 })).room.frames ∧ 0 ≤ (headSpec wsP_add ({ frames := 0, cells := 0, slots := 0, locals := 0 })).room.locals := ⟨Nat.le_refl _, Nat.le_refl _⟩
  have hcs : 0 ≤ (headSpec wsP_add ({ frames := 0, cells := 0, slots := 0, locals := 0 })).room.cells ∧ 0 ≤ (headSpec wsP_add ({ frames := 0, cells := 0, slots := 0, locals := 0 })).room.slots := ⟨Nat.zero_le _, Nat.zero_le _⟩
  subst hsz
  have hD := hD0.self (sz := s.heap.size)
  generalize hAe : va_A (wP cI cJ cZ q bg en sc wd ht oh bt co n) s.heap.size = A at hD ⊢
  have hA : ∀ q : Nat, s.heap.size ≤ q → A q := fun q h => by rw [← hAe]; exact Or.inr h
  obtain ⟨H, hH⟩ : ∃ H, H = s.heap := ⟨_, rfl⟩
  have hS : va_S A s.heap H [] := by rw [hH]; exact va_S.rf
  rw [← hH] at hP ⊢
  have hl := lv_entry ([.ref (q 0), .int (nI a), .int (nI b), .long (lN s0)]) (n := 5) (Nat.le_of_ble_eq_true rfl)
  rw [lg_entry_eq]
  generalize (lg_sl ([.ref (q 0), .int (nI a), .int (nI b), .long (lN s0)]) ++ List.replicate (5 - (lg_sl ([.ref (q 0), .int (nI a), .int (nI b), .long (lN s0)])).length) Slot.unset).toArray = ls at hl ⊢
  have hl : lv_has ls 5 [(0, .ref (q 0)), (1, .int (nI a)), (2, .int (nI b)), (3, .long (lN s0))] := hl
  refine lv_aload_n hx hb dP_add_0 rfl (lv_at hl 0 rfl) ?_
  refine va_get (D := (dC, dI)) (ci := 1) (v := .int (nI n)) (C := nP) (T := TP) (N := 9) hx hb hg inP hown hK hP 0 rfl rfl 8 (by decide) (hg _ kP_34) (fun _ h9 => h9) rfl dP_add_1 ?_
  refine rn_bipush hx hb 40 dP_add_4 (by decide) ?_
  refine rn_icmp_lt (tgt := 11) hx hb dP_add_6 (by decide) (by omega) (by omega) (fun c6 => ?_) (fun c6 => ?_)
  · refine lv_aload_n hx hb dP_add_11 rfl (lv_at hl 0 rfl) ?_
    refine va_get (D := (dC, dI)) (ci := 1) (v := .ref (q 1)) (C := nP) (T := TP) (N := 9) hx hb hg inP hown hK hP 0 rfl rfl 0 (by decide) (hg _ kP_9) (fun _ h9 => h9) rfl dP_add_12 ?_
    refine lv_aload_n hx hb dP_add_15 rfl (lv_at hl 0 rfl) ?_
    refine va_get (D := (dC, dI)) (ci := 1) (v := .int (nI n)) (C := nP) (T := TP) (N := 9) hx hb hg inP hown hK hP 0 rfl rfl 8 (by decide) (hg _ kP_34) (fun _ h9 => h9) rfl dP_add_16 ?_
    refine lv_iload_n hx hb dP_add_19 rfl (lv_at hl 1 rfl) ?_
    refine sa_i (f := bg) (v := a) hx hb hK hP hD hS 1 0 rfl rfl (by omega) (by decide) dP_add_20 (fun H locs hP hD hS => ?_)
    have hP : va_P (dC, dI) vwCl (wP cI cJ cZ q (va_up bg n a) en sc wd ht oh bt co n) H := hP
    have hD : va_D A (wP cI cJ cZ q (va_up bg n a) en sc wd ht oh bt co n) := hD
    refine lv_aload_n hx hb dP_add_21 rfl (lv_at hl 0 rfl) ?_
    refine va_get (D := (dC, dI)) (ci := 1) (v := .ref (q 2)) (C := nP) (T := TP) (N := 9) hx hb hg inP hown hK hP 0 rfl rfl 1 (by decide) (hg _ kP_15) (fun _ h9 => h9) rfl dP_add_22 ?_
    refine lv_aload_n hx hb dP_add_25 rfl (lv_at hl 0 rfl) ?_
    refine va_get (D := (dC, dI)) (ci := 1) (v := .int (nI n)) (C := nP) (T := TP) (N := 9) hx hb hg inP hown hK hP 0 rfl rfl 8 (by decide) (hg _ kP_34) (fun _ h9 => h9) rfl dP_add_26 ?_
    refine lv_iload_n hx hb dP_add_29 rfl (lv_at hl 2 rfl) ?_
    refine sa_i (f := en) (v := b) hx hb hK hP hD hS 2 0 rfl rfl (by omega) (by decide) dP_add_30 (fun H locs hP hD hS => ?_)
    have hP : va_P (dC, dI) vwCl (wP cI cJ cZ q (va_up bg n a) (va_up en n b) sc wd ht oh bt co n) H := hP
    have hD : va_D A (wP cI cJ cZ q (va_up bg n a) (va_up en n b) sc wd ht oh bt co n) := hD
    refine lv_aload_n hx hb dP_add_31 rfl (lv_at hl 0 rfl) ?_
    refine va_get (D := (dC, dI)) (ci := 1) (v := .ref (q 3)) (C := nP) (T := TP) (N := 9) hx hb hg inP hown hK hP 0 rfl rfl 2 (by decide) (hg _ kP_18) (fun _ h9 => h9) rfl dP_add_32 ?_
    refine lv_aload_n hx hb dP_add_35 rfl (lv_at hl 0 rfl) ?_
    refine va_get (D := (dC, dI)) (ci := 1) (v := .int (nI n)) (C := nP) (T := TP) (N := 9) hx hb hg inP hown hK hP 0 rfl rfl 8 (by decide) (hg _ kP_34) (fun _ h9 => h9) rfl dP_add_36 ?_
    refine lv_lload_n hx hb dP_add_39 rfl (lv_at hl 3 rfl) ?_
    refine sa_l (f := sc) (v := s0) hx hb hK hP hD hS 3 1 rfl rfl (by omega) (by decide) dP_add_40 (fun H locs hP hD hS => ?_)
    have hP : va_P (dC, dI) vwCl (wP cI cJ cZ q (va_up bg n a) (va_up en n b) (va_up sc n s0) wd ht oh bt co n) H := hP
    have hD : va_D A (wP cI cJ cZ q (va_up bg n a) (va_up en n b) (va_up sc n s0) wd ht oh bt co n) := hD
    refine lv_aload_n hx hb dP_add_41 rfl (lv_at hl 0 rfl) ?_
    refine va_get (D := (dC, dI)) (ci := 1) (v := .ref (q 4)) (C := nP) (T := TP) (N := 9) hx hb hg inP hown hK hP 0 rfl rfl 3 (by decide) (hg _ kP_22) (fun _ h9 => h9) rfl dP_add_42 ?_
    refine lv_aload_n hx hb dP_add_45 rfl (lv_at hl 0 rfl) ?_
    refine va_get (D := (dC, dI)) (ci := 1) (v := .int (nI n)) (C := nP) (T := TP) (N := 9) hx hb hg inP hown hK hP 0 rfl rfl 8 (by decide) (hg _ kP_34) (fun _ h9 => h9) rfl dP_add_46 ?_
    refine rn_sipush hx hb 2000 dP_add_49 (by decide) ?_
    refine sa_i (f := wd) (v := 2000) hx hb hK hP hD hS 4 0 rfl rfl (by omega) (by decide) dP_add_52 (fun H locs hP hD hS => ?_)
    have hP : va_P (dC, dI) vwCl (wP cI cJ cZ q (va_up bg n a) (va_up en n b) (va_up sc n s0) (va_up wd n 2000) ht oh bt co n) H := hP
    have hD : va_D A (wP cI cJ cZ q (va_up bg n a) (va_up en n b) (va_up sc n s0) (va_up wd n 2000) ht oh bt co n) := hD
    refine lv_aload_n hx hb dP_add_53 rfl (lv_at hl 0 rfl) ?_
    refine va_get (D := (dC, dI)) (ci := 1) (v := .ref (q 5)) (C := nP) (T := TP) (N := 9) hx hb hg inP hown hK hP 0 rfl rfl 4 (by decide) (hg _ kP_25) (fun _ h9 => h9) rfl dP_add_54 ?_
    refine lv_aload_n hx hb dP_add_57 rfl (lv_at hl 0 rfl) ?_
    refine va_get (D := (dC, dI)) (ci := 1) (v := .int (nI n)) (C := nP) (T := TP) (N := 9) hx hb hg inP hown hK hP 0 rfl rfl 8 (by decide) (hg _ kP_34) (fun _ h9 => h9) rfl dP_add_58 ?_
    refine lv_ldc2 (v := 3000) hx hb hown (hg _ kP_38) dP_add_61 ?_
    refine tp_l (y := lN 3000) rfl ?_
    refine sa_l (f := ht) (v := 3000) hx hb hK hP hD hS 5 1 rfl rfl (by omega) (by decide) dP_add_64 (fun H locs hP hD hS => ?_)
    have hP : va_P (dC, dI) vwCl (wP cI cJ cZ q (va_up bg n a) (va_up en n b) (va_up sc n s0) (va_up wd n 2000) (va_up ht n 3000) oh bt co n) H := hP
    have hD : va_D A (wP cI cJ cZ q (va_up bg n a) (va_up en n b) (va_up sc n s0) (va_up wd n 2000) (va_up ht n 3000) oh bt co n) := hD
    refine lv_aload_n hx hb dP_add_65 rfl (lv_at hl 0 rfl) ?_
    refine va_get (D := (dC, dI)) (ci := 1) (v := .ref (q 6)) (C := nP) (T := TP) (N := 9) hx hb hg inP hown hK hP 0 rfl rfl 5 (by decide) (hg _ kP_28) (fun _ h9 => h9) rfl dP_add_66 ?_
    refine lv_aload_n hx hb dP_add_69 rfl (lv_at hl 0 rfl) ?_
    refine va_get (D := (dC, dI)) (ci := 1) (v := .int (nI n)) (C := nP) (T := TP) (N := 9) hx hb hg inP hown hK hP 0 rfl rfl 8 (by decide) (hg _ kP_34) (fun _ h9 => h9) rfl dP_add_70 ?_
    refine lv_ldc2 (v := 16777215) hx hb hown (hg _ kP_40) dP_add_73 ?_
    refine tp_l (y := lN 16777215) rfl ?_
    refine sa_l (f := oh) (v := 16777215) hx hb hK hP hD hS 6 1 rfl rfl (by omega) (by decide) dP_add_76 (fun H locs hP hD hS => ?_)
    have hP : va_P (dC, dI) vwCl (wP cI cJ cZ q (va_up bg n a) (va_up en n b) (va_up sc n s0) (va_up wd n 2000) (va_up ht n 3000) (va_up oh n 16777215) bt co n) H := hP
    have hD : va_D A (wP cI cJ cZ q (va_up bg n a) (va_up en n b) (va_up sc n s0) (va_up wd n 2000) (va_up ht n 3000) (va_up oh n 16777215) bt co n) := hD
    refine lv_aload_n hx hb dP_add_77 rfl (lv_at hl 0 rfl) ?_
    refine lv_dup hx hb dP_add_78 rfl ?_
    refine va_get (D := (dC, dI)) (ci := 1) (v := .int (nI n)) (C := nP) (T := TP) (N := 9) hx hb hg inP hown hK hP 0 rfl rfl 8 (by decide) (hg _ kP_34) (fun _ h9 => h9) rfl dP_add_79 ?_
    refine rn_iconst hx hb 1 dP_add_82 (by decide) ?_
    refine rn_iadd hx hb dP_add_83 ?_
    refine va_put (D := (dC, dI)) (ci := 1) (v := .int (nI (n + 1))) (ty := .int) (C := nP) (T := TP) (N := 9) hx hb hg inP tP tP_ok nmP hown hK hP hD hS 0 rfl rfl 8 (by decide) (hg _ kP_34) (fun _ h9 => h9) rfl (by decide +kernel) rfl rfl (Nat.le_of_ble_eq_true rfl) dP_add_84 (fun H locs hP hD hS => ?_)
    have hP : va_P (dC, dI) vwCl (wP cI cJ cZ q (va_up bg n a) (va_up en n b) (va_up sc n s0) (va_up wd n 2000) (va_up ht n 3000) (va_up oh n 16777215) bt co (n + 1)) H := hP
    have hD : va_D A (wP cI cJ cZ q (va_up bg n a) (va_up en n b) (va_up sc n s0) (va_up wd n 2000) (va_up ht n 3000) (va_up oh n 16777215) bt co (n + 1)) := hD
    refine lv_aload_n hx hb dP_add_87 rfl (lv_at hl 0 rfl) ?_
    refine va_get (D := (dC, dI)) (ci := 1) (v := .int (nI (n + 1))) (C := nP) (T := TP) (N := 9) hx hb hg inP hown hK hP 0 rfl rfl 8 (by decide) (hg _ kP_34) (fun _ h9 => h9) rfl dP_add_88 ?_
    refine rn_iconst hx hb 1 dP_add_91 (by decide) ?_
    refine rn_isub hx hb dP_add_92 (by omega) ?_
    have hP9 : va_P (dC, dI) vwCl (wP cI cJ cZ q (va_up bg n a) (va_up en n b) (va_up sc n s0) (va_up wd n 2000) (va_up ht n 3000) (va_up oh n 16777215) bt co (n + 1)) H := by exact hP
    have hD9 : va_D A (wP cI cJ cZ q (va_up bg n a) (va_up en n b) (va_up sc n s0) (va_up wd n 2000) (va_up ht n 3000) (va_up oh n 16777215) bt co (n + 1)) := by exact hD
    exact W.iret hx hb hr (fun t ht hW => ⟨⟨_, (), rfl, (congrArg nI (by omega)), by rw [ht]; exact hP9, va_K.moved hW.alike hK, hD9⟩, hS.F ht⟩) hS.2.2 dP_add_93
  · exact absurd hn0 c6

theorem er_n {op : Nat} {re : Nat → Nat} {i le : Nat} {o : Option Nat} (h : (o, le) = erL op re i) (c : op.testBit i = false) : (o, le) = erL op re (i + 1) := by simp [erL, c, ← h]
theorem er_t {op : Nat} {re : Nat → Nat} {i le : Nat} {o : Option Nat} (h : (o, le) = erL op re i) (c : op.testBit i = true) (d : ¬ le ≤ re i) : (some i, re i) = erL op re (i + 1) := by simp [erL, c, ← h, Nat.not_le.mp d]
theorem er_f {op : Nat} {re : Nat → Nat} {i le : Nat} {o : Option Nat} (h : (o, le) = erL op re i) (d : le ≤ re i) : (o, le) = erL op re (i + 1) := by simp [erL, ← h, Nat.not_lt.mpr d]

set_option maxHeartbeats 4000000 in
set_option maxRecDepth 100000 in
theorem lp_L_earliest {p : Program} {l : Launch} {e : Env} {R : Room} {s : State} {m : MethodId} {args : Array Value} {below : List Frame} {meth : Method} {c : Code} {H : Heap} {locs : List Loc} {cells slots : Nat} {Q : State → Prop} {dC : Nat → ClassId} {dI : Nat → Nat → Nat} {cI cJ cZ : ClassId} (ql : Nat → Nat) (re : Nat → Nat) (sa fm : Nat) (q : Nat → Nat) (bg en sc wd ht oh bt : Nat → Nat) (co n : Nat) (op : Nat) (hre : ∀ j, re j ≤ 1152921504606846976) (hB : bP bg en sc wd ht oh bt co n) (hop : op < 4611686018427387904) (hx : p.tables.exec = Jvm.exec) (hb : c.code = cL_earliestOf) (hml : c.maxLocals = 8) (hown : s.vm.findClass nL = some m.cls) (hts : ∀ w ∈ wsL_earliestOf, w.before args s = true) (hK : va_K (dC, dI) vwCl (tyE cI cJ cZ) s) (hP : va_P (dC, dI) vwCl (wL cI cJ cZ ql re sa fm ++ wP cI cJ cZ q bg en sc wd ht oh bt co n) H) (hE : EV s) (hR : 1 ≤ R.frames ∧ 22 ≤ R.locals) (hcs : cells ≤ R.cells ∧ slots ≤ R.slots)
    (kx0 : ∀ (i : Nat) (o : Option Nat) (le : Nat) (hi : i ≤ n) (ho : (o, le) = erL op re i) (hx0 : n ≤ i) (ls : Array Slot), lv_has ls 8 [(0, .ref (ql 0)), (1, .ref (q 0)), (2, .long (lN op)), (4, .int (oI o)), (5, .long (lN le)), (7, .int (nI i))] → W p l e R s m args below meth c H locs cells slots Q (F0 m 61 ls []))
    : ∀ (fu : Nat) (i : Nat) (o : Option Nat) (le : Nat) (hi : i ≤ n) (ho : (o, le) = erL op re i), n - i < fu → ∀ ls : Array Slot, lv_has ls 8 [(0, .ref (ql 0)), (1, .ref (q 0)), (2, .long (lN op)), (4, .int (oI o)), (5, .long (lN le)), (7, .int (nI i))] → W p l e R s m args below meth c H locs cells slots Q (F0 m 11 ls []) := by
  have hg : ∀ w ∈ gw, w.before args s = true := fun w h => hts w (List.mem_cons_of_mem _ h)
  have hn := hB.1
  have hco := hB.2.1
  have hbi := hB.2.2
  intro fu
  induction fu with
  | zero => intro i o le hi ho h0; exact absurd h0 (Nat.not_lt_zero _)
  | succ fu ih =>
    intro i o le hi ho hfu ls hl
    refine lv_iload hx hb dL_earliestOf_11 (lv_at hl 5 rfl) ?_
    refine lv_aload_n hx hb dL_earliestOf_13 rfl (lv_at hl 1 rfl) ?_
    refine va_get (D := (dC, dI)) (ci := 1) (v := .int (nI n)) (C := nP) (T := TP) (N := 9) hx hb hg inP hown hK hP 2 rfl rfl 8 (by decide) (hg _ kL_23) (fun _ h9 => h9) rfl dL_earliestOf_14 ?_
    refine rn_icmp_ge (tgt := 61) hx hb dL_earliestOf_17 (by decide) (by omega) (by omega) (fun c17 => ?_) (fun c17 => ?_)
    · exact kx0 i o le hi ho (by omega) ls (lv_sub hl [0, 1, 2, 3, 4, 5] rfl)
    · have hri := hre i
      have hle : le ≤ 1152921504606846976 := by have := (erL_ok op re i).1; rw [← ho] at this; exact this
      refine lv_lload_n hx hb dL_earliestOf_20 rfl (lv_at hl 2 rfl) ?_
      refine lv_iload hx hb dL_earliestOf_21 (lv_at hl 5 rfl) ?_
      refine cpN_i (As := [.long (lN op), .int (nI i)]) (rest := []) (post := fun r : Int32 => r = bI (op.testBit i)) ⟨hx, hb, hml, hown, hts⟩ (ct_G_hasBit l dC dI cI cJ cZ op i (hop) (by omega)) ⟨va_cnB 2 hts (gi kc_G_hasBit) rfl rfl rfl (hE _ kNL_28) (hg _ kin_G) (by decide +kernel) ⟨Nat.le_trans (by decide) hR.1, Nat.le_trans (by decide) hR.2⟩, hg _ ks_G_hasBit, trivial⟩ (hP.sub (ws' := []) [] rfl) hK hE rfl hl.1 rfl (Nat.le_of_ble_eq_true rfl) dL_earliestOf_23 hcs (fun r hr => ?_)
      subst hr
      refine rb_eq (tgt := 55) hx hb dL_earliestOf_26 (by decide) (fun c26 => ?_) (fun c26 => ?_)
      · refine rn_iinc (lv' := [(7, .int (nI (i + 1))), (0, .ref (ql 0)), (1, .ref (q 0)), (2, .long (lN op)), (4, .int (oI o)), (5, .long (lN le))]) hx hb dL_earliestOf_55 hl (k := 5) rfl (by decide) rfl (fun ls hl => ?_)
        refine lv_goto (tgt := 11) hx hb dL_earliestOf_58 (by decide) ?_
        exact ih (i + 1) o le (by omega) (by first | exact er_n ho c26 | exact er_t ho c26 c39 | exact er_f ho c39) (by omega) ls (lv_sub hl [1, 2, 3, 4, 5, 0] rfl)
      · refine lv_aload_n hx hb dL_earliestOf_29 rfl (lv_at hl 0 rfl) ?_
        refine va_get (D := (dC, dI)) (ci := 2) (v := .ref (ql 1)) (C := nL) (T := TL) (N := 3) hx hb hg inL hown hK hP 0 rfl rfl 0 (by decide) (hg _ kL_9) (fun _ h9 => h9) rfl dL_earliestOf_30 ?_
        refine lv_iload hx hb dL_earliestOf_33 (lv_at hl 5 rfl) ?_
        refine ga_l (f := re) hx hb hK hP 1 1 rfl rfl (by omega) (by decide) dL_earliestOf_35 ?_
        refine lv_lload hx hb dL_earliestOf_36 (lv_at hl 4 rfl) ?_
        refine rn_lcmp_ge (tgt := 55) hx hb dL_earliestOf_38 dL_earliestOf_39 (by decide) (by omega) (by omega) (fun c39 => ?_) (fun c39 => ?_)
        · refine rn_iinc (lv' := [(7, .int (nI (i + 1))), (0, .ref (ql 0)), (1, .ref (q 0)), (2, .long (lN op)), (4, .int (oI o)), (5, .long (lN le))]) hx hb dL_earliestOf_55 hl (k := 5) rfl (by decide) rfl (fun ls hl => ?_)
          refine lv_goto (tgt := 11) hx hb dL_earliestOf_58 (by decide) ?_
          exact ih (i + 1) o le (by omega) (by first | exact er_n ho c26 | exact er_t ho c26 c39 | exact er_f ho c39) (by omega) ls (lv_sub hl [1, 2, 3, 4, 5, 0] rfl)
        · refine lv_iload hx hb dL_earliestOf_42 (lv_at hl 5 rfl) ?_
          refine lv_istore (lv' := [(4, .int (nI i)), (0, .ref (ql 0)), (1, .ref (q 0)), (2, .long (lN op)), (5, .long (lN le)), (7, .int (nI i))]) hx hb dL_earliestOf_44 hl (by decide) rfl (fun ls hl => ?_)
          refine lv_aload_n hx hb dL_earliestOf_46 rfl (lv_at hl 1 rfl) ?_
          refine va_get (D := (dC, dI)) (ci := 2) (v := .ref (ql 1)) (C := nL) (T := TL) (N := 3) hx hb hg inL hown hK hP 0 rfl rfl 0 (by decide) (hg _ kL_9) (fun _ h9 => h9) rfl dL_earliestOf_47 ?_
          refine lv_iload hx hb dL_earliestOf_50 (lv_at hl 5 rfl) ?_
          refine ga_l (f := re) hx hb hK hP 1 1 rfl rfl (by omega) (by decide) dL_earliestOf_52 ?_
          refine lv_lstore (lv' := [(5, .long (lN (re i))), (4, .int (nI i)), (0, .ref (ql 0)), (1, .ref (q 0)), (2, .long (lN op)), (7, .int (nI i))]) hx hb dL_earliestOf_53 hl (by decide) rfl (fun ls hl => ?_)
          refine rn_iinc (lv' := [(7, .int (nI (i + 1))), (5, .long (lN (re i))), (4, .int (nI i)), (0, .ref (ql 0)), (1, .ref (q 0)), (2, .long (lN op))]) hx hb dL_earliestOf_55 hl (k := 5) rfl (by decide) rfl (fun ls hl => ?_)
          refine lv_goto (tgt := 11) hx hb dL_earliestOf_58 (by decide) ?_
          exact ih (i + 1) (some i) (re i) (by omega) (by first | exact er_n ho c26 | exact er_t ho c26 c39 | exact er_f ho c39) (by omega) ls (lv_sub hl [3, 4, 5, 2, 1, 0] rfl)

set_option maxHeartbeats 4000000 in
set_option maxRecDepth 100000 in
theorem ct_L_earliestOf (l : Launch) (dC : Nat → ClassId) (dI : Nat → Nat → Nat) (cI cJ cZ : ClassId) (ql : Nat → Nat) (re : Nat → Nat) (sa fm : Nat) (q : Nat → Nat) (bg en sc wd ht oh bt : Nat → Nat) (co n : Nat) (op : Nat) (hre : ∀ j, re j ≤ 1152921504606846976) (hB : bP bg en sc wd ht oh bt co n) (hop : op < 4611686018427387904) : Met l yL_earliestOf wsL_earliestOf ({ frames := 1, cells := 0, slots := 0, locals := 22 }) (PcR (dC, dI) (wL cI cJ cZ ql re sa fm ++ wP cI cJ cZ q bg en sc wd ht oh bt co n) (tyE cI cJ cZ) [.ref (ql 0), .ref (q 0), .long (lN op)]) (vp_Si (fun r => r = oI (erL op re n).1)) 0 0 (fun _ => False) := by
  refine Met.ofW (cc := cL_earliestOf) (maxL := 8) (ret := (some .int)) (by decide) rfl ?_
  intro p e s m args below meth c s₁ B hml hv
  obtain ⟨rfl, hP, hK, hE⟩ := hv
  have hx := B.exec
  have hb := B.bytes
  have hr := B.returns
  have hts := atoms_spec (ws := wsL_earliestOf) B.pre
  have hg : ∀ w ∈ gw, w.before _ s = true := fun w h => hts w (List.mem_cons_of_mem _ h)
  have hown : s.vm.findClass nL = some m.cls := findClass_of_methodNamed B.named
  have hlocks := B.notSynchronized
  have hR : 1 ≤ (headSpec wsL_earliestOf ({ frames := 1, cells := 0, slots := 0, locals := 22 })).room.frames ∧ 22 ≤ (headSpec wsL_earliestOf ({ frames := 1, cells := 0, slots := 0, locals := 22 })).room.locals := ⟨Nat.le_refl _, Nat.le_refl _⟩
  have hcs : 0 ≤ (headSpec wsL_earliestOf ({ frames := 1, cells := 0, slots := 0, locals := 22 })).room.cells ∧ 0 ≤ (headSpec wsL_earliestOf ({ frames := 1, cells := 0, slots := 0, locals := 22 })).room.slots := ⟨Nat.zero_le _, Nat.zero_le _⟩
  have hn := hB.1
  have hco := hB.2.1
  have hbi := hB.2.2
  have hl := lv_entry ([.ref (ql 0), .ref (q 0), .long (lN op)]) (n := 8) (Nat.le_of_ble_eq_true rfl)
  rw [lg_entry_eq]
  generalize (lg_sl ([.ref (ql 0), .ref (q 0), .long (lN op)]) ++ List.replicate (8 - (lg_sl ([.ref (ql 0), .ref (q 0), .long (lN op)])).length) Slot.unset).toArray = ls at hl ⊢
  have hl : lv_has ls 8 [(0, .ref (ql 0)), (1, .ref (q 0)), (2, .long (lN op))] := hl
  refine lv_iconst (v := -1) hx hb dL_earliestOf_0 (by decide) ?_
  refine lv_istore (lv' := [(4, .int (-1)), (0, .ref (ql 0)), (1, .ref (q 0)), (2, .long (lN op))]) hx hb dL_earliestOf_1 hl (by decide) rfl (fun ls hl => ?_)
  refine lv_ldc2 (v := 1152921504606846976) hx hb hown (hg _ kL_40) dL_earliestOf_3 ?_
  refine tp_l (y := lN 1152921504606846976) rfl ?_
  refine lv_lstore (lv' := [(5, .long (lN 1152921504606846976)), (4, .int (-1)), (0, .ref (ql 0)), (1, .ref (q 0)), (2, .long (lN op))]) hx hb dL_earliestOf_6 hl (by decide) rfl (fun ls hl => ?_)
  refine rn_iconst hx hb 0 dL_earliestOf_8 (by decide) ?_
  refine lv_istore (lv' := [(7, .int (nI 0)), (5, .long (lN 1152921504606846976)), (4, .int (-1)), (0, .ref (ql 0)), (1, .ref (q 0)), (2, .long (lN op))]) hx hb dL_earliestOf_9 hl (by decide) rfl (fun ls hl => ?_)
  refine lp_L_earliest ql re sa fm q bg en sc wd ht oh bt co n op hre hB hop hx hb hml hown hts hK hP hE (by first | exact hR | exact ⟨Nat.le_trans (by decide) hR.1, Nat.le_trans (by decide) hR.2⟩) hcs (fun i o le hi ho hx0 ls hl => ?_) ((n - 0) + 1) 0 none 1152921504606846976 (by omega) (rfl) (by omega) ls (lv_sub hl [3, 4, 5, 2, 1, 0] rfl)
  refine lv_iload hx hb dL_earliestOf_61 (lv_at hl 3 rfl) ?_
  exact W.iret hx hb hr (fun t ht hW => ⟨_, rfl, (by rw [show n = i from by omega, ← ho]), ht⟩) (fun _ h9 => nomatch h9) dL_earliestOf_63
end
section
def uE (oh sc : Nat → Nat) (i m : Nat) : Nat := ew (oh i) (sc i) m
theorem ewL_b {oh sec m : Nat} : ∀ c hr, hr + c ≤ m / 3600 + 24 → ewL oh sec m c hr ≤ max NVc (m + 86400 + sec) := by
  intro c
  induction c with
  | zero => intro hr _; show NVc ≤ _; omega
  | succ c ih =>
    intro hr h
    unfold ewL
    split
    · omega
    · exact ih (hr + 1) (by omega)
theorem ew_b (oh sec m : Nat) : ew oh sec m ≤ max NVc (m + 86400 + sec) := ewL_b 24 (m / 3600) (Nat.le_refl _)
theorem gL_le {fo : Nat → Nat → Bool} {use : Nat → Nat → Nat} {x op : Nat} {R : Nat → Nat} : ∀ k j, gL fo use x op R k j ≤ R j := by
  intro k
  induction k with
  | zero => intro j; exact Nat.le_refl _
  | succ k ih =>
    intro j
    unfold gL
    split
    · by_cases h : j = k
      · subst h
        simp only [va_up, if_true]
        exact Nat.le_trans (Nat.min_le_left _ _) (ih j)
      · simp only [va_up, h, if_false]
        exact ih j
    · exact ih j
def lpL (en re : Nat → Nat) (pl : Nat) : Nat → Option Nat × Nat
  | 0 => (none, NVc)
  | k + 1 => if en k = pl ∧ re k < (lpL en re pl k).2 then (some k, re k) else lpL en re pl k
theorem lpL_le (en re : Nat → Nat) (pl : Nat) : ∀ k, (lpL en re pl k).2 ≤ NVc ∧ ∀ i, (lpL en re pl k).1 = some i → i < k := by
  intro k
  induction k with
  | zero => exact ⟨Nat.le_refl _, fun i h => by cases h⟩
  | succ k ih =>
    unfold lpL
    split
    · rename_i h
      refine ⟨?_, fun i hi => ?_⟩
      · have := ih.1; dsimp only; omega
      · cases hi; omega
    · exact ⟨ih.1, fun i hi => by have := ih.2 i hi; omega⟩
theorem lp_n {en re : Nat → Nat} {pl i le : Nat} {o : Option Nat} (h : (o, le) = lpL en re pl i) (c : ¬ en i = pl) : (o, le) = lpL en re pl (i + 1) := by simp [lpL, c, ← h]
theorem lp_t {en re : Nat → Nat} {pl i le : Nat} {o : Option Nat} (h : (o, le) = lpL en re pl i) (c : en i = pl) (d : ¬ le ≤ re i) : (some i, re i) = lpL en re pl (i + 1) := by simp [lpL, c, ← h, Nat.not_le.mp d]
theorem lp_f {en re : Nat → Nat} {pl i le : Nat} {o : Option Nat} (h : (o, le) = lpL en re pl i) (d : le ≤ re i) : (o, le) = lpL en re pl (i + 1) := by simp [lpL, ← h, Nat.not_lt.mpr d]
/-- the least number below n with p -/
def ffi (p : Nat → Bool) : Nat → Option Nat
  | 0 => none
  | k + 1 => match ffi p k with
    | some i => some i
    | none => if p k = true then some k else none
theorem ffi_some {p : Nat → Bool} {i : Nat} (h : ffi p i = none) (hp : p i = true) : ∀ n, i < n → ffi p n = some i := by
  intro n
  induction n with
  | zero => intro q; omega
  | succ n ih =>
    intro q
    by_cases e : i = n
    · subst e; simp [ffi, h, hp]
    · simp [ffi, ih (by omega)]
theorem ffi_ok {p : Nat → Bool} : ∀ n, (∀ i, ffi p n = some i → i < n ∧ p i = true ∧ ∀ j, j < i → p j = false) ∧ (ffi p n = none → ∀ j, j < n → p j = false) := by
  intro n
  induction n with
  | zero => exact ⟨fun i h => (by cases h), fun _ j hj => (by omega)⟩
  | succ n ih =>
    cases hf : ffi p n with
    | some i =>
      have e : ffi p (n + 1) = some i := by simp [ffi, hf]
      rw [e]
      refine ⟨fun k hk => ?_, fun h => by cases h⟩
      cases hk
      have := ih.1 i hf
      exact ⟨by omega, this.2⟩
    | none =>
      have h0 := ih.2 hf
      by_cases hp : p n = true
      · have e : ffi p (n + 1) = some n := by simp [ffi, hf, hp]
        rw [e]
        refine ⟨fun k hk => ?_, fun h => by cases h⟩
        cases hk
        exact ⟨by omega, hp, h0⟩
      · have e : ffi p (n + 1) = none := by simp [ffi, hf, hp]
        rw [e]
        refine ⟨fun k hk => (by cases hk), fun _ j hj => ?_⟩
        by_cases hjn : j = n
        · subst hjn; simpa using hp
        · exact h0 j (by omega)
/-- is i a piece before x -/
def pbP (bg en sc oh bt re : Nat → Nat) (x i : Nat) : Bool := decide (re i < re x) && (foB bg en bt i x && decide (ew (oh x) (sc x) (re i) = re x))
def pbO (bg en sc oh bt re : Nat → Nat) (sa fm n x : Nat) : Option Nat := if bg x = sa ∧ ew (oh x) (sc x) fm = re x then none else ffi (pbP bg en sc oh bt re x) n
theorem pb_0 {bg en sc oh bt re : Nat → Nat} {sa fm n x : Nat} (h1 : bg x = sa) (h2 : ew (oh x) (sc x) fm = re x) : none = pbO bg en sc oh bt re sa fm n x := by rw [pbO, if_pos ⟨h1, h2⟩]
theorem pb_1 {p : Nat → Bool} {i : Nat} (h : ffi p i = none) (hp : p i = false) : ffi p (i + 1) = none := by simp [ffi, h, hp]
theorem pbP_1 {bg en sc oh bt re : Nat → Nat} {x i : Nat} (h : re x ≤ re i) : pbP bg en sc oh bt re x i = false := by simp [pbP, Nat.not_lt.mpr h]
theorem pbP_2 {bg en sc oh bt re : Nat → Nat} {x i : Nat} (h : foB bg en bt i x = false) : pbP bg en sc oh bt re x i = false := by simp [pbP, h]
theorem pbP_3 {bg en sc oh bt re : Nat → Nat} {x i : Nat} (h : ¬ ew (oh x) (sc x) (re i) = re x) : pbP bg en sc oh bt re x i = false := by simp [pbP, h]
theorem pbP_4 {bg en sc oh bt re : Nat → Nat} {x i : Nat} (h1 : ¬ re x ≤ re i) (h2 : foB bg en bt i x = true) (h3 : ew (oh x) (sc x) (re i) = re x) : pbP bg en sc oh bt re x i = true := by simp [pbP, h2, h3, Nat.not_le.mp h1]
theorem nn_1 {a b c d : Nat} (h : ¬ a = b) : ¬ (a = b ∧ c = d) := fun q => h q.1
theorem nn_2 {a b c d : Nat} (h : ¬ c = d) : ¬ (a = b ∧ c = d) := fun q => h q.2

set_option maxHeartbeats 4000000 in
set_option maxRecDepth 100000 in
theorem lp_L_last {p : Program} {l : Launch} {e : Env} {R : Room} {s : State} {m : MethodId} {args : Array Value} {below : List Frame} {meth : Method} {c : Code} {H : Heap} {locs : List Loc} {cells slots : Nat} {Q : State → Prop} {dC : Nat → ClassId} {dI : Nat → Nat → Nat} {cI cJ cZ : ClassId} (ql : Nat → Nat) (re : Nat → Nat) (sa fm : Nat) (q : Nat → Nat) (bg en sc wd ht oh bt : Nat → Nat) (co n : Nat) (pl : Nat) (hre : ∀ j, re j ≤ 1152921504606846976) (hB : bP bg en sc wd ht oh bt co n) (hpl : pl < 20) (hx : p.tables.exec = Jvm.exec) (hb : c.code = cL_lastPieceTo) (hml : c.maxLocals = 7) (hown : s.vm.findClass nL = some m.cls) (hts : ∀ w ∈ wsL_lastPieceTo, w.before args s = true) (hK : va_K (dC, dI) vwCl (tyE cI cJ cZ) s) (hP : va_P (dC, dI) vwCl (wL cI cJ cZ ql re sa fm ++ wP cI cJ cZ q bg en sc wd ht oh bt co n) H) (hE : EV s) (hR : 0 ≤ R.frames ∧ 0 ≤ R.locals) (hcs : cells ≤ R.cells ∧ slots ≤ R.slots)
    (kx0 : ∀ (i : Nat) (o : Option Nat) (le : Nat) (hi : i ≤ n) (ho : (o, le) = lpL en re pl i) (hx0 : n ≤ i) (ls : Array Slot), lv_has ls 7 [(0, .ref (ql 0)), (1, .ref (q 0)), (2, .int (nI pl)), (3, .int (oI o)), (4, .long (lN le)), (6, .int (nI i))] → W p l e R s m args below meth c H locs cells slots Q (F0 m 61 ls []))
    : ∀ (fu : Nat) (i : Nat) (o : Option Nat) (le : Nat) (hi : i ≤ n) (ho : (o, le) = lpL en re pl i), n - i < fu → ∀ ls : Array Slot, lv_has ls 7 [(0, .ref (ql 0)), (1, .ref (q 0)), (2, .int (nI pl)), (3, .int (oI o)), (4, .long (lN le)), (6, .int (nI i))] → W p l e R s m args below meth c H locs cells slots Q (F0 m 10 ls []) := by
  have hg : ∀ w ∈ gw, w.before args s = true := fun w h => hts w (List.mem_cons_of_mem _ h)
  have hn := hB.1
  have hco := hB.2.1
  have hbi := hB.2.2
  intro fu
  induction fu with
  | zero => intro i o le hi ho h0; exact absurd h0 (Nat.not_lt_zero _)
  | succ fu ih =>
    intro i o le hi ho hfu ls hl
    refine lv_iload hx hb dL_lastPieceTo_10 (lv_at hl 5 rfl) ?_
    refine lv_aload_n hx hb dL_lastPieceTo_12 rfl (lv_at hl 1 rfl) ?_
    refine va_get (D := (dC, dI)) (ci := 1) (v := .int (nI n)) (C := nP) (T := TP) (N := 9) hx hb hg inP hown hK hP 2 rfl rfl 8 (by decide) (hg _ kL_23) (fun _ h9 => h9) rfl dL_lastPieceTo_13 ?_
    refine rn_icmp_ge (tgt := 61) hx hb dL_lastPieceTo_16 (by decide) (by omega) (by omega) (fun c16 => ?_) (fun c16 => ?_)
    · exact kx0 i o le hi ho (by omega) ls (lv_sub hl [0, 1, 2, 3, 4, 5] rfl)
    · have bi := hbi i
      have hri := hre i
      have hle : le ≤ 1152921504606846976 := by have := (lpL_le en re pl i).1; rw [← ho] at this; exact this
      refine lv_aload_n hx hb dL_lastPieceTo_19 rfl (lv_at hl 1 rfl) ?_
      refine va_get (D := (dC, dI)) (ci := 1) (v := .ref (q 2)) (C := nP) (T := TP) (N := 9) hx hb hg inP hown hK hP 2 rfl rfl 1 (by decide) (hg _ kL_64) (fun _ h9 => h9) rfl dL_lastPieceTo_20 ?_
      refine lv_iload hx hb dL_lastPieceTo_23 (lv_at hl 5 rfl) ?_
      refine ga_i (f := en) hx hb hK hP 4 0 rfl rfl (by omega) (by decide) dL_lastPieceTo_25 ?_
      refine lv_iload_n hx hb dL_lastPieceTo_26 rfl (lv_at hl 2 rfl) ?_
      refine rn_icmp_ne (tgt := 55) hx hb dL_lastPieceTo_27 (by decide) (by omega) (by omega) (fun c27 => ?_) (fun c27 => ?_)
      · refine rn_iinc (lv' := [(6, .int (nI (i + 1))), (0, .ref (ql 0)), (1, .ref (q 0)), (2, .int (nI pl)), (3, .int (oI o)), (4, .long (lN le))]) hx hb dL_lastPieceTo_55 hl (k := 5) rfl (by decide) rfl (fun ls hl => ?_)
        refine lv_goto (tgt := 10) hx hb dL_lastPieceTo_58 (by decide) ?_
        exact ih (i + 1) o le (by omega) (by first | exact lp_n ho c27 | exact lp_t ho c27 c40 | exact lp_f ho c40) (by omega) ls (lv_sub hl [1, 2, 3, 4, 5, 0] rfl)
      · refine lv_aload_n hx hb dL_lastPieceTo_30 rfl (lv_at hl 0 rfl) ?_
        refine va_get (D := (dC, dI)) (ci := 2) (v := .ref (ql 1)) (C := nL) (T := TL) (N := 3) hx hb hg inL hown hK hP 0 rfl rfl 0 (by decide) (hg _ kL_9) (fun _ h9 => h9) rfl dL_lastPieceTo_31 ?_
        refine lv_iload hx hb dL_lastPieceTo_34 (lv_at hl 5 rfl) ?_
        refine ga_l (f := re) hx hb hK hP 1 1 rfl rfl (by omega) (by decide) dL_lastPieceTo_36 ?_
        refine lv_lload hx hb dL_lastPieceTo_37 (lv_at hl 4 rfl) ?_
        refine rn_lcmp_ge (tgt := 55) hx hb dL_lastPieceTo_39 dL_lastPieceTo_40 (by decide) (by omega) (by omega) (fun c40 => ?_) (fun c40 => ?_)
        · refine rn_iinc (lv' := [(6, .int (nI (i + 1))), (0, .ref (ql 0)), (1, .ref (q 0)), (2, .int (nI pl)), (3, .int (oI o)), (4, .long (lN le))]) hx hb dL_lastPieceTo_55 hl (k := 5) rfl (by decide) rfl (fun ls hl => ?_)
          refine lv_goto (tgt := 10) hx hb dL_lastPieceTo_58 (by decide) ?_
          exact ih (i + 1) o le (by omega) (by first | exact lp_n ho c27 | exact lp_t ho c27 c40 | exact lp_f ho c40) (by omega) ls (lv_sub hl [1, 2, 3, 4, 5, 0] rfl)
        · refine lv_iload hx hb dL_lastPieceTo_43 (lv_at hl 5 rfl) ?_
          refine lv_istore_n (lv' := [(3, .int (nI i)), (0, .ref (ql 0)), (1, .ref (q 0)), (2, .int (nI pl)), (4, .long (lN le)), (6, .int (nI i))]) hx hb dL_lastPieceTo_45 rfl hl (by decide) rfl (fun ls hl => ?_)
          refine lv_aload_n hx hb dL_lastPieceTo_46 rfl (lv_at hl 1 rfl) ?_
          refine va_get (D := (dC, dI)) (ci := 2) (v := .ref (ql 1)) (C := nL) (T := TL) (N := 3) hx hb hg inL hown hK hP 0 rfl rfl 0 (by decide) (hg _ kL_9) (fun _ h9 => h9) rfl dL_lastPieceTo_47 ?_
          refine lv_iload hx hb dL_lastPieceTo_50 (lv_at hl 5 rfl) ?_
          refine ga_l (f := re) hx hb hK hP 1 1 rfl rfl (by omega) (by decide) dL_lastPieceTo_52 ?_
          refine lv_lstore (lv' := [(4, .long (lN (re i))), (3, .int (nI i)), (0, .ref (ql 0)), (1, .ref (q 0)), (2, .int (nI pl)), (6, .int (nI i))]) hx hb dL_lastPieceTo_53 hl (by decide) rfl (fun ls hl => ?_)
          refine rn_iinc (lv' := [(6, .int (nI (i + 1))), (4, .long (lN (re i))), (3, .int (nI i)), (0, .ref (ql 0)), (1, .ref (q 0)), (2, .int (nI pl))]) hx hb dL_lastPieceTo_55 hl (k := 5) rfl (by decide) rfl (fun ls hl => ?_)
          refine lv_goto (tgt := 10) hx hb dL_lastPieceTo_58 (by decide) ?_
          exact ih (i + 1) (some i) (re i) (by omega) (by first | exact lp_n ho c27 | exact lp_t ho c27 c40 | exact lp_f ho c40) (by omega) ls (lv_sub hl [3, 4, 5, 2, 1, 0] rfl)

set_option maxHeartbeats 4000000 in
set_option maxRecDepth 100000 in
theorem ct_L_lastPieceTo (l : Launch) (dC : Nat → ClassId) (dI : Nat → Nat → Nat) (cI cJ cZ : ClassId) (ql : Nat → Nat) (re : Nat → Nat) (sa fm : Nat) (q : Nat → Nat) (bg en sc wd ht oh bt : Nat → Nat) (co n : Nat) (pl : Nat) (hre : ∀ j, re j ≤ 1152921504606846976) (hB : bP bg en sc wd ht oh bt co n) (hpl : pl < 20) : Met l yL_lastPieceTo wsL_lastPieceTo ({ frames := 0, cells := 0, slots := 0, locals := 0 }) (PcR (dC, dI) (wL cI cJ cZ ql re sa fm ++ wP cI cJ cZ q bg en sc wd ht oh bt co n) (tyE cI cJ cZ) [.ref (ql 0), .ref (q 0), .int (nI pl)]) (vp_Si (fun r => r = oI (lpL en re pl n).1)) 0 0 (fun _ => False) := by
  refine Met.ofW (cc := cL_lastPieceTo) (maxL := 7) (ret := (some .int)) (by decide) rfl ?_
  intro p e s m args below meth c s₁ B hml hv
  obtain ⟨rfl, hP, hK, hE⟩ := hv
  have hx := B.exec
  have hb := B.bytes
  have hr := B.returns
  have hts := atoms_spec (ws := wsL_lastPieceTo) B.pre
  have hg : ∀ w ∈ gw, w.before _ s = true := fun w h => hts w (List.mem_cons_of_mem _ h)
  have hown : s.vm.findClass nL = some m.cls := findClass_of_methodNamed B.named
  have hlocks := B.notSynchronized
  have hR : 0 ≤ (headSpec wsL_lastPieceTo ({ frames := 0, cells := 0, slots := 0, locals := 0 })).room.frames ∧ 0 ≤ (headSpec wsL_lastPieceTo ({ frames := 0, cells := 0, slots := 0, locals := 0 })).room.locals := ⟨Nat.le_refl _, Nat.le_refl _⟩
  have hcs : 0 ≤ (headSpec wsL_lastPieceTo ({ frames := 0, cells := 0, slots := 0, locals := 0 })).room.cells ∧ 0 ≤ (headSpec wsL_lastPieceTo ({ frames := 0, cells := 0, slots := 0, locals := 0 })).room.slots := ⟨Nat.zero_le _, Nat.zero_le _⟩
  have hn := hB.1
  have hco := hB.2.1
  have hbi := hB.2.2
  have hl := lv_entry ([.ref (ql 0), .ref (q 0), .int (nI pl)]) (n := 7) (Nat.le_of_ble_eq_true rfl)
  rw [lg_entry_eq]
  generalize (lg_sl ([.ref (ql 0), .ref (q 0), .int (nI pl)]) ++ List.replicate (7 - (lg_sl ([.ref (ql 0), .ref (q 0), .int (nI pl)])).length) Slot.unset).toArray = ls at hl ⊢
  have hl : lv_has ls 7 [(0, .ref (ql 0)), (1, .ref (q 0)), (2, .int (nI pl))] := hl
  refine lv_iconst (v := -1) hx hb dL_lastPieceTo_0 (by decide) ?_
  refine lv_istore_n (lv' := [(3, .int (-1)), (0, .ref (ql 0)), (1, .ref (q 0)), (2, .int (nI pl))]) hx hb dL_lastPieceTo_1 rfl hl (by decide) rfl (fun ls hl => ?_)
  refine lv_ldc2 (v := 1152921504606846976) hx hb hown (hg _ kL_40) dL_lastPieceTo_2 ?_
  refine tp_l (y := lN 1152921504606846976) rfl ?_
  refine lv_lstore (lv' := [(4, .long (lN 1152921504606846976)), (3, .int (-1)), (0, .ref (ql 0)), (1, .ref (q 0)), (2, .int (nI pl))]) hx hb dL_lastPieceTo_5 hl (by decide) rfl (fun ls hl => ?_)
  refine rn_iconst hx hb 0 dL_lastPieceTo_7 (by decide) ?_
  refine lv_istore (lv' := [(6, .int (nI 0)), (4, .long (lN 1152921504606846976)), (3, .int (-1)), (0, .ref (ql 0)), (1, .ref (q 0)), (2, .int (nI pl))]) hx hb dL_lastPieceTo_8 hl (by decide) rfl (fun ls hl => ?_)
  refine lp_L_last ql re sa fm q bg en sc wd ht oh bt co n pl hre hB hpl hx hb hml hown hts hK hP hE (by first | exact hR | exact ⟨Nat.le_trans (by decide) hR.1, Nat.le_trans (by decide) hR.2⟩) hcs (fun i o le hi ho hx0 ls hl => ?_) ((n - 0) + 1) 0 none 1152921504606846976 (by omega) (rfl) (by omega) ls (lv_sub hl [3, 4, 5, 2, 1, 0] rfl)
  refine lv_iload_n hx hb dL_lastPieceTo_61 rfl (lv_at hl 3 rfl) ?_
  exact W.iret hx hb hr (fun t ht hW => ⟨_, rfl, (by rw [show n = i from by omega, ← ho]), ht⟩) (fun _ h9 => nomatch h9) dL_lastPieceTo_62

set_option maxHeartbeats 4000000 in
set_option maxRecDepth 100000 in
theorem lp_L_before {p : Program} {l : Launch} {e : Env} {R : Room} {s : State} {m : MethodId} {args : Array Value} {below : List Frame} {meth : Method} {c : Code} {H : Heap} {locs : List Loc} {cells slots : Nat} {Q : State → Prop} {dC : Nat → ClassId} {dI : Nat → Nat → Nat} {cI cJ cZ : ClassId} (ql : Nat → Nat) (re : Nat → Nat) (sa fm : Nat) (q : Nat → Nat) (bg en sc wd ht oh bt : Nat → Nat) (co n : Nat) (x : Nat) (hre : ∀ j, re j ≤ 1152921504606846976) (hB : bP bg en sc wd ht oh bt co n) (hx9 : x < 40) (hfm : fm < 2305843009213693952) (hsa : sa < 20) (hx : p.tables.exec = Jvm.exec) (hb : c.code = cL_pieceBefore) (hml : c.maxLocals = 4) (hown : s.vm.findClass nL = some m.cls) (hts : ∀ w ∈ wsL_pieceBefore, w.before args s = true) (hK : va_K (dC, dI) vwCl (tyE cI cJ cZ) s) (hP : va_P (dC, dI) vwCl (wL cI cJ cZ ql re sa fm ++ wP cI cJ cZ q bg en sc wd ht oh bt co n) H) (hE : EV s) (hR : 3 ≤ R.frames ∧ 66 ≤ R.locals) (hcs : cells ≤ R.cells ∧ slots ≤ R.slots)
    (kx0 : ∀ (i : Nat) (hi : i ≤ n) (hne : ¬ (bg x = sa ∧ ew (oh x) (sc x) fm = re x)) (hf : ffi (pbP bg en sc oh bt re x) i = none) (hx0 : n ≤ i) (ls : Array Slot), lv_has ls 4 [(0, .ref (ql 0)), (1, .ref (q 0)), (2, .int (nI x)), (3, .int (nI i))] → W p l e R s m args below meth c H locs cells slots Q (F0 m 98 ls []))
    (kx1 : ∀ (i : Nat) (hi : i ≤ n) (hne : ¬ (bg x = sa ∧ ew (oh x) (sc x) fm = re x)) (hf : ffi (pbP bg en sc oh bt re x) i = none) (hx0 : i < n) (hx1 : pbP bg en sc oh bt re x i = true) (ls : Array Slot), lv_has ls 4 [(0, .ref (ql 0)), (1, .ref (q 0)), (2, .int (nI x)), (3, .int (nI i))] → W p l e R s m args below meth c H locs cells slots Q (F0 m 90 ls []))
    : ∀ (fu : Nat) (i : Nat) (hi : i ≤ n) (hne : ¬ (bg x = sa ∧ ew (oh x) (sc x) fm = re x)) (hf : ffi (pbP bg en sc oh bt re x) i = none), n - i < fu → ∀ ls : Array Slot, lv_has ls 4 [(0, .ref (ql 0)), (1, .ref (q 0)), (2, .int (nI x)), (3, .int (nI i))] → W p l e R s m args below meth c H locs cells slots Q (F0 m 36 ls []) := by
  have hg : ∀ w ∈ gw, w.before args s = true := fun w h => hts w (List.mem_cons_of_mem _ h)
  have hn := hB.1
  have hco := hB.2.1
  have hbi := hB.2.2
  have bx := hbi x
  have hrx := hre x
  have hw1 := ew_b (oh x) (sc x) fm
  have hNV : NVc = 1152921504606846976 := rfl
  intro fu
  induction fu with
  | zero => intro i hi hne hf h0; exact absurd h0 (Nat.not_lt_zero _)
  | succ fu ih =>
    intro i hi hne hf hfu ls hl
    refine lv_iload_n hx hb dL_pieceBefore_36 rfl (lv_at hl 3 rfl) ?_
    refine lv_aload_n hx hb dL_pieceBefore_37 rfl (lv_at hl 1 rfl) ?_
    refine va_get (D := (dC, dI)) (ci := 1) (v := .int (nI n)) (C := nP) (T := TP) (N := 9) hx hb hg inP hown hK hP 2 rfl rfl 8 (by decide) (hg _ kL_23) (fun _ h9 => h9) rfl dL_pieceBefore_38 ?_
    refine rn_icmp_ge (tgt := 98) hx hb dL_pieceBefore_41 (by decide) (by omega) (by omega) (fun c41 => ?_) (fun c41 => ?_)
    · exact kx0 i hi hne hf (by omega) ls (lv_sub hl [0, 1, 2, 3] rfl)
    · have hri := hre i
      have hw2 := ew_b (oh x) (sc x) (re i)
      refine lv_aload_n hx hb dL_pieceBefore_44 rfl (lv_at hl 0 rfl) ?_
      refine va_get (D := (dC, dI)) (ci := 2) (v := .ref (ql 1)) (C := nL) (T := TL) (N := 3) hx hb hg inL hown hK hP 0 rfl rfl 0 (by decide) (hg _ kL_9) (fun _ h9 => h9) rfl dL_pieceBefore_45 ?_
      refine lv_iload_n hx hb dL_pieceBefore_48 rfl (lv_at hl 3 rfl) ?_
      refine ga_l (f := re) hx hb hK hP 1 1 rfl rfl (by omega) (by decide) dL_pieceBefore_49 ?_
      refine lv_aload_n hx hb dL_pieceBefore_50 rfl (lv_at hl 0 rfl) ?_
      refine va_get (D := (dC, dI)) (ci := 2) (v := .ref (ql 1)) (C := nL) (T := TL) (N := 3) hx hb hg inL hown hK hP 0 rfl rfl 0 (by decide) (hg _ kL_9) (fun _ h9 => h9) rfl dL_pieceBefore_51 ?_
      refine lv_iload_n hx hb dL_pieceBefore_54 rfl (lv_at hl 2 rfl) ?_
      refine ga_l (f := re) hx hb hK hP 1 1 rfl rfl (by omega) (by decide) dL_pieceBefore_55 ?_
      refine rn_lcmp_ge (tgt := 92) hx hb dL_pieceBefore_56 dL_pieceBefore_57 (by decide) (by omega) (by omega) (fun c57 => ?_) (fun c57 => ?_)
      · refine rn_iinc (lv' := [(3, .int (nI (i + 1))), (0, .ref (ql 0)), (1, .ref (q 0)), (2, .int (nI x))]) hx hb dL_pieceBefore_92 hl (k := 3) rfl (by decide) rfl (fun ls hl => ?_)
        refine lv_goto (tgt := 36) hx hb dL_pieceBefore_95 (by decide) ?_
        exact ih (i + 1) (by omega) (hne) (by first | exact pb_1 hf (pbP_1 c57) | exact pb_1 hf (pbP_2 c66) | exact pb_1 hf (pbP_3 c87)) (by omega) ls (lv_sub hl [1, 2, 3, 0] rfl)
      · refine lv_aload_n hx hb dL_pieceBefore_60 rfl (lv_at hl 1 rfl) ?_
        refine lv_iload_n hx hb dL_pieceBefore_61 rfl (lv_at hl 3 rfl) ?_
        refine lv_iload_n hx hb dL_pieceBefore_62 rfl (lv_at hl 2 rfl) ?_
        refine cpV_i (b := (q 0)) (C := nP) (As := [.int (nI i), .int (nI x)]) (rest := []) (post := fun r : Int32 => r = bI (foB bg en bt i x)) ⟨hx, hb, hml, hown, hts⟩ (ct_P_canFollow l dC dI cI cJ cZ q bg en sc wd ht oh bt co n i x (hB) (by omega) (hx9)) (cwV 2 hts (gv kL_54 ki_P_canFollow ksel_P_canFollow kin_P kc_P_canFollow) rfl rfl rfl (by decide +kernel) ⟨Nat.le_trans (by decide) hR.1, Nat.le_trans (by decide) hR.2⟩) (va_recv hK hP (ci := 1) (q0 := 2) rfl rfl) (hP.sub (ws' := (wP cI cJ cZ q bg en sc wd ht oh bt co n)) [2, 3, 4, 5, 6, 7, 8, 9] rfl) hK hE rfl hl.1 rfl (Nat.le_of_ble_eq_true rfl) dL_pieceBefore_63 hcs (fun r hr => ?_)
        subst hr
        refine rb_eq (tgt := 92) hx hb dL_pieceBefore_66 (by decide) (fun c66 => ?_) (fun c66 => ?_)
        · refine rn_iinc (lv' := [(3, .int (nI (i + 1))), (0, .ref (ql 0)), (1, .ref (q 0)), (2, .int (nI x))]) hx hb dL_pieceBefore_92 hl (k := 3) rfl (by decide) rfl (fun ls hl => ?_)
          refine lv_goto (tgt := 36) hx hb dL_pieceBefore_95 (by decide) ?_
          exact ih (i + 1) (by omega) (hne) (by first | exact pb_1 hf (pbP_1 c57) | exact pb_1 hf (pbP_2 c66) | exact pb_1 hf (pbP_3 c87)) (by omega) ls (lv_sub hl [1, 2, 3, 0] rfl)
        · refine lv_aload_n hx hb dL_pieceBefore_69 rfl (lv_at hl 1 rfl) ?_
          refine lv_iload_n hx hb dL_pieceBefore_70 rfl (lv_at hl 2 rfl) ?_
          refine lv_aload_n hx hb dL_pieceBefore_71 rfl (lv_at hl 0 rfl) ?_
          refine va_get (D := (dC, dI)) (ci := 2) (v := .ref (ql 1)) (C := nL) (T := TL) (N := 3) hx hb hg inL hown hK hP 0 rfl rfl 0 (by decide) (hg _ kL_9) (fun _ h9 => h9) rfl dL_pieceBefore_72 ?_
          refine lv_iload_n hx hb dL_pieceBefore_75 rfl (lv_at hl 3 rfl) ?_
          refine ga_l (f := re) hx hb hK hP 1 1 rfl rfl (by omega) (by decide) dL_pieceBefore_76 ?_
          refine cpV_l (b := (q 0)) (C := nP) (As := [.int (nI x), .long (lN (re i))]) (rest := []) (post := fun r : Int64 => r = lN (ew (oh x) (sc x) (re i))) ⟨hx, hb, hml, hown, hts⟩ (ct_P_endWhenUsedFrom l dC dI cI cJ cZ q bg en sc wd ht oh bt co n x (re i) (hB) (hx9) (by omega)) (cwV 2 hts (gv kL_36 ki_P_endWhenUsedFrom ksel_P_endWhenUsedFrom kin_P kc_P_endWhenUsedFrom) rfl rfl rfl (by decide +kernel) ⟨Nat.le_trans (by decide) hR.1, Nat.le_trans (by decide) hR.2⟩) (va_recv hK hP (ci := 1) (q0 := 2) rfl rfl) (hP.sub (ws' := (wP cI cJ cZ q bg en sc wd ht oh bt co n)) [2, 3, 4, 5, 6, 7, 8, 9] rfl) hK hE rfl hl.1 rfl (Nat.le_of_ble_eq_true rfl) dL_pieceBefore_77 hcs (fun r hr => ?_)
          subst hr
          refine lv_aload_n hx hb dL_pieceBefore_80 rfl (lv_at hl 0 rfl) ?_
          refine va_get (D := (dC, dI)) (ci := 2) (v := .ref (ql 1)) (C := nL) (T := TL) (N := 3) hx hb hg inL hown hK hP 0 rfl rfl 0 (by decide) (hg _ kL_9) (fun _ h9 => h9) rfl dL_pieceBefore_81 ?_
          refine lv_iload_n hx hb dL_pieceBefore_84 rfl (lv_at hl 2 rfl) ?_
          refine ga_l (f := re) hx hb hK hP 1 1 rfl rfl (by omega) (by decide) dL_pieceBefore_85 ?_
          refine rn_lcmp_ne (tgt := 92) hx hb dL_pieceBefore_86 dL_pieceBefore_87 (by decide) (by omega) (by omega) (fun c87 => ?_) (fun c87 => ?_)
          · refine rn_iinc (lv' := [(3, .int (nI (i + 1))), (0, .ref (ql 0)), (1, .ref (q 0)), (2, .int (nI x))]) hx hb dL_pieceBefore_92 hl (k := 3) rfl (by decide) rfl (fun ls hl => ?_)
            refine lv_goto (tgt := 36) hx hb dL_pieceBefore_95 (by decide) ?_
            exact ih (i + 1) (by omega) (hne) (by first | exact pb_1 hf (pbP_1 c57) | exact pb_1 hf (pbP_2 c66) | exact pb_1 hf (pbP_3 c87)) (by omega) ls (lv_sub hl [1, 2, 3, 0] rfl)
          · exact kx1 i hi hne hf (by omega) (pbP_4 c57 c66 c87) ls (lv_sub hl [0, 1, 2, 3] rfl)

set_option maxHeartbeats 4000000 in
set_option maxRecDepth 100000 in
theorem ct_L_pieceBefore (l : Launch) (dC : Nat → ClassId) (dI : Nat → Nat → Nat) (cI cJ cZ : ClassId) (ql : Nat → Nat) (re : Nat → Nat) (sa fm : Nat) (q : Nat → Nat) (bg en sc wd ht oh bt : Nat → Nat) (co n : Nat) (x : Nat) (hre : ∀ j, re j ≤ 1152921504606846976) (hB : bP bg en sc wd ht oh bt co n) (hx9 : x < 40) (hfm : fm < 2305843009213693952) (hsa : sa < 20) : Met l yL_pieceBefore wsL_pieceBefore ({ frames := 3, cells := 0, slots := 0, locals := 66 }) (PcR (dC, dI) (wL cI cJ cZ ql re sa fm ++ wP cI cJ cZ q bg en sc wd ht oh bt co n) (tyE cI cJ cZ) [.ref (ql 0), .ref (q 0), .int (nI x)]) (vp_Si (fun r => r = oI (pbO bg en sc oh bt re sa fm n x))) 0 0 (fun _ => False) := by
  refine Met.ofW (cc := cL_pieceBefore) (maxL := 4) (ret := (some .int)) (by decide) rfl ?_
  intro p e s m args below meth c s₁ B hml hv
  obtain ⟨rfl, hP, hK, hE⟩ := hv
  have hx := B.exec
  have hb := B.bytes
  have hr := B.returns
  have hts := atoms_spec (ws := wsL_pieceBefore) B.pre
  have hg : ∀ w ∈ gw, w.before _ s = true := fun w h => hts w (List.mem_cons_of_mem _ h)
  have hown : s.vm.findClass nL = some m.cls := findClass_of_methodNamed B.named
  have hlocks := B.notSynchronized
  have hR : 3 ≤ (headSpec wsL_pieceBefore ({ frames := 3, cells := 0, slots := 0, locals := 66 })).room.frames ∧ 66 ≤ (headSpec wsL_pieceBefore ({ frames := 3, cells := 0, slots := 0, locals := 66 })).room.locals := ⟨Nat.le_refl _, Nat.le_refl _⟩
  have hcs : 0 ≤ (headSpec wsL_pieceBefore ({ frames := 3, cells := 0, slots := 0, locals := 66 })).room.cells ∧ 0 ≤ (headSpec wsL_pieceBefore ({ frames := 3, cells := 0, slots := 0, locals := 66 })).room.slots := ⟨Nat.zero_le _, Nat.zero_le _⟩
  have hn := hB.1
  have hco := hB.2.1
  have hbi := hB.2.2
  have bx := hbi x
  have hrx := hre x
  have hw1 := ew_b (oh x) (sc x) fm
  have hNV : NVc = 1152921504606846976 := rfl
  have hl := lv_entry ([.ref (ql 0), .ref (q 0), .int (nI x)]) (n := 4) (Nat.le_of_ble_eq_true rfl)
  rw [lg_entry_eq]
  generalize (lg_sl ([.ref (ql 0), .ref (q 0), .int (nI x)]) ++ List.replicate (4 - (lg_sl ([.ref (ql 0), .ref (q 0), .int (nI x)])).length) Slot.unset).toArray = ls at hl ⊢
  have hl : lv_has ls 4 [(0, .ref (ql 0)), (1, .ref (q 0)), (2, .int (nI x))] := hl
  refine lv_aload_n hx hb dL_pieceBefore_0 rfl (lv_at hl 1 rfl) ?_
  refine va_get (D := (dC, dI)) (ci := 1) (v := .ref (q 1)) (C := nP) (T := TP) (N := 9) hx hb hg inP hown hK hP 2 rfl rfl 0 (by decide) (hg _ kL_32) (fun _ h9 => h9) rfl dL_pieceBefore_1 ?_
  refine lv_iload_n hx hb dL_pieceBefore_4 rfl (lv_at hl 2 rfl) ?_
  refine ga_i (f := bg) hx hb hK hP 3 0 rfl rfl (by omega) (by decide) dL_pieceBefore_5 ?_
  refine lv_aload_n hx hb dL_pieceBefore_6 rfl (lv_at hl 0 rfl) ?_
  refine va_get (D := (dC, dI)) (ci := 2) (v := .int (nI sa)) (C := nL) (T := TL) (N := 3) hx hb hg inL hown hK hP 0 rfl rfl 1 (by decide) (hg _ kL_15) (fun _ h9 => h9) rfl dL_pieceBefore_7 ?_
  refine rn_icmp_ne (tgt := 34) hx hb dL_pieceBefore_10 (by decide) (by omega) (by omega) (fun c10 => ?_) (fun c10 => ?_)
  · refine rn_iconst hx hb 0 dL_pieceBefore_34 (by decide) ?_
    refine lv_istore_n (lv' := [(3, .int (nI 0)), (0, .ref (ql 0)), (1, .ref (q 0)), (2, .int (nI x))]) hx hb dL_pieceBefore_35 rfl hl (by decide) rfl (fun ls hl => ?_)
    refine lp_L_before ql re sa fm q bg en sc wd ht oh bt co n x hre hB hx9 hfm hsa hx hb hml hown hts hK hP hE (by first | exact hR | exact ⟨Nat.le_trans (by decide) hR.1, Nat.le_trans (by decide) hR.2⟩) hcs (fun i hi hne hf hx0 ls hl => ?_) (fun i hi hne hf hx0 hx1 ls hl => ?_) ((n - 0) + 1) 0 (by omega) (by first | exact nn_1 c10 | exact nn_2 c29) (rfl) (by omega) ls (lv_sub hl [1, 2, 3, 0] rfl)
    · refine lv_iconst (v := -1) hx hb dL_pieceBefore_98 (by decide) ?_
      exact W.iret hx hb hr (fun t ht hW => ⟨_, rfl, (by first | exact congrArg oI (pb_0 c10 c29) | (show nI i = _; rw [pbO, if_neg hne, ffi_some hf hx1 n hx0]; rfl) | (show -1 = _; rw [pbO, if_neg hne, show n = i from by omega, hf]; rfl)), ht⟩) (fun _ h9 => nomatch h9) dL_pieceBefore_99
    · refine lv_iload_n hx hb dL_pieceBefore_90 rfl (lv_at hl 3 rfl) ?_
      exact W.iret hx hb hr (fun t ht hW => ⟨_, rfl, (by first | exact congrArg oI (pb_0 c10 c29) | (show nI i = _; rw [pbO, if_neg hne, ffi_some hf hx1 n hx0]; rfl) | (show -1 = _; rw [pbO, if_neg hne, show n = i from by omega, hf]; rfl)), ht⟩) (fun _ h9 => nomatch h9) dL_pieceBefore_91
  · refine lv_aload_n hx hb dL_pieceBefore_13 rfl (lv_at hl 1 rfl) ?_
    refine lv_iload_n hx hb dL_pieceBefore_14 rfl (lv_at hl 2 rfl) ?_
    refine lv_aload_n hx hb dL_pieceBefore_15 rfl (lv_at hl 0 rfl) ?_
    refine va_get (D := (dC, dI)) (ci := 2) (v := .long (lN fm)) (C := nL) (T := TL) (N := 3) hx hb hg inL hown hK hP 0 rfl rfl 2 (by decide) (hg _ kL_19) (fun _ h9 => h9) rfl dL_pieceBefore_16 ?_
    refine cpV_l (b := (q 0)) (C := nP) (As := [.int (nI x), .long (lN fm)]) (rest := []) (post := fun r : Int64 => r = lN (ew (oh x) (sc x) fm)) ⟨hx, hb, hml, hown, hts⟩ (ct_P_endWhenUsedFrom l dC dI cI cJ cZ q bg en sc wd ht oh bt co n x fm (hB) (hx9) (hfm)) (cwV 2 hts (gv kL_36 ki_P_endWhenUsedFrom ksel_P_endWhenUsedFrom kin_P kc_P_endWhenUsedFrom) rfl rfl rfl (by decide +kernel) ⟨Nat.le_trans (by decide) hR.1, Nat.le_trans (by decide) hR.2⟩) (va_recv hK hP (ci := 1) (q0 := 2) rfl rfl) (hP.sub (ws' := (wP cI cJ cZ q bg en sc wd ht oh bt co n)) [2, 3, 4, 5, 6, 7, 8, 9] rfl) hK hE rfl hl.1 rfl (Nat.le_of_ble_eq_true rfl) dL_pieceBefore_19 hcs (fun r hr => ?_)
    subst hr
    refine lv_aload_n hx hb dL_pieceBefore_22 rfl (lv_at hl 0 rfl) ?_
    refine va_get (D := (dC, dI)) (ci := 2) (v := .ref (ql 1)) (C := nL) (T := TL) (N := 3) hx hb hg inL hown hK hP 0 rfl rfl 0 (by decide) (hg _ kL_9) (fun _ h9 => h9) rfl dL_pieceBefore_23 ?_
    refine lv_iload_n hx hb dL_pieceBefore_26 rfl (lv_at hl 2 rfl) ?_
    refine ga_l (f := re) hx hb hK hP 1 1 rfl rfl (by omega) (by decide) dL_pieceBefore_27 ?_
    refine rn_lcmp_ne (tgt := 34) hx hb dL_pieceBefore_28 dL_pieceBefore_29 (by decide) (by omega) (by omega) (fun c29 => ?_) (fun c29 => ?_)
    · refine rn_iconst hx hb 0 dL_pieceBefore_34 (by decide) ?_
      refine lv_istore_n (lv' := [(3, .int (nI 0)), (0, .ref (ql 0)), (1, .ref (q 0)), (2, .int (nI x))]) hx hb dL_pieceBefore_35 rfl hl (by decide) rfl (fun ls hl => ?_)
      refine lp_L_before ql re sa fm q bg en sc wd ht oh bt co n x hre hB hx9 hfm hsa hx hb hml hown hts hK hP hE (by first | exact hR | exact ⟨Nat.le_trans (by decide) hR.1, Nat.le_trans (by decide) hR.2⟩) hcs (fun i hi hne hf hx0 ls hl => ?_) (fun i hi hne hf hx0 hx1 ls hl => ?_) ((n - 0) + 1) 0 (by omega) (by first | exact nn_1 c10 | exact nn_2 c29) (rfl) (by omega) ls (lv_sub hl [1, 2, 3, 0] rfl)
      · refine lv_iconst (v := -1) hx hb dL_pieceBefore_98 (by decide) ?_
        exact W.iret hx hb hr (fun t ht hW => ⟨_, rfl, (by first | exact congrArg oI (pb_0 c10 c29) | (show nI i = _; rw [pbO, if_neg hne, ffi_some hf hx1 n hx0]; rfl) | (show -1 = _; rw [pbO, if_neg hne, show n = i from by omega, hf]; rfl)), ht⟩) (fun _ h9 => nomatch h9) dL_pieceBefore_99
      · refine lv_iload_n hx hb dL_pieceBefore_90 rfl (lv_at hl 3 rfl) ?_
        exact W.iret hx hb hr (fun t ht hW => ⟨_, rfl, (by first | exact congrArg oI (pb_0 c10 c29) | (show nI i = _; rw [pbO, if_neg hne, ffi_some hf hx1 n hx0]; rfl) | (show -1 = _; rw [pbO, if_neg hne, show n = i from by omega, hf]; rfl)), ht⟩) (fun _ h9 => nomatch h9) dL_pieceBefore_91
    · refine lv_iconst (v := -1) hx hb dL_pieceBefore_32 (by decide) ?_
      exact W.iret hx hb hr (fun t ht hW => ⟨_, rfl, (by first | exact congrArg oI (pb_0 c10 c29) | (show nI i = _; rw [pbO, if_neg hne, ffi_some hf hx1 n hx0]; rfl) | (show -1 = _; rw [pbO, if_neg hne, show n = i from by omega, hf]; rfl)), ht⟩) (fun _ h9 => nomatch h9) dL_pieceBefore_33

theorem gL_n {fo : Nat → Nat → Bool} {use : Nat → Nat → Nat} {x op : Nat} {R : Nat → Nat} {i : Nat} (c : op.testBit i = false) : gL fo use x op R (i + 1) = gL fo use x op R i := by simp [gL, c]
theorem gL_m {fo : Nat → Nat → Bool} {use : Nat → Nat → Nat} {x op : Nat} {R : Nat → Nat} {i : Nat} (c : fo x i = false) : gL fo use x op R (i + 1) = gL fo use x op R i := by simp [gL, c]
theorem gL_t {fo : Nat → Nat → Bool} {use : Nat → Nat → Nat} {x op : Nat} {R : Nat → Nat} {i : Nat} (c : op.testBit i = true) (d : fo x i = true) : gL fo use x op R (i + 1) = va_up (gL fo use x op R i) i (min (gL fo use x op R i i) (use i (gL fo use x op R i x))) := by simp [gL, c, d]

set_option maxHeartbeats 4000000 in
set_option maxRecDepth 100000 in
theorem lp_L_goOn {p : Program} {l : Launch} {e : Env} {R : Room} {s : State} {m : MethodId} {args : Array Value} {below : List Frame} {meth : Method} {c : Code} {cells slots : Nat} {Q : State → Prop} {dC : Nat → ClassId} {dI : Nat → Nat → Nat} {cI cJ cZ : ClassId} {A : Nat → Prop} (ql : Nat → Nat) (re : Nat → Nat) (sa fm : Nat) (q : Nat → Nat) (bg en sc wd ht oh bt : Nat → Nat) (co n : Nat) (x op : Nat) (hre : ∀ j, re j ≤ 1152921504606846976) (hB : bP bg en sc wd ht oh bt co n) (hx9 : x < 40) (hop : op < 4611686018427387904) (hx : p.tables.exec = Jvm.exec) (hb : c.code = cL_goOnFrom) (hml : c.maxLocals = 8) (hown : s.vm.findClass nL = some m.cls) (hts : ∀ w ∈ wsL_goOnFrom, w.before args s = true) (hK : va_K (dC, dI) vwCl (tyE cI cJ cZ) s) (hE : EV s) (hA : ∀ q : Nat, s.heap.size ≤ q → A q) (hR : 3 ≤ R.frames ∧ 66 ≤ R.locals) (hcs : cells ≤ R.cells ∧ slots ≤ R.slots)
    (kx0 : ∀ (i : Nat) (v : Nat → Nat) (hi : i ≤ n) (hv : v = gL (foB bg en bt) (uE oh sc) x op re i) (hx0 : n ≤ i) (H : Heap) (locs : List Loc), va_P (dC, dI) vwCl (wL cI cJ cZ ql v sa fm ++ wP cI cJ cZ q bg en sc wd ht oh bt co n) H → va_D A (wL cI cJ cZ ql v sa fm ++ wP cI cJ cZ q bg en sc wd ht oh bt co n) → va_S A s.heap H locs → ∀ ls : Array Slot, lv_has ls 8 [(0, .ref (ql 0)), (1, .ref (q 0)), (2, .int (nI x)), (3, .long (lN op)), (5, .int (nI i))] →  W p l e R s m args below meth c H locs cells slots Q (F0 m 70 ls []))
    : ∀ (fu : Nat) (i : Nat) (v : Nat → Nat) (hi : i ≤ n) (hv : v = gL (foB bg en bt) (uE oh sc) x op re i), n - i < fu → ∀ (H : Heap) (locs : List Loc), va_P (dC, dI) vwCl (wL cI cJ cZ ql v sa fm ++ wP cI cJ cZ q bg en sc wd ht oh bt co n) H → va_D A (wL cI cJ cZ ql v sa fm ++ wP cI cJ cZ q bg en sc wd ht oh bt co n) → va_S A s.heap H locs → ∀ ls : Array Slot, lv_has ls 8 [(0, .ref (ql 0)), (1, .ref (q 0)), (2, .int (nI x)), (3, .long (lN op)), (5, .int (nI i))] →  W p l e R s m args below meth c H locs cells slots Q (F0 m 3 ls []) := by
  have hg : ∀ w ∈ gw, w.before args s = true := fun w h => hts w (List.mem_cons_of_mem _ h)
  have hn := hB.1
  have hco := hB.2.1
  have hbi := hB.2.2
  have hNV : NVc = 1152921504606846976 := rfl
  intro fu
  induction fu with
  | zero => intro i v hi hv h0; exact absurd h0 (Nat.not_lt_zero _)
  | succ fu ih =>
    intro i v hi hv hfu H locs hP hD hS ls hl
    refine lv_iload hx hb dL_goOnFrom_3 (lv_at hl 4 rfl) ?_
    refine lv_aload_n hx hb dL_goOnFrom_5 rfl (lv_at hl 1 rfl) ?_
    refine va_get (D := (dC, dI)) (ci := 1) (v := .int (nI n)) (C := nP) (T := TP) (N := 9) hx hb hg inP hown hK hP 2 rfl rfl 8 (by decide) (hg _ kL_23) (fun _ h9 => h9) rfl dL_goOnFrom_6 ?_
    refine rn_icmp_ge (tgt := 70) hx hb dL_goOnFrom_9 (by decide) (by omega) (by omega) (fun c9 => ?_) (fun c9 => ?_)
    · exact kx0 i v hi hv (by omega) H locs hP hD hS ls (lv_sub hl [0, 1, 2, 3, 4] rfl)
    · have bi := hbi i
      have hvb : ∀ j, v j ≤ 1152921504606846976 := fun j => by rw [hv]; exact Nat.le_trans (gL_le i j) (hre j)
      have hvx := hvb x
      have hvi := hvb i
      have hw2 := ew_b (oh i) (sc i) (v x)
      refine lv_lload_n hx hb dL_goOnFrom_12 rfl (lv_at hl 3 rfl) ?_
      refine lv_iload hx hb dL_goOnFrom_13 (lv_at hl 4 rfl) ?_
      refine cpN_i (As := [.long (lN op), .int (nI i)]) (rest := []) (post := fun r : Int32 => r = bI (op.testBit i)) ⟨hx, hb, hml, hown, hts⟩ (ct_G_hasBit l dC dI cI cJ cZ op i (hop) (by omega)) ⟨va_cnB 2 hts (gi kc_G_hasBit) rfl rfl rfl (hE _ kNL_28) (hg _ kin_G) (by decide +kernel) ⟨Nat.le_trans (by decide) hR.1, Nat.le_trans (by decide) hR.2⟩, hg _ ks_G_hasBit, trivial⟩ (hP.sub (ws' := []) [] rfl) hK hE rfl hl.1 rfl (Nat.le_of_ble_eq_true rfl) dL_goOnFrom_15 hcs (fun r hr => ?_)
      subst hr
      refine rb_eq (tgt := 64) hx hb dL_goOnFrom_18 (by decide) (fun c18 => ?_) (fun c18 => ?_)
      · refine rn_iinc (lv' := [(5, .int (nI (i + 1))), (0, .ref (ql 0)), (1, .ref (q 0)), (2, .int (nI x)), (3, .long (lN op))]) hx hb dL_goOnFrom_64 hl (k := 4) rfl (by decide) rfl (fun ls hl => ?_)
        refine lv_goto (tgt := 3) hx hb dL_goOnFrom_67 (by decide) ?_
        exact ih (i + 1) v (by omega) (by first | (rw [hv]; exact (gL_n c18).symm) | (rw [hv]; exact (gL_m c28).symm) | (rw [hv]; exact (gL_t c18 c28).symm)) (by omega) H locs hP hD hS ls (lv_sub hl [1, 2, 3, 4, 0] rfl)
      · refine lv_aload_n hx hb dL_goOnFrom_21 rfl (lv_at hl 1 rfl) ?_
        refine lv_iload_n hx hb dL_goOnFrom_22 rfl (lv_at hl 2 rfl) ?_
        refine lv_iload hx hb dL_goOnFrom_23 (lv_at hl 4 rfl) ?_
        refine cpV_i (b := (q 0)) (C := nP) (As := [.int (nI x), .int (nI i)]) (rest := []) (post := fun r : Int32 => r = bI (foB bg en bt x i)) ⟨hx, hb, hml, hown, hts⟩ (ct_P_canFollow l dC dI cI cJ cZ q bg en sc wd ht oh bt co n x i (hB) (hx9) (by omega)) (cwV 2 hts (gv kL_54 ki_P_canFollow ksel_P_canFollow kin_P kc_P_canFollow) rfl rfl rfl (by decide +kernel) ⟨Nat.le_trans (by decide) hR.1, Nat.le_trans (by decide) hR.2⟩) (va_recv hK hP (ci := 1) (q0 := 2) rfl rfl) (hP.sub (ws' := (wP cI cJ cZ q bg en sc wd ht oh bt co n)) [2, 3, 4, 5, 6, 7, 8, 9] rfl) hK hE rfl hl.1 rfl (Nat.le_of_ble_eq_true rfl) dL_goOnFrom_25 hcs (fun r hr => ?_)
        subst hr
        refine rb_eq (tgt := 64) hx hb dL_goOnFrom_28 (by decide) (fun c28 => ?_) (fun c28 => ?_)
        · refine rn_iinc (lv' := [(5, .int (nI (i + 1))), (0, .ref (ql 0)), (1, .ref (q 0)), (2, .int (nI x)), (3, .long (lN op))]) hx hb dL_goOnFrom_64 hl (k := 4) rfl (by decide) rfl (fun ls hl => ?_)
          refine lv_goto (tgt := 3) hx hb dL_goOnFrom_67 (by decide) ?_
          exact ih (i + 1) v (by omega) (by first | (rw [hv]; exact (gL_n c18).symm) | (rw [hv]; exact (gL_m c28).symm) | (rw [hv]; exact (gL_t c18 c28).symm)) (by omega) H locs hP hD hS ls (lv_sub hl [1, 2, 3, 4, 0] rfl)
        · refine lv_aload_n hx hb dL_goOnFrom_31 rfl (lv_at hl 1 rfl) ?_
          refine lv_iload hx hb dL_goOnFrom_32 (lv_at hl 4 rfl) ?_
          refine lv_aload_n hx hb dL_goOnFrom_34 rfl (lv_at hl 0 rfl) ?_
          refine va_get (D := (dC, dI)) (ci := 2) (v := .ref (ql 1)) (C := nL) (T := TL) (N := 3) hx hb hg inL hown hK hP 0 rfl rfl 0 (by decide) (hg _ kL_9) (fun _ h9 => h9) rfl dL_goOnFrom_35 ?_
          refine lv_iload_n hx hb dL_goOnFrom_38 rfl (lv_at hl 2 rfl) ?_
          refine ga_l (f := v) hx hb hK hP 1 1 rfl rfl (by omega) (by decide) dL_goOnFrom_39 ?_
          refine cpV_l (b := (q 0)) (C := nP) (As := [.int (nI i), .long (lN (v x))]) (rest := []) (post := fun r : Int64 => r = lN (ew (oh i) (sc i) (v x))) ⟨hx, hb, hml, hown, hts⟩ (ct_P_endWhenUsedFrom l dC dI cI cJ cZ q bg en sc wd ht oh bt co n i (v x) (hB) (by omega) (by omega)) (cwV 2 hts (gv kL_36 ki_P_endWhenUsedFrom ksel_P_endWhenUsedFrom kin_P kc_P_endWhenUsedFrom) rfl rfl rfl (by decide +kernel) ⟨Nat.le_trans (by decide) hR.1, Nat.le_trans (by decide) hR.2⟩) (va_recv hK hP (ci := 1) (q0 := 2) rfl rfl) (hP.sub (ws' := (wP cI cJ cZ q bg en sc wd ht oh bt co n)) [2, 3, 4, 5, 6, 7, 8, 9] rfl) hK hE rfl hl.1 rfl (Nat.le_of_ble_eq_true rfl) dL_goOnFrom_40 hcs (fun r hr => ?_)
          subst hr
          refine lv_lstore (lv' := [(6, .long (lN (ew (oh i) (sc i) (v x)))), (0, .ref (ql 0)), (1, .ref (q 0)), (2, .int (nI x)), (3, .long (lN op)), (5, .int (nI i))]) hx hb dL_goOnFrom_43 hl (by decide) rfl (fun ls hl => ?_)
          refine lv_aload_n hx hb dL_goOnFrom_45 rfl (lv_at hl 1 rfl) ?_
          refine va_get (D := (dC, dI)) (ci := 2) (v := .ref (ql 1)) (C := nL) (T := TL) (N := 3) hx hb hg inL hown hK hP 0 rfl rfl 0 (by decide) (hg _ kL_9) (fun _ h9 => h9) rfl dL_goOnFrom_46 ?_
          refine lv_iload hx hb dL_goOnFrom_49 (lv_at hl 5 rfl) ?_
          refine lv_aload_n hx hb dL_goOnFrom_51 rfl (lv_at hl 1 rfl) ?_
          refine va_get (D := (dC, dI)) (ci := 2) (v := .ref (ql 1)) (C := nL) (T := TL) (N := 3) hx hb hg inL hown hK hP 0 rfl rfl 0 (by decide) (hg _ kL_9) (fun _ h9 => h9) rfl dL_goOnFrom_52 ?_
          refine lv_iload hx hb dL_goOnFrom_55 (lv_at hl 5 rfl) ?_
          refine ga_l (f := v) hx hb hK hP 1 1 rfl rfl (by omega) (by decide) dL_goOnFrom_57 ?_
          refine lv_lload hx hb dL_goOnFrom_58 (lv_at hl 0 rfl) ?_
          refine cpS_l (As := [.long (lN (v i)), .long (lN (ew (oh i) (sc i) (v x)))]) (rest := [.int (nI i), .ref (ql 1)]) (post := fun r : Int64 => r = lN (min (v i) (ew (oh i) (sc i) (v x)))) ⟨hx, hb, hml, hown, hts⟩ (ct_JM_min_J l dC dI cI cJ cZ (v i) (ew (oh i) (sc i) (v x)) (by omega) (by omega)) (va_cwS 2 hts (gs kL_58 ks_JM_min_J kin_JM kc_JM_min_J) rfl rfl rfl (by decide +kernel) ⟨Nat.le_trans (by decide) hR.1, Nat.le_trans (by decide) hR.2⟩) (hP.sub (ws' := []) [] rfl) hK hE rfl hl.1 rfl (Nat.le_of_ble_eq_true rfl) dL_goOnFrom_60 hcs (fun r hr => ?_)
          subst hr
          refine sa_l (f := v) (v := min (v i) (ew (oh i) (sc i) (v x))) hx hb hK hP hD hS 1 1 rfl rfl (by omega) (by decide) dL_goOnFrom_63 (fun H locs hP hD hS => ?_)
          have hP : va_P (dC, dI) vwCl (wL cI cJ cZ ql (va_up v i (min (v i) (ew (oh i) (sc i) (v x)))) sa fm ++ wP cI cJ cZ q bg en sc wd ht oh bt co n) H := hP
          have hD : va_D A (wL cI cJ cZ ql (va_up v i (min (v i) (ew (oh i) (sc i) (v x)))) sa fm ++ wP cI cJ cZ q bg en sc wd ht oh bt co n) := hD
          refine rn_iinc (lv' := [(5, .int (nI (i + 1))), (6, .long (lN (ew (oh i) (sc i) (v x)))), (0, .ref (ql 0)), (1, .ref (q 0)), (2, .int (nI x)), (3, .long (lN op))]) hx hb dL_goOnFrom_64 hl (k := 5) rfl (by decide) rfl (fun ls hl => ?_)
          refine lv_goto (tgt := 3) hx hb dL_goOnFrom_67 (by decide) ?_
          exact ih (i + 1) (va_up v i (min (v i) (ew (oh i) (sc i) (v x)))) (by omega) (by first | (rw [hv]; exact (gL_n c18).symm) | (rw [hv]; exact (gL_m c28).symm) | (rw [hv]; exact (gL_t c18 c28).symm)) (by omega) H locs hP hD hS ls (lv_sub hl [2, 3, 4, 5, 0] rfl)

set_option maxHeartbeats 4000000 in
set_option maxRecDepth 100000 in
theorem ct_L_goOnFrom (l : Launch) (dC : Nat → ClassId) (dI : Nat → Nat → Nat) (cI cJ cZ : ClassId) (ql : Nat → Nat) (re : Nat → Nat) (sa fm : Nat) (q : Nat → Nat) (bg en sc wd ht oh bt : Nat → Nat) (co n : Nat) (x op : Nat) (sz : Nat) (hre : ∀ j, re j ≤ 1152921504606846976) (hB : bP bg en sc wd ht oh bt co n) (hx9 : x < 40) (hop : op < 4611686018427387904) : Met l yL_goOnFrom wsL_goOnFrom ({ frames := 3, cells := 0, slots := 0, locals := 66 }) (PcW (dC, dI) (wL cI cJ cZ ql re sa fm ++ wP cI cJ cZ q bg en sc wd ht oh bt co n) (tyE cI cJ cZ) sz [.ref (ql 0), .ref (q 0), .int (nI x), .long (lN op)]) (QwV (dC, dI) (wL cI cJ cZ ql (gL (foB bg en bt) (uE oh sc) x op re n) sa fm ++ wP cI cJ cZ q bg en sc wd ht oh bt co n) (tyE cI cJ cZ) (va_A (wL cI cJ cZ ql re sa fm ++ wP cI cJ cZ q bg en sc wd ht oh bt co n) sz)) 0 0 (va_A (wL cI cJ cZ ql re sa fm ++ wP cI cJ cZ q bg en sc wd ht oh bt co n) sz) := by
  refine Met.ofW (cc := cL_goOnFrom) (maxL := 8) (ret := none) (by decide) rfl ?_
  intro p e s m args below meth c s₁ B hml hv
  obtain ⟨rfl, hsz, hP, hK, hD0, hE⟩ := hv
  have hx := B.exec
  have hb := B.bytes
  have hr := B.returns
  have hts := atoms_spec (ws := wsL_goOnFrom) B.pre
  have hg : ∀ w ∈ gw, w.before _ s = true := fun w h => hts w (List.mem_cons_of_mem _ h)
  have hown : s.vm.findClass nL = some m.cls := findClass_of_methodNamed B.named
  have hlocks := B.notSynchronized
  have hR : 3 ≤ (headSpec wsL_goOnFrom ({ frames := 3, cells := 0, slots := 0, locals := 66 })).room.frames ∧ 66 ≤ (headSpec wsL_goOnFrom ({ frames := 3, cells := 0, slots := 0, locals := 66 })).room.locals := ⟨Nat.le_refl _, Nat.le_refl _⟩
  have hcs : 0 ≤ (headSpec wsL_goOnFrom ({ frames := 3, cells := 0, slots := 0, locals := 66 })).room.cells ∧ 0 ≤ (headSpec wsL_goOnFrom ({ frames := 3, cells := 0, slots := 0, locals := 66 })).room.slots := ⟨Nat.zero_le _, Nat.zero_le _⟩
  subst hsz
  have hD := hD0.self (sz := s.heap.size)
  generalize hAe : va_A (wL cI cJ cZ ql re sa fm ++ wP cI cJ cZ q bg en sc wd ht oh bt co n) s.heap.size = A at hD ⊢
  have hA : ∀ q : Nat, s.heap.size ≤ q → A q := fun q h => by rw [← hAe]; exact Or.inr h
  obtain ⟨H, hH⟩ : ∃ H, H = s.heap := ⟨_, rfl⟩
  have hS : va_S A s.heap H [] := by rw [hH]; exact va_S.rf
  rw [← hH] at hP ⊢
  have hn := hB.1
  have hco := hB.2.1
  have hbi := hB.2.2
  have hNV : NVc = 1152921504606846976 := rfl
  have hl := lv_entry ([.ref (ql 0), .ref (q 0), .int (nI x), .long (lN op)]) (n := 8) (Nat.le_of_ble_eq_true rfl)
  rw [lg_entry_eq]
  generalize (lg_sl ([.ref (ql 0), .ref (q 0), .int (nI x), .long (lN op)]) ++ List.replicate (8 - (lg_sl ([.ref (ql 0), .ref (q 0), .int (nI x), .long (lN op)])).length) Slot.unset).toArray = ls at hl ⊢
  have hl : lv_has ls 8 [(0, .ref (ql 0)), (1, .ref (q 0)), (2, .int (nI x)), (3, .long (lN op))] := hl
  refine rn_iconst hx hb 0 dL_goOnFrom_0 (by decide) ?_
  refine lv_istore (lv' := [(5, .int (nI 0)), (0, .ref (ql 0)), (1, .ref (q 0)), (2, .int (nI x)), (3, .long (lN op))]) hx hb dL_goOnFrom_1 hl (by decide) rfl (fun ls hl => ?_)
  refine lp_L_goOn ql re sa fm q bg en sc wd ht oh bt co n x op hre hB hx9 hop hx hb hml hown hts hK hE hA (by first | exact hR | exact ⟨Nat.le_trans (by decide) hR.1, Nat.le_trans (by decide) hR.2⟩) hcs (fun i v hi hv hx0 H locs hP hD hS ls hl => ?_) ((n - 0) + 1) 0 re (by omega) (rfl) (by omega) _ _ hP hD hS ls (lv_sub hl [1, 2, 3, 4, 0] rfl)
  have hP9 : va_P (dC, dI) vwCl (wL cI cJ cZ ql (gL (foB bg en bt) (uE oh sc) x op re n) sa fm ++ wP cI cJ cZ q bg en sc wd ht oh bt co n) H := by rw [show gL (foB bg en bt) (uE oh sc) x op re n = v from by rw [hv, show n = i from by omega]]; exact hP
  have hD9 : va_D A (wL cI cJ cZ ql (gL (foB bg en bt) (uE oh sc) x op re n) sa fm ++ wP cI cJ cZ q bg en sc wd ht oh bt co n) := by rw [show gL (foB bg en bt) (uE oh sc) x op re n = v from by rw [hv, show n = i from by omega]]; exact hD
  exact W.vret hx hb hr (fun t ht hW => ⟨⟨(), rfl, trivial, by rw [ht]; exact hP9, va_K.moved hW.alike hK, hD9⟩, hS.F ht⟩) hS.2.2 dL_goOnFrom_70
end
section
def stB (bg : Nat → Nat) (a i : Nat) : Bool := decide (bg i = a)
theorem iL_1 {us : Nat} {bg : Nat → Nat} {a : Nat} {use : Nat → Nat → Nat} {t : Nat} {R0 : Nat → Nat} {i : Nat} (c : us.testBit i = false) : iL us (stB bg a) use t R0 (i + 1) = va_up (iL us (stB bg a) use t R0 i) i NVc := by simp [iL, c]
theorem iL_2 {us : Nat} {bg : Nat → Nat} {a : Nat} {use : Nat → Nat → Nat} {t : Nat} {R0 : Nat → Nat} {i : Nat} (c : ¬ bg i = a) : iL us (stB bg a) use t R0 (i + 1) = va_up (iL us (stB bg a) use t R0 i) i NVc := by simp [iL, stB, c]
theorem iL_3 {us : Nat} {bg : Nat → Nat} {a : Nat} {use : Nat → Nat → Nat} {t : Nat} {R0 : Nat → Nat} {i : Nat} (c : us.testBit i = true) (d : bg i = a) : iL us (stB bg a) use t R0 (i + 1) = va_up (iL us (stB bg a) use t R0 i) i (use i t) := by simp [iL, stB, c, d]
theorem iL_le {us : Nat} {st : Nat → Bool} {use : Nat → Nat → Nat} {t : Nat} {R0 : Nat → Nat} (h0 : ∀ j, R0 j ≤ NVc) (h1 : ∀ i, use i t ≤ NVc) : ∀ k j, iL us st use t R0 k j ≤ NVc := by
  intro k j
  rw [iL_ok]
  split
  · split
    · exact h1 j
    · exact Nat.le_refl _
  · exact h0 j
theorem sL_none {n : Nat} {fo : Nat → Nat → Bool} {use : Nat → Nat → Nat} {op : Nat} {R : Nat → Nat} {c : Nat} (h0 : 0 < c) (h : (erL op R n).1 = none) : sL n fo use c op R = R := by
  obtain ⟨c, rfl⟩ : ∃ k, c = k + 1 := ⟨c - 1, by omega⟩
  simp [sL, h]
theorem sL_some {n : Nat} {fo : Nat → Nat → Bool} {use : Nat → Nat → Nat} {op x : Nat} {R : Nat → Nat} {c : Nat} (h0 : 0 < c) (h : (erL op R n).1 = some x) : sL n fo use c op R = sL n fo use (c - 1) (sB op x false) (gL fo use x (sB op x false) R n) := by
  obtain ⟨c, rfl⟩ : ∃ k, c = k + 1 := ⟨c - 1, by omega⟩
  simp [sL, h]

set_option maxHeartbeats 4000000 in
set_option maxRecDepth 100000 in
theorem lp_L_search2 {p : Program} {l : Launch} {e : Env} {R : Room} {s : State} {m : MethodId} {args : Array Value} {below : List Frame} {meth : Method} {c : Code} {cells slots : Nat} {Q : State → Prop} {dC : Nat → ClassId} {dI : Nat → Nat → Nat} {cI cJ cZ : ClassId} {A : Nat → Prop} (ql : Nat → Nat) (re : Nat → Nat) (sa fm : Nat) (q : Nat → Nat) (bg en sc wd ht oh bt : Nat → Nat) (co n : Nat) (us a t : Nat) (hre : ∀ j, re j ≤ 1152921504606846976) (hB : bP bg en sc wd ht oh bt co n) (hus : us < 1099511627776) (ha : a < 20) (ht0 : t ≤ 10000000) (hx : p.tables.exec = Jvm.exec) (hb : c.code = cL_search) (hml : c.maxLocals = 11) (hown : s.vm.findClass nL = some m.cls) (hts : ∀ w ∈ wsL_search, w.before args s = true) (hK : va_K (dC, dI) vwCl (tyE cI cJ cZ) s) (hE : EV s) (hA : ∀ q : Nat, s.heap.size ≤ q → A q) (hR : 4 ≤ R.frames ∧ 93 ≤ R.locals) (hcs : cells ≤ R.cells ∧ slots ≤ R.slots)
    (kx0 : ∀ (rd : Nat) (op : Nat) (v : Nat → Nat) (h1 : rd ≤ n) (h2 : op < 1099511627776) (h4 : ∀ j, v j ≤ 1152921504606846976) (h3 : srch n us (stB bg a) (foB bg en bt) (uE oh sc) t re = sL n (foB bg en bt) (uE oh sc) (n - rd) op v) (hx0 : n ≤ rd) (H : Heap) (locs : List Loc), va_P (dC, dI) vwCl (wL cI cJ cZ ql v a t ++ wP cI cJ cZ q bg en sc wd ht oh bt co n) H → va_D A (wL cI cJ cZ ql v a t ++ wP cI cJ cZ q bg en sc wd ht oh bt co n) → va_S A s.heap H locs → ∀ ls : Array Slot, lv_has ls 11 [(0, .ref (ql 0)), (1, .ref (q 0)), (2, .long (lN us)), (4, .int (nI a)), (5, .long (lN t)), (7, .long (lN op)), (9, .int (nI rd))] →  W p l e R s m args below meth c H locs cells slots Q (F0 m 140 ls []))
    (kx1 : ∀ (rd : Nat) (op : Nat) (v : Nat → Nat) (h1 : rd ≤ n) (h2 : op < 1099511627776) (h4 : ∀ j, v j ≤ 1152921504606846976) (h3 : srch n us (stB bg a) (foB bg en bt) (uE oh sc) t re = sL n (foB bg en bt) (uE oh sc) (n - rd) op v) (hx1 : (erL op v n).1 = none) (hx2 : rd < n) (H : Heap) (locs : List Loc), va_P (dC, dI) vwCl (wL cI cJ cZ ql v a t ++ wP cI cJ cZ q bg en sc wd ht oh bt co n) H → va_D A (wL cI cJ cZ ql v a t ++ wP cI cJ cZ q bg en sc wd ht oh bt co n) → va_S A s.heap H locs → ∀ ls : Array Slot, lv_has ls 11 [(0, .ref (ql 0)), (1, .ref (q 0)), (2, .long (lN us)), (4, .int (nI a)), (5, .long (lN t)), (7, .long (lN op)), (9, .int (nI rd))] →  W p l e R s m args below meth c H locs cells slots Q (F0 m 114 ls []))
    : ∀ (fu : Nat) (rd : Nat) (op : Nat) (v : Nat → Nat) (h1 : rd ≤ n) (h2 : op < 1099511627776) (h4 : ∀ j, v j ≤ 1152921504606846976) (h3 : srch n us (stB bg a) (foB bg en bt) (uE oh sc) t re = sL n (foB bg en bt) (uE oh sc) (n - rd) op v), n - rd < fu → ∀ (H : Heap) (locs : List Loc), va_P (dC, dI) vwCl (wL cI cJ cZ ql v a t ++ wP cI cJ cZ q bg en sc wd ht oh bt co n) H → va_D A (wL cI cJ cZ ql v a t ++ wP cI cJ cZ q bg en sc wd ht oh bt co n) → va_S A s.heap H locs → ∀ ls : Array Slot, lv_has ls 11 [(0, .ref (ql 0)), (1, .ref (q 0)), (2, .long (lN us)), (4, .int (nI a)), (5, .long (lN t)), (7, .long (lN op)), (9, .int (nI rd))] →  W p l e R s m args below meth c H locs cells slots Q (F0 m 90 ls []) := by
  have hg : ∀ w ∈ gw, w.before args s = true := fun w h => hts w (List.mem_cons_of_mem _ h)
  have hn := hB.1
  have hco := hB.2.1
  have hbi := hB.2.2
  have hNV : NVc = 1152921504606846976 := rfl
  intro fu
  induction fu with
  | zero => intro rd op v h1 h2 h4 h3 h0; exact absurd h0 (Nat.not_lt_zero _)
  | succ fu ih =>
    intro rd op v h1 h2 h4 h3 hfu H locs hP hD hS ls hl
    refine lv_iload hx hb dL_search_90 (lv_at hl 6 rfl) ?_
    refine lv_aload_n hx hb dL_search_92 rfl (lv_at hl 1 rfl) ?_
    refine va_get (D := (dC, dI)) (ci := 1) (v := .int (nI n)) (C := nP) (T := TP) (N := 9) hx hb hg inP hown hK hP 2 rfl rfl 8 (by decide) (hg _ kL_23) (fun _ h9 => h9) rfl dL_search_93 ?_
    refine rn_icmp_ge (tgt := 140) hx hb dL_search_96 (by decide) (by omega) (by omega) (fun c96 => ?_) (fun c96 => ?_)
    · exact kx0 rd op v h1 h2 h4 h3 (by omega) H locs hP hD hS ls (lv_sub hl [0, 1, 2, 3, 4, 5, 6] rfl)
    · refine lv_aload_n hx hb dL_search_99 rfl (lv_at hl 0 rfl) ?_
      refine lv_aload_n hx hb dL_search_100 rfl (lv_at hl 1 rfl) ?_
      refine lv_lload hx hb dL_search_101 (lv_at hl 5 rfl) ?_
      refine cpV_i (b := (ql 0)) (C := nL) (As := [.ref (q 0), .long (lN op)]) (rest := []) (post := fun r : Int32 => r = oI (erL op v n).1) ⟨hx, hb, hml, hown, hts⟩ (ct_L_earliestOf l dC dI cI cJ cZ ql v a t q bg en sc wd ht oh bt co n op (h4) (hB) (by omega)) (cwV 2 hts (gv kL_42 ki_L_earliestOf ksel_L_earliestOf kin_L kc_L_earliestOf) rfl rfl rfl (by decide +kernel) ⟨Nat.le_trans (by decide) hR.1, Nat.le_trans (by decide) hR.2⟩) (va_recv hK hP (ci := 2) (q0 := 0) rfl rfl) hP hK hE rfl hl.1 rfl (Nat.le_of_ble_eq_true rfl) dL_search_103 hcs (fun r hr => ?_)
      subst hr
      refine lv_istore (lv' := [(10, .int (oI ((erL op v n).1))), (0, .ref (ql 0)), (1, .ref (q 0)), (2, .long (lN us)), (4, .int (nI a)), (5, .long (lN t)), (7, .long (lN op)), (9, .int (nI rd))]) hx hb dL_search_106 hl (by decide) rfl (fun ls hl => ?_)
      refine lv_iload hx hb dL_search_108 (lv_at hl 0 rfl) ?_
      refine lv_iconst (v := -1) hx hb dL_search_110 (by decide) ?_
      refine ro_ne (tgt := 115) hx hb dL_search_111 (by decide) (fun i hi => by have := ((erL_ok op v n).2.2.2 i hi).1; omega) (fun x111 o111 => ?_) (fun o111 => ?_)
      · have hl : lv_has ls 11 [(10, .int (nI x111)), (0, .ref (ql 0)), (1, .ref (q 0)), (2, .long (lN us)), (4, .int (nI a)), (5, .long (lN t)), (7, .long (lN op)), (9, .int (nI rd))] := by rw [o111] at hl; exact hl
        have hxe := ((erL_ok op v n).2.2.2 _ o111).1
        have hsb : sB op x111 false < 1099511627776 := sB_lt (w := 40) false h2 (by omega)
        refine lv_lload hx hb dL_search_115 (lv_at hl 6 rfl) ?_
        refine lv_iload hx hb dL_search_117 (lv_at hl 0 rfl) ?_
        refine rn_iconst hx hb 0 dL_search_119 (by decide) ?_
        refine cpN_l (As := [.long (lN op), .int (nI x111), .int (bI false)]) (rest := []) (post := fun r : Int64 => r = lN (sB op x111 false)) ⟨hx, hb, hml, hown, hts⟩ (ct_G_withBit l dC dI cI cJ cZ op x111 false (by omega) (by omega)) ⟨va_cnB 3 hts (gi kc_G_withBit) rfl rfl rfl (hE _ kNL_46) (hg _ kin_G) (by decide +kernel) ⟨Nat.le_trans (by decide) hR.1, Nat.le_trans (by decide) hR.2⟩, hg _ ks_G_withBit, trivial⟩ (hP.sub (ws' := []) [] rfl) hK hE rfl hl.1 rfl (Nat.le_of_ble_eq_true rfl) dL_search_120 hcs (fun r hr => ?_)
        subst hr
        refine lv_lstore (lv' := [(7, .long (lN (sB op x111 false))), (10, .int (nI x111)), (0, .ref (ql 0)), (1, .ref (q 0)), (2, .long (lN us)), (4, .int (nI a)), (5, .long (lN t)), (9, .int (nI rd))]) hx hb dL_search_123 hl (by decide) rfl (fun ls hl => ?_)
        refine lv_aload_n hx hb dL_search_125 rfl (lv_at hl 2 rfl) ?_
        refine lv_aload_n hx hb dL_search_126 rfl (lv_at hl 3 rfl) ?_
        refine lv_iload hx hb dL_search_127 (lv_at hl 1 rfl) ?_
        refine lv_lload hx hb dL_search_129 (lv_at hl 0 rfl) ?_
        refine kwV_v (D := (dC, dI)) (b := (ql 0)) (C := nL) (As := [.ref (q 0), .int (nI x111), .long (lN (sB op x111 false))]) (rest := []) (wc := (wL cI cJ cZ ql v a t ++ wP cI cJ cZ q bg en sc wd ht oh bt co n)) (wr := []) (w1 := (wL cI cJ cZ ql (gL (foB bg en bt) (uE oh sc) x111 (sB op x111 false) v n) a t ++ wP cI cJ cZ q bg en sc wd ht oh bt co n)) (wn := (wL cI cJ cZ ql (gL (foB bg en bt) (uE oh sc) x111 (sB op x111 false) v n) a t ++ wP cI cJ cZ q bg en sc wd ht oh bt co n)) ⟨hx, hb, hml, hown, hts⟩ (ct_L_goOnFrom l dC dI cI cJ cZ ql v a t q bg en sc wd ht oh bt co n x111 (sB op x111 false) H.size (h4) (hB) (by omega) (by omega)) (cwV 3 hts (gv kL_50 ki_L_goOnFrom ksel_L_goOnFrom kin_L kc_L_goOnFrom) rfl rfl rfl (by decide +kernel) ⟨Nat.le_trans (by decide) hR.1, Nat.le_trans (by decide) hR.2⟩) (va_recv hK hP (ci := 2) (q0 := 0) rfl rfl) hP hD hK hE hS hA [0, 1, 2, 3, 4, 5, 6, 7, 8, 9] [] [0, 1, 2, 3, 4, 5, 6, 7, 8, 9] rfl (by decide) rfl (by decide) (by decide) rfl (by decide) rfl hl.1 rfl (Nat.le_of_ble_eq_true rfl) dL_search_131 hcs (fun H locs hP hD hS => ?_)
        refine rn_iinc (lv' := [(9, .int (nI (rd + 1))), (7, .long (lN (sB op x111 false))), (10, .int (nI x111)), (0, .ref (ql 0)), (1, .ref (q 0)), (2, .long (lN us)), (4, .int (nI a)), (5, .long (lN t))]) hx hb dL_search_134 hl (k := 7) rfl (by decide) rfl (fun ls hl => ?_)
        refine lv_goto (tgt := 90) hx hb dL_search_137 (by decide) ?_
        exact ih (rd + 1) (sB op x111 false) (gL (foB bg en bt) (uE oh sc) x111 (sB op x111 false) v n) (by omega) (hsb) (fun j => Nat.le_trans (gL_le n j) (h4 j)) (by rw [h3, sL_some (by omega) o111, Nat.sub_sub]) (by omega) H locs hP hD hS ls (lv_sub hl [3, 4, 5, 6, 7, 1, 0] rfl)
      · exact kx1 rd op v h1 h2 h4 h3 (o111) (by omega) H locs hP hD hS ls (lv_sub hl [1, 2, 3, 4, 5, 6, 7] rfl)

set_option maxHeartbeats 4000000 in
set_option maxRecDepth 100000 in
theorem lp_L_search1 {p : Program} {l : Launch} {e : Env} {R : Room} {s : State} {m : MethodId} {args : Array Value} {below : List Frame} {meth : Method} {c : Code} {cells slots : Nat} {Q : State → Prop} {dC : Nat → ClassId} {dI : Nat → Nat → Nat} {cI cJ cZ : ClassId} {A : Nat → Prop} (ql : Nat → Nat) (re : Nat → Nat) (sa fm : Nat) (q : Nat → Nat) (bg en sc wd ht oh bt : Nat → Nat) (co n : Nat) (us a t : Nat) (hre : ∀ j, re j ≤ 1152921504606846976) (hB : bP bg en sc wd ht oh bt co n) (hus : us < 1099511627776) (ha : a < 20) (ht0 : t ≤ 10000000) (hx : p.tables.exec = Jvm.exec) (hb : c.code = cL_search) (hml : c.maxLocals = 11) (hown : s.vm.findClass nL = some m.cls) (hts : ∀ w ∈ wsL_search, w.before args s = true) (hK : va_K (dC, dI) vwCl (tyE cI cJ cZ) s) (hE : EV s) (hA : ∀ q : Nat, s.heap.size ≤ q → A q) (hR : 4 ≤ R.frames ∧ 93 ≤ R.locals) (hcs : cells ≤ R.cells ∧ slots ≤ R.slots)
    (kx0 : ∀ (i : Nat) (v : Nat → Nat) (hi : i ≤ n) (hv : v = iL us (stB bg a) (uE oh sc) t re i) (hx0 : n ≤ i) (H : Heap) (locs : List Loc), va_P (dC, dI) vwCl (wL cI cJ cZ ql v a t ++ wP cI cJ cZ q bg en sc wd ht oh bt co n) H → va_D A (wL cI cJ cZ ql v a t ++ wP cI cJ cZ q bg en sc wd ht oh bt co n) → va_S A s.heap H locs → ∀ ls : Array Slot, lv_has ls 11 [(0, .ref (ql 0)), (1, .ref (q 0)), (2, .long (lN us)), (4, .int (nI a)), (5, .long (lN t)), (7, .int (nI i))] →  W p l e R s m args below meth c H locs cells slots Q (F0 m 84 ls []))
    : ∀ (fu : Nat) (i : Nat) (v : Nat → Nat) (hi : i ≤ n) (hv : v = iL us (stB bg a) (uE oh sc) t re i), n - i < fu → ∀ (H : Heap) (locs : List Loc), va_P (dC, dI) vwCl (wL cI cJ cZ ql v a t ++ wP cI cJ cZ q bg en sc wd ht oh bt co n) H → va_D A (wL cI cJ cZ ql v a t ++ wP cI cJ cZ q bg en sc wd ht oh bt co n) → va_S A s.heap H locs → ∀ ls : Array Slot, lv_has ls 11 [(0, .ref (ql 0)), (1, .ref (q 0)), (2, .long (lN us)), (4, .int (nI a)), (5, .long (lN t)), (7, .int (nI i))] →  W p l e R s m args below meth c H locs cells slots Q (F0 m 15 ls []) := by
  have hg : ∀ w ∈ gw, w.before args s = true := fun w h => hts w (List.mem_cons_of_mem _ h)
  have hn := hB.1
  have hco := hB.2.1
  have hbi := hB.2.2
  have hNV : NVc = 1152921504606846976 := rfl
  intro fu
  induction fu with
  | zero => intro i v hi hv h0; exact absurd h0 (Nat.not_lt_zero _)
  | succ fu ih =>
    intro i v hi hv hfu H locs hP hD hS ls hl
    refine lv_iload hx hb dL_search_15 (lv_at hl 5 rfl) ?_
    refine lv_aload_n hx hb dL_search_17 rfl (lv_at hl 1 rfl) ?_
    refine va_get (D := (dC, dI)) (ci := 1) (v := .int (nI n)) (C := nP) (T := TP) (N := 9) hx hb hg inP hown hK hP 2 rfl rfl 8 (by decide) (hg _ kL_23) (fun _ h9 => h9) rfl dL_search_18 ?_
    refine rn_icmp_ge (tgt := 84) hx hb dL_search_21 (by decide) (by omega) (by omega) (fun c21 => ?_) (fun c21 => ?_)
    · exact kx0 i v hi hv (by omega) H locs hP hD hS ls (lv_sub hl [0, 1, 2, 3, 4, 5] rfl)
    · have bi := hbi i
      refine lv_lload_n hx hb dL_search_24 rfl (lv_at hl 2 rfl) ?_
      refine lv_iload hx hb dL_search_25 (lv_at hl 5 rfl) ?_
      refine cpN_i (As := [.long (lN us), .int (nI i)]) (rest := []) (post := fun r : Int32 => r = bI (us.testBit i)) ⟨hx, hb, hml, hown, hts⟩ (ct_G_hasBit l dC dI cI cJ cZ us i (by omega) (by omega)) ⟨va_cnB 2 hts (gi kc_G_hasBit) rfl rfl rfl (hE _ kNL_28) (hg _ kin_G) (by decide +kernel) ⟨Nat.le_trans (by decide) hR.1, Nat.le_trans (by decide) hR.2⟩, hg _ ks_G_hasBit, trivial⟩ (hP.sub (ws' := []) [] rfl) hK hE rfl hl.1 rfl (Nat.le_of_ble_eq_true rfl) dL_search_27 hcs (fun r hr => ?_)
      subst hr
      refine rb_eq (tgt := 49) hx hb dL_search_30 (by decide) (fun c30 => ?_) (fun c30 => ?_)
      · refine rn_iconst hx hb 0 dL_search_49 (by decide) ?_
        refine lv_istore (lv' := [(8, .int (nI 0)), (0, .ref (ql 0)), (1, .ref (q 0)), (2, .long (lN us)), (4, .int (nI a)), (5, .long (lN t)), (7, .int (nI i))]) hx hb dL_search_50 hl (by decide) rfl (fun ls hl => ?_)
        refine lv_aload_n hx hb dL_search_52 rfl (lv_at hl 1 rfl) ?_
        refine va_get (D := (dC, dI)) (ci := 2) (v := .ref (ql 1)) (C := nL) (T := TL) (N := 3) hx hb hg inL hown hK hP 0 rfl rfl 0 (by decide) (hg _ kL_9) (fun _ h9 => h9) rfl dL_search_53 ?_
        refine lv_iload hx hb dL_search_56 (lv_at hl 6 rfl) ?_
        refine lv_iload hx hb dL_search_58 (lv_at hl 0 rfl) ?_
        refine lv_if_eq (tgt := 74) hx hb dL_search_60 (by decide) (fun c60 => ?_) (fun c60 => absurd c60 (by decide))
        refine lv_ldc2 (v := 1152921504606846976) hx hb hown (hg _ kL_40) dL_search_74 ?_
        refine tp_l (y := lN 1152921504606846976) rfl ?_
        refine sa_l (f := v) (v := 1152921504606846976) hx hb hK hP hD hS 1 1 rfl rfl (by omega) (by decide) dL_search_77 (fun H locs hP hD hS => ?_)
        have hP : va_P (dC, dI) vwCl (wL cI cJ cZ ql (va_up v i 1152921504606846976) a t ++ wP cI cJ cZ q bg en sc wd ht oh bt co n) H := hP
        have hD : va_D A (wL cI cJ cZ ql (va_up v i 1152921504606846976) a t ++ wP cI cJ cZ q bg en sc wd ht oh bt co n) := hD
        refine rn_iinc (lv' := [(7, .int (nI (i + 1))), (8, .int (nI 0)), (0, .ref (ql 0)), (1, .ref (q 0)), (2, .long (lN us)), (4, .int (nI a)), (5, .long (lN t))]) hx hb dL_search_78 hl (k := 6) rfl (by decide) rfl (fun ls hl => ?_)
        refine lv_goto (tgt := 15) hx hb dL_search_81 (by decide) ?_
        exact ih (i + 1) (va_up v i 1152921504606846976) (by omega) (by first | (rw [hv]; exact (iL_1 c30).symm) | (rw [hv]; exact (iL_2 c42).symm) | (rw [hv]; exact (iL_3 c30 c42).symm)) (by omega) H locs hP hD hS ls (lv_sub hl [2, 3, 4, 5, 6, 0] rfl)
      · refine lv_aload_n hx hb dL_search_33 rfl (lv_at hl 1 rfl) ?_
        refine va_get (D := (dC, dI)) (ci := 1) (v := .ref (q 1)) (C := nP) (T := TP) (N := 9) hx hb hg inP hown hK hP 2 rfl rfl 0 (by decide) (hg _ kL_32) (fun _ h9 => h9) rfl dL_search_34 ?_
        refine lv_iload hx hb dL_search_37 (lv_at hl 5 rfl) ?_
        refine ga_i (f := bg) hx hb hK hP 3 0 rfl rfl (by omega) (by decide) dL_search_39 ?_
        refine lv_iload hx hb dL_search_40 (lv_at hl 3 rfl) ?_
        refine rn_icmp_ne (tgt := 49) hx hb dL_search_42 (by decide) (by omega) (by omega) (fun c42 => ?_) (fun c42 => ?_)
        · refine rn_iconst hx hb 0 dL_search_49 (by decide) ?_
          refine lv_istore (lv' := [(8, .int (nI 0)), (0, .ref (ql 0)), (1, .ref (q 0)), (2, .long (lN us)), (4, .int (nI a)), (5, .long (lN t)), (7, .int (nI i))]) hx hb dL_search_50 hl (by decide) rfl (fun ls hl => ?_)
          refine lv_aload_n hx hb dL_search_52 rfl (lv_at hl 1 rfl) ?_
          refine va_get (D := (dC, dI)) (ci := 2) (v := .ref (ql 1)) (C := nL) (T := TL) (N := 3) hx hb hg inL hown hK hP 0 rfl rfl 0 (by decide) (hg _ kL_9) (fun _ h9 => h9) rfl dL_search_53 ?_
          refine lv_iload hx hb dL_search_56 (lv_at hl 6 rfl) ?_
          refine lv_iload hx hb dL_search_58 (lv_at hl 0 rfl) ?_
          refine lv_if_eq (tgt := 74) hx hb dL_search_60 (by decide) (fun c60 => ?_) (fun c60 => absurd c60 (by decide))
          refine lv_ldc2 (v := 1152921504606846976) hx hb hown (hg _ kL_40) dL_search_74 ?_
          refine tp_l (y := lN 1152921504606846976) rfl ?_
          refine sa_l (f := v) (v := 1152921504606846976) hx hb hK hP hD hS 1 1 rfl rfl (by omega) (by decide) dL_search_77 (fun H locs hP hD hS => ?_)
          have hP : va_P (dC, dI) vwCl (wL cI cJ cZ ql (va_up v i 1152921504606846976) a t ++ wP cI cJ cZ q bg en sc wd ht oh bt co n) H := hP
          have hD : va_D A (wL cI cJ cZ ql (va_up v i 1152921504606846976) a t ++ wP cI cJ cZ q bg en sc wd ht oh bt co n) := hD
          refine rn_iinc (lv' := [(7, .int (nI (i + 1))), (8, .int (nI 0)), (0, .ref (ql 0)), (1, .ref (q 0)), (2, .long (lN us)), (4, .int (nI a)), (5, .long (lN t))]) hx hb dL_search_78 hl (k := 6) rfl (by decide) rfl (fun ls hl => ?_)
          refine lv_goto (tgt := 15) hx hb dL_search_81 (by decide) ?_
          exact ih (i + 1) (va_up v i 1152921504606846976) (by omega) (by first | (rw [hv]; exact (iL_1 c30).symm) | (rw [hv]; exact (iL_2 c42).symm) | (rw [hv]; exact (iL_3 c30 c42).symm)) (by omega) H locs hP hD hS ls (lv_sub hl [2, 3, 4, 5, 6, 0] rfl)
        · refine rn_iconst hx hb 1 dL_search_45 (by decide) ?_
          refine lv_goto (tgt := 50) hx hb dL_search_46 (by decide) ?_
          refine lv_istore (lv' := [(8, .int (nI 1)), (0, .ref (ql 0)), (1, .ref (q 0)), (2, .long (lN us)), (4, .int (nI a)), (5, .long (lN t)), (7, .int (nI i))]) hx hb dL_search_50 hl (by decide) rfl (fun ls hl => ?_)
          refine lv_aload_n hx hb dL_search_52 rfl (lv_at hl 1 rfl) ?_
          refine va_get (D := (dC, dI)) (ci := 2) (v := .ref (ql 1)) (C := nL) (T := TL) (N := 3) hx hb hg inL hown hK hP 0 rfl rfl 0 (by decide) (hg _ kL_9) (fun _ h9 => h9) rfl dL_search_53 ?_
          refine lv_iload hx hb dL_search_56 (lv_at hl 6 rfl) ?_
          refine lv_iload hx hb dL_search_58 (lv_at hl 0 rfl) ?_
          refine lv_if_eq (tgt := 74) hx hb dL_search_60 (by decide) (fun c60 => absurd c60 (by decide)) (fun c60 => ?_)
          refine lv_aload_n hx hb dL_search_63 rfl (lv_at hl 2 rfl) ?_
          refine lv_iload hx hb dL_search_64 (lv_at hl 6 rfl) ?_
          refine lv_lload hx hb dL_search_66 (lv_at hl 5 rfl) ?_
          refine cpV_l (b := (q 0)) (C := nP) (As := [.int (nI i), .long (lN t)]) (rest := [.int (nI i), .ref (ql 1)]) (post := fun r : Int64 => r = lN (ew (oh i) (sc i) t)) ⟨hx, hb, hml, hown, hts⟩ (ct_P_endWhenUsedFrom l dC dI cI cJ cZ q bg en sc wd ht oh bt co n i t (hB) (by omega) (by omega)) (cwV 2 hts (gv kL_36 ki_P_endWhenUsedFrom ksel_P_endWhenUsedFrom kin_P kc_P_endWhenUsedFrom) rfl rfl rfl (by decide +kernel) ⟨Nat.le_trans (by decide) hR.1, Nat.le_trans (by decide) hR.2⟩) (va_recv hK hP (ci := 1) (q0 := 2) rfl rfl) (hP.sub (ws' := (wP cI cJ cZ q bg en sc wd ht oh bt co n)) [2, 3, 4, 5, 6, 7, 8, 9] rfl) hK hE rfl hl.1 rfl (Nat.le_of_ble_eq_true rfl) dL_search_68 hcs (fun r hr => ?_)
          subst hr
          refine lv_goto (tgt := 77) hx hb dL_search_71 (by decide) ?_
          refine sa_l (f := v) (v := ew (oh i) (sc i) t) hx hb hK hP hD hS 1 1 rfl rfl (by omega) (by decide) dL_search_77 (fun H locs hP hD hS => ?_)
          have hP : va_P (dC, dI) vwCl (wL cI cJ cZ ql (va_up v i (ew (oh i) (sc i) t)) a t ++ wP cI cJ cZ q bg en sc wd ht oh bt co n) H := hP
          have hD : va_D A (wL cI cJ cZ ql (va_up v i (ew (oh i) (sc i) t)) a t ++ wP cI cJ cZ q bg en sc wd ht oh bt co n) := hD
          refine rn_iinc (lv' := [(7, .int (nI (i + 1))), (8, .int (nI 1)), (0, .ref (ql 0)), (1, .ref (q 0)), (2, .long (lN us)), (4, .int (nI a)), (5, .long (lN t))]) hx hb dL_search_78 hl (k := 6) rfl (by decide) rfl (fun ls hl => ?_)
          refine lv_goto (tgt := 15) hx hb dL_search_81 (by decide) ?_
          exact ih (i + 1) (va_up v i (ew (oh i) (sc i) t)) (by omega) (by first | (rw [hv]; exact (iL_1 c30).symm) | (rw [hv]; exact (iL_2 c42).symm) | (rw [hv]; exact (iL_3 c30 c42).symm)) (by omega) H locs hP hD hS ls (lv_sub hl [2, 3, 4, 5, 6, 0] rfl)

set_option maxHeartbeats 4000000 in
set_option maxRecDepth 100000 in
theorem ct_L_search (l : Launch) (dC : Nat → ClassId) (dI : Nat → Nat → Nat) (cI cJ cZ : ClassId) (ql : Nat → Nat) (re : Nat → Nat) (sa fm : Nat) (q : Nat → Nat) (bg en sc wd ht oh bt : Nat → Nat) (co n : Nat) (us a t : Nat) (sz : Nat) (hre : ∀ j, re j ≤ 1152921504606846976) (hB : bP bg en sc wd ht oh bt co n) (hus : us < 1099511627776) (ha : a < 20) (ht0 : t ≤ 10000000) : Met l yL_search wsL_search ({ frames := 4, cells := 0, slots := 0, locals := 93 }) (PcW (dC, dI) (wL cI cJ cZ ql re sa fm ++ wP cI cJ cZ q bg en sc wd ht oh bt co n) (tyE cI cJ cZ) sz [.ref (ql 0), .ref (q 0), .long (lN us), .int (nI a), .long (lN t)]) (QwV (dC, dI) (wL cI cJ cZ ql (srch n us (stB bg a) (foB bg en bt) (uE oh sc) t re) a t ++ wP cI cJ cZ q bg en sc wd ht oh bt co n) (tyE cI cJ cZ) (va_A (wL cI cJ cZ ql re sa fm ++ wP cI cJ cZ q bg en sc wd ht oh bt co n) sz)) 0 0 (va_A (wL cI cJ cZ ql re sa fm ++ wP cI cJ cZ q bg en sc wd ht oh bt co n) sz) := by
  refine Met.ofW (cc := cL_search) (maxL := 11) (ret := none) (by decide) rfl ?_
  intro p e s m args below meth c s₁ B hml hv
  obtain ⟨rfl, hsz, hP, hK, hD0, hE⟩ := hv
  have hx := B.exec
  have hb := B.bytes
  have hr := B.returns
  have hts := atoms_spec (ws := wsL_search) B.pre
  have hg : ∀ w ∈ gw, w.before _ s = true := fun w h => hts w (List.mem_cons_of_mem _ h)
  have hown : s.vm.findClass nL = some m.cls := findClass_of_methodNamed B.named
  have hlocks := B.notSynchronized
  have hR : 4 ≤ (headSpec wsL_search ({ frames := 4, cells := 0, slots := 0, locals := 93 })).room.frames ∧ 93 ≤ (headSpec wsL_search ({ frames := 4, cells := 0, slots := 0, locals := 93 })).room.locals := ⟨Nat.le_refl _, Nat.le_refl _⟩
  have hcs : 0 ≤ (headSpec wsL_search ({ frames := 4, cells := 0, slots := 0, locals := 93 })).room.cells ∧ 0 ≤ (headSpec wsL_search ({ frames := 4, cells := 0, slots := 0, locals := 93 })).room.slots := ⟨Nat.zero_le _, Nat.zero_le _⟩
  subst hsz
  have hD := hD0.self (sz := s.heap.size)
  generalize hAe : va_A (wL cI cJ cZ ql re sa fm ++ wP cI cJ cZ q bg en sc wd ht oh bt co n) s.heap.size = A at hD ⊢
  have hA : ∀ q : Nat, s.heap.size ≤ q → A q := fun q h => by rw [← hAe]; exact Or.inr h
  obtain ⟨H, hH⟩ : ∃ H, H = s.heap := ⟨_, rfl⟩
  have hS : va_S A s.heap H [] := by rw [hH]; exact va_S.rf
  rw [← hH] at hP ⊢
  have hn := hB.1
  have hco := hB.2.1
  have hbi := hB.2.2
  have hNV : NVc = 1152921504606846976 := rfl
  have hl := lv_entry ([.ref (ql 0), .ref (q 0), .long (lN us), .int (nI a), .long (lN t)]) (n := 11) (Nat.le_of_ble_eq_true rfl)
  rw [lg_entry_eq]
  generalize (lg_sl ([.ref (ql 0), .ref (q 0), .long (lN us), .int (nI a), .long (lN t)]) ++ List.replicate (11 - (lg_sl ([.ref (ql 0), .ref (q 0), .long (lN us), .int (nI a), .long (lN t)])).length) Slot.unset).toArray = ls at hl ⊢
  have hl : lv_has ls 11 [(0, .ref (ql 0)), (1, .ref (q 0)), (2, .long (lN us)), (4, .int (nI a)), (5, .long (lN t))] := hl
  refine lv_aload_n hx hb dL_search_0 rfl (lv_at hl 0 rfl) ?_
  refine lv_iload hx hb dL_search_1 (lv_at hl 3 rfl) ?_
  refine va_put (D := (dC, dI)) (ci := 2) (v := .int (nI a)) (ty := .int) (C := nL) (T := TL) (N := 3) hx hb hg inL tL tL_ok nmL hown hK hP hD hS 0 rfl rfl 1 (by decide) (hg _ kL_15) (fun _ h9 => h9) rfl (by decide +kernel) rfl rfl (Nat.le_of_ble_eq_true rfl) dL_search_3 (fun H locs hP hD hS => ?_)
  have hP : va_P (dC, dI) vwCl (wL cI cJ cZ ql re a fm ++ wP cI cJ cZ q bg en sc wd ht oh bt co n) H := hP
  have hD : va_D A (wL cI cJ cZ ql re a fm ++ wP cI cJ cZ q bg en sc wd ht oh bt co n) := hD
  refine lv_aload_n hx hb dL_search_6 rfl (lv_at hl 0 rfl) ?_
  refine lv_lload hx hb dL_search_7 (lv_at hl 4 rfl) ?_
  refine va_put (D := (dC, dI)) (ci := 2) (v := .long (lN t)) (ty := .long) (C := nL) (T := TL) (N := 3) hx hb hg inL tL tL_ok nmL hown hK hP hD hS 0 rfl rfl 2 (by decide) (hg _ kL_19) (fun _ h9 => h9) rfl (by decide +kernel) rfl rfl (Nat.le_of_ble_eq_true rfl) dL_search_9 (fun H locs hP hD hS => ?_)
  have hP : va_P (dC, dI) vwCl (wL cI cJ cZ ql re a t ++ wP cI cJ cZ q bg en sc wd ht oh bt co n) H := hP
  have hD : va_D A (wL cI cJ cZ ql re a t ++ wP cI cJ cZ q bg en sc wd ht oh bt co n) := hD
  refine rn_iconst hx hb 0 dL_search_12 (by decide) ?_
  refine lv_istore (lv' := [(7, .int (nI 0)), (0, .ref (ql 0)), (1, .ref (q 0)), (2, .long (lN us)), (4, .int (nI a)), (5, .long (lN t))]) hx hb dL_search_13 hl (by decide) rfl (fun ls hl => ?_)
  refine lp_L_search1 ql re sa fm q bg en sc wd ht oh bt co n us a t hre hB hus ha ht0 hx hb hml hown hts hK hE hA (by first | exact hR | exact ⟨Nat.le_trans (by decide) hR.1, Nat.le_trans (by decide) hR.2⟩) hcs (fun i v hi hv hx0 H locs hP hD hS ls hl => ?_) ((n - 0) + 1) 0 re (by omega) (rfl) (by omega) _ _ hP hD hS ls (lv_sub hl [1, 2, 3, 4, 5, 0] rfl)
  refine lv_lload_n hx hb dL_search_84 rfl (lv_at hl 2 rfl) ?_
  refine lv_lstore (lv' := [(7, .long (lN us)), (0, .ref (ql 0)), (1, .ref (q 0)), (2, .long (lN us)), (4, .int (nI a)), (5, .long (lN t))]) hx hb dL_search_85 hl (by decide) rfl (fun ls hl => ?_)
  refine rn_iconst hx hb 0 dL_search_87 (by decide) ?_
  refine lv_istore (lv' := [(9, .int (nI 0)), (7, .long (lN us)), (0, .ref (ql 0)), (1, .ref (q 0)), (2, .long (lN us)), (4, .int (nI a)), (5, .long (lN t))]) hx hb dL_search_88 hl (by decide) rfl (fun ls hl => ?_)
  refine lp_L_search2 ql re sa fm q bg en sc wd ht oh bt co n us a t hre hB hus ha ht0 hx hb hml hown hts hK hE hA (by first | exact hR | exact ⟨Nat.le_trans (by decide) hR.1, Nat.le_trans (by decide) hR.2⟩) hcs (fun rd op v h1 h2 h4 h3 hx0 H locs hP hD hS ls hl => ?_) (fun rd op v h1 h2 h4 h3 hx1 hx2 H locs hP hD hS ls hl => ?_) ((n - 0) + 1) 0 us v (by omega) (hus) (by rw [hv]; exact iL_le hre (fun k => by have := ew_b (oh k) (sc k) t; have := hbi k; show ew _ _ _ ≤ _; omega) i) (by rw [hv, show i = n from by omega]; rfl) (by omega) _ _ hP hD hS ls (lv_sub hl [2, 3, 4, 5, 6, 1, 0] rfl)
  · have hP9 : va_P (dC, dI) vwCl (wL cI cJ cZ ql (srch n us (stB bg a) (foB bg en bt) (uE oh sc) t re) a t ++ wP cI cJ cZ q bg en sc wd ht oh bt co n) H := by rw [h3, show n - rd = 0 from by omega]; exact hP
    have hD9 : va_D A (wL cI cJ cZ ql (srch n us (stB bg a) (foB bg en bt) (uE oh sc) t re) a t ++ wP cI cJ cZ q bg en sc wd ht oh bt co n) := by rw [h3, show n - rd = 0 from by omega]; exact hD
    exact W.vret hx hb hr (fun t ht hW => ⟨⟨(), rfl, trivial, by rw [ht]; exact hP9, va_K.moved hW.alike hK, hD9⟩, hS.F ht⟩) hS.2.2 dL_search_140
  · have hP9 : va_P (dC, dI) vwCl (wL cI cJ cZ ql (srch n us (stB bg a) (foB bg en bt) (uE oh sc) t re) a t ++ wP cI cJ cZ q bg en sc wd ht oh bt co n) H := by rw [h3, sL_none (by omega) hx1]; exact hP
    have hD9 : va_D A (wL cI cJ cZ ql (srch n us (stB bg a) (foB bg en bt) (uE oh sc) t re) a t ++ wP cI cJ cZ q bg en sc wd ht oh bt co n) := by rw [h3, sL_none (by omega) hx1]; exact hD
    exact W.vret hx hb hr (fun t ht hW => ⟨⟨(), rfl, trivial, by rw [ht]; exact hP9, va_K.moved hW.alike hK, hD9⟩, hS.F ht⟩) hS.2.2 dL_search_114

def tnF (nu : Nat → Nat) (rl : Nat) : Nat → Nat := fun k => if k < rl then nu (rl - 1 - k) else nu k
def tnG (nu : Nat → Nat) (rl i : Nat) : Nat → Nat := fun k => if k < rl ∧ (k < i ∨ rl - 1 - i < k) then nu (rl - 1 - k) else nu k
theorem tn_0 (nu : Nat → Nat) (rl : Nat) : nu = tnG nu rl 0 := by
  funext k
  simp only [tnG]
  rw [if_neg (by omega)]
theorem tn_step {nu v : Nat → Nat} {rl i j : Nat} (hv : v = tnG nu rl i) (h : i + j + 1 = rl) (hij : i < j) : va_up (va_up v i (v j)) j (v i) = tnG nu rl (i + 1) := by
  subst hv
  funext k
  simp only [va_up, tnG]
  by_cases e1 : k = j
  · subst e1
    rw [if_pos rfl, if_neg (by omega), if_pos (by omega)]
    congr 1; omega
  · rw [if_neg e1]
    by_cases e2 : k = i
    · subst e2
      rw [if_pos rfl, if_neg (by omega), if_pos (by omega)]
      congr 1; omega
    · rw [if_neg e2]
      by_cases e3 : k < rl ∧ (k < i ∨ rl - 1 - i < k)
      · rw [if_pos e3, if_pos (by omega)]
      · rw [if_neg e3, if_neg (by omega)]
theorem tn_end {nu : Nat → Nat} {rl i j : Nat} (h : i + j + 1 = rl) (hij : j ≤ i) (h2 : i ≤ j + 1) : tnF nu rl = tnG nu rl i := by
  funext k
  simp only [tnF, tnG]
  by_cases e : k < rl
  · rw [if_pos e]
    by_cases e3 : k < rl ∧ (k < i ∨ rl - 1 - i < k)
    · rw [if_pos e3]
    · rw [if_neg e3]; congr 1; omega
  · rw [if_neg e, if_neg (by omega)]

set_option maxHeartbeats 4000000 in
set_option maxRecDepth 100000 in
theorem lp_R_turn {p : Program} {l : Launch} {e : Env} {R : Room} {s : State} {m : MethodId} {args : Array Value} {below : List Frame} {meth : Method} {c : Code} {cells slots : Nat} {Q : State → Prop} {dC : Nat → ClassId} {dI : Nat → Nat → Nat} {cI cJ cZ : ClassId} {A : Nat → Prop} (qr : Nat → Nat) (nu : Nat → Nat) (rl : Nat) (hrl : rl ≤ 40) (h1 : 1 ≤ rl) (hx : p.tables.exec = Jvm.exec) (hb : c.code = cR_turnRound) (hml : c.maxLocals = 4) (hown : s.vm.findClass nR = some m.cls) (hts : ∀ w ∈ wsR_turnRound, w.before args s = true) (hK : va_K (dC, dI) vwCl (tyE cI cJ cZ) s) (hE : EV s) (hA : ∀ q : Nat, s.heap.size ≤ q → A q) (hR : 0 ≤ R.frames ∧ 0 ≤ R.locals) (hcs : cells ≤ R.cells ∧ slots ≤ R.slots)
    (kx0 : ∀ (i : Nat) (j : Nat) (v : Nat → Nat) (h2 : i + j + 1 = rl) (h3 : i ≤ j + 1) (hv : v = tnG nu rl i) (hx0 : j ≤ i) (H : Heap) (locs : List Loc), va_P (dC, dI) vwCl (wR cI cJ cZ qr v rl) H → va_D A (wR cI cJ cZ qr v rl) → va_S A s.heap H locs → ∀ ls : Array Slot, lv_has ls 4 [(0, .ref (qr 0)), (1, .int (nI i)), (2, .int (nI j))] →  W p l e R s m args below meth c H locs cells slots Q (F0 m 49 ls []))
    : ∀ (fu : Nat) (i : Nat) (j : Nat) (v : Nat → Nat) (h2 : i + j + 1 = rl) (h3 : i ≤ j + 1) (hv : v = tnG nu rl i), j - i < fu → ∀ (H : Heap) (locs : List Loc), va_P (dC, dI) vwCl (wR cI cJ cZ qr v rl) H → va_D A (wR cI cJ cZ qr v rl) → va_S A s.heap H locs → ∀ ls : Array Slot, lv_has ls 4 [(0, .ref (qr 0)), (1, .int (nI i)), (2, .int (nI j))] →  W p l e R s m args below meth c H locs cells slots Q (F0 m 9 ls []) := by
  have hg : ∀ w ∈ gw, w.before args s = true := fun w h => hts w (List.mem_cons_of_mem _ h)
  intro fu
  induction fu with
  | zero => intro i j v h2 h3 hv h0; exact absurd h0 (Nat.not_lt_zero _)
  | succ fu ih =>
    intro i j v h2 h3 hv hfu H locs hP hD hS ls hl
    refine lv_iload_n hx hb dR_turnRound_9 rfl (lv_at hl 1 rfl) ?_
    refine lv_iload_n hx hb dR_turnRound_10 rfl (lv_at hl 2 rfl) ?_
    refine rn_icmp_ge (tgt := 49) hx hb dR_turnRound_11 (by decide) (by omega) (by omega) (fun c11 => ?_) (fun c11 => ?_)
    · exact kx0 i j v h2 h3 hv (by omega) H locs hP hD hS ls (lv_sub hl [0, 1, 2] rfl)
    · obtain ⟨j, rfl⟩ : ∃ k, j = k + 1 := ⟨j - 1, by omega⟩
      refine lv_aload_n hx hb dR_turnRound_14 rfl (lv_at hl 0 rfl) ?_
      refine va_get (D := (dC, dI)) (ci := 4) (v := .ref (qr 1)) (C := nR) (T := TR) (N := 2) hx hb hg inR hown hK hP 0 rfl rfl 0 (by decide) (hg _ kR_9) (fun _ h9 => h9) rfl dR_turnRound_15 ?_
      refine lv_iload_n hx hb dR_turnRound_18 rfl (lv_at hl 1 rfl) ?_
      refine ga_i (f := v) hx hb hK hP 1 0 rfl rfl (by omega) (by decide) dR_turnRound_19 ?_
      refine lv_istore_n (lv' := [(3, .int (nI (v i))), (0, .ref (qr 0)), (1, .int (nI i)), (2, .int (nI (j + 1)))]) hx hb dR_turnRound_20 rfl hl (by decide) rfl (fun ls hl => ?_)
      refine lv_aload_n hx hb dR_turnRound_21 rfl (lv_at hl 1 rfl) ?_
      refine va_get (D := (dC, dI)) (ci := 4) (v := .ref (qr 1)) (C := nR) (T := TR) (N := 2) hx hb hg inR hown hK hP 0 rfl rfl 0 (by decide) (hg _ kR_9) (fun _ h9 => h9) rfl dR_turnRound_22 ?_
      refine lv_iload_n hx hb dR_turnRound_25 rfl (lv_at hl 2 rfl) ?_
      refine lv_aload_n hx hb dR_turnRound_26 rfl (lv_at hl 1 rfl) ?_
      refine va_get (D := (dC, dI)) (ci := 4) (v := .ref (qr 1)) (C := nR) (T := TR) (N := 2) hx hb hg inR hown hK hP 0 rfl rfl 0 (by decide) (hg _ kR_9) (fun _ h9 => h9) rfl dR_turnRound_27 ?_
      refine lv_iload_n hx hb dR_turnRound_30 rfl (lv_at hl 3 rfl) ?_
      refine ga_i (f := v) hx hb hK hP 1 0 rfl rfl (by omega) (by decide) dR_turnRound_31 ?_
      refine sa_i (f := v) (v := v (j + 1)) hx hb hK hP hD hS 1 0 rfl rfl (by omega) (by decide) dR_turnRound_32 (fun H locs hP hD hS => ?_)
      have hP : va_P (dC, dI) vwCl (wR cI cJ cZ qr (va_up v i (v (j + 1))) rl) H := hP
      have hD : va_D A (wR cI cJ cZ qr (va_up v i (v (j + 1))) rl) := hD
      refine lv_aload_n hx hb dR_turnRound_33 rfl (lv_at hl 1 rfl) ?_
      refine va_get (D := (dC, dI)) (ci := 4) (v := .ref (qr 1)) (C := nR) (T := TR) (N := 2) hx hb hg inR hown hK hP 0 rfl rfl 0 (by decide) (hg _ kR_9) (fun _ h9 => h9) rfl dR_turnRound_34 ?_
      refine lv_iload_n hx hb dR_turnRound_37 rfl (lv_at hl 3 rfl) ?_
      refine lv_iload_n hx hb dR_turnRound_38 rfl (lv_at hl 0 rfl) ?_
      refine sa_i (f := va_up v i (v (j + 1))) (v := v i) hx hb hK hP hD hS 1 0 rfl rfl (by omega) (by decide) dR_turnRound_39 (fun H locs hP hD hS => ?_)
      have hP : va_P (dC, dI) vwCl (wR cI cJ cZ qr (va_up (va_up v i (v (j + 1))) (j + 1) (v i)) rl) H := hP
      have hD : va_D A (wR cI cJ cZ qr (va_up (va_up v i (v (j + 1))) (j + 1) (v i)) rl) := hD
      refine rn_iinc (lv' := [(1, .int (nI (i + 1))), (3, .int (nI (v i))), (0, .ref (qr 0)), (2, .int (nI (j + 1)))]) hx hb dR_turnRound_40 hl (k := 2) rfl (by decide) rfl (fun ls hl => ?_)
      refine rn_iincm (lv' := [(2, .int (nI j)), (1, .int (nI (i + 1))), (3, .int (nI (v i))), (0, .ref (qr 0))]) hx hb dR_turnRound_43 hl (k := 3) rfl (by decide) rfl (fun ls hl => ?_)
      refine lv_goto (tgt := 9) hx hb dR_turnRound_46 (by decide) ?_
      exact ih (i + 1) j (va_up (va_up v i (v (j + 1))) (j + 1) (v i)) (by omega) (by omega) (by exact tn_step hv h2 (by omega)) (by omega) H locs hP hD hS ls (lv_sub hl [3, 1, 0] rfl)

set_option maxHeartbeats 4000000 in
set_option maxRecDepth 100000 in
theorem ct_R_turnRound (l : Launch) (dC : Nat → ClassId) (dI : Nat → Nat → Nat) (cI cJ cZ : ClassId) (qr : Nat → Nat) (nu : Nat → Nat) (rl : Nat) (sz : Nat) (hrl : rl ≤ 40) (h1 : 1 ≤ rl) : Met l yR_turnRound wsR_turnRound ({ frames := 0, cells := 0, slots := 0, locals := 0 }) (PcW (dC, dI) (wR cI cJ cZ qr nu rl) (tyE cI cJ cZ) sz [.ref (qr 0)]) (QwV (dC, dI) (wR cI cJ cZ qr (tnF nu rl) rl) (tyE cI cJ cZ) (va_A (wR cI cJ cZ qr nu rl) sz)) 0 0 (va_A (wR cI cJ cZ qr nu rl) sz) := by
  refine Met.ofW (cc := cR_turnRound) (maxL := 4) (ret := none) (by decide) rfl ?_
  intro p e s m args below meth c s₁ B hml hv
  obtain ⟨rfl, hsz, hP, hK, hD0, hE⟩ := hv
  have hx := B.exec
  have hb := B.bytes
  have hr := B.returns
  have hts := atoms_spec (ws := wsR_turnRound) B.pre
  have hg : ∀ w ∈ gw, w.before _ s = true := fun w h => hts w (List.mem_cons_of_mem _ h)
  have hown : s.vm.findClass nR = some m.cls := findClass_of_methodNamed B.named
  have hlocks := B.notSynchronized
  have hR : 0 ≤ (headSpec wsR_turnRound ({ frames := 0, cells := 0, slots := 0, locals := 0 })).room.frames ∧ 0 ≤ (headSpec wsR_turnRound ({ frames := 0, cells := 0, slots := 0, locals := 0 })).room.locals := ⟨Nat.le_refl _, Nat.le_refl _⟩
  have hcs : 0 ≤ (headSpec wsR_turnRound ({ frames := 0, cells := 0, slots := 0, locals := 0 })).room.cells ∧ 0 ≤ (headSpec wsR_turnRound ({ frames := 0, cells := 0, slots := 0, locals := 0 })).room.slots := ⟨Nat.zero_le _, Nat.zero_le _⟩
  subst hsz
  have hD := hD0.self (sz := s.heap.size)
  generalize hAe : va_A (wR cI cJ cZ qr nu rl) s.heap.size = A at hD ⊢
  have hA : ∀ q : Nat, s.heap.size ≤ q → A q := fun q h => by rw [← hAe]; exact Or.inr h
  obtain ⟨H, hH⟩ : ∃ H, H = s.heap := ⟨_, rfl⟩
  have hS : va_S A s.heap H [] := by rw [hH]; exact va_S.rf
  rw [← hH] at hP ⊢
  have hl := lv_entry ([.ref (qr 0)]) (n := 4) (Nat.le_of_ble_eq_true rfl)
  rw [lg_entry_eq]
  generalize (lg_sl ([.ref (qr 0)]) ++ List.replicate (4 - (lg_sl ([.ref (qr 0)])).length) Slot.unset).toArray = ls at hl ⊢
  have hl : lv_has ls 4 [(0, .ref (qr 0))] := hl
  refine rn_iconst hx hb 0 dR_turnRound_0 (by decide) ?_
  refine lv_istore_n (lv' := [(1, .int (nI 0)), (0, .ref (qr 0))]) hx hb dR_turnRound_1 rfl hl (by decide) rfl (fun ls hl => ?_)
  refine lv_aload_n hx hb dR_turnRound_2 rfl (lv_at hl 1 rfl) ?_
  refine va_get (D := (dC, dI)) (ci := 4) (v := .int (nI rl)) (C := nR) (T := TR) (N := 2) hx hb hg inR hown hK hP 0 rfl rfl 1 (by decide) (hg _ kR_15) (fun _ h9 => h9) rfl dR_turnRound_3 ?_
  refine rn_iconst hx hb 1 dR_turnRound_6 (by decide) ?_
  refine rn_isub hx hb dR_turnRound_7 (by omega) ?_
  refine lv_istore_n (lv' := [(2, .int (nI (rl - 1))), (1, .int (nI 0)), (0, .ref (qr 0))]) hx hb dR_turnRound_8 rfl hl (by decide) rfl (fun ls hl => ?_)
  refine lp_R_turn qr nu rl hrl h1 hx hb hml hown hts hK hE hA (by first | exact hR | exact ⟨Nat.le_trans (by decide) hR.1, Nat.le_trans (by decide) hR.2⟩) hcs (fun i j v h2 h3 hv hx0 H locs hP hD hS ls hl => ?_) (((rl - 1) - 0) + 1) 0 (rl - 1) nu (by omega) (by omega) (tn_0 nu rl) (by omega) _ _ hP hD hS ls (lv_sub hl [2, 1, 0] rfl)
  have hP9 : va_P (dC, dI) vwCl (wR cI cJ cZ qr (tnF nu rl) rl) H := by rw [tn_end h2 hx0 h3, ← hv]; exact hP
  have hD9 : va_D A (wR cI cJ cZ qr (tnF nu rl) rl) := by rw [tn_end h2 hx0 h3, ← hv]; exact hD
  exact W.vret hx hb hr (fun t ht hW => ⟨⟨(), rfl, trivial, by rw [ht]; exact hP9, va_K.moved hW.alike hK, hD9⟩, hS.F ht⟩) hS.2.2 dR_turnRound_49

def wcF (pb : Nat → Option Nat) : Nat → Option Nat → (Nat → Nat) → Nat → (Nat → Nat) × Nat
  | 0, _, nu, rl => (nu, rl)
  | _ + 1, none, nu, rl => (nu, rl)
  | k + 1, some x, nu, rl => wcF pb k (pb x) (apF nu rl x) (apN rl)
theorem wc_none {pb : Nat → Option Nat} {k : Nat} {nu : Nat → Nat} {rl : Nat} {o : Option Nat} (h : o = none) : wcF pb k o nu rl = (nu, rl) := by
  subst h
  cases k <;> rfl
theorem wc_0 {pb : Nat → Option Nat} {k : Nat} {nu : Nat → Nat} {rl : Nat} {o : Option Nat} (h : 40 ≤ k) : wcF pb (40 - k) o nu rl = (nu, rl) := by rw [show 40 - k = 0 by omega]; rfl
theorem wc_some {pb : Nat → Option Nat} {k x : Nat} {nu : Nat → Nat} {rl : Nat} {o : Option Nat} (hk : k < 40) (h : o = some x) : wcF pb (40 - k) o nu rl = wcF pb (40 - (k + 1)) (pb x) (apF nu rl x) (apN rl) := by
  subst h
  rw [show 40 - k = (40 - (k + 1)) + 1 by omega]; rfl
theorem pbO_lt {bg en sc oh bt re : Nat → Nat} {sa fm n x i : Nat} (h : pbO bg en sc oh bt re sa fm n x = some i) : i < n := by
  unfold pbO at h
  split at h
  · cases h
  · exact ((ffi_ok n).1 i h).1
theorem apN_le {rl : Nat} (h : rl ≤ 40) : apN rl ≤ 40 ∧ 1 ≤ apN rl := by unfold apN; split <;> omega

set_option maxHeartbeats 4000000 in
set_option maxRecDepth 100000 in
theorem lp_L_write {p : Program} {l : Launch} {e : Env} {R : Room} {s : State} {m : MethodId} {args : Array Value} {below : List Frame} {meth : Method} {c : Code} {cells slots : Nat} {Q : State → Prop} {dC : Nat → ClassId} {dI : Nat → Nat → Nat} {cI cJ cZ : ClassId} {A : Nat → Prop} (ql : Nat → Nat) (re : Nat → Nat) (sa fm : Nat) (q : Nat → Nat) (bg en sc wd ht oh bt : Nat → Nat) (co n : Nat) (qr : Nat → Nat) (nu : Nat → Nat) (rl : Nat) (pl : Nat) (hre : ∀ j, re j ≤ 1152921504606846976) (hB : bP bg en sc wd ht oh bt co n) (hrl : rl ≤ 40) (hpl : pl < 20) (hfm : fm < 2305843009213693952) (hsa : sa < 20) (hla : (lpL en re pl n).1 ≠ none) (hx : p.tables.exec = Jvm.exec) (hb : c.code = cL_writeWayTo) (hml : c.maxLocals = 6) (hown : s.vm.findClass nL = some m.cls) (hts : ∀ w ∈ wsL_writeWayTo, w.before args s = true) (hK : va_K (dC, dI) vwCl (tyE cI cJ cZ) s) (hE : EV s) (hA : ∀ q : Nat, s.heap.size ≤ q → A q) (hR : 4 ≤ R.frames ∧ 89 ≤ R.locals) (hcs : cells ≤ R.cells ∧ slots ≤ R.slots)
    (kx0 : ∀ (i : Nat) (o : Option Nat) (v : Nat → Nat) (rv : Nat) (h1 : i ≤ 40) (hw : wcF (pbO bg en sc oh bt re sa fm n) 40 (lpL en re pl n).1 nu rl = wcF (pbO bg en sc oh bt re sa fm n) (40 - i) o v rv) (ho : ∀ x, o = some x → x < 40) (hrv : rv ≤ 40) (h6 : (i = 0 ∧ o ≠ none) ∨ 1 ≤ rv) (hx0 : wcF (pbO bg en sc oh bt re sa fm n) (40 - i) o v rv = (v, rv)) (hx1 : 1 ≤ rv) (H : Heap) (locs : List Loc), va_P (dC, dI) vwCl (wL cI cJ cZ ql re sa fm ++ wP cI cJ cZ q bg en sc wd ht oh bt co n ++ wR cI cJ cZ qr v rv) H → va_D A (wL cI cJ cZ ql re sa fm ++ wP cI cJ cZ q bg en sc wd ht oh bt co n ++ wR cI cJ cZ qr v rv) → va_S A s.heap H locs → ∀ ls : Array Slot, lv_has ls 6 [(0, .ref (ql 0)), (1, .ref (q 0)), (2, .int (nI pl)), (3, .ref (qr 0)), (4, .int (oI o)), (5, .int (nI i))] →  W p l e R s m args below meth c H locs cells slots Q (F0 m 45 ls []))
    : ∀ (fu : Nat) (i : Nat) (o : Option Nat) (v : Nat → Nat) (rv : Nat) (h1 : i ≤ 40) (hw : wcF (pbO bg en sc oh bt re sa fm n) 40 (lpL en re pl n).1 nu rl = wcF (pbO bg en sc oh bt re sa fm n) (40 - i) o v rv) (ho : ∀ x, o = some x → x < 40) (hrv : rv ≤ 40) (h6 : (i = 0 ∧ o ≠ none) ∨ 1 ≤ rv), 40 - i < fu → ∀ (H : Heap) (locs : List Loc), va_P (dC, dI) vwCl (wL cI cJ cZ ql re sa fm ++ wP cI cJ cZ q bg en sc wd ht oh bt co n ++ wR cI cJ cZ qr v rv) H → va_D A (wL cI cJ cZ ql re sa fm ++ wP cI cJ cZ q bg en sc wd ht oh bt co n ++ wR cI cJ cZ qr v rv) → va_S A s.heap H locs → ∀ ls : Array Slot, lv_has ls 6 [(0, .ref (ql 0)), (1, .ref (q 0)), (2, .int (nI pl)), (3, .ref (qr 0)), (4, .int (oI o)), (5, .int (nI i))] →  W p l e R s m args below meth c H locs cells slots Q (F0 m 11 ls []) := by
  have hg : ∀ w ∈ gw, w.before args s = true := fun w h => hts w (List.mem_cons_of_mem _ h)
  have hn := hB.1
  have hco := hB.2.1
  have hbi := hB.2.2
  intro fu
  induction fu with
  | zero => intro i o v rv h1 hw ho hrv h6 h0; exact absurd h0 (Nat.not_lt_zero _)
  | succ fu ih =>
    intro i o v rv h1 hw ho hrv h6 hfu H locs hP hD hS ls hl
    refine lv_iload hx hb dL_writeWayTo_11 (lv_at hl 5 rfl) ?_
    refine rn_bipush hx hb 40 dL_writeWayTo_13 (by decide) ?_
    refine rn_icmp_ge (tgt := 45) hx hb dL_writeWayTo_15 (by decide) (by omega) (by omega) (fun c15 => ?_) (fun c15 => ?_)
    · exact kx0 i o v rv h1 hw ho hrv h6 (by first | exact wc_0 c15 | exact wc_none o21) (by first | exact h6.elim (fun q => absurd o21 q.2) id | (rcases h6 with q | q <;> omega)) H locs hP hD hS ls (lv_sub hl [0, 1, 2, 3, 4, 5] rfl)
    · refine lv_iload hx hb dL_writeWayTo_18 (lv_at hl 4 rfl) ?_
      refine lv_iconst (v := -1) hx hb dL_writeWayTo_20 (by decide) ?_
      refine ro_eq (tgt := 45) hx hb dL_writeWayTo_21 (by decide) (fun i hi => by have := ho i hi; omega) (fun o21 => ?_) (fun x21 o21 => ?_)
      · exact kx0 i o v rv h1 hw ho hrv h6 (by first | exact wc_0 c15 | exact wc_none o21) (by first | exact h6.elim (fun q => absurd o21 q.2) id | (rcases h6 with q | q <;> omega)) H locs hP hD hS ls (lv_sub hl [0, 1, 2, 3, 4, 5] rfl)
      · have hl : lv_has ls 6 [(0, .ref (ql 0)), (1, .ref (q 0)), (2, .int (nI pl)), (3, .ref (qr 0)), (4, .int (nI x21)), (5, .int (nI i))] := by rw [o21] at hl; exact hl
        have hx21 := ho _ o21
        refine lv_aload_n hx hb dL_writeWayTo_24 rfl (lv_at hl 3 rfl) ?_
        refine lv_iload hx hb dL_writeWayTo_25 (lv_at hl 4 rfl) ?_
        refine kwV_v (D := (dC, dI)) (b := (qr 0)) (C := nR) (As := [.int (nI x21)]) (rest := []) (wc := (wR cI cJ cZ qr v rv)) (wr := (wL cI cJ cZ ql re sa fm ++ wP cI cJ cZ q bg en sc wd ht oh bt co n)) (w1 := (wR cI cJ cZ qr (apF v rv x21) (apN rv))) (wn := (wL cI cJ cZ ql re sa fm ++ wP cI cJ cZ q bg en sc wd ht oh bt co n ++ wR cI cJ cZ qr (apF v rv x21) (apN rv))) ⟨hx, hb, hml, hown, hts⟩ (ct_R_append l dC dI cI cJ cZ qr v rv x21 H.size (by omega)) (cwV 1 hts (gv kL_71 ki_R_append ksel_R_append kin_R kc_R_append) rfl rfl rfl (by decide +kernel) ⟨Nat.le_trans (by decide) hR.1, Nat.le_trans (by decide) hR.2⟩) (va_recv hK hP (ci := 4) (q0 := 10) rfl rfl) hP hD hK hE hS hA [10, 11] [0, 1, 2, 3, 4, 5, 6, 7, 8, 9] [0, 1, 2, 3, 4, 5, 6, 7, 8, 9, 10, 11] rfl (by decide) rfl (by decide) (by decide) rfl (by decide) rfl hl.1 rfl (Nat.le_of_ble_eq_true rfl) dL_writeWayTo_27 hcs (fun H locs hP hD hS => ?_)
        refine lv_aload_n hx hb dL_writeWayTo_30 rfl (lv_at hl 0 rfl) ?_
        refine lv_aload_n hx hb dL_writeWayTo_31 rfl (lv_at hl 1 rfl) ?_
        refine lv_iload hx hb dL_writeWayTo_32 (lv_at hl 4 rfl) ?_
        refine cpV_i (b := (ql 0)) (C := nL) (As := [.ref (q 0), .int (nI x21)]) (rest := []) (post := fun r : Int32 => r = oI (pbO bg en sc oh bt re sa fm n x21)) ⟨hx, hb, hml, hown, hts⟩ (ct_L_pieceBefore l dC dI cI cJ cZ ql re sa fm q bg en sc wd ht oh bt co n x21 (hre) (hB) (by omega) (hfm) (hsa)) (cwV 2 hts (gv kL_77 ki_L_pieceBefore ksel_L_pieceBefore kin_L kc_L_pieceBefore) rfl rfl rfl (by decide +kernel) ⟨Nat.le_trans (by decide) hR.1, Nat.le_trans (by decide) hR.2⟩) (va_recv hK hP (ci := 2) (q0 := 0) rfl rfl) (hP.sub (ws' := (wL cI cJ cZ ql re sa fm ++ wP cI cJ cZ q bg en sc wd ht oh bt co n)) [0, 1, 2, 3, 4, 5, 6, 7, 8, 9] rfl) hK hE rfl hl.1 rfl (Nat.le_of_ble_eq_true rfl) dL_writeWayTo_34 hcs (fun r hr => ?_)
        subst hr
        refine lv_istore (lv' := [(4, .int (oI (pbO bg en sc oh bt re sa fm n x21))), (0, .ref (ql 0)), (1, .ref (q 0)), (2, .int (nI pl)), (3, .ref (qr 0)), (5, .int (nI i))]) hx hb dL_writeWayTo_37 hl (by decide) rfl (fun ls hl => ?_)
        refine rn_iinc (lv' := [(5, .int (nI (i + 1))), (4, .int (oI (pbO bg en sc oh bt re sa fm n x21))), (0, .ref (ql 0)), (1, .ref (q 0)), (2, .int (nI pl)), (3, .ref (qr 0))]) hx hb dL_writeWayTo_39 hl (k := 5) rfl (by decide) rfl (fun ls hl => ?_)
        refine lv_goto (tgt := 11) hx hb dL_writeWayTo_42 (by decide) ?_
        exact ih (i + 1) (pbO bg en sc oh bt re sa fm n x21) (apF v rv x21) (apN rv) (by omega) (by rw [hw, wc_some (by omega) o21]) (fun x hx => by have := pbO_lt hx; omega) ((apN_le hrv).1) (Or.inr (apN_le hrv).2) (by omega) H locs hP hD hS ls (lv_sub hl [2, 3, 4, 5, 1, 0] rfl)

set_option maxHeartbeats 4000000 in
set_option maxRecDepth 100000 in
theorem ct_L_writeWayTo (l : Launch) (dC : Nat → ClassId) (dI : Nat → Nat → Nat) (cI cJ cZ : ClassId) (ql : Nat → Nat) (re : Nat → Nat) (sa fm : Nat) (q : Nat → Nat) (bg en sc wd ht oh bt : Nat → Nat) (co n : Nat) (qr : Nat → Nat) (nu : Nat → Nat) (rl : Nat) (pl : Nat) (sz : Nat) (hre : ∀ j, re j ≤ 1152921504606846976) (hB : bP bg en sc wd ht oh bt co n) (hrl : rl ≤ 40) (hpl : pl < 20) (hfm : fm < 2305843009213693952) (hsa : sa < 20) (hla : (lpL en re pl n).1 ≠ none) : Met l yL_writeWayTo wsL_writeWayTo ({ frames := 4, cells := 0, slots := 0, locals := 89 }) (PcW (dC, dI) (wL cI cJ cZ ql re sa fm ++ wP cI cJ cZ q bg en sc wd ht oh bt co n ++ wR cI cJ cZ qr nu rl) (tyE cI cJ cZ) sz [.ref (ql 0), .ref (q 0), .int (nI pl), .ref (qr 0)]) (QwV (dC, dI) (wL cI cJ cZ ql re sa fm ++ wP cI cJ cZ q bg en sc wd ht oh bt co n ++ wR cI cJ cZ qr (tnF (wcF (pbO bg en sc oh bt re sa fm n) 40 (lpL en re pl n).1 nu rl).1 (wcF (pbO bg en sc oh bt re sa fm n) 40 (lpL en re pl n).1 nu rl).2) ((wcF (pbO bg en sc oh bt re sa fm n) 40 (lpL en re pl n).1 nu rl).2)) (tyE cI cJ cZ) (va_A (wL cI cJ cZ ql re sa fm ++ wP cI cJ cZ q bg en sc wd ht oh bt co n ++ wR cI cJ cZ qr nu rl) sz)) 0 0 (va_A (wL cI cJ cZ ql re sa fm ++ wP cI cJ cZ q bg en sc wd ht oh bt co n ++ wR cI cJ cZ qr nu rl) sz) := by
  refine Met.ofW (cc := cL_writeWayTo) (maxL := 6) (ret := none) (by decide) rfl ?_
  intro p e s m args below meth c s₁ B hml hv
  obtain ⟨rfl, hsz, hP, hK, hD0, hE⟩ := hv
  have hx := B.exec
  have hb := B.bytes
  have hr := B.returns
  have hts := atoms_spec (ws := wsL_writeWayTo) B.pre
  have hg : ∀ w ∈ gw, w.before _ s = true := fun w h => hts w (List.mem_cons_of_mem _ h)
  have hown : s.vm.findClass nL = some m.cls := findClass_of_methodNamed B.named
  have hlocks := B.notSynchronized
  have hR : 4 ≤ (headSpec wsL_writeWayTo ({ frames := 4, cells := 0, slots := 0, locals := 89 })).room.frames ∧ 89 ≤ (headSpec wsL_writeWayTo ({ frames := 4, cells := 0, slots := 0, locals := 89 })).room.locals := ⟨Nat.le_refl _, Nat.le_refl _⟩
  have hcs : 0 ≤ (headSpec wsL_writeWayTo ({ frames := 4, cells := 0, slots := 0, locals := 89 })).room.cells ∧ 0 ≤ (headSpec wsL_writeWayTo ({ frames := 4, cells := 0, slots := 0, locals := 89 })).room.slots := ⟨Nat.zero_le _, Nat.zero_le _⟩
  subst hsz
  have hD := hD0.self (sz := s.heap.size)
  generalize hAe : va_A (wL cI cJ cZ ql re sa fm ++ wP cI cJ cZ q bg en sc wd ht oh bt co n ++ wR cI cJ cZ qr nu rl) s.heap.size = A at hD ⊢
  have hA : ∀ q : Nat, s.heap.size ≤ q → A q := fun q h => by rw [← hAe]; exact Or.inr h
  obtain ⟨H, hH⟩ : ∃ H, H = s.heap := ⟨_, rfl⟩
  have hS : va_S A s.heap H [] := by rw [hH]; exact va_S.rf
  rw [← hH] at hP ⊢
  have hn := hB.1
  have hco := hB.2.1
  have hbi := hB.2.2
  have hl := lv_entry ([.ref (ql 0), .ref (q 0), .int (nI pl), .ref (qr 0)]) (n := 6) (Nat.le_of_ble_eq_true rfl)
  rw [lg_entry_eq]
  generalize (lg_sl ([.ref (ql 0), .ref (q 0), .int (nI pl), .ref (qr 0)]) ++ List.replicate (6 - (lg_sl ([.ref (ql 0), .ref (q 0), .int (nI pl), .ref (qr 0)])).length) Slot.unset).toArray = ls at hl ⊢
  have hl : lv_has ls 6 [(0, .ref (ql 0)), (1, .ref (q 0)), (2, .int (nI pl)), (3, .ref (qr 0))] := hl
  refine lv_aload_n hx hb dL_writeWayTo_0 rfl (lv_at hl 0 rfl) ?_
  refine lv_aload_n hx hb dL_writeWayTo_1 rfl (lv_at hl 1 rfl) ?_
  refine lv_iload_n hx hb dL_writeWayTo_2 rfl (lv_at hl 2 rfl) ?_
  refine cpV_i (b := (ql 0)) (C := nL) (As := [.ref (q 0), .int (nI pl)]) (rest := []) (post := fun r : Int32 => r = oI (lpL en re pl n).1) ⟨hx, hb, hml, hown, hts⟩ (ct_L_lastPieceTo l dC dI cI cJ cZ ql re sa fm q bg en sc wd ht oh bt co n pl (hre) (hB) (hpl)) (cwV 2 hts (gv kL_67 ki_L_lastPieceTo ksel_L_lastPieceTo kin_L kc_L_lastPieceTo) rfl rfl rfl (by decide +kernel) ⟨Nat.le_trans (by decide) hR.1, Nat.le_trans (by decide) hR.2⟩) (va_recv hK hP (ci := 2) (q0 := 0) rfl rfl) (hP.sub (ws' := (wL cI cJ cZ ql re sa fm ++ wP cI cJ cZ q bg en sc wd ht oh bt co n)) [0, 1, 2, 3, 4, 5, 6, 7, 8, 9] rfl) hK hE rfl hl.1 rfl (Nat.le_of_ble_eq_true rfl) dL_writeWayTo_3 hcs (fun r hr => ?_)
  subst hr
  refine lv_istore (lv' := [(4, .int (oI ((lpL en re pl n).1))), (0, .ref (ql 0)), (1, .ref (q 0)), (2, .int (nI pl)), (3, .ref (qr 0))]) hx hb dL_writeWayTo_6 hl (by decide) rfl (fun ls hl => ?_)
  refine rn_iconst hx hb 0 dL_writeWayTo_8 (by decide) ?_
  refine lv_istore (lv' := [(5, .int (nI 0)), (4, .int (oI ((lpL en re pl n).1))), (0, .ref (ql 0)), (1, .ref (q 0)), (2, .int (nI pl)), (3, .ref (qr 0))]) hx hb dL_writeWayTo_9 hl (by decide) rfl (fun ls hl => ?_)
  refine lp_L_write ql re sa fm q bg en sc wd ht oh bt co n qr nu rl pl hre hB hrl hpl hfm hsa hla hx hb hml hown hts hK hE hA (by first | exact hR | exact ⟨Nat.le_trans (by decide) hR.1, Nat.le_trans (by decide) hR.2⟩) hcs (fun i o v rv h1 hw ho hrv h6 hx0 hx1 H locs hP hD hS ls hl => ?_) ((40 - 0) + 1) 0 ((lpL en re pl n).1) nu rl (by omega) (rfl) (fun x hx => by have := (lpL_le en re pl n).2 x hx; omega) (hrl) (Or.inl ⟨rfl, hla⟩) (by omega) _ _ hP hD hS ls (lv_sub hl [2, 3, 4, 5, 1, 0] rfl)
  refine lv_aload_n hx hb dL_writeWayTo_45 rfl (lv_at hl 3 rfl) ?_
  refine kwV_v (D := (dC, dI)) (b := (qr 0)) (C := nR) (As := []) (rest := []) (wc := (wR cI cJ cZ qr v rv)) (wr := (wL cI cJ cZ ql re sa fm ++ wP cI cJ cZ q bg en sc wd ht oh bt co n)) (w1 := (wR cI cJ cZ qr (tnF v rv) rv)) (wn := (wL cI cJ cZ ql re sa fm ++ wP cI cJ cZ q bg en sc wd ht oh bt co n ++ wR cI cJ cZ qr (tnF v rv) rv)) ⟨hx, hb, hml, hown, hts⟩ (ct_R_turnRound l dC dI cI cJ cZ qr v rv H.size (hrv) (hx1)) (cwV 0 hts (gv kL_80 ki_R_turnRound ksel_R_turnRound kin_R kc_R_turnRound) rfl rfl rfl (by decide +kernel) ⟨Nat.le_trans (by decide) hR.1, Nat.le_trans (by decide) hR.2⟩) (va_recv hK hP (ci := 4) (q0 := 10) rfl rfl) hP hD hK hE hS hA [10, 11] [0, 1, 2, 3, 4, 5, 6, 7, 8, 9] [0, 1, 2, 3, 4, 5, 6, 7, 8, 9, 10, 11] rfl (by decide) rfl (by decide) (by decide) rfl (by decide) rfl hl.1 rfl (Nat.le_of_ble_eq_true rfl) dL_writeWayTo_46 hcs (fun H locs hP hD hS => ?_)
  have hP9 : va_P (dC, dI) vwCl (wL cI cJ cZ ql re sa fm ++ wP cI cJ cZ q bg en sc wd ht oh bt co n ++ wR cI cJ cZ qr (tnF (wcF (pbO bg en sc oh bt re sa fm n) 40 (lpL en re pl n).1 nu rl).1 (wcF (pbO bg en sc oh bt re sa fm n) 40 (lpL en re pl n).1 nu rl).2) ((wcF (pbO bg en sc oh bt re sa fm n) 40 (lpL en re pl n).1 nu rl).2)) H := by rw [hw, hx0]; exact hP
  have hD9 : va_D A (wL cI cJ cZ ql re sa fm ++ wP cI cJ cZ q bg en sc wd ht oh bt co n ++ wR cI cJ cZ qr (tnF (wcF (pbO bg en sc oh bt re sa fm n) 40 (lpL en re pl n).1 nu rl).1 (wcF (pbO bg en sc oh bt re sa fm n) 40 (lpL en re pl n).1 nu rl).2) ((wcF (pbO bg en sc oh bt re sa fm n) 40 (lpL en re pl n).1 nu rl).2)) := by rw [hw, hx0]; exact hD
  exact W.vret hx hb hr (fun t ht hW => ⟨⟨(), rfl, trivial, by rw [ht]; exact hP9, va_K.moved hW.alike hK, hD9⟩, hS.F ht⟩) hS.2.2 dL_writeWayTo_49
end
section
section RowsC
variable {p : Program} {l : Launch} {e : Env} {R : Room} {s : State} {m : MethodId} {args : Array Value} {below : List Frame} {meth : Method} {c : Code} {H : Heap} {locs : List Loc} {cells slots : Nat} {Q : State → Prop}
variable {cc : ByteArray} {pc : Nat} {ls : Array Slot} {rest : List Value} {D : va_G} {cl : List vw_C} {tys : List (ClassId × FieldType)} {ws : va_W} {A : Nat → Prop} {H0 : Heap} {a : Nat}
theorem en_cpy (f g : Nat → Nat) (sp dp n : Nat) : va_cpy (fun j => nI (f j)) (fun j => nI (g j)) sp dp n = fun j => nI (va_cpy f g sp dp n j) := by
  funext j
  unfold va_cpy
  split <;> rfl
theorem rn_acopy (hexec : p.tables.exec = Jvm.exec) (hb : c.code = cc) (hml : c.maxLocals = ls.size) {own : String} {index : Nat} (hown : s.vm.findClass own = some m.cls) (hlink : (Cond.methodLink own index arraycopyName).before args s = true) (hnat : (Cond.native arraycopyName).before args s = true) (hstat : (Cond.static arraycopyName).before args s = true) (hini : (Cond.initialized "java/lang/System").before args s = true)
    (hK : va_K D cl tys s) (hP : va_P D cl ws H) (hD : va_D A ws) (hS : va_S A H0 H locs) (q0 q1 t0 t1 : Nat) {a0 : Nat} {c0 c1 : ClassId} {n0 n1 : Nat} {f g : Nat → Nat} {sp dp n : Nat} (ha0 : ws[q0]? = some (a0, .inl (c0, n0, .inl (fun j => nI (f j))))) (ha1 : ws[q1]? = some (a, .inl (c1, n1, .inl (fun j => nI (g j))))) (ht0 : tys[t0]? = some (c0, .int)) (ht1 : tys[t1]? = some (c1, .int)) (hn0 : n0 < 2 ^ 31) (hn1 : n1 < 2 ^ 31) (h4 : sp + n ≤ n0) (h5 : dp + n ≤ n1)
    (hframes : 1 ≤ R.frames) (hlocals : (rest.map fun v => v.category).sum + (nativeFrameWords "java/lang/System" "arraycopy" 5 + 11) ≤ R.locals) (hdg : decode cc pc = .ok (.invokestatic index, 3))
    (kk : ∀ (H1 : Heap) (locs1 : List Loc), va_P D cl (ws.set q1 (a, .inl (c1, n1, .inl (fun j => nI (va_cpy f g sp dp n j))))) H1 → va_D A (ws.set q1 (a, .inl (c1, n1, .inl (fun j => nI (va_cpy f g sp dp n j))))) → va_S A H0 H1 locs1 → W p l e R s m args below meth c H1 locs1 cells slots Q (F0 m (pc + 3) ls rest)) : W p l e R s m args below meth c H locs cells slots Q (F0 m pc ls (.int (nI n) :: .int (nI dp) :: .ref a :: .int (nI sp) :: .ref a0 :: rest)) := by
  have e1 : (nI sp).toNatClampNeg = sp := nI_clamp (by omega)
  have e2 : (nI dp).toNatClampNeg = dp := nI_clamp (by omega)
  have e3 : (nI n).toNatClampNeg = n := nI_clamp (by omega)
  refine va_copyi hexec hb hml hown hlink hnat hstat hini hK hP hD hS q0 q1 t0 t1 ha0 ha1 ht0 ht1 rfl (nI_pos (by omega)) (nI_pos (by omega)) (nI_pos (by omega)) (by rw [e1, e3]; exact h4) (by rw [e2, e3]; exact h5) (fun i _ => rfl) hframes hlocals hdg ?_
  rw [e1, e2, e3, en_cpy]
  exact kk
end RowsC

def cbB (us : Nat) (bg bt tr : Nat → Nat) (nb pl len : Nat) : Bool := us.testBit nb && (decide (bg nb = pl) && (decide (len = 0) || !(bt (tr (len - 1))).testBit nb))
theorem cb_0 {us : Nat} {bg bt tr : Nat → Nat} {nb pl len : Nat} (h : us.testBit nb = false) : nI 0 = bI (cbB us bg bt tr nb pl len) := by simp [cbB, h, bI]; rfl
theorem cb_1 {us : Nat} {bg bt tr : Nat → Nat} {nb pl len : Nat} (h : ¬ bg nb = pl) : nI 0 = bI (cbB us bg bt tr nb pl len) := by simp [cbB, h, bI]; rfl
theorem n0_of {len : Nat} (hl : len ≤ 5) (h : nI len = 0) : len = 0 := by
  have h2 : nI len = nI 0 := h
  rwa [nI_eq (by omega) (by omega)] at h2
theorem n0_ne {len : Nat} (h : ¬ nI len = 0) : len ≠ 0 := fun q => h (by rw [q]; rfl)
theorem cb_2 {us : Nat} {bg bt tr : Nat → Nat} {nb pl len : Nat} (h1 : us.testBit nb = true) (h2 : bg nb = pl) (h3 : len = 0) : nI 1 = bI (cbB us bg bt tr nb pl len) := by simp [cbB, h1, h2, h3, bI]; rfl
theorem cb_3 {us : Nat} {bg bt tr : Nat → Nat} {nb pl len : Nat} (h1 : us.testBit nb = true) (h2 : bg nb = pl) (h4 : (bt (tr (len - 1))).testBit nb = false) : nI 1 = bI (cbB us bg bt tr nb pl len) := by simp [cbB, h1, h2, h4, bI]; rfl
theorem cb_4 {us : Nat} {bg bt tr : Nat → Nat} {nb pl len : Nat} (h3 : len ≠ 0) (h4 : (bt (tr (len - 1))).testBit nb = true) : nI 0 = bI (cbB us bg bt tr nb pl len) := by simp [cbB, h3, h4, bI]; rfl

set_option maxHeartbeats 4000000 in
set_option maxRecDepth 100000 in
theorem ct_S_canBeNext (l : Launch) (dC : Nat → ClassId) (dI : Nat → Nat → Nat) (cI cJ cZ : ClassId) (qs : Nat → Nat) (tr rp rn rs : Nat → Nat) (rk us gl : Nat) (q : Nat → Nat) (bg en sc wd ht oh bt : Nat → Nat) (co n : Nat) (nb pl len : Nat) (hB : bP bg en sc wd ht oh bt co n) (hnb : nb < 40) (hpl : pl < 20) (hlen : len ≤ 5) (hus : us < 1099511627776) (htr : ∀ j, tr j < 40) : Met l yS_canBeNext wsS_canBeNext ({ frames := 2, cells := 0, slots := 0, locals := 44 }) (PcR (dC, dI) (wS cI cJ cZ qs tr rp rn rs rk us gl ++ wP cI cJ cZ q bg en sc wd ht oh bt co n) (tyE cI cJ cZ) [.ref (qs 0), .ref (q 0), .int (nI nb), .int (nI pl), .int (nI len)]) (vp_Si (fun r => r = bI (cbB us bg bt tr nb pl len))) 0 0 (fun _ => False) := by
  refine Met.ofW (cc := cS_canBeNext) (maxL := 5) (ret := (some .boolean)) (by decide) rfl ?_
  intro p e s m args below meth c s₁ B hml hv
  obtain ⟨rfl, hP, hK, hE⟩ := hv
  have hx := B.exec
  have hb := B.bytes
  have hr := B.returns
  have hts := atoms_spec (ws := wsS_canBeNext) B.pre
  have hg : ∀ w ∈ gw, w.before _ s = true := fun w h => hts w (List.mem_cons_of_mem _ h)
  have hown : s.vm.findClass nS = some m.cls := findClass_of_methodNamed B.named
  have hlocks := B.notSynchronized
  have hR : 2 ≤ (headSpec wsS_canBeNext ({ frames := 2, cells := 0, slots := 0, locals := 44 })).room.frames ∧ 44 ≤ (headSpec wsS_canBeNext ({ frames := 2, cells := 0, slots := 0, locals := 44 })).room.locals := ⟨Nat.le_refl _, Nat.le_refl _⟩
  have hcs : 0 ≤ (headSpec wsS_canBeNext ({ frames := 2, cells := 0, slots := 0, locals := 44 })).room.cells ∧ 0 ≤ (headSpec wsS_canBeNext ({ frames := 2, cells := 0, slots := 0, locals := 44 })).room.slots := ⟨Nat.zero_le _, Nat.zero_le _⟩
  have hn := hB.1
  have hco := hB.2.1
  have hbi := hB.2.2
  have bn := hbi nb
  have htl := htr (len - 1)
  have hl := lv_entry ([.ref (qs 0), .ref (q 0), .int (nI nb), .int (nI pl), .int (nI len)]) (n := 5) (Nat.le_of_ble_eq_true rfl)
  rw [lg_entry_eq]
  generalize (lg_sl ([.ref (qs 0), .ref (q 0), .int (nI nb), .int (nI pl), .int (nI len)]) ++ List.replicate (5 - (lg_sl ([.ref (qs 0), .ref (q 0), .int (nI nb), .int (nI pl), .int (nI len)])).length) Slot.unset).toArray = ls at hl ⊢
  have hl : lv_has ls 5 [(0, .ref (qs 0)), (1, .ref (q 0)), (2, .int (nI nb)), (3, .int (nI pl)), (4, .int (nI len))] := hl
  refine lv_aload_n hx hb dS_canBeNext_0 rfl (lv_at hl 0 rfl) ?_
  refine va_get (D := (dC, dI)) (ci := 3) (v := .long (lN us)) (C := nS) (T := TS) (N := 7) hx hb hg inS hown hK hP 0 rfl rfl 5 (by decide) (hg _ kS_25) (fun _ h9 => h9) rfl dS_canBeNext_1 ?_
  refine lv_iload_n hx hb dS_canBeNext_4 rfl (lv_at hl 2 rfl) ?_
  refine cpN_i (As := [.long (lN us), .int (nI nb)]) (rest := []) (post := fun r : Int32 => r = bI (us.testBit nb)) ⟨hx, hb, hml, hown, hts⟩ (ct_G_hasBit l dC dI cI cJ cZ us nb (by omega) (by omega)) ⟨va_cnB 2 hts (gi kc_G_hasBit) rfl rfl rfl (hE _ kNS_56) (hg _ kin_G) (by decide +kernel) ⟨Nat.le_trans (by decide) hR.1, Nat.le_trans (by decide) hR.2⟩, hg _ ks_G_hasBit, trivial⟩ (hP.sub (ws' := []) [] rfl) hK hE rfl hl.1 rfl (Nat.le_of_ble_eq_true rfl) dS_canBeNext_5 hcs (fun r hr => ?_)
  subst hr
  refine rb_eq (tgt := 47) hx hb dS_canBeNext_8 (by decide) (fun c8 => ?_) (fun c8 => ?_)
  · refine rn_iconst hx hb 0 dS_canBeNext_47 (by decide) ?_
    exact W.zret hx hb hr rfl (fun t ht hW => ⟨_, rfl, (by first | exact cb_0 c8 | exact cb_1 c18 | exact cb_2 c8 c18 (n0_of hlen c23) | exact cb_3 c8 c18 c40 | exact cb_4 hl0 c40), ht⟩) (fun _ h9 => nomatch h9) dS_canBeNext_48
  · refine lv_aload_n hx hb dS_canBeNext_11 rfl (lv_at hl 1 rfl) ?_
    refine va_get (D := (dC, dI)) (ci := 1) (v := .ref (q 1)) (C := nP) (T := TP) (N := 9) hx hb hg inP hown hK hP 5 rfl rfl 0 (by decide) (hg _ kS_72) (fun _ h9 => h9) rfl dS_canBeNext_12 ?_
    refine lv_iload_n hx hb dS_canBeNext_15 rfl (lv_at hl 2 rfl) ?_
    refine ga_i (f := bg) hx hb hK hP 6 0 rfl rfl (by omega) (by decide) dS_canBeNext_16 ?_
    refine lv_iload_n hx hb dS_canBeNext_17 rfl (lv_at hl 3 rfl) ?_
    refine rn_icmp_ne (tgt := 47) hx hb dS_canBeNext_18 (by decide) (by omega) (by omega) (fun c18 => ?_) (fun c18 => ?_)
    · refine rn_iconst hx hb 0 dS_canBeNext_47 (by decide) ?_
      exact W.zret hx hb hr rfl (fun t ht hW => ⟨_, rfl, (by first | exact cb_0 c8 | exact cb_1 c18 | exact cb_2 c8 c18 (n0_of hlen c23) | exact cb_3 c8 c18 c40 | exact cb_4 hl0 c40), ht⟩) (fun _ h9 => nomatch h9) dS_canBeNext_48
    · refine lv_iload hx hb dS_canBeNext_21 (lv_at hl 4 rfl) ?_
      refine lv_if_eq (tgt := 43) hx hb dS_canBeNext_23 (by decide) (fun c23 => ?_) (fun c23 => ?_)
      · refine rn_iconst hx hb 1 dS_canBeNext_43 (by decide) ?_
        refine lv_goto (tgt := 48) hx hb dS_canBeNext_44 (by decide) ?_
        exact W.zret hx hb hr rfl (fun t ht hW => ⟨_, rfl, (by first | exact cb_0 c8 | exact cb_1 c18 | exact cb_2 c8 c18 (n0_of hlen c23) | exact cb_3 c8 c18 c40 | exact cb_4 hl0 c40), ht⟩) (fun _ h9 => nomatch h9) dS_canBeNext_48
      · have hl0 := n0_ne c23
        refine lv_aload_n hx hb dS_canBeNext_26 rfl (lv_at hl 1 rfl) ?_
        refine lv_aload_n hx hb dS_canBeNext_27 rfl (lv_at hl 0 rfl) ?_
        refine va_get (D := (dC, dI)) (ci := 3) (v := .ref (qs 1)) (C := nS) (T := TS) (N := 7) hx hb hg inS hown hK hP 0 rfl rfl 0 (by decide) (hg _ kS_9) (fun _ h9 => h9) rfl dS_canBeNext_28 ?_
        refine lv_iload hx hb dS_canBeNext_31 (lv_at hl 4 rfl) ?_
        refine rn_iconst hx hb 1 dS_canBeNext_33 (by decide) ?_
        refine rn_isub hx hb dS_canBeNext_34 (by omega) ?_
        refine ga_i (f := tr) hx hb hK hP 1 0 rfl rfl (by omega) (by decide) dS_canBeNext_35 ?_
        refine lv_iload_n hx hb dS_canBeNext_36 rfl (lv_at hl 2 rfl) ?_
        refine cpV_i (b := (q 0)) (C := nP) (As := [.int (nI (tr (len - 1))), .int (nI nb)]) (rest := []) (post := fun r : Int32 => r = bI ((bt (tr (len - 1))).testBit nb)) ⟨hx, hb, hml, hown, hts⟩ (ct_P_isBarred l dC dI cI cJ cZ q bg en sc wd ht oh bt co n (tr (len - 1)) nb (hB) (by omega) (hnb)) (cwV 2 hts (gv kS_75 ki_P_isBarred ksel_P_isBarred kin_P kc_P_isBarred) rfl rfl rfl (by decide +kernel) ⟨Nat.le_trans (by decide) hR.1, Nat.le_trans (by decide) hR.2⟩) (va_recv hK hP (ci := 1) (q0 := 5) rfl rfl) (hP.sub (ws' := (wP cI cJ cZ q bg en sc wd ht oh bt co n)) [5, 6, 7, 8, 9, 10, 11, 12] rfl) hK hE rfl hl.1 rfl (Nat.le_of_ble_eq_true rfl) dS_canBeNext_37 hcs (fun r hr => ?_)
        subst hr
        refine rb_ne (tgt := 47) hx hb dS_canBeNext_40 (by decide) (fun c40 => ?_) (fun c40 => ?_)
        · refine rn_iconst hx hb 0 dS_canBeNext_47 (by decide) ?_
          exact W.zret hx hb hr rfl (fun t ht hW => ⟨_, rfl, (by first | exact cb_0 c8 | exact cb_1 c18 | exact cb_2 c8 c18 (n0_of hlen c23) | exact cb_3 c8 c18 c40 | exact cb_4 hl0 c40), ht⟩) (fun _ h9 => nomatch h9) dS_canBeNext_48
        · refine rn_iconst hx hb 1 dS_canBeNext_43 (by decide) ?_
          refine lv_goto (tgt := 48) hx hb dS_canBeNext_44 (by decide) ?_
          exact W.zret hx hb hr rfl (fun t ht hW => ⟨_, rfl, (by first | exact cb_0 c8 | exact cb_1 c18 | exact cb_2 c8 c18 (n0_of hlen c23) | exact cb_3 c8 c18 c40 | exact cb_4 hl0 c40), ht⟩) (fun _ h9 => nomatch h9) dS_canBeNext_48

def rkF (rs : Nat → Nat) (t rk : Nat) : Nat := (ffi (fun r => decide (t < rs r)) rk).getD rk
theorem rkF_le (rs : Nat → Nat) (t rk : Nat) : rkF rs t rk ≤ rk := by
  unfold rkF
  cases h : ffi (fun r => decide (t < rs r)) rk with
  | none => exact Nat.le_refl _
  | some i => have := ((ffi_ok rk).1 i h).1; simp; omega

set_option maxHeartbeats 4000000 in
set_option maxRecDepth 100000 in
theorem lp_S_rank {p : Program} {l : Launch} {e : Env} {R : Room} {s : State} {m : MethodId} {args : Array Value} {below : List Frame} {meth : Method} {c : Code} {H : Heap} {locs : List Loc} {cells slots : Nat} {Q : State → Prop} {dC : Nat → ClassId} {dI : Nat → Nat → Nat} {cI cJ cZ : ClassId} (qs : Nat → Nat) (tr rp rn rs : Nat → Nat) (rk us gl : Nat) (t : Nat) (hrk : rk ≤ 5) (hrs : ∀ j, rs j ≤ 1152921504806846976) (ht0 : t ≤ 1152921504806846976) (hx : p.tables.exec = Jvm.exec) (hb : c.code = cS_rankOf) (hml : c.maxLocals = 4) (hown : s.vm.findClass nS = some m.cls) (hts : ∀ w ∈ wsS_rankOf, w.before args s = true) (hK : va_K (dC, dI) vwCl (tyE cI cJ cZ) s) (hP : va_P (dC, dI) vwCl (wS cI cJ cZ qs tr rp rn rs rk us gl) H) (hE : EV s) (hR : 0 ≤ R.frames ∧ 0 ≤ R.locals) (hcs : cells ≤ R.cells ∧ slots ≤ R.slots)
    (kx0 : ∀ (r0 : Nat) (h1 : r0 ≤ rk) (hf : ffi (fun r => decide (t < rs r)) r0 = none) (hx0 : rkF rs t rk = r0) (ls : Array Slot), lv_has ls 4 [(0, .ref (qs 0)), (1, .long (lN t)), (3, .int (nI r0))] → W p l e R s m args below meth c H locs cells slots Q (F0 m 27 ls []))
    : ∀ (fu : Nat) (r0 : Nat) (h1 : r0 ≤ rk) (hf : ffi (fun r => decide (t < rs r)) r0 = none), rk - r0 < fu → ∀ ls : Array Slot, lv_has ls 4 [(0, .ref (qs 0)), (1, .long (lN t)), (3, .int (nI r0))] → W p l e R s m args below meth c H locs cells slots Q (F0 m 2 ls []) := by
  have hg : ∀ w ∈ gw, w.before args s = true := fun w h => hts w (List.mem_cons_of_mem _ h)
  intro fu
  induction fu with
  | zero => intro r0 h1 hf h0; exact absurd h0 (Nat.not_lt_zero _)
  | succ fu ih =>
    intro r0 h1 hf hfu ls hl
    refine lv_iload_n hx hb dS_rankOf_2 rfl (lv_at hl 2 rfl) ?_
    refine lv_aload_n hx hb dS_rankOf_3 rfl (lv_at hl 0 rfl) ?_
    refine va_get (D := (dC, dI)) (ci := 3) (v := .int (nI rk)) (C := nS) (T := TS) (N := 7) hx hb hg inS hown hK hP 0 rfl rfl 4 (by decide) (hg _ kS_33) (fun _ h9 => h9) rfl dS_rankOf_4 ?_
    refine rn_icmp_ge (tgt := 27) hx hb dS_rankOf_7 (by decide) (by omega) (by omega) (fun c7 => ?_) (fun c7 => ?_)
    · exact kx0 r0 h1 hf (by first | (rw [rkF, show rk = r0 from by omega, hf]; rfl) | (rw [rkF, ffi_some hf (decide_eq_true c18) rk (by omega)]; rfl)) ls (lv_sub hl [0, 1, 2] rfl)
    · have hr0 := hrs r0
      refine lv_aload_n hx hb dS_rankOf_10 rfl (lv_at hl 0 rfl) ?_
      refine va_get (D := (dC, dI)) (ci := 3) (v := .ref (qs 4)) (C := nS) (T := TS) (N := 7) hx hb hg inS hown hK hP 0 rfl rfl 3 (by decide) (hg _ kS_21) (fun _ h9 => h9) rfl dS_rankOf_11 ?_
      refine lv_iload_n hx hb dS_rankOf_14 rfl (lv_at hl 2 rfl) ?_
      refine ga_l (f := rs) hx hb hK hP 4 1 rfl rfl (by omega) (by decide) dS_rankOf_15 ?_
      refine lv_lload_n hx hb dS_rankOf_16 rfl (lv_at hl 1 rfl) ?_
      refine rn_lcmp_gt (tgt := 27) hx hb dS_rankOf_17 dS_rankOf_18 (by decide) (by omega) (by omega) (fun c18 => ?_) (fun c18 => ?_)
      · exact kx0 r0 h1 hf (by first | (rw [rkF, show rk = r0 from by omega, hf]; rfl) | (rw [rkF, ffi_some hf (decide_eq_true c18) rk (by omega)]; rfl)) ls (lv_sub hl [0, 1, 2] rfl)
      · refine rn_iinc (lv' := [(3, .int (nI (r0 + 1))), (0, .ref (qs 0)), (1, .long (lN t))]) hx hb dS_rankOf_21 hl (k := 2) rfl (by decide) rfl (fun ls hl => ?_)
        refine lv_goto (tgt := 2) hx hb dS_rankOf_24 (by decide) ?_
        exact ih (r0 + 1) (by omega) (pb_1 hf (decide_eq_false (by omega))) (by omega) ls (lv_sub hl [1, 2, 0] rfl)

set_option maxHeartbeats 4000000 in
set_option maxRecDepth 100000 in
theorem ct_S_rankOf (l : Launch) (dC : Nat → ClassId) (dI : Nat → Nat → Nat) (cI cJ cZ : ClassId) (qs : Nat → Nat) (tr rp rn rs : Nat → Nat) (rk us gl : Nat) (t : Nat) (hrk : rk ≤ 5) (hrs : ∀ j, rs j ≤ 1152921504806846976) (ht0 : t ≤ 1152921504806846976) : Met l yS_rankOf wsS_rankOf ({ frames := 0, cells := 0, slots := 0, locals := 0 }) (PcR (dC, dI) (wS cI cJ cZ qs tr rp rn rs rk us gl) (tyE cI cJ cZ) [.ref (qs 0), .long (lN t)]) (vp_Si (fun r => r = nI (rkF rs t rk))) 0 0 (fun _ => False) := by
  refine Met.ofW (cc := cS_rankOf) (maxL := 4) (ret := (some .int)) (by decide) rfl ?_
  intro p e s m args below meth c s₁ B hml hv
  obtain ⟨rfl, hP, hK, hE⟩ := hv
  have hx := B.exec
  have hb := B.bytes
  have hr := B.returns
  have hts := atoms_spec (ws := wsS_rankOf) B.pre
  have hg : ∀ w ∈ gw, w.before _ s = true := fun w h => hts w (List.mem_cons_of_mem _ h)
  have hown : s.vm.findClass nS = some m.cls := findClass_of_methodNamed B.named
  have hlocks := B.notSynchronized
  have hR : 0 ≤ (headSpec wsS_rankOf ({ frames := 0, cells := 0, slots := 0, locals := 0 })).room.frames ∧ 0 ≤ (headSpec wsS_rankOf ({ frames := 0, cells := 0, slots := 0, locals := 0 })).room.locals := ⟨Nat.le_refl _, Nat.le_refl _⟩
  have hcs : 0 ≤ (headSpec wsS_rankOf ({ frames := 0, cells := 0, slots := 0, locals := 0 })).room.cells ∧ 0 ≤ (headSpec wsS_rankOf ({ frames := 0, cells := 0, slots := 0, locals := 0 })).room.slots := ⟨Nat.zero_le _, Nat.zero_le _⟩
  have hl := lv_entry ([.ref (qs 0), .long (lN t)]) (n := 4) (Nat.le_of_ble_eq_true rfl)
  rw [lg_entry_eq]
  generalize (lg_sl ([.ref (qs 0), .long (lN t)]) ++ List.replicate (4 - (lg_sl ([.ref (qs 0), .long (lN t)])).length) Slot.unset).toArray = ls at hl ⊢
  have hl : lv_has ls 4 [(0, .ref (qs 0)), (1, .long (lN t))] := hl
  refine rn_iconst hx hb 0 dS_rankOf_0 (by decide) ?_
  refine lv_istore_n (lv' := [(3, .int (nI 0)), (0, .ref (qs 0)), (1, .long (lN t))]) hx hb dS_rankOf_1 rfl hl (by decide) rfl (fun ls hl => ?_)
  refine lp_S_rank qs tr rp rn rs rk us gl t hrk hrs ht0 hx hb hml hown hts hK hP hE (by first | exact hR | exact ⟨Nat.le_trans (by decide) hR.1, Nat.le_trans (by decide) hR.2⟩) hcs (fun r0 h1 hf hx0 ls hl => ?_) ((rk - 0) + 1) 0 (by omega) (rfl) (by omega) ls (lv_sub hl [1, 2, 0] rfl)
  refine lv_iload_n hx hb dS_rankOf_27 rfl (lv_at hl 2 rfl) ?_
  exact W.iret hx hb hr (fun t ht hW => ⟨_, rfl, (by rw [hx0]), ht⟩) (fun _ h9 => nomatch h9) dS_rankOf_28

def shF (f : Nat → Nat) (i : Nat) : Nat → Nat := fun j => if i < j ∧ j < 5 then f (j - 1) else f j
def shP (f : Nat → Nat) (i : Nat) : Nat → Nat := fun j => if 5 * i + 5 ≤ j ∧ j < 25 then f (j - 5) else f j
def kpS (rs : Nat → Nat) (t rk : Nat) : Nat → Nat := if rkF rs t rk < 5 then va_up (shF rs (rkF rs t rk)) (rkF rs t rk) t else rs
def kpN (rn rs : Nat → Nat) (t rk len : Nat) : Nat → Nat := if rkF rs t rk < 5 then va_up (shF rn (rkF rs t rk)) (rkF rs t rk) len else rn
def kpP (rp tr rs : Nat → Nat) (t rk len : Nat) : Nat → Nat := if rkF rs t rk < 5 then va_cpy tr (shP rp (rkF rs t rk)) 0 (rkF rs t rk * 5) len else rp
def kpK (rs : Nat → Nat) (t rk : Nat) : Nat := if rkF rs t rk < 5 then min (rk + 1) 5 else rk
theorem sh_0 (f : Nat → Nat) : f = shF f 4 := by
  funext j
  unfold shF
  rw [if_neg (by omega)]
theorem shP_0 (f : Nat → Nat) : f = shP f 4 := by
  funext j
  unfold shP
  rw [if_neg (by omega)]
theorem sh_s {f v : Nat → Nat} {i : Nat} (hv : v = shF f (i + 1)) (hi : i < 4) : va_up v (i + 1) (v (i + 1 - 1)) = shF f i := by
  subst hv
  funext j
  simp only [va_up, shF]
  by_cases h : j = i + 1
  · subst h
    rw [if_pos rfl, if_neg (by omega), if_pos (by omega)]
  · rw [if_neg h]
    by_cases h2 : i + 1 < j ∧ j < 5
    · rw [if_pos h2, if_pos (by omega)]
    · rw [if_neg h2, if_neg (by omega)]
theorem shP_s {f v : Nat → Nat} {i : Nat} (hv : v = shP f (i + 1)) (hi : i < 4) : va_cpy v v ((i + 1 - 1) * 5) ((i + 1) * 5) 5 = shP f i := by
  subst hv
  funext j
  simp only [va_cpy, shP]
  by_cases h : (i + 1) * 5 ≤ j ∧ j < (i + 1) * 5 + 5
  · rw [if_pos h, if_neg (by omega), if_pos (by omega)]
    congr 1; omega
  · rw [if_neg h]
    by_cases h2 : 5 * (i + 1) + 5 ≤ j ∧ j < 25
    · rw [if_pos h2, if_pos (by omega)]
    · rw [if_neg h2, if_neg (by omega)]

set_option maxHeartbeats 4000000 in
set_option maxRecDepth 100000 in
theorem lp_S_keep {p : Program} {l : Launch} {e : Env} {R : Room} {s : State} {m : MethodId} {args : Array Value} {below : List Frame} {meth : Method} {c : Code} {cells slots : Nat} {Q : State → Prop} {dC : Nat → ClassId} {dI : Nat → Nat → Nat} {cI cJ cZ : ClassId} {A : Nat → Prop} (qs : Nat → Nat) (tr rp rn rs : Nat → Nat) (rk us gl : Nat) (len t : Nat) (hrk : rk ≤ 5) (hrs : ∀ j, rs j ≤ 1152921504806846976) (htr : ∀ j, tr j < 40) (hlen : len ≤ 5) (ht0 : t ≤ 1152921504806846976) (hx : p.tables.exec = Jvm.exec) (hb : c.code = cS_keep) (hml : c.maxLocals = 6) (hown : s.vm.findClass nS = some m.cls) (hts : ∀ w ∈ wsS_keep, w.before args s = true) (hK : va_K (dC, dI) vwCl (tyE cI cJ cZ) s) (hE : EV s) (hA : ∀ q : Nat, s.heap.size ≤ q → A q) (hR : 1 ≤ R.frames ∧ 200 ≤ R.locals) (hcs : cells ≤ R.cells ∧ slots ≤ R.slots)
    (kx0 : ∀ (i : Nat) (v : Nat → Nat) (vn : Nat → Nat) (vp : Nat → Nat) (h1 : rkF rs t rk ≤ i) (h2 : i ≤ 4) (hv : v = shF rs i) (hvn : vn = shF rn i) (hvp : vp = shP rp i) (hx0 : i = rkF rs t rk) (H : Heap) (locs : List Loc), va_P (dC, dI) vwCl (wS cI cJ cZ qs tr vp vn v rk us gl) H → va_D A (wS cI cJ cZ qs tr vp vn v rk us gl) → va_S A s.heap H locs → ∀ ls : Array Slot, lv_has ls 6 [(0, .ref (qs 0)), (1, .int (nI len)), (2, .long (lN t)), (4, .int (nI (rkF rs t rk))), (5, .int (nI i))] →  W p l e R s m args below meth c H locs cells slots Q (F0 m 84 ls []))
    : ∀ (fu : Nat) (i : Nat) (v : Nat → Nat) (vn : Nat → Nat) (vp : Nat → Nat) (h1 : rkF rs t rk ≤ i) (h2 : i ≤ 4) (hv : v = shF rs i) (hvn : vn = shF rn i) (hvp : vp = shP rp i), i < fu → ∀ (H : Heap) (locs : List Loc), va_P (dC, dI) vwCl (wS cI cJ cZ qs tr vp vn v rk us gl) H → va_D A (wS cI cJ cZ qs tr vp vn v rk us gl) → va_S A s.heap H locs → ∀ ls : Array Slot, lv_has ls 6 [(0, .ref (qs 0)), (1, .int (nI len)), (2, .long (lN t)), (4, .int (nI (rkF rs t rk))), (5, .int (nI i))] →  W p l e R s m args below meth c H locs cells slots Q (F0 m 17 ls []) := by
  have hg : ∀ w ∈ gw, w.before args s = true := fun w h => hts w (List.mem_cons_of_mem _ h)
  have hrl := rkF_le rs t rk
  intro fu
  induction fu with
  | zero => intro i v vn vp h1 h2 hv hvn hvp h0; exact absurd h0 (Nat.not_lt_zero _)
  | succ fu ih =>
    intro i v vn vp h1 h2 hv hvn hvp hfu H locs hP hD hS ls hl
    refine lv_iload hx hb dS_keep_17 (lv_at hl 4 rfl) ?_
    refine lv_iload hx hb dS_keep_19 (lv_at hl 3 rfl) ?_
    refine rn_icmp_le (tgt := 84) hx hb dS_keep_21 (by decide) (by omega) (by omega) (fun c21 => ?_) (fun c21 => ?_)
    · exact kx0 i v vn vp h1 h2 hv hvn hvp (by omega) H locs hP hD hS ls (lv_sub hl [0, 1, 2, 3, 4] rfl)
    · obtain ⟨i, rfl⟩ : ∃ k, i = k + 1 := ⟨i - 1, by omega⟩
      refine lv_aload_n hx hb dS_keep_24 rfl (lv_at hl 0 rfl) ?_
      refine va_get (D := (dC, dI)) (ci := 3) (v := .ref (qs 4)) (C := nS) (T := TS) (N := 7) hx hb hg inS hown hK hP 0 rfl rfl 3 (by decide) (hg _ kS_21) (fun _ h9 => h9) rfl dS_keep_25 ?_
      refine lv_iload hx hb dS_keep_28 (lv_at hl 4 rfl) ?_
      refine lv_aload_n hx hb dS_keep_30 rfl (lv_at hl 0 rfl) ?_
      refine va_get (D := (dC, dI)) (ci := 3) (v := .ref (qs 4)) (C := nS) (T := TS) (N := 7) hx hb hg inS hown hK hP 0 rfl rfl 3 (by decide) (hg _ kS_21) (fun _ h9 => h9) rfl dS_keep_31 ?_
      refine lv_iload hx hb dS_keep_34 (lv_at hl 4 rfl) ?_
      refine rn_iconst hx hb 1 dS_keep_36 (by decide) ?_
      refine rn_isub hx hb dS_keep_37 (by omega) ?_
      refine ga_l (f := v) hx hb hK hP 4 1 rfl rfl (by omega) (by decide) dS_keep_38 ?_
      refine sa_l (f := v) (v := v ((i + 1) - 1)) hx hb hK hP hD hS 4 1 rfl rfl (by omega) (by decide) dS_keep_39 (fun H locs hP hD hS => ?_)
      have hP : va_P (dC, dI) vwCl (wS cI cJ cZ qs tr vp vn (va_up v (i + 1) (v ((i + 1) - 1))) rk us gl) H := hP
      have hD : va_D A (wS cI cJ cZ qs tr vp vn (va_up v (i + 1) (v ((i + 1) - 1))) rk us gl) := hD
      refine lv_aload_n hx hb dS_keep_40 rfl (lv_at hl 0 rfl) ?_
      refine va_get (D := (dC, dI)) (ci := 3) (v := .ref (qs 3)) (C := nS) (T := TS) (N := 7) hx hb hg inS hown hK hP 0 rfl rfl 2 (by decide) (hg _ kS_18) (fun _ h9 => h9) rfl dS_keep_41 ?_
      refine lv_iload hx hb dS_keep_44 (lv_at hl 4 rfl) ?_
      refine lv_aload_n hx hb dS_keep_46 rfl (lv_at hl 0 rfl) ?_
      refine va_get (D := (dC, dI)) (ci := 3) (v := .ref (qs 3)) (C := nS) (T := TS) (N := 7) hx hb hg inS hown hK hP 0 rfl rfl 2 (by decide) (hg _ kS_18) (fun _ h9 => h9) rfl dS_keep_47 ?_
      refine lv_iload hx hb dS_keep_50 (lv_at hl 4 rfl) ?_
      refine rn_iconst hx hb 1 dS_keep_52 (by decide) ?_
      refine rn_isub hx hb dS_keep_53 (by omega) ?_
      refine ga_i (f := vn) hx hb hK hP 3 0 rfl rfl (by omega) (by decide) dS_keep_54 ?_
      refine sa_i (f := vn) (v := vn ((i + 1) - 1)) hx hb hK hP hD hS 3 0 rfl rfl (by omega) (by decide) dS_keep_55 (fun H locs hP hD hS => ?_)
      have hP : va_P (dC, dI) vwCl (wS cI cJ cZ qs tr vp (va_up vn (i + 1) (vn ((i + 1) - 1))) (va_up v (i + 1) (v ((i + 1) - 1))) rk us gl) H := hP
      have hD : va_D A (wS cI cJ cZ qs tr vp (va_up vn (i + 1) (vn ((i + 1) - 1))) (va_up v (i + 1) (v ((i + 1) - 1))) rk us gl) := hD
      refine lv_aload_n hx hb dS_keep_56 rfl (lv_at hl 0 rfl) ?_
      refine va_get (D := (dC, dI)) (ci := 3) (v := .ref (qs 2)) (C := nS) (T := TS) (N := 7) hx hb hg inS hown hK hP 0 rfl rfl 1 (by decide) (hg _ kS_15) (fun _ h9 => h9) rfl dS_keep_57 ?_
      refine lv_iload hx hb dS_keep_60 (lv_at hl 4 rfl) ?_
      refine rn_iconst hx hb 1 dS_keep_62 (by decide) ?_
      refine rn_isub hx hb dS_keep_63 (by omega) ?_
      refine rn_iconst hx hb 5 dS_keep_64 (by decide) ?_
      refine rn_imul hx hb dS_keep_65 ?_
      refine lv_aload_n hx hb dS_keep_66 rfl (lv_at hl 0 rfl) ?_
      refine va_get (D := (dC, dI)) (ci := 3) (v := .ref (qs 2)) (C := nS) (T := TS) (N := 7) hx hb hg inS hown hK hP 0 rfl rfl 1 (by decide) (hg _ kS_15) (fun _ h9 => h9) rfl dS_keep_67 ?_
      refine lv_iload hx hb dS_keep_70 (lv_at hl 4 rfl) ?_
      refine rn_iconst hx hb 5 dS_keep_72 (by decide) ?_
      refine rn_imul hx hb dS_keep_73 ?_
      refine rn_iconst hx hb 5 dS_keep_74 (by decide) ?_
      refine rn_acopy (f := vp) (g := vp) hx hb (hml.trans hl.1.symm) hown (hg _ kS_79) (hg _ kn_acopy) (hg _ ks_acopy) (hg _ kin_System) hK hP hD hS 2 2 0 0 rfl rfl rfl rfl (by decide) (by decide) (by omega) (by omega) (Nat.le_trans (by decide) hR.1) (Nat.le_trans (by decide) hR.2) dS_keep_75 (fun H locs hP hD hS => ?_)
      have hP : va_P (dC, dI) vwCl (wS cI cJ cZ qs tr (va_cpy vp vp (((i + 1) - 1) * 5) ((i + 1) * 5) 5) (va_up vn (i + 1) (vn ((i + 1) - 1))) (va_up v (i + 1) (v ((i + 1) - 1))) rk us gl) H := hP
      have hD : va_D A (wS cI cJ cZ qs tr (va_cpy vp vp (((i + 1) - 1) * 5) ((i + 1) * 5) 5) (va_up vn (i + 1) (vn ((i + 1) - 1))) (va_up v (i + 1) (v ((i + 1) - 1))) rk us gl) := hD
      refine rn_iincm (lv' := [(5, .int (nI i)), (0, .ref (qs 0)), (1, .int (nI len)), (2, .long (lN t)), (4, .int (nI (rkF rs t rk)))]) hx hb dS_keep_78 hl (k := 4) rfl (by decide) rfl (fun ls hl => ?_)
      refine lv_goto (tgt := 17) hx hb dS_keep_81 (by decide) ?_
      exact ih i (va_up v (i + 1) (v ((i + 1) - 1))) (va_up vn (i + 1) (vn ((i + 1) - 1))) (va_cpy vp vp (((i + 1) - 1) * 5) ((i + 1) * 5) 5) (by omega) (by omega) (sh_s hv (by omega)) (sh_s hvn (by omega)) (shP_s hvp (by omega)) (by omega) H locs hP hD hS ls (lv_sub hl [1, 2, 3, 4, 0] rfl)

set_option maxHeartbeats 4000000 in
set_option maxRecDepth 100000 in
theorem ct_S_keep (l : Launch) (dC : Nat → ClassId) (dI : Nat → Nat → Nat) (cI cJ cZ : ClassId) (qs : Nat → Nat) (tr rp rn rs : Nat → Nat) (rk us gl : Nat) (len t : Nat) (sz : Nat) (hrk : rk ≤ 5) (hrs : ∀ j, rs j ≤ 1152921504806846976) (htr : ∀ j, tr j < 40) (hlen : len ≤ 5) (ht0 : t ≤ 1152921504806846976) : Met l yS_keep wsS_keep ({ frames := 1, cells := 0, slots := 0, locals := 200 }) (PcW (dC, dI) (wS cI cJ cZ qs tr rp rn rs rk us gl) (tyE cI cJ cZ) sz [.ref (qs 0), .int (nI len), .long (lN t)]) (QwV (dC, dI) (wS cI cJ cZ qs tr (kpP rp tr rs t rk len) (kpN rn rs t rk len) (kpS rs t rk) (kpK rs t rk) us gl) (tyE cI cJ cZ) (va_A (wS cI cJ cZ qs tr rp rn rs rk us gl) sz)) 0 0 (va_A (wS cI cJ cZ qs tr rp rn rs rk us gl) sz) := by
  refine Met.ofW (cc := cS_keep) (maxL := 6) (ret := none) (by decide) rfl ?_
  intro p e s m args below meth c s₁ B hml hv
  obtain ⟨rfl, hsz, hP, hK, hD0, hE⟩ := hv
  have hx := B.exec
  have hb := B.bytes
  have hr := B.returns
  have hts := atoms_spec (ws := wsS_keep) B.pre
  have hg : ∀ w ∈ gw, w.before _ s = true := fun w h => hts w (List.mem_cons_of_mem _ h)
  have hown : s.vm.findClass nS = some m.cls := findClass_of_methodNamed B.named
  have hlocks := B.notSynchronized
  have hR : 1 ≤ (headSpec wsS_keep ({ frames := 1, cells := 0, slots := 0, locals := 200 })).room.frames ∧ 200 ≤ (headSpec wsS_keep ({ frames := 1, cells := 0, slots := 0, locals := 200 })).room.locals := ⟨Nat.le_refl _, Nat.le_refl _⟩
  have hcs : 0 ≤ (headSpec wsS_keep ({ frames := 1, cells := 0, slots := 0, locals := 200 })).room.cells ∧ 0 ≤ (headSpec wsS_keep ({ frames := 1, cells := 0, slots := 0, locals := 200 })).room.slots := ⟨Nat.zero_le _, Nat.zero_le _⟩
  subst hsz
  have hD := hD0.self (sz := s.heap.size)
  generalize hAe : va_A (wS cI cJ cZ qs tr rp rn rs rk us gl) s.heap.size = A at hD ⊢
  have hA : ∀ q : Nat, s.heap.size ≤ q → A q := fun q h => by rw [← hAe]; exact Or.inr h
  obtain ⟨H, hH⟩ : ∃ H, H = s.heap := ⟨_, rfl⟩
  have hS : va_S A s.heap H [] := by rw [hH]; exact va_S.rf
  rw [← hH] at hP ⊢
  have hrl := rkF_le rs t rk
  have hl := lv_entry ([.ref (qs 0), .int (nI len), .long (lN t)]) (n := 6) (Nat.le_of_ble_eq_true rfl)
  rw [lg_entry_eq]
  generalize (lg_sl ([.ref (qs 0), .int (nI len), .long (lN t)]) ++ List.replicate (6 - (lg_sl ([.ref (qs 0), .int (nI len), .long (lN t)])).length) Slot.unset).toArray = ls at hl ⊢
  have hl : lv_has ls 6 [(0, .ref (qs 0)), (1, .int (nI len)), (2, .long (lN t))] := hl
  refine lv_aload_n hx hb dS_keep_0 rfl (lv_at hl 0 rfl) ?_
  refine lv_lload_n hx hb dS_keep_1 rfl (lv_at hl 2 rfl) ?_
  refine cpV_i (b := (qs 0)) (C := nS) (As := [.long (lN t)]) (rest := []) (post := fun r : Int32 => r = nI (rkF rs t rk)) ⟨hx, hb, hml, hown, hts⟩ (ct_S_rankOf l dC dI cI cJ cZ qs tr rp rn rs rk us gl t (hrk) (hrs) (ht0)) (cwV 1 hts (gv kS_68 ki_S_rankOf ksel_S_rankOf kin_S kc_S_rankOf) rfl rfl rfl (by decide +kernel) ⟨Nat.le_trans (by decide) hR.1, Nat.le_trans (by decide) hR.2⟩) (va_recv hK hP (ci := 3) (q0 := 0) rfl rfl) hP hK hE rfl hl.1 rfl (Nat.le_of_ble_eq_true rfl) dS_keep_2 hcs (fun r hr => ?_)
  subst hr
  refine lv_istore (lv' := [(4, .int (nI (rkF rs t rk))), (0, .ref (qs 0)), (1, .int (nI len)), (2, .long (lN t))]) hx hb dS_keep_5 hl (by decide) rfl (fun ls hl => ?_)
  refine lv_iload hx hb dS_keep_7 (lv_at hl 0 rfl) ?_
  refine rn_iconst hx hb 5 dS_keep_9 (by decide) ?_
  refine rn_icmp_lt (tgt := 14) hx hb dS_keep_10 (by decide) (by omega) (by omega) (fun c10 => ?_) (fun c10 => ?_)
  · refine rn_iconst hx hb 4 dS_keep_14 (by decide) ?_
    refine lv_istore (lv' := [(5, .int (nI 4)), (4, .int (nI (rkF rs t rk))), (0, .ref (qs 0)), (1, .int (nI len)), (2, .long (lN t))]) hx hb dS_keep_15 hl (by decide) rfl (fun ls hl => ?_)
    refine lp_S_keep qs tr rp rn rs rk us gl len t hrk hrs htr hlen ht0 hx hb hml hown hts hK hE hA (by first | exact hR | exact ⟨Nat.le_trans (by decide) hR.1, Nat.le_trans (by decide) hR.2⟩) hcs (fun i v vn vp h1 h2 hv hvn hvp hx0 H locs hP hD hS ls hl => ?_) (4 + 1) 4 rs rn rp (by omega) (by omega) (sh_0 rs) (sh_0 rn) (shP_0 rp) (by omega) _ _ hP hD hS ls (lv_sub hl [2, 3, 4, 1, 0] rfl)
    subst hx0
    refine lv_aload_n hx hb dS_keep_84 rfl (lv_at hl 0 rfl) ?_
    refine va_get (D := (dC, dI)) (ci := 3) (v := .ref (qs 4)) (C := nS) (T := TS) (N := 7) hx hb hg inS hown hK hP 0 rfl rfl 3 (by decide) (hg _ kS_21) (fun _ h9 => h9) rfl dS_keep_85 ?_
    refine lv_iload hx hb dS_keep_88 (lv_at hl 3 rfl) ?_
    refine lv_lload_n hx hb dS_keep_90 rfl (lv_at hl 2 rfl) ?_
    refine sa_l (f := v) (v := t) hx hb hK hP hD hS 4 1 rfl rfl (by omega) (by decide) dS_keep_91 (fun H locs hP hD hS => ?_)
    have hP : va_P (dC, dI) vwCl (wS cI cJ cZ qs tr vp vn (va_up v (rkF rs t rk) t) rk us gl) H := hP
    have hD : va_D A (wS cI cJ cZ qs tr vp vn (va_up v (rkF rs t rk) t) rk us gl) := hD
    refine lv_aload_n hx hb dS_keep_92 rfl (lv_at hl 0 rfl) ?_
    refine va_get (D := (dC, dI)) (ci := 3) (v := .ref (qs 3)) (C := nS) (T := TS) (N := 7) hx hb hg inS hown hK hP 0 rfl rfl 2 (by decide) (hg _ kS_18) (fun _ h9 => h9) rfl dS_keep_93 ?_
    refine lv_iload hx hb dS_keep_96 (lv_at hl 3 rfl) ?_
    refine lv_iload_n hx hb dS_keep_98 rfl (lv_at hl 1 rfl) ?_
    refine sa_i (f := vn) (v := len) hx hb hK hP hD hS 3 0 rfl rfl (by omega) (by decide) dS_keep_99 (fun H locs hP hD hS => ?_)
    have hP : va_P (dC, dI) vwCl (wS cI cJ cZ qs tr vp (va_up vn (rkF rs t rk) len) (va_up v (rkF rs t rk) t) rk us gl) H := hP
    have hD : va_D A (wS cI cJ cZ qs tr vp (va_up vn (rkF rs t rk) len) (va_up v (rkF rs t rk) t) rk us gl) := hD
    refine lv_aload_n hx hb dS_keep_100 rfl (lv_at hl 0 rfl) ?_
    refine va_get (D := (dC, dI)) (ci := 3) (v := .ref (qs 1)) (C := nS) (T := TS) (N := 7) hx hb hg inS hown hK hP 0 rfl rfl 0 (by decide) (hg _ kS_9) (fun _ h9 => h9) rfl dS_keep_101 ?_
    refine rn_iconst hx hb 0 dS_keep_104 (by decide) ?_
    refine lv_aload_n hx hb dS_keep_105 rfl (lv_at hl 0 rfl) ?_
    refine va_get (D := (dC, dI)) (ci := 3) (v := .ref (qs 2)) (C := nS) (T := TS) (N := 7) hx hb hg inS hown hK hP 0 rfl rfl 1 (by decide) (hg _ kS_15) (fun _ h9 => h9) rfl dS_keep_106 ?_
    refine lv_iload hx hb dS_keep_109 (lv_at hl 3 rfl) ?_
    refine rn_iconst hx hb 5 dS_keep_111 (by decide) ?_
    refine rn_imul hx hb dS_keep_112 ?_
    refine lv_iload_n hx hb dS_keep_113 rfl (lv_at hl 1 rfl) ?_
    refine rn_acopy (f := tr) (g := vp) hx hb (hml.trans hl.1.symm) hown (hg _ kS_79) (hg _ kn_acopy) (hg _ ks_acopy) (hg _ kin_System) hK hP hD hS 1 2 0 0 rfl rfl rfl rfl (by decide) (by decide) (by omega) (by omega) (Nat.le_trans (by decide) hR.1) (Nat.le_trans (by decide) hR.2) dS_keep_114 (fun H locs hP hD hS => ?_)
    have hP : va_P (dC, dI) vwCl (wS cI cJ cZ qs tr (va_cpy tr vp 0 ((rkF rs t rk) * 5) len) (va_up vn (rkF rs t rk) len) (va_up v (rkF rs t rk) t) rk us gl) H := hP
    have hD : va_D A (wS cI cJ cZ qs tr (va_cpy tr vp 0 ((rkF rs t rk) * 5) len) (va_up vn (rkF rs t rk) len) (va_up v (rkF rs t rk) t) rk us gl) := hD
    refine lv_aload_n hx hb dS_keep_117 rfl (lv_at hl 0 rfl) ?_
    refine lv_aload_n hx hb dS_keep_118 rfl (lv_at hl 0 rfl) ?_
    refine va_get (D := (dC, dI)) (ci := 3) (v := .int (nI rk)) (C := nS) (T := TS) (N := 7) hx hb hg inS hown hK hP 0 rfl rfl 4 (by decide) (hg _ kS_33) (fun _ h9 => h9) rfl dS_keep_119 ?_
    refine rn_iconst hx hb 1 dS_keep_122 (by decide) ?_
    refine rn_iadd hx hb dS_keep_123 ?_
    refine rn_iconst hx hb 5 dS_keep_124 (by decide) ?_
    refine cpS_i (As := [.int (nI (rk + 1)), .int (nI 5)]) (rest := [.ref (qs 0)]) (post := fun r : Int32 => r = nI (min (rk + 1) 5)) ⟨hx, hb, hml, hown, hts⟩ (ct_JM_min_I l dC dI cI cJ cZ (rk + 1) 5 (by omega) (by omega)) (va_cwS 2 hts (gs kS_85 ks_JM_min_I kin_JM kc_JM_min_I) rfl rfl rfl (by decide +kernel) ⟨Nat.le_trans (by decide) hR.1, Nat.le_trans (by decide) hR.2⟩) (hP.sub (ws' := []) [] rfl) hK hE rfl hl.1 rfl (Nat.le_of_ble_eq_true rfl) dS_keep_125 hcs (fun r hr => ?_)
    subst hr
    refine va_put (D := (dC, dI)) (ci := 3) (v := .int (nI (min (rk + 1) 5))) (ty := .int) (C := nS) (T := TS) (N := 7) hx hb hg inS tS tS_ok nmS hown hK hP hD hS 0 rfl rfl 4 (by decide) (hg _ kS_33) (fun _ h9 => h9) rfl (by decide +kernel) rfl rfl (Nat.le_of_ble_eq_true rfl) dS_keep_128 (fun H locs hP hD hS => ?_)
    have hP : va_P (dC, dI) vwCl (wS cI cJ cZ qs tr (va_cpy tr vp 0 ((rkF rs t rk) * 5) len) (va_up vn (rkF rs t rk) len) (va_up v (rkF rs t rk) t) (min (rk + 1) 5) us gl) H := hP
    have hD : va_D A (wS cI cJ cZ qs tr (va_cpy tr vp 0 ((rkF rs t rk) * 5) len) (va_up vn (rkF rs t rk) len) (va_up v (rkF rs t rk) t) (min (rk + 1) 5) us gl) := hD
    have hP9 : va_P (dC, dI) vwCl (wS cI cJ cZ qs tr (kpP rp tr rs t rk len) (kpN rn rs t rk len) (kpS rs t rk) (kpK rs t rk) us gl) H := by rw [show kpS rs t rk = va_up (shF rs (rkF rs t rk)) (rkF rs t rk) t from if_pos (by omega), show kpN rn rs t rk len = va_up (shF rn (rkF rs t rk)) (rkF rs t rk) len from if_pos (by omega), show kpP rp tr rs t rk len = va_cpy tr (shP rp (rkF rs t rk)) 0 (rkF rs t rk * 5) len from if_pos (by omega), show kpK rs t rk = min (rk + 1) 5 from if_pos (by omega), ← hv, ← hvn, ← hvp]; exact hP
    have hD9 : va_D A (wS cI cJ cZ qs tr (kpP rp tr rs t rk len) (kpN rn rs t rk len) (kpS rs t rk) (kpK rs t rk) us gl) := by rw [show kpS rs t rk = va_up (shF rs (rkF rs t rk)) (rkF rs t rk) t from if_pos (by omega), show kpN rn rs t rk len = va_up (shF rn (rkF rs t rk)) (rkF rs t rk) len from if_pos (by omega), show kpP rp tr rs t rk len = va_cpy tr (shP rp (rkF rs t rk)) 0 (rkF rs t rk * 5) len from if_pos (by omega), show kpK rs t rk = min (rk + 1) 5 from if_pos (by omega), ← hv, ← hvn, ← hvp]; exact hD
    exact W.vret hx hb hr (fun t ht hW => ⟨⟨(), rfl, trivial, by rw [ht]; exact hP9, va_K.moved hW.alike hK, hD9⟩, hS.F ht⟩) hS.2.2 dS_keep_131
  · have hP9 : va_P (dC, dI) vwCl (wS cI cJ cZ qs tr (kpP rp tr rs t rk len) (kpN rn rs t rk len) (kpS rs t rk) (kpK rs t rk) us gl) H := by rw [show kpS rs t rk = rs from if_neg (by omega), show kpN rn rs t rk len = rn from if_neg (by omega), show kpP rp tr rs t rk len = rp from if_neg (by omega), show kpK rs t rk = rk from if_neg (by omega)]; exact hP
    have hD9 : va_D A (wS cI cJ cZ qs tr (kpP rp tr rs t rk len) (kpN rn rs t rk len) (kpS rs t rk) (kpK rs t rk) us gl) := by rw [show kpS rs t rk = rs from if_neg (by omega), show kpN rn rs t rk len = rn from if_neg (by omega), show kpP rp tr rs t rk len = rp from if_neg (by omega), show kpK rs t rk = rk from if_neg (by omega)]; exact hD
    exact W.vret hx hb hr (fun t ht hW => ⟨⟨(), rfl, trivial, by rw [ht]; exact hP9, va_K.moved hW.alike hK, hD9⟩, hS.F ht⟩) hS.2.2 dS_keep_13

def wwF (rp : Nat → Nat) (n0 : Nat) (nu : Nat → Nat) (rl : Nat) : Nat → (Nat → Nat) × Nat
  | 0 => (nu, rl)
  | k + 1 => (apF (wwF rp n0 nu rl k).1 (wwF rp n0 nu rl k).2 (rp (n0 * 5 + k)), apN (wwF rp n0 nu rl k).2)
theorem wwF_le {rp : Nat → Nat} {n0 : Nat} {nu : Nat → Nat} {rl : Nat} (h : rl ≤ 40) : ∀ k, (wwF rp n0 nu rl k).2 ≤ 40 := by
  intro k
  induction k with
  | zero => exact h
  | succ k ih => exact (apN_le ih).1

theorem ww_s {rp : Nat → Nat} {n0 i rv : Nat} {nu v : Nat → Nat} {rl : Nat} (h : (v, rv) = wwF rp n0 nu rl i) : (apF v rv (rp (n0 * 5 + i)), apN rv) = wwF rp n0 nu rl (i + 1) := by
  show _ = (apF (wwF rp n0 nu rl i).1 (wwF rp n0 nu rl i).2 (rp (n0 * 5 + i)), apN (wwF rp n0 nu rl i).2)
  rw [← h]
set_option maxHeartbeats 4000000 in
set_option maxRecDepth 100000 in
theorem lp_S_write {p : Program} {l : Launch} {e : Env} {R : Room} {s : State} {m : MethodId} {args : Array Value} {below : List Frame} {meth : Method} {c : Code} {cells slots : Nat} {Q : State → Prop} {dC : Nat → ClassId} {dI : Nat → Nat → Nat} {cI cJ cZ : ClassId} {A : Nat → Prop} (qs : Nat → Nat) (tr rp rn rs : Nat → Nat) (rk us gl : Nat) (qr : Nat → Nat) (nu : Nat → Nat) (rl : Nat) (n0 : Nat) (hrl : rl ≤ 40) (hn0 : n0 < 5) (hrn : rn n0 ≤ 5) (hx : p.tables.exec = Jvm.exec) (hb : c.code = cS_writeWay) (hml : c.maxLocals = 4) (hown : s.vm.findClass nS = some m.cls) (hts : ∀ w ∈ wsS_writeWay, w.before args s = true) (hK : va_K (dC, dI) vwCl (tyE cI cJ cZ) s) (hE : EV s) (hA : ∀ q : Nat, s.heap.size ≤ q → A q) (hR : 1 ≤ R.frames ∧ 21 ≤ R.locals) (hcs : cells ≤ R.cells ∧ slots ≤ R.slots)
    (kx0 : ∀ (i : Nat) (v : Nat → Nat) (rv : Nat) (h1 : i ≤ rn n0) (hw : (v, rv) = wwF rp n0 nu rl i) (hrv : rv ≤ 40) (hx0 : rn n0 ≤ i) (H : Heap) (locs : List Loc), va_P (dC, dI) vwCl (wS cI cJ cZ qs tr rp rn rs rk us gl ++ wR cI cJ cZ qr v rv) H → va_D A (wS cI cJ cZ qs tr rp rn rs rk us gl ++ wR cI cJ cZ qr v rv) → va_S A s.heap H locs → ∀ ls : Array Slot, lv_has ls 4 [(0, .ref (qs 0)), (1, .int (nI n0)), (2, .ref (qr 0)), (3, .int (nI i))] →  W p l e R s m args below meth c H locs cells slots Q (F0 m 32 ls []))
    : ∀ (fu : Nat) (i : Nat) (v : Nat → Nat) (rv : Nat) (h1 : i ≤ rn n0) (hw : (v, rv) = wwF rp n0 nu rl i) (hrv : rv ≤ 40), rn n0 - i < fu → ∀ (H : Heap) (locs : List Loc), va_P (dC, dI) vwCl (wS cI cJ cZ qs tr rp rn rs rk us gl ++ wR cI cJ cZ qr v rv) H → va_D A (wS cI cJ cZ qs tr rp rn rs rk us gl ++ wR cI cJ cZ qr v rv) → va_S A s.heap H locs → ∀ ls : Array Slot, lv_has ls 4 [(0, .ref (qs 0)), (1, .int (nI n0)), (2, .ref (qr 0)), (3, .int (nI i))] →  W p l e R s m args below meth c H locs cells slots Q (F0 m 2 ls []) := by
  have hg : ∀ w ∈ gw, w.before args s = true := fun w h => hts w (List.mem_cons_of_mem _ h)
  intro fu
  induction fu with
  | zero => intro i v rv h1 hw hrv h0; exact absurd h0 (Nat.not_lt_zero _)
  | succ fu ih =>
    intro i v rv h1 hw hrv hfu H locs hP hD hS ls hl
    refine lv_iload_n hx hb dS_writeWay_2 rfl (lv_at hl 3 rfl) ?_
    refine lv_aload_n hx hb dS_writeWay_3 rfl (lv_at hl 0 rfl) ?_
    refine va_get (D := (dC, dI)) (ci := 3) (v := .ref (qs 3)) (C := nS) (T := TS) (N := 7) hx hb hg inS hown hK hP 0 rfl rfl 2 (by decide) (hg _ kS_18) (fun _ h9 => h9) rfl dS_writeWay_4 ?_
    refine lv_iload_n hx hb dS_writeWay_7 rfl (lv_at hl 1 rfl) ?_
    refine ga_i (f := rn) hx hb hK hP 3 0 rfl rfl (by omega) (by decide) dS_writeWay_8 ?_
    refine rn_icmp_ge (tgt := 32) hx hb dS_writeWay_9 (by decide) (by omega) (by omega) (fun c9 => ?_) (fun c9 => ?_)
    · exact kx0 i v rv h1 hw hrv (by omega) H locs hP hD hS ls (lv_sub hl [0, 1, 2, 3] rfl)
    · refine lv_aload_n hx hb dS_writeWay_12 rfl (lv_at hl 2 rfl) ?_
      refine lv_aload_n hx hb dS_writeWay_13 rfl (lv_at hl 0 rfl) ?_
      refine va_get (D := (dC, dI)) (ci := 3) (v := .ref (qs 2)) (C := nS) (T := TS) (N := 7) hx hb hg inS hown hK hP 0 rfl rfl 1 (by decide) (hg _ kS_15) (fun _ h9 => h9) rfl dS_writeWay_14 ?_
      refine lv_iload_n hx hb dS_writeWay_17 rfl (lv_at hl 1 rfl) ?_
      refine rn_iconst hx hb 5 dS_writeWay_18 (by decide) ?_
      refine rn_imul hx hb dS_writeWay_19 ?_
      refine lv_iload_n hx hb dS_writeWay_20 rfl (lv_at hl 3 rfl) ?_
      refine rn_iadd hx hb dS_writeWay_21 ?_
      refine ga_i (f := rp) hx hb hK hP 2 0 rfl rfl (by omega) (by decide) dS_writeWay_22 ?_
      refine kwV_v (D := (dC, dI)) (b := (qr 0)) (C := nR) (As := [.int (nI (rp ((n0 * 5) + i)))]) (rest := []) (wc := (wR cI cJ cZ qr v rv)) (wr := (wS cI cJ cZ qs tr rp rn rs rk us gl)) (w1 := (wR cI cJ cZ qr (apF v rv (rp ((n0 * 5) + i))) (apN rv))) (wn := (wS cI cJ cZ qs tr rp rn rs rk us gl ++ wR cI cJ cZ qr (apF v rv (rp ((n0 * 5) + i))) (apN rv))) ⟨hx, hb, hml, hown, hts⟩ (ct_R_append l dC dI cI cJ cZ qr v rv (rp ((n0 * 5) + i)) H.size (hrv)) (cwV 1 hts (gv kS_91 ki_R_append ksel_R_append kin_R kc_R_append) rfl rfl rfl (by decide +kernel) ⟨Nat.le_trans (by decide) hR.1, Nat.le_trans (by decide) hR.2⟩) (va_recv hK hP (ci := 4) (q0 := 5) rfl rfl) hP hD hK hE hS hA [5, 6] [0, 1, 2, 3, 4] [0, 1, 2, 3, 4, 5, 6] rfl (by decide) rfl (by decide) (by decide) rfl (by decide) rfl hl.1 rfl (Nat.le_of_ble_eq_true rfl) dS_writeWay_23 hcs (fun H locs hP hD hS => ?_)
      refine rn_iinc (lv' := [(3, .int (nI (i + 1))), (0, .ref (qs 0)), (1, .int (nI n0)), (2, .ref (qr 0))]) hx hb dS_writeWay_26 hl (k := 3) rfl (by decide) rfl (fun ls hl => ?_)
      refine lv_goto (tgt := 2) hx hb dS_writeWay_29 (by decide) ?_
      exact ih (i + 1) (apF v rv (rp ((n0 * 5) + i))) (apN rv) (by omega) (ww_s hw) ((apN_le hrv).1) (by omega) H locs hP hD hS ls (lv_sub hl [1, 2, 3, 0] rfl)

set_option maxHeartbeats 4000000 in
set_option maxRecDepth 100000 in
theorem ct_S_writeWay (l : Launch) (dC : Nat → ClassId) (dI : Nat → Nat → Nat) (cI cJ cZ : ClassId) (qs : Nat → Nat) (tr rp rn rs : Nat → Nat) (rk us gl : Nat) (qr : Nat → Nat) (nu : Nat → Nat) (rl : Nat) (n0 : Nat) (sz : Nat) (hrl : rl ≤ 40) (hn0 : n0 < 5) (hrn : rn n0 ≤ 5) : Met l yS_writeWay wsS_writeWay ({ frames := 1, cells := 0, slots := 0, locals := 21 }) (PcW (dC, dI) (wS cI cJ cZ qs tr rp rn rs rk us gl ++ wR cI cJ cZ qr nu rl) (tyE cI cJ cZ) sz [.ref (qs 0), .int (nI n0), .ref (qr 0)]) (QwV (dC, dI) (wS cI cJ cZ qs tr rp rn rs rk us gl ++ wR cI cJ cZ qr ((wwF rp n0 nu rl (rn n0)).1) ((wwF rp n0 nu rl (rn n0)).2)) (tyE cI cJ cZ) (va_A (wS cI cJ cZ qs tr rp rn rs rk us gl ++ wR cI cJ cZ qr nu rl) sz)) 0 0 (va_A (wS cI cJ cZ qs tr rp rn rs rk us gl ++ wR cI cJ cZ qr nu rl) sz) := by
  refine Met.ofW (cc := cS_writeWay) (maxL := 4) (ret := none) (by decide) rfl ?_
  intro p e s m args below meth c s₁ B hml hv
  obtain ⟨rfl, hsz, hP, hK, hD0, hE⟩ := hv
  have hx := B.exec
  have hb := B.bytes
  have hr := B.returns
  have hts := atoms_spec (ws := wsS_writeWay) B.pre
  have hg : ∀ w ∈ gw, w.before _ s = true := fun w h => hts w (List.mem_cons_of_mem _ h)
  have hown : s.vm.findClass nS = some m.cls := findClass_of_methodNamed B.named
  have hlocks := B.notSynchronized
  have hR : 1 ≤ (headSpec wsS_writeWay ({ frames := 1, cells := 0, slots := 0, locals := 21 })).room.frames ∧ 21 ≤ (headSpec wsS_writeWay ({ frames := 1, cells := 0, slots := 0, locals := 21 })).room.locals := ⟨Nat.le_refl _, Nat.le_refl _⟩
  have hcs : 0 ≤ (headSpec wsS_writeWay ({ frames := 1, cells := 0, slots := 0, locals := 21 })).room.cells ∧ 0 ≤ (headSpec wsS_writeWay ({ frames := 1, cells := 0, slots := 0, locals := 21 })).room.slots := ⟨Nat.zero_le _, Nat.zero_le _⟩
  subst hsz
  have hD := hD0.self (sz := s.heap.size)
  generalize hAe : va_A (wS cI cJ cZ qs tr rp rn rs rk us gl ++ wR cI cJ cZ qr nu rl) s.heap.size = A at hD ⊢
  have hA : ∀ q : Nat, s.heap.size ≤ q → A q := fun q h => by rw [← hAe]; exact Or.inr h
  obtain ⟨H, hH⟩ : ∃ H, H = s.heap := ⟨_, rfl⟩
  have hS : va_S A s.heap H [] := by rw [hH]; exact va_S.rf
  rw [← hH] at hP ⊢
  have hl := lv_entry ([.ref (qs 0), .int (nI n0), .ref (qr 0)]) (n := 4) (Nat.le_of_ble_eq_true rfl)
  rw [lg_entry_eq]
  generalize (lg_sl ([.ref (qs 0), .int (nI n0), .ref (qr 0)]) ++ List.replicate (4 - (lg_sl ([.ref (qs 0), .int (nI n0), .ref (qr 0)])).length) Slot.unset).toArray = ls at hl ⊢
  have hl : lv_has ls 4 [(0, .ref (qs 0)), (1, .int (nI n0)), (2, .ref (qr 0))] := hl
  refine rn_iconst hx hb 0 dS_writeWay_0 (by decide) ?_
  refine lv_istore_n (lv' := [(3, .int (nI 0)), (0, .ref (qs 0)), (1, .int (nI n0)), (2, .ref (qr 0))]) hx hb dS_writeWay_1 rfl hl (by decide) rfl (fun ls hl => ?_)
  refine lp_S_write qs tr rp rn rs rk us gl qr nu rl n0 hrl hn0 hrn hx hb hml hown hts hK hE hA (by first | exact hR | exact ⟨Nat.le_trans (by decide) hR.1, Nat.le_trans (by decide) hR.2⟩) hcs (fun i v rv h1 hw hrv hx0 H locs hP hD hS ls hl => ?_) ((rn n0 - 0) + 1) 0 nu rl (by omega) (rfl) (hrl) (by omega) _ _ hP hD hS ls (lv_sub hl [1, 2, 3, 0] rfl)
  have hP9 : va_P (dC, dI) vwCl (wS cI cJ cZ qs tr rp rn rs rk us gl ++ wR cI cJ cZ qr ((wwF rp n0 nu rl (rn n0)).1) ((wwF rp n0 nu rl (rn n0)).2)) H := by rw [show rn n0 = i from by omega, ← hw]; exact hP
  have hD9 : va_D A (wS cI cJ cZ qs tr rp rn rs rk us gl ++ wR cI cJ cZ qr ((wwF rp n0 nu rl (rn n0)).1) ((wwF rp n0 nu rl (rn n0)).2)) := by rw [show rn n0 = i from by omega, ← hw]; exact hD
  exact W.vret hx hb hr (fun t ht hW => ⟨⟨(), rfl, trivial, by rw [ht]; exact hP9, va_K.moved hW.alike hK, hD9⟩, hS.F ht⟩) hS.2.2 dS_writeWay_32
end
section
/-! ===== the search for short ways, over numbers ===== -/
abbrev XS : Type := (Nat → Nat) × (Nat → Nat) × (Nat → Nat) × (Nat → Nat) × Nat
def exS (f : Nat → Nat → Nat → XS → XS) (bg en sc oh bt : Nat → Nat) (us gl len pl mo vi : Nat) (x : XS) (i : Nat) : XS :=
  if cbB us bg bt x.1 i pl len = true ∧ vi.testBit (en i) = false then
    (if en i = gl then (va_up x.1 len i, kpP x.2.1 (va_up x.1 len i) x.2.2.2.1 (ew (oh i) (sc i) mo) x.2.2.2.2 (len + 1), kpN x.2.2.1 x.2.2.2.1 (ew (oh i) (sc i) mo) x.2.2.2.2 (len + 1), kpS x.2.2.2.1 (ew (oh i) (sc i) mo) x.2.2.2.2, kpK x.2.2.2.1 (ew (oh i) (sc i) mo) x.2.2.2.2)
     else if rkF x.2.2.2.1 (ew (oh i) (sc i) mo) x.2.2.2.2 < 5 then f (en i) (ew (oh i) (sc i) mo) (sB vi (en i) true) (va_up x.1 len i, x.2)
     else (va_up x.1 len i, x.2))
  else x
def exI (g : XS → Nat → XS) (x : XS) : Nat → XS
  | 0 => x
  | k + 1 => g (exI g x k) k
def exF (bg en sc oh bt : Nat → Nat) (us gl n : Nat) : Nat → Nat → Nat → Nat → XS → XS
  | 0, _, _, _, x => x
  | d + 1, pl, mo, vi, x => exI (exS (exF bg en sc oh bt us gl n d) bg en sc oh bt us gl (5 - (d + 1)) pl mo vi) x n
def okX (x : XS) : Prop := (∀ j, x.1 j < 40) ∧ (∀ j, x.2.2.1 j ≤ 5) ∧ (∀ j, x.2.2.2.1 j ≤ 1152921504806846976) ∧ x.2.2.2.2 ≤ 5
theorem up_all {f : Nat → Nat} {p : Nat → Prop} {k v : Nat} (h : ∀ j, p (f j)) (hv : p v) : ∀ j, p (va_up f k v j) := by
  intro j
  unfold va_up
  split
  · exact hv
  · exact h j
theorem sh_all {f : Nat → Nat} {p : Nat → Prop} {k : Nat} (h : ∀ j, p (f j)) : ∀ j, p (shF f k j) := by
  intro j
  unfold shF
  split
  · exact h _
  · exact h j
theorem kpS_all {rs : Nat → Nat} {p : Nat → Prop} {t rk : Nat} (h : ∀ j, p (rs j)) (ht : p t) : ∀ j, p (kpS rs t rk j) := by
  unfold kpS
  split
  · exact up_all (sh_all h) ht
  · exact h
theorem kpN_all {rn rs : Nat → Nat} {p : Nat → Prop} {t rk len : Nat} (h : ∀ j, p (rn j)) (ht : p len) : ∀ j, p (kpN rn rs t rk len j) := by
  unfold kpN
  split
  · exact up_all (sh_all h) ht
  · exact h
theorem kpK_le {rs : Nat → Nat} {t rk : Nat} (h : rk ≤ 5) : kpK rs t rk ≤ 5 := by
  unfold kpK
  split <;> omega
theorem exI_ok {g : XS → Nat → XS} {n : Nat} (hg : ∀ x i, i < n → okX x → okX (g x i)) {x : XS} (hx : okX x) : ∀ k, k ≤ n → okX (exI g x k) := by
  intro k
  induction k with
  | zero => intro _; exact hx
  | succ k ih => intro h; exact hg _ k (by omega) (ih (by omega))
theorem ew_mo {oh sec m d : Nat} (hs : sec ≤ 10000000) (hd : d < 5) (hm : m + (d + 1) * 20000000 ≤ 1152921504706846976) : ew oh sec m + d * 20000000 ≤ 1152921504706846976 ∧ ew oh sec m ≤ 1152921504806846976 := by
  have h := ew_b oh sec m
  have hNV : NVc = 1152921504606846976 := rfl
  constructor <;> omega
theorem exF_ok {bg en sc wd ht oh bt : Nat → Nat} {co us gl n : Nat} (hB : bP bg en sc wd ht oh bt co n) : ∀ d pl mo vi x, d ≤ 5 → mo + d * 20000000 ≤ 1152921504706846976 → okX x → okX (exF bg en sc oh bt us gl n d pl mo vi x) := by
  intro d
  induction d with
  | zero => intro pl mo vi x _ _ h; exact h
  | succ d ih =>
    intro pl mo vi x hd hm hx
    refine exI_ok (n := n) (fun y i hi hy => ?_) hx n (Nat.le_refl _)
    have hn := hB.1
    have hbi := hB.2.2 i
    obtain ⟨e1, e2⟩ := ew_mo (oh := oh i) (sec := sc i) (m := mo) (d := d) (by omega) (by omega) hm
    obtain ⟨y1, y2, y3, y4⟩ := hy
    have t1 : ∀ j, va_up y.1 (5 - (d + 1)) i j < 40 := up_all (p := fun v => v < 40) y1 (by omega)
    unfold exS
    split
    · split
      · exact ⟨t1, kpN_all (p := fun v => v ≤ 5) y2 (by omega), kpS_all (p := fun v => v ≤ 1152921504806846976) y3 e2, kpK_le y4⟩
      · split
        · exact ih _ _ _ _ (by omega) e1 ⟨t1, y2, y3, y4⟩
        · exact ⟨t1, y2, y3, y4⟩
    · exact ⟨y1, y2, y3, y4⟩

section EX
variable {f : Nat → Nat → Nat → XS → XS} {bg en sc oh bt : Nat → Nat} {us gl len pl mo vi i k1 : Nat} {x0 : XS} {t1 p1 n1 s1 : Nat → Nat}
theorem ex_1 (h : (t1, p1, n1, s1, k1) = exI (exS f bg en sc oh bt us gl len pl mo vi) x0 i) (c : cbB us bg bt t1 i pl len = false) : (t1, p1, n1, s1, k1) = exI (exS f bg en sc oh bt us gl len pl mo vi) x0 (i + 1) := by
  show _ = exS f bg en sc oh bt us gl len pl mo vi (exI _ x0 i) i
  rw [← h]; simp [exS, c]
theorem ex_2 (h : (t1, p1, n1, s1, k1) = exI (exS f bg en sc oh bt us gl len pl mo vi) x0 i) (c : vi.testBit (en i) = true) : (t1, p1, n1, s1, k1) = exI (exS f bg en sc oh bt us gl len pl mo vi) x0 (i + 1) := by
  show _ = exS f bg en sc oh bt us gl len pl mo vi (exI _ x0 i) i
  rw [← h]; simp [exS, c]
theorem ex_3 (h : (t1, p1, n1, s1, k1) = exI (exS f bg en sc oh bt us gl len pl mo vi) x0 i) (c : cbB us bg bt t1 i pl len = true) (d : vi.testBit (en i) = false) (g : en i = gl) : (va_up t1 len i, kpP p1 (va_up t1 len i) s1 (ew (oh i) (sc i) mo) k1 (len + 1), kpN n1 s1 (ew (oh i) (sc i) mo) k1 (len + 1), kpS s1 (ew (oh i) (sc i) mo) k1, kpK s1 (ew (oh i) (sc i) mo) k1) = exI (exS f bg en sc oh bt us gl len pl mo vi) x0 (i + 1) := by
  show _ = exS f bg en sc oh bt us gl len pl mo vi (exI _ x0 i) i
  rw [← h]; unfold exS; rw [if_pos ⟨c, d⟩, if_pos g]
theorem ex_4 (h : (t1, p1, n1, s1, k1) = exI (exS f bg en sc oh bt us gl len pl mo vi) x0 i) (c : cbB us bg bt t1 i pl len = true) (d : vi.testBit (en i) = false) (g : ¬ en i = gl) (r : 5 ≤ rkF s1 (ew (oh i) (sc i) mo) k1) : (va_up t1 len i, p1, n1, s1, k1) = exI (exS f bg en sc oh bt us gl len pl mo vi) x0 (i + 1) := by
  show _ = exS f bg en sc oh bt us gl len pl mo vi (exI _ x0 i) i
  rw [← h]; unfold exS; rw [if_pos ⟨c, d⟩, if_neg g, if_neg (Nat.not_lt.mpr r)]
theorem ex_5 (h : (t1, p1, n1, s1, k1) = exI (exS f bg en sc oh bt us gl len pl mo vi) x0 i) (c : cbB us bg bt t1 i pl len = true) (d : vi.testBit (en i) = false) (g : ¬ en i = gl) (r : ¬ 5 ≤ rkF s1 (ew (oh i) (sc i) mo) k1) {y : XS} (hy : y = f (en i) (ew (oh i) (sc i) mo) (sB vi (en i) true) (va_up t1 len i, p1, n1, s1, k1)) : (y.1, y.2.1, y.2.2.1, y.2.2.2.1, y.2.2.2.2) = exI (exS f bg en sc oh bt us gl len pl mo vi) x0 (i + 1) := by
  show _ = exS f bg en sc oh bt us gl len pl mo vi (exI _ x0 i) i
  rw [← h]; unfold exS; rw [if_pos ⟨c, d⟩, if_neg g, if_pos (Nat.not_le.mp r), hy]
end EX

set_option maxHeartbeats 4000000 in
set_option maxRecDepth 100000 in
theorem lp_S_extend {p : Program} {l : Launch} {e : Env} {R : Room} {s : State} {m : MethodId} {args : Array Value} {below : List Frame} {meth : Method} {c : Code} {cells slots : Nat} {Q : State → Prop} {dC : Nat → ClassId} {dI : Nat → Nat → Nat} {cI cJ cZ : ClassId} {A : Nat → Prop} (d : Nat) (qs : Nat → Nat) (tr rp rn rs : Nat → Nat) (rk us gl : Nat) (q : Nat → Nat) (bg en sc wd ht oh bt : Nat → Nat) (co n : Nat) (pl len mo vi : Nat) (hrk : rk ≤ 5) (hrs : ∀ j, rs j ≤ 1152921504806846976) (htr : ∀ j, tr j < 40) (hrn : ∀ j, rn j ≤ 5) (hB : bP bg en sc wd ht oh bt co n) (hpl : pl < 20) (hgl : gl < 20) (hld : len + d = 5) (hmo : mo + d * 20000000 ≤ 1152921504706846976) (hvi : vi < 1099511627776) (hus : us < 1099511627776) (hRd : 4 + d ≤ R.frames ∧ 400 + 31 * d ≤ R.locals) (ih : ∀ d9, d9 < d → ∀ (qs : Nat → Nat) (tr rp rn rs : Nat → Nat) (rk us gl : Nat) (q : Nat → Nat) (bg en sc wd ht oh bt : Nat → Nat) (co n : Nat) (pl len mo vi : Nat) (sz : Nat) (hrk : rk ≤ 5) (hrs : ∀ j, rs j ≤ 1152921504806846976) (htr : ∀ j, tr j < 40) (hrn : ∀ j, rn j ≤ 5) (hB : bP bg en sc wd ht oh bt co n) (hpl : pl < 20) (hgl : gl < 20) (hld : len + d9 = 5) (hmo : mo + d9 * 20000000 ≤ 1152921504706846976) (hvi : vi < 1099511627776) (hus : us < 1099511627776), Met l yS_extend wsS_extend ({ frames := 4 + d9, cells := 0, slots := 0, locals := 400 + 31 * d9 }) (PcW (dC, dI) (wS cI cJ cZ qs tr rp rn rs rk us gl ++ wP cI cJ cZ q bg en sc wd ht oh bt co n) (tyE cI cJ cZ) sz [.ref (qs 0), .ref (q 0), .int (nI pl), .int (nI len), .long (lN mo), .long (lN vi)]) (QwV (dC, dI) (wS cI cJ cZ qs ((exF bg en sc oh bt us gl n d9 pl mo vi (tr, rp, rn, rs, rk)).1) ((exF bg en sc oh bt us gl n d9 pl mo vi (tr, rp, rn, rs, rk)).2.1) ((exF bg en sc oh bt us gl n d9 pl mo vi (tr, rp, rn, rs, rk)).2.2.1) ((exF bg en sc oh bt us gl n d9 pl mo vi (tr, rp, rn, rs, rk)).2.2.2.1) ((exF bg en sc oh bt us gl n d9 pl mo vi (tr, rp, rn, rs, rk)).2.2.2.2) us gl ++ wP cI cJ cZ q bg en sc wd ht oh bt co n) (tyE cI cJ cZ) (va_A (wS cI cJ cZ qs tr rp rn rs rk us gl ++ wP cI cJ cZ q bg en sc wd ht oh bt co n) sz)) 0 0 (va_A (wS cI cJ cZ qs tr rp rn rs rk us gl ++ wP cI cJ cZ q bg en sc wd ht oh bt co n) sz)) (hx : p.tables.exec = Jvm.exec) (hb : c.code = cS_extend) (hml : c.maxLocals = 12) (hown : s.vm.findClass nS = some m.cls) (hts : ∀ w ∈ wsS_extend, w.before args s = true) (hK : va_K (dC, dI) vwCl (tyE cI cJ cZ) s) (hE : EV s) (hA : ∀ q : Nat, s.heap.size ≤ q → A q) (hR : 4 ≤ R.frames ∧ 400 ≤ R.locals) (hcs : cells ≤ R.cells ∧ slots ≤ R.slots)
    (kx0 : ∀ (i : Nat) (t1 : Nat → Nat) (p1 : Nat → Nat) (n1 : Nat → Nat) (s1 : Nat → Nat) (k1 : Nat) (hi : i ≤ n) (hl5 : len < 5) (hst : (t1, p1, n1, s1, k1) = exI (exS (exF bg en sc oh bt us gl n (d - 1)) bg en sc oh bt us gl len pl mo vi) (tr, rp, rn, rs, rk) i) (hok : okX (t1, p1, n1, s1, k1)) (hx0 : n ≤ i) (H : Heap) (locs : List Loc), va_P (dC, dI) vwCl (wS cI cJ cZ qs t1 p1 n1 s1 k1 us gl ++ wP cI cJ cZ q bg en sc wd ht oh bt co n) H → va_D A (wS cI cJ cZ qs t1 p1 n1 s1 k1 us gl ++ wP cI cJ cZ q bg en sc wd ht oh bt co n) → va_S A s.heap H locs → ∀ ls : Array Slot, lv_has ls 12 [(0, .ref (qs 0)), (1, .ref (q 0)), (2, .int (nI pl)), (3, .int (nI len)), (4, .long (lN mo)), (6, .long (lN vi)), (8, .int (nI i))] →  W p l e R s m args below meth c H locs cells slots Q (F0 m 127 ls []))
    : ∀ (fu : Nat) (i : Nat) (t1 : Nat → Nat) (p1 : Nat → Nat) (n1 : Nat → Nat) (s1 : Nat → Nat) (k1 : Nat) (hi : i ≤ n) (hl5 : len < 5) (hst : (t1, p1, n1, s1, k1) = exI (exS (exF bg en sc oh bt us gl n (d - 1)) bg en sc oh bt us gl len pl mo vi) (tr, rp, rn, rs, rk) i) (hok : okX (t1, p1, n1, s1, k1)), n - i < fu → ∀ (H : Heap) (locs : List Loc), va_P (dC, dI) vwCl (wS cI cJ cZ qs t1 p1 n1 s1 k1 us gl ++ wP cI cJ cZ q bg en sc wd ht oh bt co n) H → va_D A (wS cI cJ cZ qs t1 p1 n1 s1 k1 us gl ++ wP cI cJ cZ q bg en sc wd ht oh bt co n) → va_S A s.heap H locs → ∀ ls : Array Slot, lv_has ls 12 [(0, .ref (qs 0)), (1, .ref (q 0)), (2, .int (nI pl)), (3, .int (nI len)), (4, .long (lN mo)), (6, .long (lN vi)), (8, .int (nI i))] →  W p l e R s m args below meth c H locs cells slots Q (F0 m 9 ls []) := by
  have hg : ∀ w ∈ gw, w.before args s = true := fun w h => hts w (List.mem_cons_of_mem _ h)
  have hn := hB.1
  have hco := hB.2.1
  have hbi := hB.2.2
  intro fu
  induction fu with
  | zero => intro i t1 p1 n1 s1 k1 hi hl5 hst hok h0; exact absurd h0 (Nat.not_lt_zero _)
  | succ fu ihL =>
    intro i t1 p1 n1 s1 k1 hi hl5 hst hok hfu H locs hP hD hS ls hl
    refine lv_iload hx hb dS_extend_9 (lv_at hl 6 rfl) ?_
    refine lv_aload_n hx hb dS_extend_11 rfl (lv_at hl 1 rfl) ?_
    refine va_get (D := (dC, dI)) (ci := 1) (v := .int (nI n)) (C := nP) (T := TP) (N := 9) hx hb hg inP hown hK hP 5 rfl rfl 8 (by decide) (hg _ kS_44) (fun _ h9 => h9) rfl dS_extend_12 ?_
    refine rn_icmp_ge (tgt := 127) hx hb dS_extend_15 (by decide) (by omega) (by omega) (fun c15 => ?_) (fun c15 => ?_)
    · exact kx0 i t1 p1 n1 s1 k1 hi hl5 hst hok (by omega) H locs hP hD hS ls (lv_sub hl [0, 1, 2, 3, 4, 5, 6] rfl)
    · have bi := hbi i
      have hk1 : k1 ≤ 5 := hok.2.2.2
      have hs1 : ∀ j, s1 j ≤ 1152921504806846976 := hok.2.2.1
      have ht1 : ∀ j, t1 j < 40 := hok.1
      obtain ⟨e1, e2⟩ := ew_mo (oh := oh i) (sec := sc i) (m := mo) (d := d - 1) (by omega) (by omega) (by rw [show d - 1 + 1 = d from by omega]; exact hmo)
      have ht2 : ∀ j, va_up t1 len i j < 40 := up_all (p := fun v => v < 40) ht1 (by omega)
      have hvs : sB vi (en i) true < 1099511627776 := sB_lt (w := 40) true hvi (by omega)
      have hkF := rkF_le s1 (ew (oh i) (sc i) mo) k1
      refine lv_aload_n hx hb dS_extend_18 rfl (lv_at hl 1 rfl) ?_
      refine va_get (D := (dC, dI)) (ci := 1) (v := .ref (q 2)) (C := nP) (T := TP) (N := 9) hx hb hg inP hown hK hP 5 rfl rfl 1 (by decide) (hg _ kS_49) (fun _ h9 => h9) rfl dS_extend_19 ?_
      refine lv_iload hx hb dS_extend_22 (lv_at hl 6 rfl) ?_
      refine ga_i (f := en) hx hb hK hP 7 0 rfl rfl (by omega) (by decide) dS_extend_24 ?_
      refine lv_istore (lv' := [(9, .int (nI (en i))), (0, .ref (qs 0)), (1, .ref (q 0)), (2, .int (nI pl)), (3, .int (nI len)), (4, .long (lN mo)), (6, .long (lN vi)), (8, .int (nI i))]) hx hb dS_extend_25 hl (by decide) rfl (fun ls hl => ?_)
      refine lv_aload_n hx hb dS_extend_27 rfl (lv_at hl 1 rfl) ?_
      refine lv_aload_n hx hb dS_extend_28 rfl (lv_at hl 2 rfl) ?_
      refine lv_iload hx hb dS_extend_29 (lv_at hl 7 rfl) ?_
      refine lv_iload_n hx hb dS_extend_31 rfl (lv_at hl 3 rfl) ?_
      refine lv_iload_n hx hb dS_extend_32 rfl (lv_at hl 4 rfl) ?_
      refine cpV_i (b := (qs 0)) (C := nS) (As := [.ref (q 0), .int (nI i), .int (nI pl), .int (nI len)]) (rest := []) (post := fun r : Int32 => r = bI (cbB us bg bt t1 i pl len)) ⟨hx, hb, hml, hown, hts⟩ (ct_S_canBeNext l dC dI cI cJ cZ qs t1 p1 n1 s1 k1 us gl q bg en sc wd ht oh bt co n i pl len (hB) (by omega) (hpl) (by omega) (hus) (ht1)) (cwV 4 hts (gv kS_52 ki_S_canBeNext ksel_S_canBeNext kin_S kc_S_canBeNext) rfl rfl rfl (by decide +kernel) ⟨Nat.le_trans (by decide) hR.1, Nat.le_trans (by decide) hR.2⟩) (va_recv hK hP (ci := 3) (q0 := 0) rfl rfl) hP hK hE rfl hl.1 rfl (Nat.le_of_ble_eq_true rfl) dS_extend_33 hcs (fun r hr => ?_)
      subst hr
      refine rb_eq (tgt := 121) hx hb dS_extend_36 (by decide) (fun c36 => ?_) (fun c36 => ?_)
      · refine rn_iinc (lv' := [(8, .int (nI (i + 1))), (9, .int (nI (en i))), (0, .ref (qs 0)), (1, .ref (q 0)), (2, .int (nI pl)), (3, .int (nI len)), (4, .long (lN mo)), (6, .long (lN vi))]) hx hb dS_extend_121 hl (k := 7) rfl (by decide) rfl (fun ls hl => ?_)
        refine lv_goto (tgt := 9) hx hb dS_extend_124 (by decide) ?_
        exact ihL (i + 1) t1 p1 n1 s1 k1 (by omega) (hl5) (by first | exact ex_1 hst c36 | exact ex_2 hst c46 | exact ex_3 hst c36 c46 c76 | exact ex_4 hst c36 c46 c76 c98 | exact ex_5 hst c36 c46 c76 c98 rfl) (by first | exact hok | exact ⟨ht2, hok.2.1, hok.2.2.1, hok.2.2.2⟩ | exact ⟨ht2, kpN_all (p := fun v => v ≤ 5) hok.2.1 (by omega), kpS_all (p := fun v => v ≤ 1152921504806846976) hok.2.2.1 e2, kpK_le hok.2.2.2⟩ | exact exF_ok hB (d - 1) (en i) _ _ (va_up t1 len i, p1, n1, s1, k1) (by omega) e1 ⟨ht2, hok.2.1, hok.2.2.1, hok.2.2.2⟩) (by omega) H locs hP hD hS ls (lv_sub hl [2, 3, 4, 5, 6, 7, 0] rfl)
      · refine lv_lload hx hb dS_extend_39 (lv_at hl 6 rfl) ?_
        refine lv_iload hx hb dS_extend_41 (lv_at hl 0 rfl) ?_
        refine cpN_i (As := [.long (lN vi), .int (nI (en i))]) (rest := []) (post := fun r : Int32 => r = bI (vi.testBit (en i))) ⟨hx, hb, hml, hown, hts⟩ (ct_G_hasBit l dC dI cI cJ cZ vi (en i) (by omega) (by omega)) ⟨va_cnB 2 hts (gi kc_G_hasBit) rfl rfl rfl (hE _ kNS_56) (hg _ kin_G) (by decide +kernel) ⟨Nat.le_trans (by decide) hR.1, Nat.le_trans (by decide) hR.2⟩, hg _ ks_G_hasBit, trivial⟩ (hP.sub (ws' := []) [] rfl) hK hE rfl hl.1 rfl (Nat.le_of_ble_eq_true rfl) dS_extend_43 hcs (fun r hr => ?_)
        subst hr
        refine rb_eq (tgt := 52) hx hb dS_extend_46 (by decide) (fun c46 => ?_) (fun c46 => ?_)
        · refine lv_aload_n hx hb dS_extend_52 rfl (lv_at hl 2 rfl) ?_
          refine lv_iload hx hb dS_extend_53 (lv_at hl 7 rfl) ?_
          refine lv_lload hx hb dS_extend_55 (lv_at hl 5 rfl) ?_
          refine cpV_l (b := (q 0)) (C := nP) (As := [.int (nI i), .long (lN mo)]) (rest := []) (post := fun r : Int64 => r = lN (ew (oh i) (sc i) mo)) ⟨hx, hb, hml, hown, hts⟩ (ct_P_endWhenUsedFrom l dC dI cI cJ cZ q bg en sc wd ht oh bt co n i mo (hB) (by omega) (by omega)) (cwV 2 hts (gv kS_60 ki_P_endWhenUsedFrom ksel_P_endWhenUsedFrom kin_P kc_P_endWhenUsedFrom) rfl rfl rfl (by decide +kernel) ⟨Nat.le_trans (by decide) hR.1, Nat.le_trans (by decide) hR.2⟩) (va_recv hK hP (ci := 1) (q0 := 5) rfl rfl) (hP.sub (ws' := (wP cI cJ cZ q bg en sc wd ht oh bt co n)) [5, 6, 7, 8, 9, 10, 11, 12] rfl) hK hE rfl hl.1 rfl (Nat.le_of_ble_eq_true rfl) dS_extend_57 hcs (fun r hr => ?_)
          subst hr
          refine lv_lstore (lv' := [(10, .long (lN (ew (oh i) (sc i) mo))), (9, .int (nI (en i))), (0, .ref (qs 0)), (1, .ref (q 0)), (2, .int (nI pl)), (3, .int (nI len)), (4, .long (lN mo)), (6, .long (lN vi)), (8, .int (nI i))]) hx hb dS_extend_60 hl (by decide) rfl (fun ls hl => ?_)
          refine lv_aload_n hx hb dS_extend_62 rfl (lv_at hl 2 rfl) ?_
          refine va_get (D := (dC, dI)) (ci := 3) (v := .ref (qs 1)) (C := nS) (T := TS) (N := 7) hx hb hg inS hown hK hP 0 rfl rfl 0 (by decide) (hg _ kS_9) (fun _ h9 => h9) rfl dS_extend_63 ?_
          refine lv_iload_n hx hb dS_extend_66 rfl (lv_at hl 5 rfl) ?_
          refine lv_iload hx hb dS_extend_67 (lv_at hl 8 rfl) ?_
          refine sa_i (f := t1) (v := i) hx hb hK hP hD hS 1 0 rfl rfl (by omega) (by decide) dS_extend_69 (fun H locs hP hD hS => ?_)
          have hP : va_P (dC, dI) vwCl (wS cI cJ cZ qs (va_up t1 len i) p1 n1 s1 k1 us gl ++ wP cI cJ cZ q bg en sc wd ht oh bt co n) H := hP
          have hD : va_D A (wS cI cJ cZ qs (va_up t1 len i) p1 n1 s1 k1 us gl ++ wP cI cJ cZ q bg en sc wd ht oh bt co n) := hD
          refine lv_iload hx hb dS_extend_70 (lv_at hl 1 rfl) ?_
          refine lv_aload_n hx hb dS_extend_72 rfl (lv_at hl 2 rfl) ?_
          refine va_get (D := (dC, dI)) (ci := 3) (v := .int (nI gl)) (C := nS) (T := TS) (N := 7) hx hb hg inS hown hK hP 0 rfl rfl 6 (by decide) (hg _ kS_29) (fun _ h9 => h9) rfl dS_extend_73 ?_
          refine rn_icmp_ne (tgt := 91) hx hb dS_extend_76 (by decide) (by omega) (by omega) (fun c76 => ?_) (fun c76 => ?_)
          · refine lv_aload_n hx hb dS_extend_91 rfl (lv_at hl 2 rfl) ?_
            refine lv_lload hx hb dS_extend_92 (lv_at hl 0 rfl) ?_
            refine cpV_i (b := (qs 0)) (C := nS) (As := [.long (lN (ew (oh i) (sc i) mo))]) (rest := []) (post := fun r : Int32 => r = nI (rkF s1 (ew (oh i) (sc i) mo) k1)) ⟨hx, hb, hml, hown, hts⟩ (ct_S_rankOf l dC dI cI cJ cZ qs (va_up t1 len i) p1 n1 s1 k1 us gl (ew (oh i) (sc i) mo) (by omega) (hs1) (by omega)) (cwV 1 hts (gv kS_68 ki_S_rankOf ksel_S_rankOf kin_S kc_S_rankOf) rfl rfl rfl (by decide +kernel) ⟨Nat.le_trans (by decide) hR.1, Nat.le_trans (by decide) hR.2⟩) (va_recv hK hP (ci := 3) (q0 := 0) rfl rfl) (hP.sub (ws' := (wS cI cJ cZ qs (va_up t1 len i) p1 n1 s1 k1 us gl)) [0, 1, 2, 3, 4] rfl) hK hE rfl hl.1 rfl (Nat.le_of_ble_eq_true rfl) dS_extend_94 hcs (fun r hr => ?_)
            subst hr
            refine rn_iconst hx hb 5 dS_extend_97 (by decide) ?_
            refine rn_icmp_ge (tgt := 121) hx hb dS_extend_98 (by decide) (by omega) (by omega) (fun c98 => ?_) (fun c98 => ?_)
            · refine rn_iinc (lv' := [(8, .int (nI (i + 1))), (10, .long (lN (ew (oh i) (sc i) mo))), (9, .int (nI (en i))), (0, .ref (qs 0)), (1, .ref (q 0)), (2, .int (nI pl)), (3, .int (nI len)), (4, .long (lN mo)), (6, .long (lN vi))]) hx hb dS_extend_121 hl (k := 8) rfl (by decide) rfl (fun ls hl => ?_)
              refine lv_goto (tgt := 9) hx hb dS_extend_124 (by decide) ?_
              exact ihL (i + 1) (va_up t1 len i) p1 n1 s1 k1 (by omega) (hl5) (by first | exact ex_1 hst c36 | exact ex_2 hst c46 | exact ex_3 hst c36 c46 c76 | exact ex_4 hst c36 c46 c76 c98 | exact ex_5 hst c36 c46 c76 c98 rfl) (by first | exact hok | exact ⟨ht2, hok.2.1, hok.2.2.1, hok.2.2.2⟩ | exact ⟨ht2, kpN_all (p := fun v => v ≤ 5) hok.2.1 (by omega), kpS_all (p := fun v => v ≤ 1152921504806846976) hok.2.2.1 e2, kpK_le hok.2.2.2⟩ | exact exF_ok hB (d - 1) (en i) _ _ (va_up t1 len i, p1, n1, s1, k1) (by omega) e1 ⟨ht2, hok.2.1, hok.2.2.1, hok.2.2.2⟩) (by omega) H locs hP hD hS ls (lv_sub hl [3, 4, 5, 6, 7, 8, 0] rfl)
            · refine lv_aload_n hx hb dS_extend_101 rfl (lv_at hl 2 rfl) ?_
              refine lv_aload_n hx hb dS_extend_102 rfl (lv_at hl 3 rfl) ?_
              refine lv_iload hx hb dS_extend_103 (lv_at hl 1 rfl) ?_
              refine lv_iload_n hx hb dS_extend_105 rfl (lv_at hl 5 rfl) ?_
              refine rn_iconst hx hb 1 dS_extend_106 (by decide) ?_
              refine rn_iadd hx hb dS_extend_107 ?_
              refine lv_lload hx hb dS_extend_108 (lv_at hl 0 rfl) ?_
              refine lv_lload hx hb dS_extend_110 (lv_at hl 7 rfl) ?_
              refine lv_iload hx hb dS_extend_112 (lv_at hl 1 rfl) ?_
              refine rn_iconst hx hb 1 dS_extend_114 (by decide) ?_
              refine cpN_l (As := [.long (lN vi), .int (nI (en i)), .int (bI true)]) (rest := [.long (lN (ew (oh i) (sc i) mo)), .int (nI (len + 1)), .int (nI (en i)), .ref (q 0), .ref (qs 0)]) (post := fun r : Int64 => r = lN (sB vi (en i) true)) ⟨hx, hb, hml, hown, hts⟩ (ct_G_withBit l dC dI cI cJ cZ vi (en i) true (by omega) (by omega)) ⟨va_cnB 3 hts (gi kc_G_withBit) rfl rfl rfl (hE _ kNS_36) (hg _ kin_G) (by decide +kernel) ⟨Nat.le_trans (by decide) hR.1, Nat.le_trans (by decide) hR.2⟩, hg _ ks_G_withBit, trivial⟩ (hP.sub (ws' := []) [] rfl) hK hE rfl hl.1 rfl (Nat.le_of_ble_eq_true rfl) dS_extend_115 hcs (fun r hr => ?_)
              subst hr
              refine kwV_v (D := (dC, dI)) (b := (qs 0)) (C := nS) (As := [.ref (q 0), .int (nI (en i)), .int (nI (len + 1)), .long (lN (ew (oh i) (sc i) mo)), .long (lN (sB vi (en i) true))]) (rest := []) (wc := (wS cI cJ cZ qs (va_up t1 len i) p1 n1 s1 k1 us gl ++ wP cI cJ cZ q bg en sc wd ht oh bt co n)) (wr := []) (w1 := (wS cI cJ cZ qs ((exF bg en sc oh bt us gl n (d - 1) (en i) (ew (oh i) (sc i) mo) (sB vi (en i) true) ((va_up t1 len i), p1, n1, s1, k1)).1) ((exF bg en sc oh bt us gl n (d - 1) (en i) (ew (oh i) (sc i) mo) (sB vi (en i) true) ((va_up t1 len i), p1, n1, s1, k1)).2.1) ((exF bg en sc oh bt us gl n (d - 1) (en i) (ew (oh i) (sc i) mo) (sB vi (en i) true) ((va_up t1 len i), p1, n1, s1, k1)).2.2.1) ((exF bg en sc oh bt us gl n (d - 1) (en i) (ew (oh i) (sc i) mo) (sB vi (en i) true) ((va_up t1 len i), p1, n1, s1, k1)).2.2.2.1) ((exF bg en sc oh bt us gl n (d - 1) (en i) (ew (oh i) (sc i) mo) (sB vi (en i) true) ((va_up t1 len i), p1, n1, s1, k1)).2.2.2.2) us gl ++ wP cI cJ cZ q bg en sc wd ht oh bt co n)) (wn := (wS cI cJ cZ qs ((exF bg en sc oh bt us gl n (d - 1) (en i) (ew (oh i) (sc i) mo) (sB vi (en i) true) ((va_up t1 len i), p1, n1, s1, k1)).1) ((exF bg en sc oh bt us gl n (d - 1) (en i) (ew (oh i) (sc i) mo) (sB vi (en i) true) ((va_up t1 len i), p1, n1, s1, k1)).2.1) ((exF bg en sc oh bt us gl n (d - 1) (en i) (ew (oh i) (sc i) mo) (sB vi (en i) true) ((va_up t1 len i), p1, n1, s1, k1)).2.2.1) ((exF bg en sc oh bt us gl n (d - 1) (en i) (ew (oh i) (sc i) mo) (sB vi (en i) true) ((va_up t1 len i), p1, n1, s1, k1)).2.2.2.1) ((exF bg en sc oh bt us gl n (d - 1) (en i) (ew (oh i) (sc i) mo) (sB vi (en i) true) ((va_up t1 len i), p1, n1, s1, k1)).2.2.2.2) us gl ++ wP cI cJ cZ q bg en sc wd ht oh bt co n)) ⟨hx, hb, hml, hown, hts⟩ (ih (d - 1) (by omega) qs (va_up t1 len i) p1 n1 s1 k1 us gl q bg en sc wd ht oh bt co n (en i) (len + 1) (ew (oh i) (sc i) mo) (sB vi (en i) true) H.size (by omega) (hs1) (ht2) (hok.2.1) (hB) (by omega) (hgl) (by omega) (e1) (by omega) (hus)) (cwV 5 hts (gv kS_40 ki_S_extend ksel_S_extend kin_S kc_S_extend) rfl rfl rfl (by decide +kernel) ⟨by have h9 := hRd.1; show 4 + (d - 1) + 1 ≤ _; omega, by have h9 := hRd.2; show 8 + (12 + 11) + (400 + 31 * (d - 1)) ≤ _; omega⟩) (va_recv hK hP (ci := 3) (q0 := 0) rfl rfl) hP hD hK hE hS hA [0, 1, 2, 3, 4, 5, 6, 7, 8, 9, 10, 11, 12] [] [0, 1, 2, 3, 4, 5, 6, 7, 8, 9, 10, 11, 12] rfl (by decide) rfl (by decide) (by decide) rfl (by decide) rfl hl.1 rfl (Nat.le_of_ble_eq_true rfl) dS_extend_118 hcs (fun H locs hP hD hS => ?_)
              refine rn_iinc (lv' := [(8, .int (nI (i + 1))), (10, .long (lN (ew (oh i) (sc i) mo))), (9, .int (nI (en i))), (0, .ref (qs 0)), (1, .ref (q 0)), (2, .int (nI pl)), (3, .int (nI len)), (4, .long (lN mo)), (6, .long (lN vi))]) hx hb dS_extend_121 hl (k := 8) rfl (by decide) rfl (fun ls hl => ?_)
              refine lv_goto (tgt := 9) hx hb dS_extend_124 (by decide) ?_
              exact ihL (i + 1) ((exF bg en sc oh bt us gl n (d - 1) (en i) (ew (oh i) (sc i) mo) (sB vi (en i) true) ((va_up t1 len i), p1, n1, s1, k1)).1) ((exF bg en sc oh bt us gl n (d - 1) (en i) (ew (oh i) (sc i) mo) (sB vi (en i) true) ((va_up t1 len i), p1, n1, s1, k1)).2.1) ((exF bg en sc oh bt us gl n (d - 1) (en i) (ew (oh i) (sc i) mo) (sB vi (en i) true) ((va_up t1 len i), p1, n1, s1, k1)).2.2.1) ((exF bg en sc oh bt us gl n (d - 1) (en i) (ew (oh i) (sc i) mo) (sB vi (en i) true) ((va_up t1 len i), p1, n1, s1, k1)).2.2.2.1) ((exF bg en sc oh bt us gl n (d - 1) (en i) (ew (oh i) (sc i) mo) (sB vi (en i) true) ((va_up t1 len i), p1, n1, s1, k1)).2.2.2.2) (by omega) (hl5) (by first | exact ex_1 hst c36 | exact ex_2 hst c46 | exact ex_3 hst c36 c46 c76 | exact ex_4 hst c36 c46 c76 c98 | exact ex_5 hst c36 c46 c76 c98 rfl) (by first | exact hok | exact ⟨ht2, hok.2.1, hok.2.2.1, hok.2.2.2⟩ | exact ⟨ht2, kpN_all (p := fun v => v ≤ 5) hok.2.1 (by omega), kpS_all (p := fun v => v ≤ 1152921504806846976) hok.2.2.1 e2, kpK_le hok.2.2.2⟩ | exact exF_ok hB (d - 1) (en i) _ _ (va_up t1 len i, p1, n1, s1, k1) (by omega) e1 ⟨ht2, hok.2.1, hok.2.2.1, hok.2.2.2⟩) (by omega) H locs hP hD hS ls (lv_sub hl [3, 4, 5, 6, 7, 8, 0] rfl)
          · refine lv_aload_n hx hb dS_extend_79 rfl (lv_at hl 2 rfl) ?_
            refine lv_iload_n hx hb dS_extend_80 rfl (lv_at hl 5 rfl) ?_
            refine rn_iconst hx hb 1 dS_extend_81 (by decide) ?_
            refine rn_iadd hx hb dS_extend_82 ?_
            refine lv_lload hx hb dS_extend_83 (lv_at hl 0 rfl) ?_
            refine kwV_v (D := (dC, dI)) (b := (qs 0)) (C := nS) (As := [.int (nI (len + 1)), .long (lN (ew (oh i) (sc i) mo))]) (rest := []) (wc := (wS cI cJ cZ qs (va_up t1 len i) p1 n1 s1 k1 us gl)) (wr := (wP cI cJ cZ q bg en sc wd ht oh bt co n)) (w1 := (wS cI cJ cZ qs (va_up t1 len i) (kpP p1 (va_up t1 len i) s1 (ew (oh i) (sc i) mo) k1 (len + 1)) (kpN n1 s1 (ew (oh i) (sc i) mo) k1 (len + 1)) (kpS s1 (ew (oh i) (sc i) mo) k1) (kpK s1 (ew (oh i) (sc i) mo) k1) us gl)) (wn := (wS cI cJ cZ qs (va_up t1 len i) (kpP p1 (va_up t1 len i) s1 (ew (oh i) (sc i) mo) k1 (len + 1)) (kpN n1 s1 (ew (oh i) (sc i) mo) k1 (len + 1)) (kpS s1 (ew (oh i) (sc i) mo) k1) (kpK s1 (ew (oh i) (sc i) mo) k1) us gl ++ wP cI cJ cZ q bg en sc wd ht oh bt co n)) ⟨hx, hb, hml, hown, hts⟩ (ct_S_keep l dC dI cI cJ cZ qs (va_up t1 len i) p1 n1 s1 k1 us gl (len + 1) (ew (oh i) (sc i) mo) H.size (by omega) (hs1) (ht2) (by omega) (by omega)) (cwV 2 hts (gv kS_64 ki_S_keep ksel_S_keep kin_S kc_S_keep) rfl rfl rfl (by decide +kernel) ⟨Nat.le_trans (by decide) hR.1, Nat.le_trans (by decide) hR.2⟩) (va_recv hK hP (ci := 3) (q0 := 0) rfl rfl) hP hD hK hE hS hA [0, 1, 2, 3, 4] [5, 6, 7, 8, 9, 10, 11, 12] [8, 9, 10, 11, 12, 0, 1, 2, 3, 4, 5, 6, 7] rfl (by decide) rfl (by decide) (by decide) rfl (by decide) rfl hl.1 rfl (Nat.le_of_ble_eq_true rfl) dS_extend_85 hcs (fun H locs hP hD hS => ?_)
            refine lv_goto (tgt := 121) hx hb dS_extend_88 (by decide) ?_
            refine rn_iinc (lv' := [(8, .int (nI (i + 1))), (10, .long (lN (ew (oh i) (sc i) mo))), (9, .int (nI (en i))), (0, .ref (qs 0)), (1, .ref (q 0)), (2, .int (nI pl)), (3, .int (nI len)), (4, .long (lN mo)), (6, .long (lN vi))]) hx hb dS_extend_121 hl (k := 8) rfl (by decide) rfl (fun ls hl => ?_)
            refine lv_goto (tgt := 9) hx hb dS_extend_124 (by decide) ?_
            exact ihL (i + 1) (va_up t1 len i) (kpP p1 (va_up t1 len i) s1 (ew (oh i) (sc i) mo) k1 (len + 1)) (kpN n1 s1 (ew (oh i) (sc i) mo) k1 (len + 1)) (kpS s1 (ew (oh i) (sc i) mo) k1) (kpK s1 (ew (oh i) (sc i) mo) k1) (by omega) (hl5) (by first | exact ex_1 hst c36 | exact ex_2 hst c46 | exact ex_3 hst c36 c46 c76 | exact ex_4 hst c36 c46 c76 c98 | exact ex_5 hst c36 c46 c76 c98 rfl) (by first | exact hok | exact ⟨ht2, hok.2.1, hok.2.2.1, hok.2.2.2⟩ | exact ⟨ht2, kpN_all (p := fun v => v ≤ 5) hok.2.1 (by omega), kpS_all (p := fun v => v ≤ 1152921504806846976) hok.2.2.1 e2, kpK_le hok.2.2.2⟩ | exact exF_ok hB (d - 1) (en i) _ _ (va_up t1 len i, p1, n1, s1, k1) (by omega) e1 ⟨ht2, hok.2.1, hok.2.2.1, hok.2.2.2⟩) (by omega) H locs hP hD hS ls (lv_sub hl [3, 4, 5, 6, 7, 8, 0] rfl)
        · refine lv_goto (tgt := 121) hx hb dS_extend_49 (by decide) ?_
          refine rn_iinc (lv' := [(8, .int (nI (i + 1))), (9, .int (nI (en i))), (0, .ref (qs 0)), (1, .ref (q 0)), (2, .int (nI pl)), (3, .int (nI len)), (4, .long (lN mo)), (6, .long (lN vi))]) hx hb dS_extend_121 hl (k := 7) rfl (by decide) rfl (fun ls hl => ?_)
          refine lv_goto (tgt := 9) hx hb dS_extend_124 (by decide) ?_
          exact ihL (i + 1) t1 p1 n1 s1 k1 (by omega) (hl5) (by first | exact ex_1 hst c36 | exact ex_2 hst c46 | exact ex_3 hst c36 c46 c76 | exact ex_4 hst c36 c46 c76 c98 | exact ex_5 hst c36 c46 c76 c98 rfl) (by first | exact hok | exact ⟨ht2, hok.2.1, hok.2.2.1, hok.2.2.2⟩ | exact ⟨ht2, kpN_all (p := fun v => v ≤ 5) hok.2.1 (by omega), kpS_all (p := fun v => v ≤ 1152921504806846976) hok.2.2.1 e2, kpK_le hok.2.2.2⟩ | exact exF_ok hB (d - 1) (en i) _ _ (va_up t1 len i, p1, n1, s1, k1) (by omega) e1 ⟨ht2, hok.2.1, hok.2.2.1, hok.2.2.2⟩) (by omega) H locs hP hD hS ls (lv_sub hl [2, 3, 4, 5, 6, 7, 0] rfl)

set_option maxHeartbeats 4000000 in
set_option maxRecDepth 100000 in
theorem ct_S_extend (l : Launch) (dC : Nat → ClassId) (dI : Nat → Nat → Nat) (cI cJ cZ : ClassId) : ∀ (d : Nat) (qs : Nat → Nat) (tr rp rn rs : Nat → Nat) (rk us gl : Nat) (q : Nat → Nat) (bg en sc wd ht oh bt : Nat → Nat) (co n : Nat) (pl len mo vi : Nat) (sz : Nat) (hrk : rk ≤ 5) (hrs : ∀ j, rs j ≤ 1152921504806846976) (htr : ∀ j, tr j < 40) (hrn : ∀ j, rn j ≤ 5) (hB : bP bg en sc wd ht oh bt co n) (hpl : pl < 20) (hgl : gl < 20) (hld : len + d = 5) (hmo : mo + d * 20000000 ≤ 1152921504706846976) (hvi : vi < 1099511627776) (hus : us < 1099511627776), Met l yS_extend wsS_extend ({ frames := 4 + d, cells := 0, slots := 0, locals := 400 + 31 * d }) (PcW (dC, dI) (wS cI cJ cZ qs tr rp rn rs rk us gl ++ wP cI cJ cZ q bg en sc wd ht oh bt co n) (tyE cI cJ cZ) sz [.ref (qs 0), .ref (q 0), .int (nI pl), .int (nI len), .long (lN mo), .long (lN vi)]) (QwV (dC, dI) (wS cI cJ cZ qs ((exF bg en sc oh bt us gl n d pl mo vi (tr, rp, rn, rs, rk)).1) ((exF bg en sc oh bt us gl n d pl mo vi (tr, rp, rn, rs, rk)).2.1) ((exF bg en sc oh bt us gl n d pl mo vi (tr, rp, rn, rs, rk)).2.2.1) ((exF bg en sc oh bt us gl n d pl mo vi (tr, rp, rn, rs, rk)).2.2.2.1) ((exF bg en sc oh bt us gl n d pl mo vi (tr, rp, rn, rs, rk)).2.2.2.2) us gl ++ wP cI cJ cZ q bg en sc wd ht oh bt co n) (tyE cI cJ cZ) (va_A (wS cI cJ cZ qs tr rp rn rs rk us gl ++ wP cI cJ cZ q bg en sc wd ht oh bt co n) sz)) 0 0 (va_A (wS cI cJ cZ qs tr rp rn rs rk us gl ++ wP cI cJ cZ q bg en sc wd ht oh bt co n) sz) := by
  intro d
  induction d using Nat.strongRecOn with
  | _ d ih =>
  intro qs tr rp rn rs rk us gl q bg en sc wd ht oh bt co n pl len mo vi sz hrk hrs htr hrn hB hpl hgl hld hmo hvi hus
  refine Met.ofW (cc := cS_extend) (maxL := 12) (ret := none) (by decide) rfl ?_
  intro p e s m args below meth c s₁ B hml hv
  obtain ⟨rfl, hsz, hP, hK, hD0, hE⟩ := hv
  have hx := B.exec
  have hb := B.bytes
  have hr := B.returns
  have hts := atoms_spec (ws := wsS_extend) B.pre
  have hg : ∀ w ∈ gw, w.before _ s = true := fun w h => hts w (List.mem_cons_of_mem _ h)
  have hown : s.vm.findClass nS = some m.cls := findClass_of_methodNamed B.named
  have hlocks := B.notSynchronized
  have hRd : 4 + d ≤ (headSpec wsS_extend ({ frames := 4 + d, cells := 0, slots := 0, locals := 400 + 31 * d })).room.frames ∧ 400 + 31 * d ≤ (headSpec wsS_extend ({ frames := 4 + d, cells := 0, slots := 0, locals := 400 + 31 * d })).room.locals := ⟨Nat.le_refl _, Nat.le_refl _⟩
  have hR : 4 ≤ (headSpec wsS_extend ({ frames := 4 + d, cells := 0, slots := 0, locals := 400 + 31 * d })).room.frames ∧ 400 ≤ (headSpec wsS_extend ({ frames := 4 + d, cells := 0, slots := 0, locals := 400 + 31 * d })).room.locals := ⟨Nat.le_trans (Nat.le_add_right _ _) hRd.1, Nat.le_trans (Nat.le_add_right _ _) hRd.2⟩
  have hcs : 0 ≤ (headSpec wsS_extend ({ frames := 4 + d, cells := 0, slots := 0, locals := 400 + 31 * d })).room.cells ∧ 0 ≤ (headSpec wsS_extend ({ frames := 4 + d, cells := 0, slots := 0, locals := 400 + 31 * d })).room.slots := ⟨Nat.zero_le _, Nat.zero_le _⟩
  subst hsz
  have hD := hD0.self (sz := s.heap.size)
  generalize hAe : va_A (wS cI cJ cZ qs tr rp rn rs rk us gl ++ wP cI cJ cZ q bg en sc wd ht oh bt co n) s.heap.size = A at hD ⊢
  have hA : ∀ q : Nat, s.heap.size ≤ q → A q := fun q h => by rw [← hAe]; exact Or.inr h
  obtain ⟨H, hH⟩ : ∃ H, H = s.heap := ⟨_, rfl⟩
  have hS : va_S A s.heap H [] := by rw [hH]; exact va_S.rf
  rw [← hH] at hP ⊢
  have hn := hB.1
  have hco := hB.2.1
  have hbi := hB.2.2
  have hl := lv_entry ([.ref (qs 0), .ref (q 0), .int (nI pl), .int (nI len), .long (lN mo), .long (lN vi)]) (n := 12) (Nat.le_of_ble_eq_true rfl)
  rw [lg_entry_eq]
  generalize (lg_sl ([.ref (qs 0), .ref (q 0), .int (nI pl), .int (nI len), .long (lN mo), .long (lN vi)]) ++ List.replicate (12 - (lg_sl ([.ref (qs 0), .ref (q 0), .int (nI pl), .int (nI len), .long (lN mo), .long (lN vi)])).length) Slot.unset).toArray = ls at hl ⊢
  have hl : lv_has ls 12 [(0, .ref (qs 0)), (1, .ref (q 0)), (2, .int (nI pl)), (3, .int (nI len)), (4, .long (lN mo)), (6, .long (lN vi))] := hl
  refine lv_iload_n hx hb dS_extend_0 rfl (lv_at hl 3 rfl) ?_
  refine rn_iconst hx hb 5 dS_extend_1 (by decide) ?_
  refine rn_icmp_lt (tgt := 6) hx hb dS_extend_2 (by decide) (by omega) (by omega) (fun c2 => ?_) (fun c2 => ?_)
  · refine rn_iconst hx hb 0 dS_extend_6 (by decide) ?_
    refine lv_istore (lv' := [(8, .int (nI 0)), (0, .ref (qs 0)), (1, .ref (q 0)), (2, .int (nI pl)), (3, .int (nI len)), (4, .long (lN mo)), (6, .long (lN vi))]) hx hb dS_extend_7 hl (by decide) rfl (fun ls hl => ?_)
    refine lp_S_extend d qs tr rp rn rs rk us gl q bg en sc wd ht oh bt co n pl len mo vi hrk hrs htr hrn hB hpl hgl hld hmo hvi hus hRd ih hx hb hml hown hts hK hE hA (by first | exact hR | exact ⟨Nat.le_trans (by decide) hR.1, Nat.le_trans (by decide) hR.2⟩) hcs (fun i t1 p1 n1 s1 k1 hi hl5 hst hok hx0 H locs hP hD hS ls hl => ?_) ((n - 0) + 1) 0 tr rp rn rs rk (by omega) (c2) (rfl) (⟨htr, hrn, hrs, hrk⟩) (by omega) _ _ hP hD hS ls (lv_sub hl [1, 2, 3, 4, 5, 6, 0] rfl)
    have hP9 : va_P (dC, dI) vwCl (wS cI cJ cZ qs ((exF bg en sc oh bt us gl n d pl mo vi (tr, rp, rn, rs, rk)).1) ((exF bg en sc oh bt us gl n d pl mo vi (tr, rp, rn, rs, rk)).2.1) ((exF bg en sc oh bt us gl n d pl mo vi (tr, rp, rn, rs, rk)).2.2.1) ((exF bg en sc oh bt us gl n d pl mo vi (tr, rp, rn, rs, rk)).2.2.2.1) ((exF bg en sc oh bt us gl n d pl mo vi (tr, rp, rn, rs, rk)).2.2.2.2) us gl ++ wP cI cJ cZ q bg en sc wd ht oh bt co n) H := by rw [show exF bg en sc oh bt us gl n d pl mo vi (tr, rp, rn, rs, rk) = (t1, p1, n1, s1, k1) from by rw [hst, show i = n from by omega]; obtain ⟨d, rfl⟩ : ∃ k, d = k + 1 := ⟨d - 1, by omega⟩; show exI (exS (exF bg en sc oh bt us gl n d) bg en sc oh bt us gl (5 - (d + 1)) pl mo vi) _ n = _; rw [show 5 - (d + 1) = len from by omega]; rfl]; exact hP
    have hD9 : va_D A (wS cI cJ cZ qs ((exF bg en sc oh bt us gl n d pl mo vi (tr, rp, rn, rs, rk)).1) ((exF bg en sc oh bt us gl n d pl mo vi (tr, rp, rn, rs, rk)).2.1) ((exF bg en sc oh bt us gl n d pl mo vi (tr, rp, rn, rs, rk)).2.2.1) ((exF bg en sc oh bt us gl n d pl mo vi (tr, rp, rn, rs, rk)).2.2.2.1) ((exF bg en sc oh bt us gl n d pl mo vi (tr, rp, rn, rs, rk)).2.2.2.2) us gl ++ wP cI cJ cZ q bg en sc wd ht oh bt co n) := by rw [show exF bg en sc oh bt us gl n d pl mo vi (tr, rp, rn, rs, rk) = (t1, p1, n1, s1, k1) from by rw [hst, show i = n from by omega]; obtain ⟨d, rfl⟩ : ∃ k, d = k + 1 := ⟨d - 1, by omega⟩; show exI (exS (exF bg en sc oh bt us gl n d) bg en sc oh bt us gl (5 - (d + 1)) pl mo vi) _ n = _; rw [show 5 - (d + 1) = len from by omega]; rfl]; exact hD
    exact W.vret hx hb hr (fun t ht hW => ⟨⟨(), rfl, trivial, by rw [ht]; exact hP9, va_K.moved hW.alike hK, hD9⟩, hS.F ht⟩) hS.2.2 dS_extend_127
  · have hP9 : va_P (dC, dI) vwCl (wS cI cJ cZ qs ((exF bg en sc oh bt us gl n d pl mo vi (tr, rp, rn, rs, rk)).1) ((exF bg en sc oh bt us gl n d pl mo vi (tr, rp, rn, rs, rk)).2.1) ((exF bg en sc oh bt us gl n d pl mo vi (tr, rp, rn, rs, rk)).2.2.1) ((exF bg en sc oh bt us gl n d pl mo vi (tr, rp, rn, rs, rk)).2.2.2.1) ((exF bg en sc oh bt us gl n d pl mo vi (tr, rp, rn, rs, rk)).2.2.2.2) us gl ++ wP cI cJ cZ q bg en sc wd ht oh bt co n) H := by rw [show d = 0 from by omega]; exact hP
    have hD9 : va_D A (wS cI cJ cZ qs ((exF bg en sc oh bt us gl n d pl mo vi (tr, rp, rn, rs, rk)).1) ((exF bg en sc oh bt us gl n d pl mo vi (tr, rp, rn, rs, rk)).2.1) ((exF bg en sc oh bt us gl n d pl mo vi (tr, rp, rn, rs, rk)).2.2.1) ((exF bg en sc oh bt us gl n d pl mo vi (tr, rp, rn, rs, rk)).2.2.2.1) ((exF bg en sc oh bt us gl n d pl mo vi (tr, rp, rn, rs, rk)).2.2.2.2) us gl ++ wP cI cJ cZ q bg en sc wd ht oh bt co n) := by rw [show d = 0 from by omega]; exact hD
    exact W.vret hx hb hr (fun t ht hW => ⟨⟨(), rfl, trivial, by rw [ht]; exact hP9, va_K.moved hW.alike hK, hD9⟩, hS.F ht⟩) hS.2.2 dS_extend_5

set_option maxHeartbeats 4000000 in
set_option maxRecDepth 100000 in
theorem ct_S_search (l : Launch) (dC : Nat → ClassId) (dI : Nat → Nat → Nat) (cI cJ cZ : ClassId) (qs : Nat → Nat) (tr rp rn rs : Nat → Nat) (rk us gl : Nat) (q : Nat → Nat) (bg en sc wd ht oh bt : Nat → Nat) (co n : Nat) (us0 a b : Nat) (sz : Nat) (hrs : ∀ j, rs j ≤ 1152921504806846976) (htr : ∀ j, tr j < 40) (hrn : ∀ j, rn j ≤ 5) (hB : bP bg en sc wd ht oh bt co n) (ha : a < 20) (hb9 : b < 20) (hus : us0 < 1099511627776) : Met l yS_search wsS_search ({ frames := 10, cells := 0, slots := 0, locals := 586 }) (PcW (dC, dI) (wS cI cJ cZ qs tr rp rn rs rk us gl ++ wP cI cJ cZ q bg en sc wd ht oh bt co n) (tyE cI cJ cZ) sz [.ref (qs 0), .ref (q 0), .long (lN us0), .int (nI a), .int (nI b)]) (QwV (dC, dI) (wS cI cJ cZ qs ((exF bg en sc oh bt us0 b n 5 a 0 (sB 0 a true) (tr, rp, rn, rs, 0)).1) ((exF bg en sc oh bt us0 b n 5 a 0 (sB 0 a true) (tr, rp, rn, rs, 0)).2.1) ((exF bg en sc oh bt us0 b n 5 a 0 (sB 0 a true) (tr, rp, rn, rs, 0)).2.2.1) ((exF bg en sc oh bt us0 b n 5 a 0 (sB 0 a true) (tr, rp, rn, rs, 0)).2.2.2.1) ((exF bg en sc oh bt us0 b n 5 a 0 (sB 0 a true) (tr, rp, rn, rs, 0)).2.2.2.2) us0 b ++ wP cI cJ cZ q bg en sc wd ht oh bt co n) (tyE cI cJ cZ) (va_A (wS cI cJ cZ qs tr rp rn rs rk us gl ++ wP cI cJ cZ q bg en sc wd ht oh bt co n) sz)) 0 0 (va_A (wS cI cJ cZ qs tr rp rn rs rk us gl ++ wP cI cJ cZ q bg en sc wd ht oh bt co n) sz) := by
  refine Met.ofW (cc := cS_search) (maxL := 6) (ret := none) (by decide) rfl ?_
  intro p e s m args below meth c s₁ B hml hv
  obtain ⟨rfl, hsz, hP, hK, hD0, hE⟩ := hv
  have hx := B.exec
  have hb := B.bytes
  have hr := B.returns
  have hts := atoms_spec (ws := wsS_search) B.pre
  have hg : ∀ w ∈ gw, w.before _ s = true := fun w h => hts w (List.mem_cons_of_mem _ h)
  have hown : s.vm.findClass nS = some m.cls := findClass_of_methodNamed B.named
  have hlocks := B.notSynchronized
  have hR : 10 ≤ (headSpec wsS_search ({ frames := 10, cells := 0, slots := 0, locals := 586 })).room.frames ∧ 586 ≤ (headSpec wsS_search ({ frames := 10, cells := 0, slots := 0, locals := 586 })).room.locals := ⟨Nat.le_refl _, Nat.le_refl _⟩
  have hcs : 0 ≤ (headSpec wsS_search ({ frames := 10, cells := 0, slots := 0, locals := 586 })).room.cells ∧ 0 ≤ (headSpec wsS_search ({ frames := 10, cells := 0, slots := 0, locals := 586 })).room.slots := ⟨Nat.zero_le _, Nat.zero_le _⟩
  subst hsz
  have hD := hD0.self (sz := s.heap.size)
  generalize hAe : va_A (wS cI cJ cZ qs tr rp rn rs rk us gl ++ wP cI cJ cZ q bg en sc wd ht oh bt co n) s.heap.size = A at hD ⊢
  have hA : ∀ q : Nat, s.heap.size ≤ q → A q := fun q h => by rw [← hAe]; exact Or.inr h
  obtain ⟨H, hH⟩ : ∃ H, H = s.heap := ⟨_, rfl⟩
  have hS : va_S A s.heap H [] := by rw [hH]; exact va_S.rf
  rw [← hH] at hP ⊢
  have hsv : sB 0 a true < 1099511627776 := sB_lt (w := 40) true (by decide) (by omega)
  have hl := lv_entry ([.ref (qs 0), .ref (q 0), .long (lN us0), .int (nI a), .int (nI b)]) (n := 6) (Nat.le_of_ble_eq_true rfl)
  rw [lg_entry_eq]
  generalize (lg_sl ([.ref (qs 0), .ref (q 0), .long (lN us0), .int (nI a), .int (nI b)]) ++ List.replicate (6 - (lg_sl ([.ref (qs 0), .ref (q 0), .long (lN us0), .int (nI a), .int (nI b)])).length) Slot.unset).toArray = ls at hl ⊢
  have hl : lv_has ls 6 [(0, .ref (qs 0)), (1, .ref (q 0)), (2, .long (lN us0)), (4, .int (nI a)), (5, .int (nI b))] := hl
  refine lv_aload_n hx hb dS_search_0 rfl (lv_at hl 0 rfl) ?_
  refine lv_lload_n hx hb dS_search_1 rfl (lv_at hl 2 rfl) ?_
  refine va_put (D := (dC, dI)) (ci := 3) (v := .long (lN us0)) (ty := .long) (C := nS) (T := TS) (N := 7) hx hb hg inS tS tS_ok nmS hown hK hP hD hS 0 rfl rfl 5 (by decide) (hg _ kS_25) (fun _ h9 => h9) rfl (by decide +kernel) rfl rfl (Nat.le_of_ble_eq_true rfl) dS_search_2 (fun H locs hP hD hS => ?_)
  have hP : va_P (dC, dI) vwCl (wS cI cJ cZ qs tr rp rn rs rk us0 gl ++ wP cI cJ cZ q bg en sc wd ht oh bt co n) H := hP
  have hD : va_D A (wS cI cJ cZ qs tr rp rn rs rk us0 gl ++ wP cI cJ cZ q bg en sc wd ht oh bt co n) := hD
  refine lv_aload_n hx hb dS_search_5 rfl (lv_at hl 0 rfl) ?_
  refine lv_iload hx hb dS_search_6 (lv_at hl 4 rfl) ?_
  refine va_put (D := (dC, dI)) (ci := 3) (v := .int (nI b)) (ty := .int) (C := nS) (T := TS) (N := 7) hx hb hg inS tS tS_ok nmS hown hK hP hD hS 0 rfl rfl 6 (by decide) (hg _ kS_29) (fun _ h9 => h9) rfl (by decide +kernel) rfl rfl (Nat.le_of_ble_eq_true rfl) dS_search_8 (fun H locs hP hD hS => ?_)
  have hP : va_P (dC, dI) vwCl (wS cI cJ cZ qs tr rp rn rs rk us0 b ++ wP cI cJ cZ q bg en sc wd ht oh bt co n) H := hP
  have hD : va_D A (wS cI cJ cZ qs tr rp rn rs rk us0 b ++ wP cI cJ cZ q bg en sc wd ht oh bt co n) := hD
  refine lv_aload_n hx hb dS_search_11 rfl (lv_at hl 0 rfl) ?_
  refine rn_iconst hx hb 0 dS_search_12 (by decide) ?_
  refine va_put (D := (dC, dI)) (ci := 3) (v := .int (nI 0)) (ty := .int) (C := nS) (T := TS) (N := 7) hx hb hg inS tS tS_ok nmS hown hK hP hD hS 0 rfl rfl 4 (by decide) (hg _ kS_33) (fun _ h9 => h9) rfl (by decide +kernel) rfl rfl (Nat.le_of_ble_eq_true rfl) dS_search_13 (fun H locs hP hD hS => ?_)
  have hP : va_P (dC, dI) vwCl (wS cI cJ cZ qs tr rp rn rs 0 us0 b ++ wP cI cJ cZ q bg en sc wd ht oh bt co n) H := hP
  have hD : va_D A (wS cI cJ cZ qs tr rp rn rs 0 us0 b ++ wP cI cJ cZ q bg en sc wd ht oh bt co n) := hD
  refine lv_aload_n hx hb dS_search_16 rfl (lv_at hl 0 rfl) ?_
  refine lv_aload_n hx hb dS_search_17 rfl (lv_at hl 1 rfl) ?_
  refine lv_iload hx hb dS_search_18 (lv_at hl 3 rfl) ?_
  refine rn_iconst hx hb 0 dS_search_20 (by decide) ?_
  refine rn_lconst hx hb 0 dS_search_21 rfl ?_
  refine rn_lconst hx hb 0 dS_search_22 rfl ?_
  refine lv_iload hx hb dS_search_23 (lv_at hl 3 rfl) ?_
  refine rn_iconst hx hb 1 dS_search_25 (by decide) ?_
  refine cpN_l (As := [.long (lN 0), .int (nI a), .int (bI true)]) (rest := [.long (lN 0), .int (nI 0), .int (nI a), .ref (q 0), .ref (qs 0)]) (post := fun r : Int64 => r = lN (sB 0 a true)) ⟨hx, hb, hml, hown, hts⟩ (ct_G_withBit l dC dI cI cJ cZ 0 a true (by omega) (by omega)) ⟨va_cnB 3 hts (gi kc_G_withBit) rfl rfl rfl (hE _ kNS_36) (hg _ kin_G) (by decide +kernel) ⟨Nat.le_trans (by decide) hR.1, Nat.le_trans (by decide) hR.2⟩, hg _ ks_G_withBit, trivial⟩ (hP.sub (ws' := []) [] rfl) hK hE rfl hl.1 rfl (Nat.le_of_ble_eq_true rfl) dS_search_26 hcs (fun r hr => ?_)
  subst hr
  refine kwV_v (D := (dC, dI)) (b := (qs 0)) (C := nS) (As := [.ref (q 0), .int (nI a), .int (nI 0), .long (lN 0), .long (lN (sB 0 a true))]) (rest := []) (wc := (wS cI cJ cZ qs tr rp rn rs 0 us0 b ++ wP cI cJ cZ q bg en sc wd ht oh bt co n)) (wr := []) (w1 := (wS cI cJ cZ qs ((exF bg en sc oh bt us0 b n 5 a 0 (sB 0 a true) (tr, rp, rn, rs, 0)).1) ((exF bg en sc oh bt us0 b n 5 a 0 (sB 0 a true) (tr, rp, rn, rs, 0)).2.1) ((exF bg en sc oh bt us0 b n 5 a 0 (sB 0 a true) (tr, rp, rn, rs, 0)).2.2.1) ((exF bg en sc oh bt us0 b n 5 a 0 (sB 0 a true) (tr, rp, rn, rs, 0)).2.2.2.1) ((exF bg en sc oh bt us0 b n 5 a 0 (sB 0 a true) (tr, rp, rn, rs, 0)).2.2.2.2) us0 b ++ wP cI cJ cZ q bg en sc wd ht oh bt co n)) (wn := (wS cI cJ cZ qs ((exF bg en sc oh bt us0 b n 5 a 0 (sB 0 a true) (tr, rp, rn, rs, 0)).1) ((exF bg en sc oh bt us0 b n 5 a 0 (sB 0 a true) (tr, rp, rn, rs, 0)).2.1) ((exF bg en sc oh bt us0 b n 5 a 0 (sB 0 a true) (tr, rp, rn, rs, 0)).2.2.1) ((exF bg en sc oh bt us0 b n 5 a 0 (sB 0 a true) (tr, rp, rn, rs, 0)).2.2.2.1) ((exF bg en sc oh bt us0 b n 5 a 0 (sB 0 a true) (tr, rp, rn, rs, 0)).2.2.2.2) us0 b ++ wP cI cJ cZ q bg en sc wd ht oh bt co n)) ⟨hx, hb, hml, hown, hts⟩ (ct_S_extend l dC dI cI cJ cZ 5 qs tr rp rn rs 0 us0 b q bg en sc wd ht oh bt co n a 0 0 (sB 0 a true) H.size (by omega) (hrs) (htr) (hrn) (hB) (ha) (hb9) (by omega) (by omega) (by omega) (hus)) (cwV 5 hts (gv kS_40 ki_S_extend ksel_S_extend kin_S kc_S_extend) rfl rfl rfl (by decide +kernel) ⟨Nat.le_trans (by decide) hR.1, Nat.le_trans (by decide) hR.2⟩) (va_recv hK hP (ci := 3) (q0 := 0) rfl rfl) hP hD hK hE hS hA [0, 1, 2, 3, 4, 5, 6, 7, 8, 9, 10, 11, 12] [] [0, 1, 2, 3, 4, 5, 6, 7, 8, 9, 10, 11, 12] rfl (by decide) rfl (by decide) (by decide) rfl (by decide) rfl hl.1 rfl (Nat.le_of_ble_eq_true rfl) dS_search_29 hcs (fun H locs hP hD hS => ?_)
  have hP9 : va_P (dC, dI) vwCl (wS cI cJ cZ qs ((exF bg en sc oh bt us0 b n 5 a 0 (sB 0 a true) (tr, rp, rn, rs, 0)).1) ((exF bg en sc oh bt us0 b n 5 a 0 (sB 0 a true) (tr, rp, rn, rs, 0)).2.1) ((exF bg en sc oh bt us0 b n 5 a 0 (sB 0 a true) (tr, rp, rn, rs, 0)).2.2.1) ((exF bg en sc oh bt us0 b n 5 a 0 (sB 0 a true) (tr, rp, rn, rs, 0)).2.2.2.1) ((exF bg en sc oh bt us0 b n 5 a 0 (sB 0 a true) (tr, rp, rn, rs, 0)).2.2.2.2) us0 b ++ wP cI cJ cZ q bg en sc wd ht oh bt co n) H := by exact hP
  have hD9 : va_D A (wS cI cJ cZ qs ((exF bg en sc oh bt us0 b n 5 a 0 (sB 0 a true) (tr, rp, rn, rs, 0)).1) ((exF bg en sc oh bt us0 b n 5 a 0 (sB 0 a true) (tr, rp, rn, rs, 0)).2.1) ((exF bg en sc oh bt us0 b n 5 a 0 (sB 0 a true) (tr, rp, rn, rs, 0)).2.2.1) ((exF bg en sc oh bt us0 b n 5 a 0 (sB 0 a true) (tr, rp, rn, rs, 0)).2.2.2.1) ((exF bg en sc oh bt us0 b n 5 a 0 (sB 0 a true) (tr, rp, rn, rs, 0)).2.2.2.2) us0 b ++ wP cI cJ cZ q bg en sc wd ht oh bt co n) := by exact hD
  exact W.vret hx hb hr (fun t ht hW => ⟨⟨(), rfl, trivial, by rw [ht]; exact hP9, va_K.moved hW.alike hK, hD9⟩, hS.F ht⟩) hS.2.2 dS_search_32
end
