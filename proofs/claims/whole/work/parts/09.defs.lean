/-! ===== worlds of the class ===== -/
def oI (o : Option Nat) : Int32 := match o with
  | none => -1
  | some i => nI i
abbrev tyE (cI cJ cZ : ClassId) : List (ClassId × FieldType) := [(cI, .int), (cJ, .long), (cZ, .boolean)]
abbrev wP (cI cJ cZ : ClassId) (q : Nat → Nat) (bg en sc wd ht oh bt : Nat → Nat) (co n : Nat) : va_W :=
  [(q 0, .inr (1, [.ref (q 1), .ref (q 2), .ref (q 3), .ref (q 4), .ref (q 5), .ref (q 6), .ref (q 7), .long (lN co), .int (nI n)])), (q 1, .inl (cI, 40, .inl (fun j => nI (bg j)))), (q 2, .inl (cI, 40, .inl (fun j => nI (en j)))), (q 3, .inl (cJ, 40, .inr (.inl (fun j => lN (sc j))))), (q 4, .inl (cI, 40, .inl (fun j => nI (wd j)))), (q 5, .inl (cJ, 40, .inr (.inl (fun j => lN (ht j))))), (q 6, .inl (cJ, 40, .inr (.inl (fun j => lN (oh j))))), (q 7, .inl (cJ, 40, .inr (.inl (fun j => lN (bt j)))))]
/-- the bounds of what the pieces' cells hold -/
def bP (bg en sc wd ht oh bt : Nat → Nat) (co n : Nat) : Prop := n ≤ 40 ∧ co < 1099511627776 ∧ ∀ i, bg i < 20 ∧ en i < 20 ∧ sc i ≤ 10000000 ∧ wd i ≤ 10000 ∧ ht i ≤ 10000 ∧ oh i < 16777216 ∧ bt i < 1099511627776
theorem gi {A : Cond} {y : MethodName} {b : ByteArray} {n : Nat} {r : Option FieldType} (h : Cond.code y b n r ∈ gw) : GoodIn (A :: gw) (Cond.code y b n r :: gw) := fun w hw => by
  rcases List.mem_cons.mp hw with rfl | h2
  · exact ⟨List.mem_cons_of_mem _ h, gw_g h⟩
  · exact ⟨List.mem_cons_of_mem _ h2, gw_g h2⟩
theorem gv {A : Cond} {own C : String} {idx : Nat} {y : MethodName} {b : ByteArray} {n : Nat} {r : Option FieldType} (h1 : Cond.methodLink own idx y ∈ gw) (h2 : Cond.instanceMethod y ∈ gw) (h3 : Cond.selects C y y ∈ gw) (h4 : Cond.initialized C ∈ gw) (h : Cond.code y b n r ∈ gw) : GoodIn (A :: gw) (wsV own idx C y (Cond.code y b n r :: gw)) := fun w hw => by
  have hm : w ∈ gw := by
    simp only [wsV, List.cons_append, List.nil_append, List.mem_cons] at hw
    rcases hw with rfl | rfl | rfl | rfl | rfl | hw
    · exact h1
    · exact h2
    · exact h3
    · exact h4
    · exact h
    · exact hw
  exact ⟨List.mem_cons_of_mem _ hm, gw_g hm⟩
theorem gs {A : Cond} {own : String} {idx : Nat} {y : MethodName} {b : ByteArray} {n : Nat} {r : Option FieldType} (h1 : Cond.methodLink own idx y ∈ gw) (h2 : Cond.static y ∈ gw) (h4 : Cond.initialized y.cls ∈ gw) (h : Cond.code y b n r ∈ gw) : GoodIn (A :: gw) (va_wsS own idx y (Cond.code y b n r :: gw)) := fun w hw => by
  have hm : w ∈ gw := by
    simp only [va_wsS, List.cons_append, List.nil_append, List.mem_cons] at hw
    rcases hw with rfl | rfl | rfl | rfl | hw
    · exact h1
    · exact h2
    · exact h4
    · exact h
    · exact hw
  exact ⟨List.mem_cons_of_mem _ hm, gw_g hm⟩
