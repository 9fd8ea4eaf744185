/-! ===== rows for the reference: boolean arrays, bits of an int ===== -/
section RowsM
variable {p : Program} {l : Launch} {e : Env} {R : Room} {s : State} {m : MethodId} {args : Array Value} {below : List Frame} {meth : Method} {c : Code} {H H0 : Heap} {locs : List Loc} {cells slots : Nat} {Q : State → Prop}
variable {cc : ByteArray} {pc : Nat} {ls : Array Slot} {rest : List Value} {D : va_G} {cl : List vw_C} {tys : List (ClassId × FieldType)} {ws : va_W} {a : Nat} {A : Nat → Prop}
theorem ga_b (hexec : p.tables.exec = Jvm.exec) (hb : c.code = cc) (hK : va_K D cl tys s) (hP : va_P D cl ws H) (q0 t0 : Nat) {cA : ClassId} {n k : Nat} {f : Nat → Bool} (ha : ws[q0]? = some (a, .inl (cA, n, .inl (fun j => bI (f j))))) (ht : tys[t0]? = some (cA, .boolean)) (hk : k < n) (hn : n < 2 ^ 31) (hdg : decode cc pc = .ok (.baload, 1))
    (kk : W p l e R s m args below meth c H locs cells slots Q (F0 m (pc + 1) ls (.int (bI (f k)) :: rest))) : W p l e R s m args below meth c H locs cells slots Q (F0 m pc ls (.int (nI k) :: .ref a :: rest)) := by
  refine va_zald hexec hb hK hP q0 t0 ha ht (vp_in_nI hk hn) hdg ?_
  rw [nI_clamp (by omega)]
  exact kk
theorem en_b (f : Nat → Bool) (k : Nat) (v : Bool) : upd (fun j => bI (f j)) k (vp_nar .boolean (bI v)) = fun j => bI (va_up f k v j) := by
  have e : vp_nar .boolean (bI v) = bI v := by cases v <;> decide
  rw [e]
  funext j
  by_cases h : j = k
  · simp [upd, va_up, h]
  · simp [upd, va_up, h]
theorem sa_b (hexec : p.tables.exec = Jvm.exec) (hb : c.code = cc) (hK : va_K D cl tys s) (hP : va_P D cl ws H) (hD : va_D A ws) (hS : va_S A H0 H locs) (q0 t0 : Nat) {cA : ClassId} {n k : Nat} {v : Bool} {f : Nat → Bool} (ha : ws[q0]? = some (a, .inl (cA, n, .inl (fun j => bI (f j))))) (ht : tys[t0]? = some (cA, .boolean)) (hk : k < n) (hn : n < 2 ^ 31) (hdg : decode cc pc = .ok (.bastore, 1))
    (kk : ∀ (H1 : Heap) (locs1 : List Loc), va_P D cl (ws.set q0 (a, .inl (cA, n, .inl (fun j => bI (va_up f k v j))))) H1 → va_D A (ws.set q0 (a, .inl (cA, n, .inl (fun j => bI (va_up f k v j))))) → va_S A H0 H1 locs1 → W p l e R s m args below meth c H1 locs1 cells slots Q (F0 m (pc + 1) ls rest)) : W p l e R s m args below meth c H locs cells slots Q (F0 m pc ls (.int (bI v) :: .int (nI k) :: .ref a :: rest)) := by
  refine va_zast hexec hb hK hP hD hS q0 t0 ha ht (vp_in_nI hk hn) hdg ?_
  rw [nI_clamp (by omega), en_b]
  exact kk
theorem ib_inj {a b : Int32} (h : a.toBitVec = b.toBitVec) : a = b := Int32.toBitVec_inj.mp h
theorem ib_n (n : Nat) : (nI n).toBitVec = BitVec.ofNat 32 n := rfl
theorem nI_or (a b : Nat) : nI a ||| nI b = nI (a ||| b) := by
  apply ib_inj
  rw [Int32.toBitVec_or, ib_n, ib_n, ib_n]
  apply BitVec.eq_of_getLsbD_eq
  intro i hi
  simp [BitVec.getLsbD_ofNat, hi]
theorem nI_31 {k : Nat} (h : k < 32) : nI k &&& 31 = nI k := by
  have := nI_m (k := 5) k (q := 31) (by decide) (by decide)
  rw [show nI 31 = (31 : Int32) from rfl] at this
  rw [this, Nat.mod_eq_of_lt (by omega)]
theorem nI_nbv {n : Nat} (h : n < 2 ^ 32) : (nI n).toBitVec.toNat = n := by rw [ib_n, BitVec.toNat_ofNat, Nat.mod_eq_of_lt h]
theorem smod_nI {k : Nat} (h : k < 32) : ((nI k).toBitVec.smod 32).toNat = k := by
  have : ∀ k : Fin 32, ((nI k.val).toBitVec.smod 32).toNat = k.val := by decide
  exact this ⟨k, h⟩
theorem nI_shr {x k : Nat} (hx : x < 2 ^ 31) (hk : k < 32) : nI x >>> (nI k &&& 31) = nI (x / 2 ^ k) := by
  rw [nI_31 hk]
  apply ib_inj
  rw [Int32.toBitVec_shiftRight, BitVec.sshiftRight', smod_nI hk, ib_n x, ib_n (x / 2 ^ k)]
  apply BitVec.eq_of_toNat_eq
  rw [BitVec.sshiftRight_eq_of_msb_false (by rw [BitVec.msb_eq_decide]; simp only [BitVec.toNat_ofNat]; rw [Nat.mod_eq_of_lt (by omega)]; simp; omega)]
  rw [BitVec.toNat_ushiftRight, BitVec.toNat_ofNat, BitVec.toNat_ofNat, Nat.shiftRight_eq_div_pow, Nat.mod_eq_of_lt (show x < 2 ^ 32 by omega), Nat.mod_eq_of_lt]
  have := Nat.div_le_self x (2 ^ k)
  omega
theorem nI_shl1 {k : Nat} (hk : k < 31) : nI 1 <<< (nI k &&& 31) = nI (2 ^ k) := by
  have : ∀ k : Fin 31, nI 1 <<< (nI k.val &&& 31) = nI (2 ^ k.val) := by decide
  exact this ⟨k, hk⟩
theorem rn_ishr (hexec : p.tables.exec = Jvm.exec) (hb : c.code = cc) {x y : Nat} (hdg : decode cc pc = .ok (.ishr, 1)) (hx : x < 2 ^ 31) (hy : y < 32)
    (k : W p l e R s m args below meth c H locs cells slots Q (F0 m (pc + 1) ls (.int (nI (x / 2 ^ y)) :: rest))) : W p l e R s m args below meth c H locs cells slots Q (F0 m pc ls (.int (nI y) :: .int (nI x) :: rest)) := by
  refine lv_ishr hexec hb hdg ?_
  rw [nI_shr hx hy]; exact k
theorem rn_ishl1 (hexec : p.tables.exec = Jvm.exec) (hb : c.code = cc) {y : Nat} (hdg : decode cc pc = .ok (.ishl, 1)) (hy : y < 31)
    (k : W p l e R s m args below meth c H locs cells slots Q (F0 m (pc + 1) ls (.int (nI (2 ^ y)) :: rest))) : W p l e R s m args below meth c H locs cells slots Q (F0 m pc ls (.int (nI y) :: .int (nI 1) :: rest)) := by
  refine lv_ishl hexec hb hdg ?_
  rw [nI_shl1 hy]; exact k
theorem rn_ior (hexec : p.tables.exec = Jvm.exec) (hb : c.code = cc) {x y : Nat} (hdg : decode cc pc = .ok (.ior, 1))
    (k : W p l e R s m args below meth c H locs cells slots Q (F0 m (pc + 1) ls (.int (nI (x ||| y)) :: rest))) : W p l e R s m args below meth c H locs cells slots Q (F0 m pc ls (.int (nI y) :: .int (nI x) :: rest)) := by
  refine lv_ior hexec hb hdg ?_
  rw [nI_or]; exact k
theorem nI_off {a k : Nat} (ha : a < 16777216) (hk : k < 24) : nI a &&& (nI (2 ^ k) ^^^ (-1)) = nI (sB a k false) := by
  apply ib_inj
  rw [Int32.toBitVec_and, Int32.toBitVec_xor, ib_n, ib_n, ib_n]
  apply BitVec.eq_of_getLsbD_eq
  intro i hi
  have e : (-1 : Int32).toBitVec = BitVec.allOnes 32 := by decide
  rw [e]
  simp only [BitVec.getLsbD_and, BitVec.getLsbD_xor, BitVec.getLsbD_ofNat, BitVec.getLsbD_allOnes, hi, decide_true, Bool.true_and, Bool.xor_true]
  rw [sB_tb false (by omega) (by omega), Nat.testBit_two_pow]
  by_cases h : i = k
  · subst h; simp
  · simp [h, Ne.symm h]
end RowsM
theorem tb_bit {x k : Nat} : x / 2 ^ k % 2 = (x.testBit k).toNat := by
  rw [← tb_div, Nat.and_one_is_mod]
theorem op_of {x : Nat} (h0 : x ≠ 0) (h1 : x < 16777216) : ∃ k, k < 24 ∧ x.testBit k = true := by
  obtain ⟨k, hk⟩ := Nat.exists_testBit_of_ne_zero h0
  refine ⟨k, ?_, hk⟩
  by_cases q : k < 24
  · exact q
  · exfalso
    have : x.testBit k = false := Nat.testBit_lt_two_pow (Nat.lt_of_lt_of_le h1 (Nat.pow_le_pow_right (n := 2) (by decide) (show 24 ≤ k by omega)))
    rw [this] at hk
    exact absurd hk (by decide)
def NVm : Nat := 18446744073709551615
theorem nv_of {v : Nat} (h : v < 18446744073709551616) : lN v = -1 ↔ v = NVm := by
  constructor
  · intro q
    have e := congrArg (fun z : Int64 => z.toBitVec.toNat) q
    simp only [wb_tn h] at e
    rw [e]; rfl
  · intro q; rw [q]; rfl
theorem tb_eqM {x : Int32} {kc : Nat} (h : kc ≤ 40) : wiB x.toInt64 (lN 0) (nI kc - nI 1).toInt64 = inB x kc := by
  have e : (nI kc - nI 1).toInt = (kc : Int) - 1 := by
    rw [Int32.toInt_sub, nI_toInt (by omega), nI_toInt (by omega)]
    rw [Int.bmod_eq_of_le (by omega) (by omega)]
    rfl
  unfold wiB inB
  rw [decide_eq_decide, Int64.le_iff_toInt_le, Int64.le_iff_toInt_le, Int32.le_iff_toInt_le, Int32.lt_iff_toInt_lt, pk_lT (by omega), Int32.toInt_toInt64, Int32.toInt_toInt64, e, nI_toInt (by omega), Int32.toInt_zero]
  omega
def cntB (f : Nat → Bool) : Nat → Nat
  | 0 => 0
  | k + 1 => cntB f k + (f k).toNat
theorem cnt_t {f : Nat → Bool} {s i : Nat} (h : s = cntB f i) (c : f i = true) : s + 1 = cntB f (i + 1) := by simp [cntB, h, c]
theorem cnt_f {f : Nat → Bool} {s i : Nat} (h : s = cntB f i) (c : f i = false) : s + 0 = cntB f (i + 1) := by simp [cntB, h, c]
abbrev wM (cI cJ cZ : ClassId) (qm lv bg en sc wd ht : Nat → Nat) (sh : Nat → Bool) (oh : Nat → Nat) (ba : Nat → Bool) (mw mh mk rm nm bs bc bp on wh : Nat → Nat) (cd pc n mc kc sl fo : Nat) : va_W :=
  [(qm 0, .inr (5, [.int (nI cd), .int (nI pc), .ref (qm 1), .int (nI n), .ref (qm 2), .ref (qm 3), .ref (qm 4), .ref (qm 5), .ref (qm 6), .ref (qm 7), .ref (qm 8), .ref (qm 9), .int (nI mc), .ref (qm 10), .ref (qm 11), .int (nI kc), .ref (qm 12), .ref (qm 13), .ref (qm 14), .int (nI sl), .ref (qm 15), .ref (qm 16), .ref (qm 17), .int (nI fo), .ref (qm 18), .ref (qm 19)])),
   (qm 1, .inl (cI, 20, .inl (fun j => nI (lv j)))), (qm 2, .inl (cI, 40, .inl (fun j => nI (bg j)))), (qm 3, .inl (cI, 40, .inl (fun j => nI (en j)))), (qm 4, .inl (cJ, 40, .inr (.inl (fun j => lN (sc j))))), (qm 5, .inl (cI, 40, .inl (fun j => nI (wd j)))), (qm 6, .inl (cI, 40, .inl (fun j => nI (ht j)))), (qm 7, .inl (cZ, 40, .inl (fun j => bI (sh j)))), (qm 8, .inl (cI, 40, .inl (fun j => nI (oh j)))), (qm 9, .inl (cZ, 1600, .inl (fun j => bI (ba j)))), (qm 10, .inl (cI, 6, .inl (fun j => nI (mw j)))), (qm 11, .inl (cI, 6, .inl (fun j => nI (mh j)))), (qm 12, .inl (cI, 8, .inl (fun j => nI (mk j)))), (qm 13, .inl (cJ, 40, .inr (.inl (fun j => lN (rm j))))), (qm 14, .inl (cI, 40, .inl (fun j => nI (nm j)))), (qm 15, .inl (cJ, 5, .inr (.inl (fun j => lN (bs j))))), (qm 16, .inl (cI, 5, .inl (fun j => nI (bc j)))), (qm 17, .inl (cI, 25, .inl (fun j => nI (bp j)))), (qm 18, .inl (cI, 6, .inl (fun j => nI (on j)))), (qm 19, .inl (cJ, 6, .inr (.inl (fun j => lN (wh j)))))]
