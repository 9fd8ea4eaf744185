section RowsB
variable {p : Program} {l : Launch} {e : Env} {R : Room} {s : State} {m : MethodId} {args : Array Value} {below : List Frame} {meth : Method} {c : Code} {H : Heap} {locs : List Loc} {cells slots : Nat} {Q : State → Prop}
variable {cc : ByteArray} {pc : Nat} {ls : Array Slot} {rest : List Value}
theorem nI_m {k : Nat} (n : Nat) {q : Nat} (hk : k ≤ 31) (hq : (nI q).toBitVec.toNat = 2 ^ k - 1) : nI n &&& nI q = nI (n % 2 ^ k) := by
  rw [pk_and (nI n) k hq]
  have h : (nI n).toBitVec.toNat = n % 2 ^ 32 := by show (BitVec.ofNat 32 n).toNat = _; rw [BitVec.toNat_ofNat]
  rw [h]
  have hd : 2 ^ k ∣ 2 ^ 32 := Nat.pow_dvd_pow 2 (by omega)
  rw [Nat.mod_mod_of_dvd n hd]
theorem rn_iand127 (hexec : p.tables.exec = Jvm.exec) (hb : c.code = cc) {x : Nat} (hdg : decode cc pc = .ok (.iand, 1))
    (k : W p l e R s m args below meth c H locs cells slots Q (F0 m (pc + 1) ls (.int (nI (x % 128)) :: rest))) : W p l e R s m args below meth c H locs cells slots Q (F0 m pc ls (.int (nI 127) :: .int (nI x) :: rest)) := by
  refine lv_iand hexec hb hdg ?_
  rw [nI_m (k := 7) x (by decide) (by decide)]; exact k
theorem rn_iand15 (hexec : p.tables.exec = Jvm.exec) (hb : c.code = cc) {x : Nat} (hdg : decode cc pc = .ok (.iand, 1))
    (k : W p l e R s m args below meth c H locs cells slots Q (F0 m (pc + 1) ls (.int (nI (x % 16)) :: rest))) : W p l e R s m args below meth c H locs cells slots Q (F0 m pc ls (.int (nI 15) :: .int (nI x) :: rest)) := by
  refine lv_iand hexec hb hdg ?_
  rw [nI_m (k := 4) x (by decide) (by decide)]; exact k
theorem rn_iand1 (hexec : p.tables.exec = Jvm.exec) (hb : c.code = cc) {x : Nat} (hdg : decode cc pc = .ok (.iand, 1))
    (k : W p l e R s m args below meth c H locs cells slots Q (F0 m (pc + 1) ls (.int (nI (x % 2)) :: rest))) : W p l e R s m args below meth c H locs cells slots Q (F0 m pc ls (.int (nI 1) :: .int (nI x) :: rest)) := by
  refine lv_iand hexec hb hdg ?_
  rw [nI_m (k := 1) x (by decide) (by decide)]; exact k
end RowsB
