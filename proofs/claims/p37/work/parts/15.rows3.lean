section TYJ
variable {p : Program} {l : Launch} {e : Env} {R : Room} {s : State} {m : MethodId} {args : Array Value} {below : List Frame} {meth : Method} {c : Code} {H H0 : Heap} {locs : List Loc} {cells slots : Nat} {Q : State → Prop}
variable {cc : ByteArray} {pc : Nat} {ls : Array Slot} {rest : List Value} {z : Zt} {A : Nat → Prop} {a o index : Nat} {σ : Sg} {Ts : List Cond} {own : String}
variable {x y : Int32} {u v : Int64}
theorem o_i (x : Int32) : Int32.ofInt x.toInt = x := Int32.ofInt_toInt x
theorem o_l (x : Int64) : Int64.ofInt x.toInt = x := Int64.ofInt_toInt x
theorem x_iadd (hx : p.tables.exec = Jvm.exec) (hb : c.code = cc) (hdg : decode cc pc = .ok (.iadd, 1)) (kk : ∀ w : Int32, w.toInt = w32 (x.toInt + y.toInt) → W p l e R s m args below meth c H locs cells slots Q (F0 m (pc + 1) ls (.int w :: rest))) : W p l e R s m args below meth c H locs cells slots Q (F0 m pc ls (.int y :: .int x :: rest)) := lv_iadd hx hb hdg (kk _ (by unfold w32; rw [Int32.ofInt_add, o_i, o_i]))
theorem x_isub (hx : p.tables.exec = Jvm.exec) (hb : c.code = cc) (hdg : decode cc pc = .ok (.isub, 1)) (kk : ∀ w : Int32, w.toInt = w32 (x.toInt - y.toInt) → W p l e R s m args below meth c H locs cells slots Q (F0 m (pc + 1) ls (.int w :: rest))) : W p l e R s m args below meth c H locs cells slots Q (F0 m pc ls (.int y :: .int x :: rest)) := lv_isub hx hb hdg (kk _ (by unfold w32; rw [Int32.ofInt_sub, o_i, o_i]))
theorem x_imul (hx : p.tables.exec = Jvm.exec) (hb : c.code = cc) (hdg : decode cc pc = .ok (.imul, 1)) (kk : ∀ w : Int32, w.toInt = w32 (x.toInt * y.toInt) → W p l e R s m args below meth c H locs cells slots Q (F0 m (pc + 1) ls (.int w :: rest))) : W p l e R s m args below meth c H locs cells slots Q (F0 m pc ls (.int y :: .int x :: rest)) := lv_imul hx hb hdg (kk _ (by unfold w32; rw [Int32.ofInt_mul, o_i, o_i]))
theorem x_iand (hx : p.tables.exec = Jvm.exec) (hb : c.code = cc) (hdg : decode cc pc = .ok (.iand, 1)) (kk : ∀ w : Int32, w.toInt = b_and x.toInt y.toInt → W p l e R s m args below meth c H locs cells slots Q (F0 m (pc + 1) ls (.int w :: rest))) : W p l e R s m args below meth c H locs cells slots Q (F0 m pc ls (.int y :: .int x :: rest)) := lv_iand hx hb hdg (kk _ (by unfold b_and; rw [o_i, o_i]))
theorem x_ior (hx : p.tables.exec = Jvm.exec) (hb : c.code = cc) (hdg : decode cc pc = .ok (.ior, 1)) (kk : ∀ w : Int32, w.toInt = b_or x.toInt y.toInt → W p l e R s m args below meth c H locs cells slots Q (F0 m (pc + 1) ls (.int w :: rest))) : W p l e R s m args below meth c H locs cells slots Q (F0 m pc ls (.int y :: .int x :: rest)) := lv_ior hx hb hdg (kk _ (by unfold b_or; rw [o_i, o_i]))
theorem x_ixor (hx : p.tables.exec = Jvm.exec) (hb : c.code = cc) (hdg : decode cc pc = .ok (.ixor, 1)) (kk : ∀ w : Int32, w.toInt = b_xor x.toInt y.toInt → W p l e R s m args below meth c H locs cells slots Q (F0 m (pc + 1) ls (.int w :: rest))) : W p l e R s m args below meth c H locs cells slots Q (F0 m pc ls (.int y :: .int x :: rest)) := lv_ixor hx hb hdg (kk _ (by unfold b_xor; rw [o_i, o_i]))
theorem x_ishl (hx : p.tables.exec = Jvm.exec) (hb : c.code = cc) (hdg : decode cc pc = .ok (.ishl, 1)) (kk : ∀ w : Int32, w.toInt = b_shl x.toInt y.toInt → W p l e R s m args below meth c H locs cells slots Q (F0 m (pc + 1) ls (.int w :: rest))) : W p l e R s m args below meth c H locs cells slots Q (F0 m pc ls (.int y :: .int x :: rest)) := lv_ishl hx hb hdg (kk _ (by unfold b_shl; rw [o_i, o_i]))
theorem x_ishr (hx : p.tables.exec = Jvm.exec) (hb : c.code = cc) (hdg : decode cc pc = .ok (.ishr, 1)) (kk : ∀ w : Int32, w.toInt = b_shr x.toInt y.toInt → W p l e R s m args below meth c H locs cells slots Q (F0 m (pc + 1) ls (.int w :: rest))) : W p l e R s m args below meth c H locs cells slots Q (F0 m pc ls (.int y :: .int x :: rest)) := lv_ishr hx hb hdg (kk _ (by unfold b_shr; rw [o_i, o_i]))
theorem x_iushr (hx : p.tables.exec = Jvm.exec) (hb : c.code = cc) (hdg : decode cc pc = .ok (.iushr, 1)) (kk : ∀ w : Int32, w.toInt = b_ushr x.toInt y.toInt → W p l e R s m args below meth c H locs cells slots Q (F0 m (pc + 1) ls (.int w :: rest))) : W p l e R s m args below meth c H locs cells slots Q (F0 m pc ls (.int y :: .int x :: rest)) := lv_iushr hx hb hdg rfl (kk _ (by unfold b_ushr; rw [o_i, o_i]))
theorem x_i2b (hx : p.tables.exec = Jvm.exec) (hb : c.code = cc) (hdg : decode cc pc = .ok (.i2b, 1)) (kk : ∀ w : Int32, w.toInt = b_i2b x.toInt → W p l e R s m args below meth c H locs cells slots Q (F0 m (pc + 1) ls (.int w :: rest))) : W p l e R s m args below meth c H locs cells slots Q (F0 m pc ls (.int x :: rest)) := lv_i2b hx hb hdg rfl (kk _ (by unfold b_i2b; rw [o_i]))
theorem x_i2s (hx : p.tables.exec = Jvm.exec) (hb : c.code = cc) (hdg : decode cc pc = .ok (.i2s, 1)) (kk : ∀ w : Int32, w.toInt = b_i2s x.toInt → W p l e R s m args below meth c H locs cells slots Q (F0 m (pc + 1) ls (.int w :: rest))) : W p l e R s m args below meth c H locs cells slots Q (F0 m pc ls (.int x :: rest)) := lv_i2s hx hb hdg rfl (kk _ (by unfold b_i2s; rw [o_i]))
theorem x_i2c (hx : p.tables.exec = Jvm.exec) (hb : c.code = cc) (hdg : decode cc pc = .ok (.i2c, 1)) (kk : ∀ w : Int32, w.toInt = b_i2c x.toInt → W p l e R s m args below meth c H locs cells slots Q (F0 m (pc + 1) ls (.int w :: rest))) : W p l e R s m args below meth c H locs cells slots Q (F0 m pc ls (.int x :: rest)) := lv_i2c hx hb hdg rfl (kk _ (by unfold b_i2c; rw [o_i]))
theorem and_b {x y : Int32} (h : 0 ≤ y.toInt) : 0 ≤ (x &&& y).toInt ∧ (x &&& y).toInt ≤ y.toInt := by
  obtain ⟨j, h1, h2, h3⟩ := i_nI h
  have e : (x &&& y).toBitVec.toNat = x.toBitVec.toNat &&& y.toBitVec.toNat := rfl
  have hy : y.toBitVec.toNat = j := by rw [h2]; exact pk_tn (by omega)
  have hle : (x &&& y).toBitVec.toNat ≤ j := by rw [e, hy]; exact Nat.and_le_right
  have ht : (x &&& y).toInt = ((x &&& y).toBitVec.toNat : Int) := by
    show (x &&& y).toBitVec.toInt = _
    rw [BitVec.toInt_eq_toNat_of_lt (by omega)]
  omega
theorem x_iandr (hx : p.tables.exec = Jvm.exec) (hb : c.code = cc) (hdg : decode cc pc = .ok (.iand, 1)) (h : 0 ≤ y.toInt) (kk : ∀ w : Int32, w.toInt = b_and x.toInt y.toInt → 0 ≤ w.toInt → w.toInt ≤ y.toInt → W p l e R s m args below meth c H locs cells slots Q (F0 m (pc + 1) ls (.int w :: rest))) : W p l e R s m args below meth c H locs cells slots Q (F0 m pc ls (.int y :: .int x :: rest)) := lv_iand hx hb hdg (kk _ (by unfold b_and; rw [o_i, o_i]) (and_b h).1 (and_b h).2)
theorem x_shl1 (hx : p.tables.exec = Jvm.exec) (hb : c.code = cc) (hdg : decode cc pc = .ok (.ishl, 1)) (h1 : x.toInt = 1) (h2 : 0 ≤ y.toInt) (h3 : y.toInt ≤ 8) (kk : ∀ w : Int32, w.toInt = b_shl x.toInt y.toInt → 1 ≤ w.toInt → w.toInt ≤ 256 → W p l e R s m args below meth c H locs cells slots Q (F0 m (pc + 1) ls (.int w :: rest))) : W p l e R s m args below meth c H locs cells slots Q (F0 m pc ls (.int y :: .int x :: rest)) := lv_ishl hx hb hdg (kk _ (by unfold b_shl; rw [o_i, o_i]) (by rw [i_shl h1 h2 h3]; exact (i_pw h2 h3).1) (by rw [i_shl h1 h2 h3]; exact (i_pw h2 h3).2))
theorem x_ladd (hx : p.tables.exec = Jvm.exec) (hb : c.code = cc) (hdg : decode cc pc = .ok (.ladd, 1)) (kk : ∀ w : Int64, w.toInt = w64 (u.toInt + v.toInt) → W p l e R s m args below meth c H locs cells slots Q (F0 m (pc + 1) ls (.long w :: rest))) : W p l e R s m args below meth c H locs cells slots Q (F0 m pc ls (.long v :: .long u :: rest)) := lv_ladd hx hb hdg (kk _ (by unfold w64; rw [Int64.ofInt_add, o_l, o_l]))
theorem x_lsub (hx : p.tables.exec = Jvm.exec) (hb : c.code = cc) (hdg : decode cc pc = .ok (.lsub, 1)) (kk : ∀ w : Int64, w.toInt = w64 (u.toInt - v.toInt) → W p l e R s m args below meth c H locs cells slots Q (F0 m (pc + 1) ls (.long w :: rest))) : W p l e R s m args below meth c H locs cells slots Q (F0 m pc ls (.long v :: .long u :: rest)) := lv_lsub hx hb hdg (kk _ (by unfold w64; rw [Int64.ofInt_sub, o_l, o_l]))
theorem x_lmul (hx : p.tables.exec = Jvm.exec) (hb : c.code = cc) (hdg : decode cc pc = .ok (.lmul, 1)) (kk : ∀ w : Int64, w.toInt = w64 (u.toInt * v.toInt) → W p l e R s m args below meth c H locs cells slots Q (F0 m (pc + 1) ls (.long w :: rest))) : W p l e R s m args below meth c H locs cells slots Q (F0 m pc ls (.long v :: .long u :: rest)) := lv_lmul hx hb hdg (kk _ (by unfold w64; rw [Int64.ofInt_mul, o_l, o_l]))
theorem l_divx (u v : Int64) : (u / v).toInt = w64 (u.toInt.tdiv v.toInt) := by
  unfold w64
  rw [Int64.toInt_div, Int64.toInt_ofInt]
theorem l_remx {x y : Int64} (h : y.toInt ≠ 0) : (x - x / y * y).toInt = x.toInt.tmod y.toInt := by
  rw [Int64.toInt_sub, Int64.toInt_mul, Int64.toInt_div]
  have h1 : ((x.toInt.tdiv y.toInt).bmod (2 ^ 64) * y.toInt).bmod (2 ^ 64) = (x.toInt.tdiv y.toInt * y.toInt).bmod (2 ^ 64) := Int.bmod_mul_bmod ..
  rw [h1]
  have h2 : (x.toInt - (x.toInt.tdiv y.toInt * y.toInt).bmod (2 ^ 64)).bmod (2 ^ 64) = (x.toInt - x.toInt.tdiv y.toInt * y.toInt).bmod (2 ^ 64) := Int.sub_bmod_bmod
  rw [h2]
  have h3 : x.toInt - x.toInt.tdiv y.toInt * y.toInt = x.toInt.tmod y.toInt := by
    have := Int.tmod_def x.toInt y.toInt
    rw [this, Int.mul_comm]
  rw [h3]
  have h4 : (x.toInt.tmod y.toInt).natAbs < y.toInt.natAbs := by rw [Int.natAbs_tmod]; exact Nat.mod_lt _ (by omega)
  have h5 := y.le_toInt
  have h6 := y.toInt_lt
  exact Int.bmod_eq_of_le (by omega) (by omega)
theorem x_ldiv (hx : p.tables.exec = Jvm.exec) (hb : c.code = cc) (hdg : decode cc pc = .ok (.ldiv, 1)) (h : v.toInt ≠ 0) (kk : ∀ w : Int64, w.toInt = w64 (u.toInt.tdiv v.toInt) → W p l e R s m args below meth c H locs cells slots Q (F0 m (pc + 1) ls (.long w :: rest))) : W p l e R s m args below meth c H locs cells slots Q (F0 m pc ls (.long v :: .long u :: rest)) := lv_ldiv hx hb hdg (l_ne0 h) (kk _ (l_divx u v))
theorem x_lrem (hx : p.tables.exec = Jvm.exec) (hb : c.code = cc) (hdg : decode cc pc = .ok (.lrem, 1)) (h : v.toInt ≠ 0) (kk : ∀ w : Int64, w.toInt = u.toInt.tmod v.toInt → W p l e R s m args below meth c H locs cells slots Q (F0 m (pc + 1) ls (.long w :: rest))) : W p l e R s m args below meth c H locs cells slots Q (F0 m pc ls (.long v :: .long u :: rest)) := lv_lrem hx hb hdg (l_ne0 h) (kk _ (l_remx h))
theorem l_cmx (u v : Int64) : (lg_cmp u v).toInt = l_cm u.toInt v.toInt := by
  obtain ⟨h1, h2, h3⟩ := l_cmp u v
  unfold l_cm
  by_cases a : u.toInt < v.toInt
  · rw [if_pos a]; exact h1 a
  · rw [if_neg a]
    by_cases b : u.toInt = v.toInt
    · rw [if_pos b]; exact h2 b
    · rw [if_neg b]; exact h3 (by omega)
theorem x_lcmp (hx : p.tables.exec = Jvm.exec) (hb : c.code = cc) (hdg : decode cc pc = .ok (.lcmp, 1)) (kk : ∀ w : Int32, w.toInt = l_cm u.toInt v.toInt → (u.toInt < v.toInt → w.toInt = -1) → (u.toInt = v.toInt → w.toInt = 0) → (v.toInt < u.toInt → w.toInt = 1) → W p l e R s m args below meth c H locs cells slots Q (F0 m (pc + 1) ls (.int w :: rest))) : W p l e R s m args below meth c H locs cells slots Q (F0 m pc ls (.long v :: .long u :: rest)) := W.lcmp hx hb hdg (kk _ (l_cmx u v) (l_cmp u v).1 (l_cmp u v).2.1 (l_cmp u v).2.2)
theorem x_iinc {i nL k : Nat} {n : Int} {x : Int32} {lv : List (Nat × Value)} {lv' : Int32 → List (Nat × Value)} (hx : p.tables.exec = Jvm.exec) (hb : c.code = cc) (hdg : decode cc pc = .ok (.iinc i n, 3)) (h : lv_has ls nL lv) (hk : lv[k]? = some (i, .int x)) (hn : i < nL) (hl : ∀ v : Int32, (i, Value.int v) :: lv.filter (fun q => !(q.1 == i) && !(q.1 + 1 == i && q.2.category == 2)) = lv' v) (hr : -2147483648 ≤ n ∧ n ≤ 2147483647) (kk : ∀ (v : Int32) (ls' : Array Slot), v.toInt = w32 (x.toInt + n) → lv_has ls' nL (lv' v) → W p l e R s m args below meth c H locs cells slots Q (F0 m (pc + 3) ls' rest)) : W p l e R s m args below meth c H locs cells slots Q (F0 m pc ls (rest)) := by
  refine lv_iinc hx hb hdg h hk rfl hn (hl _) (fun ls' hl' => kk _ ls' ?_ hl')
  unfold w32
  rw [Int32.ofInt_add, o_i]
end TYJ
