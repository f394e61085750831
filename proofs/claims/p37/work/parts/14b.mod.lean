theorem k_X7_forget : cBV yX7_forget cX7_forget 2 (some .int) 1 := ⟨mw_5_201, mw_5_202, mw_1_8, mw_5_203, ⟨by decide, by decide, by decide⟩⟩
set_option maxHeartbeats 4000000 in
set_option maxRecDepth 100000 in
theorem c_X7_forget (l : Launch) (z : Zt) (gh : Gh) (h0 o0 : Nat) (g0 : zG z h0 = (17, o0)) (p1 : Int32) : Met l yX7_forget (uw yX7_forget cX7_forget 2 (some .int)) (rmF 2 89) (PcW z [.ref h0, .int p1] (fun H => TY z (zA z) gh H)) (QcI z (fun r H => ∃ gk : Gh, eqv gk gh ∧ TY z (zA z) gk H)) 0 0 (zA z) := by
  refine Met.ofW (cc := cX7_forget) (maxL := 2) (ret := (some .int)) (by decide) rfl ?_
  intro p e s m args below meth c s₁ B hml hv
  obtain ⟨rfl, hW, hK, hSK⟩ := hv
  have hx := B.exec
  have hb := B.bytes
  have hr := B.returns
  have hts : ∀ w ∈ lw_ok, w.before ([.ref h0, .int p1] : List Value).toArray s = true := fun w hw => atoms_spec (ws := uw yX7_forget cX7_forget 2 (some .int)) B.pre w (List.mem_cons_of_mem _ hw)
  have hown : s.vm.findClass RX7 = some m.cls := findClass_of_methodNamed B.named
  have hlk := B.notSynchronized
  have hC : CallFix p m c cX7_forget 2 s ([.ref h0, .int p1] : List Value).toArray lw_ok RX7 := ⟨hx, hb, hml, hown, hts⟩
  have hS : va_S (zA z) s.heap s.heap [] := va_S.rf
  have hl := lv_entry ([.ref h0, .int p1]) (n := 2) (Nat.le_of_ble_eq_true rfl)
  rw [lg_entry_eq]
  generalize (lg_sl ([.ref h0, .int p1]) ++ List.replicate (2 - (lg_sl ([.ref h0, .int p1])).length) Slot.unset).toArray = ls at hl ⊢
  have hl : lv_has ls 2 [(0, .ref h0), (1, .int p1)] := hl
  show W p l e (rmF 2 89) s m ([.ref h0, .int p1] : List Value).toArray below meth c s.heap [] 0 0 (MQ below (QcI z (fun r H => ∃ gk : Gh, eqv gk gh ∧ TY z (zA z) gk H)) ([.ref h0, .int p1] : List Value).toArray s 0 0 (zA z)) (F0 m 0 ls [])
  have hT : TY z (zA z) gh s.heap := hW
  have hg1 : eqv gh gh := eqv_rf gh
  have mx_p1 := i_mx p1
  refine lv_iload_n hx hb dX7_forget_0 rfl (lv_at hl 1 rfl) ?_
  refine r_i2l hx hb dX7_forget_1 (fun x1 e1 => ?_)
  refine r_lconst0 hx hb dX7_forget_2 (fun x2 e2 => ?_)
  refine lv_aload_n hx hb dX7_forget_3 rfl (lv_at hl 0 rfl) ?_
  refine gt_Model_st hx hb hts ic_Model hown hK hT g0 (hts _ mw_4_70) dX7_forget_4 (fun q4 hq4 => ?_)
  refine r_bipush hx hb dX7_forget_7 rfl (fun x7 e7 => ?_)
  refine al_40 hx hb hK hT hq4 (by omega) (by omega) dX7_forget_9 (fun x9 i9 e9 => ?_)
  have n9 := ix_nat (i := x7) (by omega)
  have f9 := b59_r40 (p40_e e9 (by omega)) (by omega)
  refine r_i2l hx hb dX7_forget_10 (fun x10 e10 => ?_)
  refine cl_Si (rest := []) hC hK hSK (c_X7_in l z gh x1 x2 x10) k_X7_in mw_4_154 ⟨rfl, rfl, Nat.le_of_ble_eq_true rfl, Nat.le_of_ble_eq_true rfl⟩ hT rfl hl.1 rfl (Nat.le_of_ble_eq_true rfl) dX7_forget_11 ⟨Nat.zero_le _, Nat.zero_le _⟩ hS (fun _ h => h) (fun _ _ h => h) (fun r11 H locs hpo hS => ?_)
  obtain ⟨hT, u11_0, u11_1⟩ := hpo
  refine r_if_eq (tgt := 27) hx hb dX7_forget_14 (by decide) (fun c14 => ?_) (fun c14 => ?_)
  · refine r_iconst hx hb dX7_forget_27 (by decide) (by decide) (fun x27 e27 => ?_)
    exact rt_i hx hb hr hlk hS ⟨_, hg1, hT⟩ dX7_forget_28
  · refine lv_aload_n hx hb dX7_forget_17 rfl (lv_at hl 0 rfl) ?_
    refine r_bipush hx hb dX7_forget_18 rfl (fun x18 e18 => ?_)
    refine lv_iload_n hx hb dX7_forget_20 rfl (lv_at hl 1 rfl) ?_
    refine cl_Vi (rest := []) hC hK hSK (c_X7_becomes l z gh h0 (o0) g0 x18 p1 (by omega)  (by have n0 := ix_nat (i := x18) (by omega); exact p40_m (by omega) (b59_m40 (by omega) ⟨by omega, by omega⟩))) k_X7_becomes mw_5_61 ⟨rfl, rfl, Nat.le_of_ble_eq_true rfl, Nat.le_of_ble_eq_true rfl⟩ (rv_Model hK hT g0) hT rfl hl.1 rfl (Nat.le_of_ble_eq_true rfl) dX7_forget_21 ⟨Nat.zero_le _, Nat.zero_le _⟩ hS (fun _ h => h) (fun _ _ h => h) (fun r21 H locs hpo hS => ?_)
    obtain ⟨gk21, hz21, hT, u21_0⟩ := hpo
    have hg1 := eqv_tr hz21 hg1
    refine lv_goto (tgt := 28) hx hb dX7_forget_24 (by decide) ?_
    exact rt_i hx hb hr hlk hS ⟨_, hg1, hT⟩ dX7_forget_28
theorem k_X7_power : cBS yX7_power cX7_power 4 (some .int) 2 := ⟨mw_5_143, mw_1_8, mw_5_144, ⟨by decide, by decide, by decide⟩⟩
set_option maxHeartbeats 4000000 in
set_option maxRecDepth 100000 in
theorem c_X7_power (l : Launch) (z : Zt) (gh : Gh) (p1 : Int32) (p2 : Int32) (bp1 : 0 ≤ p1.toInt ∧ p1.toInt ≤ 10) (bp2 : 0 ≤ p2.toInt ∧ p2.toInt ≤ 5) : Met l yX7_power (uw yX7_power cX7_power 4 (some .int)) (rmF 1 64) (PcW z [.int p1, .int p2] (fun H => TY z (zA z) gh H)) (QcI z (fun r H => TY z (zA z) gh H ∧ (0 ≤ r.toInt ∧ r.toInt ≤ 100000) ∧ (1 ≤ p1.toInt → 1 ≤ r.toInt))) 0 0 (zA z) := by
  refine Met.ofW (cc := cX7_power) (maxL := 4) (ret := (some .int)) (by decide) rfl ?_
  intro p e s m args below meth c s₁ B hml hv
  obtain ⟨rfl, hW, hK, hSK⟩ := hv
  have hx := B.exec
  have hb := B.bytes
  have hr := B.returns
  have hts : ∀ w ∈ lw_ok, w.before ([.int p1, .int p2] : List Value).toArray s = true := fun w hw => atoms_spec (ws := uw yX7_power cX7_power 4 (some .int)) B.pre w (List.mem_cons_of_mem _ hw)
  have hown : s.vm.findClass RX7 = some m.cls := findClass_of_methodNamed B.named
  have hlk := B.notSynchronized
  have hC : CallFix p m c cX7_power 4 s ([.int p1, .int p2] : List Value).toArray lw_ok RX7 := ⟨hx, hb, hml, hown, hts⟩
  have hS : va_S (zA z) s.heap s.heap [] := va_S.rf
  have hl := lv_entry ([.int p1, .int p2]) (n := 4) (Nat.le_of_ble_eq_true rfl)
  rw [lg_entry_eq]
  generalize (lg_sl ([.int p1, .int p2]) ++ List.replicate (4 - (lg_sl ([.int p1, .int p2])).length) Slot.unset).toArray = ls at hl ⊢
  have hl : lv_has ls 4 [(0, .int p1), (1, .int p2)] := hl
  show W p l e (rmF 1 64) s m ([.int p1, .int p2] : List Value).toArray below meth c s.heap [] 0 0 (MQ below (QcI z (fun r H => TY z (zA z) gh H ∧ (0 ≤ r.toInt ∧ r.toInt ≤ 100000) ∧ (1 ≤ p1.toInt → 1 ≤ r.toInt))) ([.int p1, .int p2] : List Value).toArray s 0 0 (zA z)) (F0 m 0 ls [])
  have hT : TY z (zA z) gh s.heap := hW
  refine r_iconst hx hb dX7_power_0 (by decide) (by decide) (fun x0 e0 => ?_)
  refine lv_istore_n (lv' := [(2, .int x0), (0, .int p1), (1, .int p2)]) hx hb dX7_power_1 rfl hl (by decide) rfl (fun ls hl => ?_)
  refine r_iconst hx hb dX7_power_2 (by decide) (by decide) (fun x2 e2 => ?_)
  refine lv_istore_n (lv' := [(3, .int x2), (2, .int x0), (0, .int p1), (1, .int p2)]) hx hb dX7_power_3 rfl hl (by decide) rfl (fun ls hl => ?_)
  have J4 : ∀ (n4 : Nat) (ls : Array Slot) (H : Heap) (locs : List Loc) (y4_2 : Int32) (y4_3 : Int32), (0 ≤ y4_3.toInt ∧ y4_3.toInt ≤ 5) → (y4_2.toInt = p1.toInt ^ y4_3.toNatClampNeg) → (y4_3.toInt ≤ p2.toInt) → (5 - y4_3.toInt) < (n4 : Int) → TY z (zA z) gh H → va_S (zA z) s.heap H locs → lv_has ls 4 [(0, .int p1), (1, .int p2), (2, .int y4_2), (3, .int y4_3)] → W p l e (rmF 1 64) s m ([.int p1, .int p2] : List Value).toArray below meth c H locs 0 0 (MQ below (QcI z (fun r H => TY z (zA z) gh H ∧ (0 ≤ r.toInt ∧ r.toInt ≤ 100000) ∧ (1 ≤ p1.toInt → 1 ≤ r.toInt))) ([.int p1, .int p2] : List Value).toArray s 0 0 (zA z)) (F0 m 4 ls []) := by
    intro n4
    induction n4 with
    | zero => intro ls H locs y4_2 y4_3 j4_y4_3 ex4_0 ex4_1 mm4 hT hS hl; exfalso; omega
    | succ n4 ih4 =>
      intro ls H locs y4_2 y4_3 j4_y4_3 ex4_0 ex4_1 mm4 hT hS hl
      refine lv_iload_n hx hb dX7_power_4 rfl (lv_at hl 3 rfl) ?_
      refine lv_iload_n hx hb dX7_power_5 rfl (lv_at hl 1 rfl) ?_
      refine r_icmp_ge (tgt := 19) hx hb dX7_power_6 (by decide) (fun c6 => ?_) (fun c6 => ?_)
      · refine lv_iload_n hx hb dX7_power_19 rfl (lv_at hl 2 rfl) ?_
        exact rt_i hx hb hr hlk hS ⟨hT, by
      have n4 := ix_nat (i := y4_3) (by omega)
      rw [ex4_0]
      exact i_powb (by omega) (by omega) (by omega), by
      intro h9
      have n4 := ix_nat (i := y4_3) (by omega)
      rw [ex4_0]
      exact i_powp h9 (by omega) (by omega)⟩ dX7_power_20
      · refine lv_iload_n hx hb dX7_power_9 rfl (lv_at hl 2 rfl) ?_
        refine lv_iload_n hx hb dX7_power_10 rfl (lv_at hl 0 rfl) ?_
        refine lv_imul hx hb dX7_power_11 ?_
        refine lv_topi (fun x11 w11 => ?_)
        refine lv_istore_n (lv' := [(2, .int x11), (0, .int p1), (1, .int p2), (3, .int y4_3)]) hx hb dX7_power_12 rfl hl (by decide) rfl (fun ls hl => ?_)
        refine r_iinc (lv' := fun v__ => [(3, .int v__), (2, .int x11), (0, .int p1), (1, .int p2)]) hx hb dX7_power_13 hl (k := 3) rfl (by decide) (fun _ => rfl) ⟨by decide, by decide⟩ (by omega) (by omega) (fun x13 ls e13 hl => ?_)
        refine lv_goto (tgt := 4) hx hb dX7_power_16 (by decide) ?_
        exact ih4 ls _ _ x11 x13 (by omega) (by have n3 := ix_nat (i := x13) (by omega); have n4 := ix_nat (i := y4_3) (by omega); rw [show x13.toNatClampNeg = y4_3.toNatClampNeg + 1 by omega]; exact i_pows (b := p1.toInt) (by omega) (by omega) (by omega) ex4_0 rfl w11) (by omega) (by omega) hT hS (lv_sub hl [2, 3, 1, 0] rfl)
  exact J4 (((5 - x2.toInt)).toNat + 1) ls _ _ x0 x2 (by omega) (by have n3 := ix_nat (i := x2) (by omega); rw [show x2.toNatClampNeg = 0 by omega, Int.pow_zero]; omega) (by omega) (by omega) hT hS (lv_sub hl [2, 3, 1, 0] rfl)
theorem k_X7_figureIn : cBS yX7_figureIn cX7_figureIn 3 (some .int) 3 := ⟨mw_5_146, mw_1_8, mw_5_147, ⟨by decide, by decide, by decide⟩⟩
set_option maxHeartbeats 4000000 in
set_option maxRecDepth 100000 in
theorem c_X7_figureIn (l : Launch) (z : Zt) (gh : Gh) (p1 : Int32) (p2 : Int32) (p3 : Int32) (bp2 : 0 ≤ p2.toInt ∧ p2.toInt ≤ 4) (bp3 : 0 ≤ p3.toInt ∧ p3.toInt ≤ 3) (pr0 : p3.toInt < p2.toInt) : Met l yX7_figureIn (uw yX7_figureIn cX7_figureIn 3 (some .int)) (rmF 2 87) (PcW z [.int p1, .int p2, .int p3] (fun H => TY z (zA z) gh H)) (QcI z (fun r H => TY z (zA z) gh H)) 0 0 (zA z) := by
  refine Met.ofW (cc := cX7_figureIn) (maxL := 3) (ret := (some .int)) (by decide) rfl ?_
  intro p e s m args below meth c s₁ B hml hv
  obtain ⟨rfl, hW, hK, hSK⟩ := hv
  have hx := B.exec
  have hb := B.bytes
  have hr := B.returns
  have hts : ∀ w ∈ lw_ok, w.before ([.int p1, .int p2, .int p3] : List Value).toArray s = true := fun w hw => atoms_spec (ws := uw yX7_figureIn cX7_figureIn 3 (some .int)) B.pre w (List.mem_cons_of_mem _ hw)
  have hown : s.vm.findClass RX7 = some m.cls := findClass_of_methodNamed B.named
  have hlk := B.notSynchronized
  have hC : CallFix p m c cX7_figureIn 3 s ([.int p1, .int p2, .int p3] : List Value).toArray lw_ok RX7 := ⟨hx, hb, hml, hown, hts⟩
  have hS : va_S (zA z) s.heap s.heap [] := va_S.rf
  have hl := lv_entry ([.int p1, .int p2, .int p3]) (n := 3) (Nat.le_of_ble_eq_true rfl)
  rw [lg_entry_eq]
  generalize (lg_sl ([.int p1, .int p2, .int p3]) ++ List.replicate (3 - (lg_sl ([.int p1, .int p2, .int p3])).length) Slot.unset).toArray = ls at hl ⊢
  have hl : lv_has ls 3 [(0, .int p1), (1, .int p2), (2, .int p3)] := hl
  show W p l e (rmF 2 87) s m ([.int p1, .int p2, .int p3] : List Value).toArray below meth c s.heap [] 0 0 (MQ below (QcI z (fun r H => TY z (zA z) gh H)) ([.int p1, .int p2, .int p3] : List Value).toArray s 0 0 (zA z)) (F0 m 0 ls [])
  have hT : TY z (zA z) gh s.heap := hW
  have mx_p1 := i_mx p1
  refine lv_iload_n hx hb dX7_figureIn_0 rfl (lv_at hl 0 rfl) ?_
  refine r_iconst hx hb dX7_figureIn_1 (by decide) (by decide) (fun x1 e1 => ?_)
  refine lv_iload_n hx hb dX7_figureIn_2 rfl (lv_at hl 1 rfl) ?_
  refine r_iconst hx hb dX7_figureIn_3 (by decide) (by decide) (fun x3 e3 => ?_)
  refine r_isub hx hb dX7_figureIn_4 (by omega) (by omega) (fun x4 e4 => ?_)
  refine lv_iload_n hx hb dX7_figureIn_5 rfl (lv_at hl 2 rfl) ?_
  refine r_isub hx hb dX7_figureIn_6 (by omega) (by omega) (fun x6 e6 => ?_)
  refine cl_Si (rest := [.int p1]) hC hK hSK (c_X7_power l z gh x1 x6 (by omega) (by omega)) k_X7_power mw_5_142 ⟨rfl, rfl, Nat.le_of_ble_eq_true rfl, Nat.le_of_ble_eq_true rfl⟩ hT rfl hl.1 rfl (Nat.le_of_ble_eq_true rfl) dX7_figureIn_7 ⟨Nat.zero_le _, Nat.zero_le _⟩ hS (fun _ h => h) (fun _ _ h => h) (fun r7 H locs hpo hS => ?_)
  obtain ⟨hT, u7_0, u7_1⟩ := hpo
  refine w_idiv hx hb dX7_figureIn_10 (by omega) (fun x10 => ?_)
  refine r_iconst hx hb dX7_figureIn_11 (by decide) (by decide) (fun x11 e11 => ?_)
  refine w_irem hx hb dX7_figureIn_12 (by omega) (fun x12 => ?_)
  exact rt_i hx hb hr hlk hS hT dX7_figureIn_13
theorem k_X7_common : cBS yX7_common cX7_common 10 (some .long) 2 := ⟨mw_5_190, mw_1_8, mw_5_191, ⟨by decide, by decide, by decide⟩⟩
set_option maxHeartbeats 4000000 in
set_option maxRecDepth 100000 in
theorem c_X7_common (l : Launch) (z : Zt) (gh : Gh) (p1 : Int64) (p2 : Int64) : Met l yX7_common (uw yX7_common cX7_common 10 (some .long)) (rmF 1 64) (PcW z [.long p1, .long p2] (fun H => TY z (zA z) gh H)) (QcL z (fun r H => TY z (zA z) gh H ∧ (p1.toInt ≠ 0 → r.toInt ≠ 0))) 0 0 (zA z) := by
  refine Met.ofW (cc := cX7_common) (maxL := 10) (ret := (some .long)) (by decide) rfl ?_
  intro p e s m args below meth c s₁ B hml hv
  obtain ⟨rfl, hW, hK, hSK⟩ := hv
  have hx := B.exec
  have hb := B.bytes
  have hr := B.returns
  have hts : ∀ w ∈ lw_ok, w.before ([.long p1, .long p2] : List Value).toArray s = true := fun w hw => atoms_spec (ws := uw yX7_common cX7_common 10 (some .long)) B.pre w (List.mem_cons_of_mem _ hw)
  have hown : s.vm.findClass RX7 = some m.cls := findClass_of_methodNamed B.named
  have hlk := B.notSynchronized
  have hC : CallFix p m c cX7_common 10 s ([.long p1, .long p2] : List Value).toArray lw_ok RX7 := ⟨hx, hb, hml, hown, hts⟩
  have hS : va_S (zA z) s.heap s.heap [] := va_S.rf
  have hl := lv_entry ([.long p1, .long p2]) (n := 10) (Nat.le_of_ble_eq_true rfl)
  rw [lg_entry_eq]
  generalize (lg_sl ([.long p1, .long p2]) ++ List.replicate (10 - (lg_sl ([.long p1, .long p2])).length) Slot.unset).toArray = ls at hl ⊢
  have hl : lv_has ls 10 [(0, .long p1), (2, .long p2)] := hl
  show W p l e (rmF 1 64) s m ([.long p1, .long p2] : List Value).toArray below meth c s.heap [] 0 0 (MQ below (QcL z (fun r H => TY z (zA z) gh H ∧ (p1.toInt ≠ 0 → r.toInt ≠ 0))) ([.long p1, .long p2] : List Value).toArray s 0 0 (zA z)) (F0 m 0 ls [])
  have hT : TY z (zA z) gh s.heap := hW
  refine lv_lload_n hx hb dX7_common_0 rfl (lv_at hl 0 rfl) ?_
  refine lv_lstore (lv' := [(4, .long p1), (0, .long p1), (2, .long p2)]) hx hb dX7_common_1 hl (by decide) rfl (fun ls hl => ?_)
  refine lv_lload_n hx hb dX7_common_3 rfl (lv_at hl 2 rfl) ?_
  refine lv_lstore (lv' := [(6, .long p2), (4, .long p1), (0, .long p1), (2, .long p2)]) hx hb dX7_common_4 hl (by decide) rfl (fun ls hl => ?_)
  have J6 : ∀ (n6 : Nat) (ls : Array Slot) (H : Heap) (locs : List Loc) (y6_4 : Int64) (y6_6 : Int64), (p1.toInt ≠ 0 → y6_4.toInt ≠ 0) → ((y6_6.toInt.natAbs : Nat) : Int) < (n6 : Int) → TY z (zA z) gh H → va_S (zA z) s.heap H locs → lv_has ls 10 [(0, .long p1), (2, .long p2), (4, .long y6_4), (6, .long y6_6)] → W p l e (rmF 1 64) s m ([.long p1, .long p2] : List Value).toArray below meth c H locs 0 0 (MQ below (QcL z (fun r H => TY z (zA z) gh H ∧ (p1.toInt ≠ 0 → r.toInt ≠ 0))) ([.long p1, .long p2] : List Value).toArray s 0 0 (zA z)) (F0 m 6 ls []) := by
    intro n6
    induction n6 with
    | zero => intro ls H locs y6_4 y6_6 ex6_0 mm6 hT hS hl; exfalso; omega
    | succ n6 ih6 =>
      intro ls H locs y6_4 y6_6 ex6_0 mm6 hT hS hl
      refine lv_lload hx hb dX7_common_6 (lv_at hl 3 rfl) ?_
      refine r_lconst0 hx hb dX7_common_8 (fun x8 e8 => ?_)
      refine r_lcmp hx hb dX7_common_9 (fun x9 e9 g9 k9 => ?_)
      have v9 : -1 ≤ x9.toInt ∧ x9.toInt ≤ 1 := by omega
      refine r_if_eq (tgt := 31) hx hb dX7_common_10 (by decide) (fun c10 => ?_) (fun c10 => ?_)
      · refine lv_lload hx hb dX7_common_31 (lv_at hl 2 rfl) ?_
        exact rt_l hx hb hr hlk hS ⟨hT, by omega⟩ dX7_common_33
      · refine lv_lload hx hb dX7_common_13 (lv_at hl 2 rfl) ?_
        refine lv_lload hx hb dX7_common_15 (lv_at hl 3 rfl) ?_
        refine r_lrem hx hb dX7_common_17 (by omega) (fun x17 e17 => ?_)
        refine lv_lstore (lv' := [(8, .long x17), (0, .long p1), (2, .long p2), (4, .long y6_4), (6, .long y6_6)]) hx hb dX7_common_18 hl (by decide) rfl (fun ls hl => ?_)
        refine lv_lload hx hb dX7_common_20 (lv_at hl 4 rfl) ?_
        refine lv_lstore (lv' := [(4, .long y6_6), (8, .long x17), (0, .long p1), (2, .long p2), (6, .long y6_6)]) hx hb dX7_common_22 hl (by decide) rfl (fun ls hl => ?_)
        refine lv_lload hx hb dX7_common_24 (lv_at hl 1 rfl) ?_
        refine lv_lstore (lv' := [(6, .long x17), (4, .long y6_6), (8, .long x17), (0, .long p1), (2, .long p2)]) hx hb dX7_common_26 hl (by decide) rfl (fun ls hl => ?_)
        refine lv_goto (tgt := 6) hx hb dX7_common_28 (by decide) ?_
        exact ih6 ls _ _ y6_6 x17 (by omega) (by omega) hT hS (lv_sub hl [3, 4, 1, 0] rfl)
  exact J6 ((((p2.toInt.natAbs : Nat) : Int)).toNat + 1) ls _ _ p1 p2 (by omega) (by omega) hT hS (lv_sub hl [2, 3, 1, 0] rfl)
theorem k_X7_told : cBS yX7_told cX7_told 7 (some .long) 3 := ⟨mw_5_187, mw_1_8, mw_5_188, ⟨by decide, by decide, by decide⟩⟩
set_option maxHeartbeats 4000000 in
set_option maxRecDepth 100000 in
theorem c_X7_told (l : Launch) (z : Zt) (gh : Gh) (p1 : Int64) (p2 : Int64) (p3 : Int32) (pr0 : p2.toInt ≠ 0) : Met l yX7_told (uw yX7_told cX7_told 7 (some .long)) (rmF 2 93) (PcW z [.long p1, .long p2, .int p3] (fun H => TY z (zA z) gh H)) (QcL z (fun r H => TY z (zA z) gh H)) 0 0 (zA z) := by
  refine Met.ofW (cc := cX7_told) (maxL := 7) (ret := (some .long)) (by decide) rfl ?_
  intro p e s m args below meth c s₁ B hml hv
  obtain ⟨rfl, hW, hK, hSK⟩ := hv
  have hx := B.exec
  have hb := B.bytes
  have hr := B.returns
  have hts : ∀ w ∈ lw_ok, w.before ([.long p1, .long p2, .int p3] : List Value).toArray s = true := fun w hw => atoms_spec (ws := uw yX7_told cX7_told 7 (some .long)) B.pre w (List.mem_cons_of_mem _ hw)
  have hown : s.vm.findClass RX7 = some m.cls := findClass_of_methodNamed B.named
  have hlk := B.notSynchronized
  have hC : CallFix p m c cX7_told 7 s ([.long p1, .long p2, .int p3] : List Value).toArray lw_ok RX7 := ⟨hx, hb, hml, hown, hts⟩
  have hS : va_S (zA z) s.heap s.heap [] := va_S.rf
  have hl := lv_entry ([.long p1, .long p2, .int p3]) (n := 7) (Nat.le_of_ble_eq_true rfl)
  rw [lg_entry_eq]
  generalize (lg_sl ([.long p1, .long p2, .int p3]) ++ List.replicate (7 - (lg_sl ([.long p1, .long p2, .int p3])).length) Slot.unset).toArray = ls at hl ⊢
  have hl : lv_has ls 7 [(0, .long p1), (2, .long p2), (4, .int p3)] := hl
  show W p l e (rmF 2 93) s m ([.long p1, .long p2, .int p3] : List Value).toArray below meth c s.heap [] 0 0 (MQ below (QcL z (fun r H => TY z (zA z) gh H)) ([.long p1, .long p2, .int p3] : List Value).toArray s 0 0 (zA z)) (F0 m 0 ls [])
  have hT : TY z (zA z) gh s.heap := hW
  have mx_p3 := i_mx p3
  refine lv_lload_n hx hb dX7_told_0 rfl (lv_at hl 1 rfl) ?_
  refine lv_lload_n hx hb dX7_told_1 rfl (lv_at hl 0 rfl) ?_
  refine cl_Sl (rest := []) hC hK hSK (c_X7_common l z gh p2 p1) k_X7_common mw_5_189 ⟨rfl, rfl, Nat.le_of_ble_eq_true rfl, Nat.le_of_ble_eq_true rfl⟩ hT rfl hl.1 rfl (Nat.le_of_ble_eq_true rfl) dX7_told_2 ⟨Nat.zero_le _, Nat.zero_le _⟩ hS (fun _ h => h) (fun _ _ h => h) (fun r2 H locs hpo hS => ?_)
  obtain ⟨hT, u2_0⟩ := hpo
  refine lv_lstore (lv' := [(5, .long r2), (0, .long p1), (2, .long p2), (4, .int p3)]) hx hb dX7_told_5 hl (by decide) rfl (fun ls hl => ?_)
  refine lv_iload hx hb dX7_told_7 (lv_at hl 3 rfl) ?_
  refine r_if_ne (tgt := 19) hx hb dX7_told_9 (by decide) (fun c9 => ?_) (fun c9 => ?_)
  · refine lv_lload_n hx hb dX7_told_19 rfl (lv_at hl 2 rfl) ?_
    refine lv_lload hx hb dX7_told_20 (lv_at hl 0 rfl) ?_
    refine w_ldiv hx hb dX7_told_22 (by omega) (fun x22 => ?_)
    exact rt_l hx hb hr hlk hS hT dX7_told_23
  · refine lv_lload_n hx hb dX7_told_12 rfl (lv_at hl 1 rfl) ?_
    refine lv_lload hx hb dX7_told_13 (lv_at hl 0 rfl) ?_
    refine w_ldiv hx hb dX7_told_15 (by omega) (fun x15 => ?_)
    refine lv_goto (tgt := 23) hx hb dX7_told_16 (by decide) ?_
    exact rt_l hx hb hr hlk hS hT dX7_told_23
theorem k_X7_isOrder : cBV yX7_isOrder cX7_isOrder 6 (some .boolean) 1 := ⟨mw_5_157, ms_3_13, mw_1_8, mw_5_158, ⟨by decide, by decide, by decide⟩⟩
set_option maxHeartbeats 4000000 in
set_option maxRecDepth 100000 in
theorem c_X7_isOrder (l : Launch) (z : Zt) (gh : Gh) (h0 o0 : Nat) (g0 : zG z h0 = (17, o0)) (p1 : Int32) (bp1 : 0 ≤ p1.toInt ∧ p1.toInt ≤ 100000) (pr0 : ∀ q, zG z q = (40, h0) → (gh.2 q 31).toInt ≤ 5) : Met l yX7_isOrder (uw yX7_isOrder cX7_isOrder 6 (some .boolean)) (rmF 1 64) (PcW z [.ref h0, .int p1] (fun H => TY z (zA z) gh H)) (QcI z (fun r H => TY z (zA z) gh H ∧ (0 ≤ r.toInt ∧ r.toInt ≤ 1))) 0 0 (zA z) := by
  refine Met.ofW (cc := cX7_isOrder) (maxL := 6) (ret := (some .boolean)) (by decide) rfl ?_
  intro p e s m args below meth c s₁ B hml hv
  obtain ⟨rfl, hW, hK, hSK⟩ := hv
  have hx := B.exec
  have hb := B.bytes
  have hr := B.returns
  have hts : ∀ w ∈ lw_ok, w.before ([.ref h0, .int p1] : List Value).toArray s = true := fun w hw => atoms_spec (ws := uw yX7_isOrder cX7_isOrder 6 (some .boolean)) B.pre w (List.mem_cons_of_mem _ hw)
  have hown : s.vm.findClass RX7 = some m.cls := findClass_of_methodNamed B.named
  have hlk := B.notSynchronized
  have hC : CallFix p m c cX7_isOrder 6 s ([.ref h0, .int p1] : List Value).toArray lw_ok RX7 := ⟨hx, hb, hml, hown, hts⟩
  have hS : va_S (zA z) s.heap s.heap [] := va_S.rf
  have hl := lv_entry ([.ref h0, .int p1]) (n := 6) (Nat.le_of_ble_eq_true rfl)
  rw [lg_entry_eq]
  generalize (lg_sl ([.ref h0, .int p1]) ++ List.replicate (6 - (lg_sl ([.ref h0, .int p1])).length) Slot.unset).toArray = ls at hl ⊢
  have hl : lv_has ls 6 [(0, .ref h0), (1, .int p1)] := hl
  show W p l e (rmF 1 64) s m ([.ref h0, .int p1] : List Value).toArray below meth c s.heap [] 0 0 (MQ below (QcI z (fun r H => TY z (zA z) gh H ∧ (0 ≤ r.toInt ∧ r.toInt ≤ 1))) ([.ref h0, .int p1] : List Value).toArray s 0 0 (zA z)) (F0 m 0 ls [])
  have hT : TY z (zA z) gh s.heap := hW
  refine lv_aload_n hx hb dX7_isOrder_0 rfl (lv_at hl 0 rfl) ?_
  refine gt_Model_st hx hb hts ic_Model hown hK hT g0 (hts _ mw_4_70) dX7_isOrder_1 (fun q1 hq1 => ?_)
  refine r_bipush hx hb dX7_isOrder_4 rfl (fun x4 e4 => ?_)
  refine al_40 hx hb hK hT hq1 (by omega) (by omega) dX7_isOrder_6 (fun x6 i6 e6 => ?_)
  have n6 := ix_nat (i := x4) (by omega)
  have f6 := b59_r31 (p40_e e6 (by omega)) (by omega)
  have k6 := pr0 _ hq1
  rw [show (31 : Nat) = x4.toNatClampNeg by omega, ← i6] at k6
  refine lv_istore_n (lv' := [(2, .int x6), (0, .ref h0), (1, .int p1)]) hx hb dX7_isOrder_7 rfl hl (by decide) rfl (fun ls hl => ?_)
  refine lv_iload_n hx hb dX7_isOrder_8 rfl (lv_at hl 2 rfl) ?_
  refine lv_istore_n (lv' := [(3, .int p1), (2, .int x6), (0, .ref h0), (1, .int p1)]) hx hb dX7_isOrder_9 rfl hl (by decide) rfl (fun ls hl => ?_)
  refine r_iconst hx hb dX7_isOrder_10 (by decide) (by decide) (fun x10 e10 => ?_)
  refine lv_istore (lv' := [(4, .int x10), (3, .int p1), (2, .int x6), (0, .ref h0), (1, .int p1)]) hx hb dX7_isOrder_11 hl (by decide) rfl (fun ls hl => ?_)
  refine lv_iload_n hx hb dX7_isOrder_13 rfl (lv_at hl 2 rfl) ?_
  refine r_iconst hx hb dX7_isOrder_14 (by decide) (by decide) (fun x14 e14 => ?_)
  refine r_isub hx hb dX7_isOrder_15 (by omega) (by omega) (fun x15 e15 => ?_)
  refine lv_istore (lv' := [(5, .int x15), (4, .int x10), (3, .int p1), (2, .int x6), (0, .ref h0), (1, .int p1)]) hx hb dX7_isOrder_16 hl (by decide) rfl (fun ls hl => ?_)
  have J18 : ∀ (n18 : Nat) (ls : Array Slot) (H : Heap) (locs : List Loc) (y18_3 : Int32) (y18_4 : Int32) (y18_5 : Int32), (0 ≤ y18_3.toInt ∧ y18_3.toInt ≤ 100000) → (-1 ≤ y18_5.toInt ∧ y18_5.toInt ≤ 7) → (y18_5.toInt < x6.toInt) → (y18_5.toInt - (-1)) < (n18 : Int) → TY z (zA z) gh H → va_S (zA z) s.heap H locs → lv_has ls 6 [(0, .ref h0), (1, .int p1), (2, .int x6), (3, .int y18_3), (4, .int y18_4), (5, .int y18_5)] → W p l e (rmF 1 64) s m ([.ref h0, .int p1] : List Value).toArray below meth c H locs 0 0 (MQ below (QcI z (fun r H => TY z (zA z) gh H ∧ (0 ≤ r.toInt ∧ r.toInt ≤ 1))) ([.ref h0, .int p1] : List Value).toArray s 0 0 (zA z)) (F0 m 18 ls []) := by
    intro n18
    induction n18 with
    | zero => intro ls H locs y18_3 y18_4 y18_5 j18_y18_3 j18_y18_5 ex18_0 mm18 hT hS hl; exfalso; omega
    | succ n18 ih18 =>
      intro ls H locs y18_3 y18_4 y18_5 j18_y18_3 j18_y18_5 ex18_0 mm18 hT hS hl
      refine lv_iload hx hb dX7_isOrder_18 (lv_at hl 5 rfl) ?_
      refine r_if_lt (tgt := 57) hx hb dX7_isOrder_20 (by decide) (fun c20 => ?_) (fun c20 => ?_)
      · refine lv_iload hx hb dX7_isOrder_57 (lv_at hl 4 rfl) ?_
        refine r_iconst hx hb dX7_isOrder_59 (by decide) (by decide) (fun x59 e59 => ?_)
        refine lv_iload_n hx hb dX7_isOrder_60 rfl (lv_at hl 2 rfl) ?_
        refine r_shl1 hx hb dX7_isOrder_61 (by omega) (by omega) (by omega) (fun x61 e61 g61 k61 => ?_)
        refine r_iconst hx hb dX7_isOrder_62 (by decide) (by decide) (fun x62 e62 => ?_)
        refine r_isub hx hb dX7_isOrder_63 (by omega) (by omega) (fun x63 e63 => ?_)
        refine r_icmp_ne (tgt := 71) hx hb dX7_isOrder_64 (by decide) (fun c64 => ?_) (fun c64 => ?_)
        · refine r_iconst hx hb dX7_isOrder_71 (by decide) (by decide) (fun x71 e71 => ?_)
          exact rt_z hx hb hr hlk hS (by omega) (by omega) ⟨hT, by omega⟩ dX7_isOrder_72
        · refine r_iconst hx hb dX7_isOrder_67 (by decide) (by decide) (fun x67 e67 => ?_)
          refine lv_goto (tgt := 72) hx hb dX7_isOrder_68 (by decide) ?_
          exact rt_z hx hb hr hlk hS (by omega) (by omega) ⟨hT, by omega⟩ dX7_isOrder_72
      · refine lv_aload_n hx hb dX7_isOrder_23 rfl (lv_at hl 0 rfl) ?_
        refine gt_Model_order hx hb hts ic_Model hown hK hT g0 (hts _ mw_4_88) dX7_isOrder_24 (fun q24 hq24 => ?_)
        refine lv_iload hx hb dX7_isOrder_27 (lv_at hl 5 rfl) ?_
        refine lv_iload_n hx hb dX7_isOrder_29 rfl (lv_at hl 3 rfl) ?_
        refine lv_iload_n hx hb dX7_isOrder_30 rfl (lv_at hl 2 rfl) ?_
        refine r_irem hx hb dX7_isOrder_31 (by omega) (by omega) (fun x31 e31 g31 k31 => ?_)
        refine as_46 hx hb hK hT hS hq24 (by omega) (by omega) ⟨by omega, by omega⟩ dX7_isOrder_32 (fun H locs hT hS => ?_)
        refine lv_iload_n hx hb dX7_isOrder_33 rfl (lv_at hl 3 rfl) ?_
        refine lv_iload_n hx hb dX7_isOrder_34 rfl (lv_at hl 2 rfl) ?_
        refine r_idiv hx hb dX7_isOrder_35 (by omega) (by omega) (fun x35 e35 g35 k35 => ?_)
        refine lv_istore_n (lv' := [(3, .int x35), (0, .ref h0), (1, .int p1), (2, .int x6), (4, .int y18_4), (5, .int y18_5)]) hx hb dX7_isOrder_36 rfl hl (by decide) rfl (fun ls hl => ?_)
        refine lv_iload hx hb dX7_isOrder_37 (lv_at hl 4 rfl) ?_
        refine r_iconst hx hb dX7_isOrder_39 (by decide) (by decide) (fun x39 e39 => ?_)
        refine lv_aload_n hx hb dX7_isOrder_40 rfl (lv_at hl 1 rfl) ?_
        refine gt_Model_order hx hb hts ic_Model hown hK hT g0 (hts _ mw_4_88) dX7_isOrder_41 (fun q41 hq41 => ?_)
        refine lv_iload hx hb dX7_isOrder_44 (lv_at hl 5 rfl) ?_
        refine al_46 hx hb hK hT hq41 (by omega) (by omega) dX7_isOrder_46 (fun x46 e46 => ?_)
        have n46 := ix_nat (i := y18_5) (by omega)
        unfold p46 at e46
        refine r_shl1 hx hb dX7_isOrder_47 (by omega) (by omega) (by omega) (fun x47 e47 g47 k47 => ?_)
        refine w_ior hx hb dX7_isOrder_48 (fun x48 => ?_)
        refine lv_istore (lv' := [(4, .int x48), (3, .int x35), (0, .ref h0), (1, .int p1), (2, .int x6), (5, .int y18_5)]) hx hb dX7_isOrder_49 hl (by decide) rfl (fun ls hl => ?_)
        refine r_iinc (lv' := fun v__ => [(5, .int v__), (4, .int x48), (3, .int x35), (0, .ref h0), (1, .int p1), (2, .int x6)]) hx hb dX7_isOrder_51 hl (k := 5) rfl (by decide) (fun _ => rfl) ⟨by decide, by decide⟩ (by omega) (by omega) (fun x51 ls e51 hl => ?_)
        refine lv_goto (tgt := 18) hx hb dX7_isOrder_54 (by decide) ?_
        exact ih18 ls _ _ x35 x48 x51 (by omega) (by omega) (by omega) (by omega) hT hS (lv_sub hl [3, 4, 5, 2, 1, 0] rfl)
  exact J18 (((x15.toInt - (-1))).toNat + 1) ls _ _ p1 x10 x15 (by omega) (by omega) (by omega) (by omega) hT hS (lv_sub hl [4, 5, 3, 2, 1, 0] rfl)
theorem k_X7_rule : cBV yX7_rule cX7_rule 2 (some .int) 1 := ⟨mw_4_226, mw_4_227, mw_1_8, mw_4_228, ⟨by decide, by decide, by decide⟩⟩
set_option maxHeartbeats 4000000 in
set_option maxRecDepth 100000 in
theorem c_X7_rule (l : Launch) (z : Zt) (v : Nat → Nat → Int) (h0 o0 : Nat) (g0 : zG z h0 = (17, o0)) (p1 : Int32) : Met l yX7_rule (uw yX7_rule cX7_rule 2 (some .int)) (rmF 3 108) (PcW z [.ref h0, .int p1] (fun H => WX z v H)) (QcI z (fun r H => WX z v H)) 0 0 (zA z) := by
  refine Met.ofW (cc := cX7_rule) (maxL := 2) (ret := (some .int)) (by decide) rfl ?_
  intro p e s m args below meth c s₁ B hml hv
  obtain ⟨rfl, hW, hK, hSK⟩ := hv
  have hx := B.exec
  have hb := B.bytes
  have hr := B.returns
  have hts : ∀ w ∈ lw_ok, w.before ([.ref h0, .int p1] : List Value).toArray s = true := fun w hw => atoms_spec (ws := uw yX7_rule cX7_rule 2 (some .int)) B.pre w (List.mem_cons_of_mem _ hw)
  have hown : s.vm.findClass RX7 = some m.cls := findClass_of_methodNamed B.named
  have hlk := B.notSynchronized
  have hC : CallFix p m c cX7_rule 2 s ([.ref h0, .int p1] : List Value).toArray lw_ok RX7 := ⟨hx, hb, hml, hown, hts⟩
  have hS : va_S (zA z) s.heap s.heap [] := va_S.rf
  have hl := lv_entry ([.ref h0, .int p1]) (n := 2) (Nat.le_of_ble_eq_true rfl)
  rw [lg_entry_eq]
  generalize (lg_sl ([.ref h0, .int p1]) ++ List.replicate (2 - (lg_sl ([.ref h0, .int p1])).length) Slot.unset).toArray = ls at hl ⊢
  have hl : lv_has ls 2 [(0, .ref h0), (1, .int p1)] := hl
  show W p l e (rmF 3 108) s m ([.ref h0, .int p1] : List Value).toArray below meth c s.heap [] 0 0 (MQ below (QcI z (fun r H => WX z v H)) ([.ref h0, .int p1] : List Value).toArray s 0 0 (zA z)) (F0 m 0 ls [])
  obtain ⟨gh, hwf, hvis, hT⟩ := hW
  have mx_p1 := i_mx p1
  refine lv_aload_n hx hb dX7_rule_0 rfl (lv_at hl 0 rfl) ?_
  refine cl_Vv (rest := []) hC hK hSK (c_X7_starts l z gh h0 (o0) g0 hwf) k_X7_starts mw_4_229 ⟨rfl, rfl, Nat.le_of_ble_eq_true rfl, Nat.le_of_ble_eq_true rfl⟩ (rv_Model hK hT g0) hT rfl hl.1 rfl (Nat.le_of_ble_eq_true rfl) dX7_rule_1 ⟨Nat.zero_le _, Nat.zero_le _⟩ hS (fun _ h => h) (fun _ _ h => h) (fun H locs hpo hS => ?_)
  obtain ⟨gh1, hz1, hst1, hnow, hT⟩ := hpo
  have hwf := wf_ne hz1 hwf
  have hvis := vis_ne hz1 hvis
  have r41_1 := hz1 h0 41 (by decide) (by decide)
  refine lv_iload_n hx hb dX7_rule_4 rfl (lv_at hl 1 rfl) ?_
  rcases (show p1.toInt = 0 ∨ p1.toInt = 1 ∨ p1.toInt = 2 ∨ p1.toInt = 3 ∨ p1.toInt = 4 ∨ (p1.toInt < 0 ∨ 4 < p1.toInt) by omega) with c5 | c5 | c5 | c5 | c5 | c5
  · refine lv_tableIn (off := 35) (tgt := 40) hx hb dX7_rule_5 (by omega) (by omega) (by rw [c5]; rfl) (by decide) ?_
    refine lv_aload_n hx hb dX7_rule_40 rfl (lv_at hl 0 rfl) ?_
    refine gt_Model_men hx hb hts ic_Model hown hK hT g0 (hts _ mw_4_73) dX7_rule_41 (fun x41 i41 e41 g41 => ?_)
    exact rt_i hx hb hr hlk hS ⟨_, hwf, hvis, hT⟩ dX7_rule_44
  · refine lv_tableIn (off := 40) (tgt := 45) hx hb dX7_rule_5 (by omega) (by omega) (by rw [c5]; rfl) (by decide) ?_
    refine lv_aload_n hx hb dX7_rule_45 rfl (lv_at hl 0 rfl) ?_
    refine cl_Vi (rest := []) hC hK hSK (c_X7_kinMany l z gh1 h0 (o0) g0) k_X7_kinMany mw_4_233 ⟨rfl, rfl, Nat.le_of_ble_eq_true rfl, Nat.le_of_ble_eq_true rfl⟩ (rv_Model hK hT g0) hT rfl hl.1 rfl (Nat.le_of_ble_eq_true rfl) dX7_rule_46 ⟨Nat.zero_le _, Nat.zero_le _⟩ hS (fun _ h => h) (fun _ _ h => h) (fun r46 H locs hpo hS => ?_)
    have hT := hpo
    exact rt_i hx hb hr hlk hS ⟨_, hwf, hvis, hT⟩ dX7_rule_49
  · refine lv_tableIn (off := 45) (tgt := 50) hx hb dX7_rule_5 (by omega) (by omega) (by rw [c5]; rfl) (by decide) ?_
    refine lv_aload_n hx hb dX7_rule_50 rfl (lv_at hl 0 rfl) ?_
    refine gt_Model_st hx hb hts ic_Model hown hK hT g0 (hts _ mw_4_70) dX7_rule_51 (fun q51 hq51 => ?_)
    refine r_bipush hx hb dX7_rule_54 rfl (fun x54 e54 => ?_)
    refine al_40 hx hb hK hT hq51 (by omega) (by omega) dX7_rule_56 (fun x56 i56 e56 => ?_)
    have n56 := ix_nat (i := x54) (by omega)
    have f56 := b59_r31 (p40_e e56 (by omega)) (by omega)
    exact rt_i hx hb hr hlk hS ⟨_, hwf, hvis, hT⟩ dX7_rule_57
  · refine lv_tableIn (off := 53) (tgt := 58) hx hb dX7_rule_5 (by omega) (by omega) (by rw [c5]; rfl) (by decide) ?_
    refine lv_aload_n hx hb dX7_rule_58 rfl (lv_at hl 0 rfl) ?_
    refine gt_Model_st hx hb hts ic_Model hown hK hT g0 (hts _ mw_4_70) dX7_rule_59 (fun q59 hq59 => ?_)
    refine r_bipush hx hb dX7_rule_62 rfl (fun x62 e62 => ?_)
    refine al_40 hx hb hK hT hq59 (by omega) (by omega) dX7_rule_64 (fun x64 i64 e64 => ?_)
    have n64 := ix_nat (i := x62) (by omega)
    exact rt_i hx hb hr hlk hS ⟨_, hwf, hvis, hT⟩ dX7_rule_65
  · refine lv_tableIn (off := 61) (tgt := 66) hx hb dX7_rule_5 (by omega) (by omega) (by rw [c5]; rfl) (by decide) ?_
    refine lv_aload_n hx hb dX7_rule_66 rfl (lv_at hl 0 rfl) ?_
    refine cl_Vi (rest := []) hC hK hSK (c_X7_round l z gh1 h0 (o0) g0) k_X7_round mw_5_0 ⟨rfl, rfl, Nat.le_of_ble_eq_true rfl, Nat.le_of_ble_eq_true rfl⟩ (rv_Model hK hT g0) hT rfl hl.1 rfl (Nat.le_of_ble_eq_true rfl) dX7_rule_67 ⟨Nat.zero_le _, Nat.zero_le _⟩ hS (fun _ h => h) (fun _ _ h => h) (fun r67 H locs hpo hS => ?_)
    have hT := hpo
    exact rt_i hx hb hr hlk hS ⟨_, hwf, hvis, hT⟩ dX7_rule_70
  · refine lv_tableOut (tgt := 71) hx hb dX7_rule_5 c5 (by decide) ?_
    refine r_iconst hx hb dX7_rule_71 (by decide) (by decide) (fun x71 e71 => ?_)
    exact rt_i hx hb hr hlk hS ⟨_, hwf, hvis, hT⟩ dX7_rule_72
theorem k_X7_man : cBV yX7_man cX7_man 3 (some .int) 2 := ⟨mw_5_8, mw_5_9, mw_1_8, mw_5_10, ⟨by decide, by decide, by decide⟩⟩
set_option maxHeartbeats 4000000 in
set_option maxRecDepth 100000 in
theorem c_X7_man (l : Launch) (z : Zt) (v : Nat → Nat → Int) (h0 o0 : Nat) (g0 : zG z h0 = (17, o0)) (p1 : Int32) (p2 : Int32) : Met l yX7_man (uw yX7_man cX7_man 3 (some .int)) (rmF 5 155) (PcW z [.ref h0, .int p1, .int p2] (fun H => WX z v H)) (QcI z (fun r H => WX z v H)) 0 0 (zA z) := by
  refine Met.ofW (cc := cX7_man) (maxL := 3) (ret := (some .int)) (by decide) rfl ?_
  intro p e s m args below meth c s₁ B hml hv
  obtain ⟨rfl, hW, hK, hSK⟩ := hv
  have hx := B.exec
  have hb := B.bytes
  have hr := B.returns
  have hts : ∀ w ∈ lw_ok, w.before ([.ref h0, .int p1, .int p2] : List Value).toArray s = true := fun w hw => atoms_spec (ws := uw yX7_man cX7_man 3 (some .int)) B.pre w (List.mem_cons_of_mem _ hw)
  have hown : s.vm.findClass RX7 = some m.cls := findClass_of_methodNamed B.named
  have hlk := B.notSynchronized
  have hC : CallFix p m c cX7_man 3 s ([.ref h0, .int p1, .int p2] : List Value).toArray lw_ok RX7 := ⟨hx, hb, hml, hown, hts⟩
  have hS : va_S (zA z) s.heap s.heap [] := va_S.rf
  have hl := lv_entry ([.ref h0, .int p1, .int p2]) (n := 3) (Nat.le_of_ble_eq_true rfl)
  rw [lg_entry_eq]
  generalize (lg_sl ([.ref h0, .int p1, .int p2]) ++ List.replicate (3 - (lg_sl ([.ref h0, .int p1, .int p2])).length) Slot.unset).toArray = ls at hl ⊢
  have hl : lv_has ls 3 [(0, .ref h0), (1, .int p1), (2, .int p2)] := hl
  show W p l e (rmF 5 155) s m ([.ref h0, .int p1, .int p2] : List Value).toArray below meth c s.heap [] 0 0 (MQ below (QcI z (fun r H => WX z v H)) ([.ref h0, .int p1, .int p2] : List Value).toArray s 0 0 (zA z)) (F0 m 0 ls [])
  obtain ⟨gh, hwf, hvis, hT⟩ := hW
  have mx_p1 := i_mx p1
  have mx_p2 := i_mx p2
  refine lv_aload_n hx hb dX7_man_0 rfl (lv_at hl 0 rfl) ?_
  refine lv_iload_n hx hb dX7_man_1 rfl (lv_at hl 1 rfl) ?_
  refine cl_Vi (rest := []) hC hK hSK (c_X7_isOne l z gh h0 (o0) g0 p1) k_X7_isOne mw_5_11 ⟨rfl, rfl, Nat.le_of_ble_eq_true rfl, Nat.le_of_ble_eq_true rfl⟩ (rv_Model hK hT g0) hT rfl hl.1 rfl (Nat.le_of_ble_eq_true rfl) dX7_man_2 ⟨Nat.zero_le _, Nat.zero_le _⟩ hS (fun _ h => h) (fun _ _ h => h) (fun r2 H locs hpo hS => ?_)
  obtain ⟨hT, u2_0, u2_1⟩ := hpo
  refine r_if_ne (tgt := 10) hx hb dX7_man_5 (by decide) (fun c5 => ?_) (fun c5 => ?_)
  · refine lv_aload_n hx hb dX7_man_10 rfl (lv_at hl 0 rfl) ?_
    refine cl_Vv (rest := []) hC hK hSK (c_X7_starts l z gh h0 (o0) g0 hwf) k_X7_starts mw_4_229 ⟨rfl, rfl, Nat.le_of_ble_eq_true rfl, Nat.le_of_ble_eq_true rfl⟩ (rv_Model hK hT g0) hT rfl hl.1 rfl (Nat.le_of_ble_eq_true rfl) dX7_man_11 ⟨Nat.zero_le _, Nat.zero_le _⟩ hS (fun _ h => h) (fun _ _ h => h) (fun H locs hpo hS => ?_)
    obtain ⟨gh11, hz11, hst11, hnow, hT⟩ := hpo
    have hwf := wf_ne hz11 hwf
    have hvis := vis_ne hz11 hvis
    have r41_11 := hz11 h0 41 (by decide) (by decide)
    refine lv_iload_n hx hb dX7_man_14 rfl (lv_at hl 2 rfl) ?_
    rcases (show p2.toInt = 0 ∨ p2.toInt = 1 ∨ p2.toInt = 2 ∨ p2.toInt = 3 ∨ p2.toInt = 4 ∨ p2.toInt = 5 ∨ p2.toInt = 6 ∨ (p2.toInt < 0 ∨ 6 < p2.toInt) by omega) with c15 | c15 | c15 | c15 | c15 | c15 | c15 | c15
    · refine lv_tableIn (off := 41) (tgt := 56) hx hb dX7_man_15 (by omega) (by omega) (by rw [c15]; rfl) (by decide) ?_
      refine lv_aload_n hx hb dX7_man_56 rfl (lv_at hl 0 rfl) ?_
      refine lv_iload_n hx hb dX7_man_57 rfl (lv_at hl 1 rfl) ?_
      refine lv_iload_n hx hb dX7_man_58 rfl (lv_at hl 2 rfl) ?_
      refine cl_Vi (rest := []) hC hK hSK (c_X7_of l z gh11 h0 (o0) g0 p1 p2 (by omega) (by omega) hwf.2.2) k_X7_of mw_5_15 ⟨rfl, rfl, Nat.le_of_ble_eq_true rfl, Nat.le_of_ble_eq_true rfl⟩ (rv_Model hK hT g0) hT rfl hl.1 rfl (Nat.le_of_ble_eq_true rfl) dX7_man_59 ⟨Nat.zero_le _, Nat.zero_le _⟩ hS (fun _ h => h) (fun _ _ h => h) (fun r59 H locs hpo hS => ?_)
      obtain ⟨hT, u59_0, u59_1⟩ := hpo
      exact rt_i hx hb hr hlk hS ⟨_, hwf, hvis, hT⟩ dX7_man_62
    · refine lv_tableIn (off := 41) (tgt := 56) hx hb dX7_man_15 (by omega) (by omega) (by rw [c15]; rfl) (by decide) ?_
      refine lv_aload_n hx hb dX7_man_56 rfl (lv_at hl 0 rfl) ?_
      refine lv_iload_n hx hb dX7_man_57 rfl (lv_at hl 1 rfl) ?_
      refine lv_iload_n hx hb dX7_man_58 rfl (lv_at hl 2 rfl) ?_
      refine cl_Vi (rest := []) hC hK hSK (c_X7_of l z gh11 h0 (o0) g0 p1 p2 (by omega) (by omega) hwf.2.2) k_X7_of mw_5_15 ⟨rfl, rfl, Nat.le_of_ble_eq_true rfl, Nat.le_of_ble_eq_true rfl⟩ (rv_Model hK hT g0) hT rfl hl.1 rfl (Nat.le_of_ble_eq_true rfl) dX7_man_59 ⟨Nat.zero_le _, Nat.zero_le _⟩ hS (fun _ h => h) (fun _ _ h => h) (fun r59 H locs hpo hS => ?_)
      obtain ⟨hT, u59_0, u59_1⟩ := hpo
      exact rt_i hx hb hr hlk hS ⟨_, hwf, hvis, hT⟩ dX7_man_62
    · refine lv_tableIn (off := 41) (tgt := 56) hx hb dX7_man_15 (by omega) (by omega) (by rw [c15]; rfl) (by decide) ?_
      refine lv_aload_n hx hb dX7_man_56 rfl (lv_at hl 0 rfl) ?_
      refine lv_iload_n hx hb dX7_man_57 rfl (lv_at hl 1 rfl) ?_
      refine lv_iload_n hx hb dX7_man_58 rfl (lv_at hl 2 rfl) ?_
      refine cl_Vi (rest := []) hC hK hSK (c_X7_of l z gh11 h0 (o0) g0 p1 p2 (by omega) (by omega) hwf.2.2) k_X7_of mw_5_15 ⟨rfl, rfl, Nat.le_of_ble_eq_true rfl, Nat.le_of_ble_eq_true rfl⟩ (rv_Model hK hT g0) hT rfl hl.1 rfl (Nat.le_of_ble_eq_true rfl) dX7_man_59 ⟨Nat.zero_le _, Nat.zero_le _⟩ hS (fun _ h => h) (fun _ _ h => h) (fun r59 H locs hpo hS => ?_)
      obtain ⟨hT, u59_0, u59_1⟩ := hpo
      exact rt_i hx hb hr hlk hS ⟨_, hwf, hvis, hT⟩ dX7_man_62
    · refine lv_tableIn (off := 41) (tgt := 56) hx hb dX7_man_15 (by omega) (by omega) (by rw [c15]; rfl) (by decide) ?_
      refine lv_aload_n hx hb dX7_man_56 rfl (lv_at hl 0 rfl) ?_
      refine lv_iload_n hx hb dX7_man_57 rfl (lv_at hl 1 rfl) ?_
      refine lv_iload_n hx hb dX7_man_58 rfl (lv_at hl 2 rfl) ?_
      refine cl_Vi (rest := []) hC hK hSK (c_X7_of l z gh11 h0 (o0) g0 p1 p2 (by omega) (by omega) hwf.2.2) k_X7_of mw_5_15 ⟨rfl, rfl, Nat.le_of_ble_eq_true rfl, Nat.le_of_ble_eq_true rfl⟩ (rv_Model hK hT g0) hT rfl hl.1 rfl (Nat.le_of_ble_eq_true rfl) dX7_man_59 ⟨Nat.zero_le _, Nat.zero_le _⟩ hS (fun _ h => h) (fun _ _ h => h) (fun r59 H locs hpo hS => ?_)
      obtain ⟨hT, u59_0, u59_1⟩ := hpo
      exact rt_i hx hb hr hlk hS ⟨_, hwf, hvis, hT⟩ dX7_man_62
    · refine lv_tableIn (off := 48) (tgt := 63) hx hb dX7_man_15 (by omega) (by omega) (by rw [c15]; rfl) (by decide) ?_
      refine lv_aload_n hx hb dX7_man_63 rfl (lv_at hl 0 rfl) ?_
      refine lv_iload_n hx hb dX7_man_64 rfl (lv_at hl 1 rfl) ?_
      refine cl_Vi (rest := []) hC hK hSK (c_X7_stature l z gh11 h0 (o0) g0 p1 (by omega) hwf.2.2) k_X7_stature mw_5_19 ⟨rfl, rfl, Nat.le_of_ble_eq_true rfl, Nat.le_of_ble_eq_true rfl⟩ (rv_Model hK hT g0) hT rfl hl.1 rfl (Nat.le_of_ble_eq_true rfl) dX7_man_65 ⟨Nat.zero_le _, Nat.zero_le _⟩ hS (fun _ h => h) (fun _ _ h => h) (fun r65 H locs hpo hS => ?_)
      obtain ⟨hT, u65_0, u65_1⟩ := hpo
      refine r_iconst hx hb dX7_man_68 (by decide) (by decide) (fun x68 e68 => ?_)
      refine r_iadd hx hb dX7_man_69 (by omega) (by omega) (fun x69 e69 => ?_)
      exact rt_i hx hb hr hlk hS ⟨_, hwf, hvis, hT⟩ dX7_man_70
    · refine lv_tableIn (off := 56) (tgt := 71) hx hb dX7_man_15 (by omega) (by omega) (by rw [c15]; rfl) (by decide) ?_
      refine lv_aload_n hx hb dX7_man_71 rfl (lv_at hl 0 rfl) ?_
      refine lv_iload_n hx hb dX7_man_72 rfl (lv_at hl 1 rfl) ?_
      refine cl_Vi (rest := []) hC hK hSK (c_X7_rankOf l z gh11 h0 (o0) g0 p1 (by omega) hwf.2.2) k_X7_rankOf mw_5_23 ⟨rfl, rfl, Nat.le_of_ble_eq_true rfl, Nat.le_of_ble_eq_true rfl⟩ (rv_Model hK hT g0) hT rfl hl.1 rfl (Nat.le_of_ble_eq_true rfl) dX7_man_73 ⟨Nat.zero_le _, Nat.zero_le _⟩ hS (fun _ h => h) (fun _ _ h => h) (fun r73 H locs hpo hS => ?_)
      obtain ⟨hT, u73_0, u73_1, u73_2⟩ := hpo
      exact rt_i hx hb hr hlk hS ⟨_, hwf, hvis, hT⟩ dX7_man_76
    · refine lv_tableIn (off := 62) (tgt := 77) hx hb dX7_man_15 (by omega) (by omega) (by rw [c15]; rfl) (by decide) ?_
      refine lv_aload_n hx hb dX7_man_77 rfl (lv_at hl 0 rfl) ?_
      refine lv_iload_n hx hb dX7_man_78 rfl (lv_at hl 1 rfl) ?_
      refine cl_Vi (rest := []) hC hK hSK (c_X7_partnerOf l z gh11 h0 (o0) g0 p1) k_X7_partnerOf mw_5_31 ⟨rfl, rfl, Nat.le_of_ble_eq_true rfl, Nat.le_of_ble_eq_true rfl⟩ (rv_Model hK hT g0) hT rfl hl.1 rfl (Nat.le_of_ble_eq_true rfl) dX7_man_79 ⟨Nat.zero_le _, Nat.zero_le _⟩ hS (fun _ h => h) (fun _ _ h => h) (fun r79 H locs hpo hS => ?_)
      have hT := hpo
      exact rt_i hx hb hr hlk hS ⟨_, hwf, hvis, hT⟩ dX7_man_82
    · refine lv_tableOut (tgt := 83) hx hb dX7_man_15 c15 (by decide) ?_
      refine r_iconst hx hb dX7_man_83 (by decide) (by decide) (fun x83 e83 => ?_)
      exact rt_i hx hb hr hlk hS ⟨_, hwf, hvis, hT⟩ dX7_man_84
  · refine r_iconst hx hb dX7_man_8 (by decide) (by decide) (fun x8 e8 => ?_)
    exact rt_i hx hb hr hlk hS ⟨_, hwf, hvis, hT⟩ dX7_man_9
