theorem k_X7_in : cBS yX7_in cX7_in 6 (some .boolean) 3 := ⟨mw_4_155, mw_1_8, mw_4_156, ⟨by decide, by decide, by decide⟩⟩
set_option maxHeartbeats 4000000 in
set_option maxRecDepth 100000 in
theorem c_X7_in (l : Launch) (z : Zt) (σ : Sg) (p1 : Int64) (p2 : Int64) (p3 : Int64) (out : Int) (hF : D_X7_in p1.toInt p2.toInt p3.toInt = some out) : Met l yX7_in (uw yX7_in cX7_in 6 (some .boolean)) (rmF 1 64) (PcW z [.long p1, .long p2, .long p3] (fun H => TY z (zA z) σ H)) (QcI z (fun r H => some r.toInt = some out ∧ TY z (zA z) σ H ∧ (0 ≤ r.toInt ∧ r.toInt ≤ 1) ∧ ((r.toInt = 1 ∧ p2.toInt ≤ p1.toInt ∧ p1.toInt ≤ p3.toInt) ∨ (r.toInt = 0 ∧ (p1.toInt < p2.toInt ∨ p3.toInt < p1.toInt))))) 0 0 (zA z) := by
  refine Met.ofW (cc := cX7_in) (maxL := 6) (ret := (some .boolean)) (by decide) rfl ?_
  intro p e s m args below meth c s₁ B hml hv
  obtain ⟨rfl, hT, hK, hSK⟩ := hv
  have hx := B.exec
  have hb := B.bytes
  have hr := B.returns
  have hts : ∀ w ∈ lw_ok, w.before ([.long p1, .long p2, .long p3] : List Value).toArray s = true := fun w hw => atoms_spec (ws := uw yX7_in cX7_in 6 (some .boolean)) B.pre w (List.mem_cons_of_mem _ hw)
  have hown : s.vm.findClass RX7 = some m.cls := findClass_of_methodNamed B.named
  have hlk := B.notSynchronized
  have hC : CallFix p m c cX7_in 6 s ([.long p1, .long p2, .long p3] : List Value).toArray lw_ok RX7 := ⟨hx, hb, hml, hown, hts⟩
  have hS : va_S (zA z) s.heap s.heap [] := va_S.rf
  have hl := lv_entry ([.long p1, .long p2, .long p3]) (n := 6) (Nat.le_of_ble_eq_true rfl)
  rw [lg_entry_eq]
  generalize (lg_sl ([.long p1, .long p2, .long p3]) ++ List.replicate (6 - (lg_sl ([.long p1, .long p2, .long p3])).length) Slot.unset).toArray = ls at hl ⊢
  have hl : lv_has ls 6 [(0, .long p1), (2, .long p2), (4, .long p3)] := hl
  show W p l e (rmF 1 64) s m ([.long p1, .long p2, .long p3] : List Value).toArray below meth c s.heap [] 0 0 (MQ below (QcI z (fun r H => some r.toInt = some out ∧ TY z (zA z) σ H ∧ (0 ≤ r.toInt ∧ r.toInt ≤ 1) ∧ ((r.toInt = 1 ∧ p2.toInt ≤ p1.toInt ∧ p1.toInt ≤ p3.toInt) ∨ (r.toInt = 0 ∧ (p1.toInt < p2.toInt ∨ p3.toInt < p1.toInt))))) ([.long p1, .long p2, .long p3] : List Value).toArray s 0 0 (zA z)) (F0 m 0 ls [])
  unfold D_X7_in at hF
  refine lv_lload_n hx hb dX7_in_0 rfl (lv_at hl 0 rfl) ?_
  refine lv_lload_n hx hb dX7_in_1 rfl (lv_at hl 1 rfl) ?_
  refine x_lcmp hx hb dX7_in_2 (fun x2 e2 f2 g2 h2 => ?_)
  have hF := bn hF e2
  have v2 : -1 ≤ x2.toInt ∧ x2.toInt ≤ 1 := by omega
  refine r_if_lt (tgt := 17) hx hb dX7_in_3 (by decide) (fun c3 => ?_) (fun c3 => ?_)
  · have hF := ifp hF c3
    refine r_iconst hx hb dX7_in_17 (by decide) (by decide) (fun x17 e17 => ?_)
    have hF := bn hF e17
    exact rt_z hx hb hr hlk hS (by omega) (by omega) ⟨hF, hT, (by omega), (by omega)⟩ dX7_in_18
  · have hF := ifn hF (Int.not_lt.mpr c3)
    refine lv_lload_n hx hb dX7_in_6 rfl (lv_at hl 0 rfl) ?_
    refine lv_lload hx hb dX7_in_7 (lv_at hl 2 rfl) ?_
    refine x_lcmp hx hb dX7_in_9 (fun x9 e9 f9 g9 h9 => ?_)
    have hF := bn hF e9
    have v9 : -1 ≤ x9.toInt ∧ x9.toInt ≤ 1 := by omega
    refine r_if_gt (tgt := 17) hx hb dX7_in_10 (by decide) (fun c10 => ?_) (fun c10 => ?_)
    · have hF := ifp hF c10
      refine r_iconst hx hb dX7_in_17 (by decide) (by decide) (fun x17 e17 => ?_)
      have hF := bn hF e17
      exact rt_z hx hb hr hlk hS (by omega) (by omega) ⟨hF, hT, (by omega), (by omega)⟩ dX7_in_18
    · have hF := ifn hF (Int.not_lt.mpr c10)
      refine r_iconst hx hb dX7_in_13 (by decide) (by decide) (fun x13 e13 => ?_)
      have hF := bn hF e13
      refine lv_goto (tgt := 18) hx hb dX7_in_14 (by decide) ?_
      exact rt_z hx hb hr hlk hS (by omega) (by omega) ⟨hF, hT, (by omega), (by omega)⟩ dX7_in_18
theorem k_X7_flag : cBS yX7_flag cX7_flag 1 (some .int) 1 := ⟨mw_5_5, mw_1_8, mw_5_6, ⟨by decide, by decide, by decide⟩⟩
set_option maxHeartbeats 4000000 in
set_option maxRecDepth 100000 in
theorem c_X7_flag (l : Launch) (z : Zt) (σ : Sg) (p1 : Int32) (out : Int) (hF : D_X7_flag p1.toInt = some out) (bp1 : 0 ≤ p1.toInt ∧ p1.toInt ≤ 1) : Met l yX7_flag (uw yX7_flag cX7_flag 1 (some .int)) (rmF 1 64) (PcW z [.int p1] (fun H => TY z (zA z) σ H)) (QcI z (fun r H => some r.toInt = some out ∧ TY z (zA z) σ H ∧ (0 ≤ r.toInt ∧ r.toInt ≤ 1))) 0 0 (zA z) := by
  refine Met.ofW (cc := cX7_flag) (maxL := 1) (ret := (some .int)) (by decide) rfl ?_
  intro p e s m args below meth c s₁ B hml hv
  obtain ⟨rfl, hT, hK, hSK⟩ := hv
  have hx := B.exec
  have hb := B.bytes
  have hr := B.returns
  have hts : ∀ w ∈ lw_ok, w.before ([.int p1] : List Value).toArray s = true := fun w hw => atoms_spec (ws := uw yX7_flag cX7_flag 1 (some .int)) B.pre w (List.mem_cons_of_mem _ hw)
  have hown : s.vm.findClass RX7 = some m.cls := findClass_of_methodNamed B.named
  have hlk := B.notSynchronized
  have hC : CallFix p m c cX7_flag 1 s ([.int p1] : List Value).toArray lw_ok RX7 := ⟨hx, hb, hml, hown, hts⟩
  have hS : va_S (zA z) s.heap s.heap [] := va_S.rf
  have hl := lv_entry ([.int p1]) (n := 1) (Nat.le_of_ble_eq_true rfl)
  rw [lg_entry_eq]
  generalize (lg_sl ([.int p1]) ++ List.replicate (1 - (lg_sl ([.int p1])).length) Slot.unset).toArray = ls at hl ⊢
  have hl : lv_has ls 1 [(0, .int p1)] := hl
  show W p l e (rmF 1 64) s m ([.int p1] : List Value).toArray below meth c s.heap [] 0 0 (MQ below (QcI z (fun r H => some r.toInt = some out ∧ TY z (zA z) σ H ∧ (0 ≤ r.toInt ∧ r.toInt ≤ 1))) ([.int p1] : List Value).toArray s 0 0 (zA z)) (F0 m 0 ls [])
  unfold D_X7_flag at hF
  refine lv_iload_n hx hb dX7_flag_0 rfl (lv_at hl 0 rfl) ?_
  refine r_if_eq (tgt := 8) hx hb dX7_flag_1 (by decide) (fun c1 => ?_) (fun c1 => ?_)
  · have hF := ifp hF c1
    refine r_iconst hx hb dX7_flag_8 (by decide) (by decide) (fun x8 e8 => ?_)
    have hF := bn hF e8
    exact rt_i hx hb hr hlk hS ⟨hF, hT, (by omega)⟩ dX7_flag_9
  · have hF := ifn hF c1
    refine r_iconst hx hb dX7_flag_4 (by decide) (by decide) (fun x4 e4 => ?_)
    have hF := bn hF e4
    refine lv_goto (tgt := 9) hx hb dX7_flag_5 (by decide) ?_
    exact rt_i hx hb hr hlk hS ⟨hF, hT, (by omega)⟩ dX7_flag_9
theorem k_X7_isOne : cBV yX7_isOne cX7_isOne 2 (some .boolean) 1 := ⟨mw_5_13, ms_2_14, mw_1_8, mw_5_14, ⟨by decide, by decide, by decide⟩⟩
set_option maxHeartbeats 4000000 in
set_option maxRecDepth 100000 in
theorem c_X7_isOne (l : Launch) (z : Zt) (σ : Sg) (h0 o0 : Nat) (g0 : zG z h0 = (17, o0)) (p1 : Int32) (out : Int) (hF : D_X7_isOne (σ o0) p1.toInt = some out) : Met l yX7_isOne (uw yX7_isOne cX7_isOne 2 (some .boolean)) (rmF 2 89) (PcW z [.ref h0, .int p1] (fun H => TY z (zA z) σ H)) (QcI z (fun r H => some r.toInt = some out ∧ TY z (zA z) σ H ∧ (0 ≤ r.toInt ∧ r.toInt ≤ 1) ∧ (r.toInt ≠ 0 → 0 ≤ p1.toInt ∧ p1.toInt ≤ 4))) 0 0 (zA z) := by
  refine Met.ofW (cc := cX7_isOne) (maxL := 2) (ret := (some .boolean)) (by decide) rfl ?_
  intro p e s m args below meth c s₁ B hml hv
  obtain ⟨rfl, hT, hK, hSK⟩ := hv
  have hx := B.exec
  have hb := B.bytes
  have hr := B.returns
  have hts : ∀ w ∈ lw_ok, w.before ([.ref h0, .int p1] : List Value).toArray s = true := fun w hw => atoms_spec (ws := uw yX7_isOne cX7_isOne 2 (some .boolean)) B.pre w (List.mem_cons_of_mem _ hw)
  have hown : s.vm.findClass RX7 = some m.cls := findClass_of_methodNamed B.named
  have hlk := B.notSynchronized
  have hC : CallFix p m c cX7_isOne 2 s ([.ref h0, .int p1] : List Value).toArray lw_ok RX7 := ⟨hx, hb, hml, hown, hts⟩
  have hS : va_S (zA z) s.heap s.heap [] := va_S.rf
  have hl := lv_entry ([.ref h0, .int p1]) (n := 2) (Nat.le_of_ble_eq_true rfl)
  rw [lg_entry_eq]
  generalize (lg_sl ([.ref h0, .int p1]) ++ List.replicate (2 - (lg_sl ([.ref h0, .int p1])).length) Slot.unset).toArray = ls at hl ⊢
  have hl : lv_has ls 2 [(0, .ref h0), (1, .int p1)] := hl
  show W p l e (rmF 2 89) s m ([.ref h0, .int p1] : List Value).toArray below meth c s.heap [] 0 0 (MQ below (QcI z (fun r H => some r.toInt = some out ∧ TY z (zA z) σ H ∧ (0 ≤ r.toInt ∧ r.toInt ≤ 1) ∧ (r.toInt ≠ 0 → 0 ≤ p1.toInt ∧ p1.toInt ≤ 4))) ([.ref h0, .int p1] : List Value).toArray s 0 0 (zA z)) (F0 m 0 ls [])
  unfold D_X7_isOne at hF
  have mx_p1 := i_mx p1
  refine lv_iload_n hx hb dX7_isOne_0 rfl (lv_at hl 1 rfl) ?_
  refine r_i2l hx hb dX7_isOne_1 (fun x1 e1 => ?_)
  have hF := bn hF e1
  refine r_lconst0 hx hb dX7_isOne_2 (fun x2 e2 => ?_)
  have hF := bn hF e2
  refine lv_aload_n hx hb dX7_isOne_3 rfl (lv_at hl 0 rfl) ?_
  refine gt_Model_men hx hb hts ic_Model hown hK hT g0 (hts _ mw_4_73) dX7_isOne_4 (fun x4 e4 f4 g4 => ?_)
  have hF := bn hF e4
  refine r_iconst hx hb dX7_isOne_7 (by decide) (by decide) (fun x7 e7 => ?_)
  have hF := bn hF e7
  refine r_isub hx hb dX7_isOne_8 (by omega) (by omega) (fun x8 e8 => ?_)
  have hF := bn hF e8
  refine r_i2l hx hb dX7_isOne_9 (fun x9 e9 => ?_)
  have hF := bn hF e9
  obtain ⟨v10, hd10, -⟩ := bd0_s hF
  refine cl_Si (rest := []) hC hK hSK (c_X7_in l z σ x1 x2 x9 v10 hd10) k_X7_in mw_4_154 ⟨rfl, rfl, Nat.le_of_ble_eq_true rfl, Nat.le_of_ble_eq_true rfl⟩ hT rfl hl.1 rfl (Nat.le_of_ble_eq_true rfl) dX7_isOne_10 ⟨Nat.zero_le _, Nat.zero_le _⟩ hS (fun _ h => h) (fun _ _ h => h) (fun r10 H locs hpo hS => ?_)
  obtain ⟨he10, hT, u10_0, u10_1⟩ := hpo
  have hF := bd0_r hF hd10 he10
  exact rt_z hx hb hr hlk hS (by omega) (by omega) ⟨hF, hT, (by omega), (by omega)⟩ dX7_isOne_13
theorem k_X7_isFigure : cBS yX7_isFigure cX7_isFigure 1 (some .boolean) 1 := ⟨mw_5_78, mw_1_8, mw_5_79, ⟨by decide, by decide, by decide⟩⟩
set_option maxHeartbeats 4000000 in
set_option maxRecDepth 100000 in
theorem c_X7_isFigure (l : Launch) (z : Zt) (σ : Sg) (p1 : Int32) (out : Int) (hF : D_X7_isFigure p1.toInt = some out) : Met l yX7_isFigure (uw yX7_isFigure cX7_isFigure 1 (some .boolean)) (rmF 2 89) (PcW z [.int p1] (fun H => TY z (zA z) σ H)) (QcI z (fun r H => some r.toInt = some out ∧ TY z (zA z) σ H ∧ (0 ≤ r.toInt ∧ r.toInt ≤ 1) ∧ (r.toInt ≠ 0 → 0 ≤ p1.toInt ∧ p1.toInt ≤ 3))) 0 0 (zA z) := by
  refine Met.ofW (cc := cX7_isFigure) (maxL := 1) (ret := (some .boolean)) (by decide) rfl ?_
  intro p e s m args below meth c s₁ B hml hv
  obtain ⟨rfl, hT, hK, hSK⟩ := hv
  have hx := B.exec
  have hb := B.bytes
  have hr := B.returns
  have hts : ∀ w ∈ lw_ok, w.before ([.int p1] : List Value).toArray s = true := fun w hw => atoms_spec (ws := uw yX7_isFigure cX7_isFigure 1 (some .boolean)) B.pre w (List.mem_cons_of_mem _ hw)
  have hown : s.vm.findClass RX7 = some m.cls := findClass_of_methodNamed B.named
  have hlk := B.notSynchronized
  have hC : CallFix p m c cX7_isFigure 1 s ([.int p1] : List Value).toArray lw_ok RX7 := ⟨hx, hb, hml, hown, hts⟩
  have hS : va_S (zA z) s.heap s.heap [] := va_S.rf
  have hl := lv_entry ([.int p1]) (n := 1) (Nat.le_of_ble_eq_true rfl)
  rw [lg_entry_eq]
  generalize (lg_sl ([.int p1]) ++ List.replicate (1 - (lg_sl ([.int p1])).length) Slot.unset).toArray = ls at hl ⊢
  have hl : lv_has ls 1 [(0, .int p1)] := hl
  show W p l e (rmF 2 89) s m ([.int p1] : List Value).toArray below meth c s.heap [] 0 0 (MQ below (QcI z (fun r H => some r.toInt = some out ∧ TY z (zA z) σ H ∧ (0 ≤ r.toInt ∧ r.toInt ≤ 1) ∧ (r.toInt ≠ 0 → 0 ≤ p1.toInt ∧ p1.toInt ≤ 3))) ([.int p1] : List Value).toArray s 0 0 (zA z)) (F0 m 0 ls [])
  unfold D_X7_isFigure at hF
  have mx_p1 := i_mx p1
  refine lv_iload_n hx hb dX7_isFigure_0 rfl (lv_at hl 0 rfl) ?_
  refine r_i2l hx hb dX7_isFigure_1 (fun x1 e1 => ?_)
  have hF := bn hF e1
  refine r_lconst0 hx hb dX7_isFigure_2 (fun x2 e2 => ?_)
  have hF := bn hF e2
  refine r_ldc2 (3) rfl hx hb hts hown mw_5_59 dX7_isFigure_3 (fun x3 e3 => ?_)
  have hF := bn hF e3
  obtain ⟨v6, hd6, -⟩ := bd0_s hF
  refine cl_Si (rest := []) hC hK hSK (c_X7_in l z σ x1 x2 x3 v6 hd6) k_X7_in mw_4_154 ⟨rfl, rfl, Nat.le_of_ble_eq_true rfl, Nat.le_of_ble_eq_true rfl⟩ hT rfl hl.1 rfl (Nat.le_of_ble_eq_true rfl) dX7_isFigure_6 ⟨Nat.zero_le _, Nat.zero_le _⟩ hS (fun _ h => h) (fun _ _ h => h) (fun r6 H locs hpo hS => ?_)
  obtain ⟨he6, hT, u6_0, u6_1⟩ := hpo
  have hF := bd0_r hF hd6 he6
  exact rt_z hx hb hr hlk hS (by omega) (by omega) ⟨hF, hT, (by omega), (by omega)⟩ dX7_isFigure_9
theorem k_X7_isPart : cBS yX7_isPart cX7_isPart 1 (some .boolean) 1 := ⟨mw_5_153, mw_1_8, mw_5_154, ⟨by decide, by decide, by decide⟩⟩
set_option maxHeartbeats 4000000 in
set_option maxRecDepth 100000 in
theorem c_X7_isPart (l : Launch) (z : Zt) (σ : Sg) (p1 : Int32) (out : Int) (hF : D_X7_isPart p1.toInt = some out) : Met l yX7_isPart (uw yX7_isPart cX7_isPart 1 (some .boolean)) (rmF 2 89) (PcW z [.int p1] (fun H => TY z (zA z) σ H)) (QcI z (fun r H => some r.toInt = some out ∧ TY z (zA z) σ H ∧ (0 ≤ r.toInt ∧ r.toInt ≤ 1) ∧ (r.toInt ≠ 0 → 0 ≤ p1.toInt ∧ p1.toInt ≤ 1))) 0 0 (zA z) := by
  refine Met.ofW (cc := cX7_isPart) (maxL := 1) (ret := (some .boolean)) (by decide) rfl ?_
  intro p e s m args below meth c s₁ B hml hv
  obtain ⟨rfl, hT, hK, hSK⟩ := hv
  have hx := B.exec
  have hb := B.bytes
  have hr := B.returns
  have hts : ∀ w ∈ lw_ok, w.before ([.int p1] : List Value).toArray s = true := fun w hw => atoms_spec (ws := uw yX7_isPart cX7_isPart 1 (some .boolean)) B.pre w (List.mem_cons_of_mem _ hw)
  have hown : s.vm.findClass RX7 = some m.cls := findClass_of_methodNamed B.named
  have hlk := B.notSynchronized
  have hC : CallFix p m c cX7_isPart 1 s ([.int p1] : List Value).toArray lw_ok RX7 := ⟨hx, hb, hml, hown, hts⟩
  have hS : va_S (zA z) s.heap s.heap [] := va_S.rf
  have hl := lv_entry ([.int p1]) (n := 1) (Nat.le_of_ble_eq_true rfl)
  rw [lg_entry_eq]
  generalize (lg_sl ([.int p1]) ++ List.replicate (1 - (lg_sl ([.int p1])).length) Slot.unset).toArray = ls at hl ⊢
  have hl : lv_has ls 1 [(0, .int p1)] := hl
  show W p l e (rmF 2 89) s m ([.int p1] : List Value).toArray below meth c s.heap [] 0 0 (MQ below (QcI z (fun r H => some r.toInt = some out ∧ TY z (zA z) σ H ∧ (0 ≤ r.toInt ∧ r.toInt ≤ 1) ∧ (r.toInt ≠ 0 → 0 ≤ p1.toInt ∧ p1.toInt ≤ 1))) ([.int p1] : List Value).toArray s 0 0 (zA z)) (F0 m 0 ls [])
  unfold D_X7_isPart at hF
  have mx_p1 := i_mx p1
  refine lv_iload_n hx hb dX7_isPart_0 rfl (lv_at hl 0 rfl) ?_
  refine r_i2l hx hb dX7_isPart_1 (fun x1 e1 => ?_)
  have hF := bn hF e1
  refine r_lconst0 hx hb dX7_isPart_2 (fun x2 e2 => ?_)
  have hF := bn hF e2
  refine r_lconst1 hx hb dX7_isPart_3 (fun x3 e3 => ?_)
  have hF := bn hF e3
  obtain ⟨v4, hd4, -⟩ := bd0_s hF
  refine cl_Si (rest := []) hC hK hSK (c_X7_in l z σ x1 x2 x3 v4 hd4) k_X7_in mw_4_154 ⟨rfl, rfl, Nat.le_of_ble_eq_true rfl, Nat.le_of_ble_eq_true rfl⟩ hT rfl hl.1 rfl (Nat.le_of_ble_eq_true rfl) dX7_isPart_4 ⟨Nat.zero_le _, Nat.zero_le _⟩ hS (fun _ h => h) (fun _ _ h => h) (fun r4 H locs hpo hS => ?_)
  obtain ⟨he4, hT, u4_0, u4_1⟩ := hpo
  have hF := bd0_r hF hd4 he4
  exact rt_z hx hb hr hlk hS (by omega) (by omega) ⟨hF, hT, (by omega), (by omega)⟩ dX7_isPart_7
theorem k_X7_isSheet : cBS yX7_isSheet cX7_isSheet 2 (some .boolean) 2 := ⟨mw_6_3, mw_1_8, mw_6_4, ⟨by decide, by decide, by decide⟩⟩
set_option maxHeartbeats 4000000 in
set_option maxRecDepth 100000 in
theorem c_X7_isSheet (l : Launch) (z : Zt) (σ : Sg) (p1 : Int32) (p2 : Int32) (out : Int) (hF : D_X7_isSheet p1.toInt p2.toInt = some out) : Met l yX7_isSheet (uw yX7_isSheet cX7_isSheet 2 (some .boolean)) (rmF 2 89) (PcW z [.int p1, .int p2] (fun H => TY z (zA z) σ H)) (QcI z (fun r H => some r.toInt = some out ∧ TY z (zA z) σ H ∧ (0 ≤ r.toInt ∧ r.toInt ≤ 1) ∧ (r.toInt ≠ 0 → 0 ≤ p1.toInt ∧ p1.toInt ≤ 3 ∧ 0 ≤ p2.toInt ∧ p2.toInt ≤ 2))) 0 0 (zA z) := by
  refine Met.ofW (cc := cX7_isSheet) (maxL := 2) (ret := (some .boolean)) (by decide) rfl ?_
  intro p e s m args below meth c s₁ B hml hv
  obtain ⟨rfl, hT, hK, hSK⟩ := hv
  have hx := B.exec
  have hb := B.bytes
  have hr := B.returns
  have hts : ∀ w ∈ lw_ok, w.before ([.int p1, .int p2] : List Value).toArray s = true := fun w hw => atoms_spec (ws := uw yX7_isSheet cX7_isSheet 2 (some .boolean)) B.pre w (List.mem_cons_of_mem _ hw)
  have hown : s.vm.findClass RX7 = some m.cls := findClass_of_methodNamed B.named
  have hlk := B.notSynchronized
  have hC : CallFix p m c cX7_isSheet 2 s ([.int p1, .int p2] : List Value).toArray lw_ok RX7 := ⟨hx, hb, hml, hown, hts⟩
  have hS : va_S (zA z) s.heap s.heap [] := va_S.rf
  have hl := lv_entry ([.int p1, .int p2]) (n := 2) (Nat.le_of_ble_eq_true rfl)
  rw [lg_entry_eq]
  generalize (lg_sl ([.int p1, .int p2]) ++ List.replicate (2 - (lg_sl ([.int p1, .int p2])).length) Slot.unset).toArray = ls at hl ⊢
  have hl : lv_has ls 2 [(0, .int p1), (1, .int p2)] := hl
  show W p l e (rmF 2 89) s m ([.int p1, .int p2] : List Value).toArray below meth c s.heap [] 0 0 (MQ below (QcI z (fun r H => some r.toInt = some out ∧ TY z (zA z) σ H ∧ (0 ≤ r.toInt ∧ r.toInt ≤ 1) ∧ (r.toInt ≠ 0 → 0 ≤ p1.toInt ∧ p1.toInt ≤ 3 ∧ 0 ≤ p2.toInt ∧ p2.toInt ≤ 2))) ([.int p1, .int p2] : List Value).toArray s 0 0 (zA z)) (F0 m 0 ls [])
  unfold D_X7_isSheet at hF
  have mx_p1 := i_mx p1
  have mx_p2 := i_mx p2
  refine lv_iload_n hx hb dX7_isSheet_0 rfl (lv_at hl 0 rfl) ?_
  refine r_i2l hx hb dX7_isSheet_1 (fun x1 e1 => ?_)
  have hF := bn hF e1
  refine r_lconst0 hx hb dX7_isSheet_2 (fun x2 e2 => ?_)
  have hF := bn hF e2
  refine r_ldc2 (3) rfl hx hb hts hown mw_5_59 dX7_isSheet_3 (fun x3 e3 => ?_)
  have hF := bn hF e3
  obtain ⟨v6, hd6, -⟩ := bd0_s hF
  refine cl_Si (rest := []) hC hK hSK (c_X7_in l z σ x1 x2 x3 v6 hd6) k_X7_in mw_4_154 ⟨rfl, rfl, Nat.le_of_ble_eq_true rfl, Nat.le_of_ble_eq_true rfl⟩ hT rfl hl.1 rfl (Nat.le_of_ble_eq_true rfl) dX7_isSheet_6 ⟨Nat.zero_le _, Nat.zero_le _⟩ hS (fun _ h => h) (fun _ _ h => h) (fun r6 H locs hpo hS => ?_)
  obtain ⟨he6, hT, u6_0, u6_1⟩ := hpo
  have hF := bd0_r hF hd6 he6
  refine r_if_eq (tgt := 28) hx hb dX7_isSheet_9 (by decide) (fun c9 => ?_) (fun c9 => ?_)
  · have hF := ifp hF c9
    refine r_iconst hx hb dX7_isSheet_28 (by decide) (by decide) (fun x28 e28 => ?_)
    have hF := bn hF e28
    exact rt_z hx hb hr hlk hS (by omega) (by omega) ⟨hF, hT, (by omega), (by omega)⟩ dX7_isSheet_29
  · have hF := ifn hF c9
    refine lv_iload_n hx hb dX7_isSheet_12 rfl (lv_at hl 1 rfl) ?_
    refine r_i2l hx hb dX7_isSheet_13 (fun x13 e13 => ?_)
    have hF := bn hF e13
    refine r_lconst0 hx hb dX7_isSheet_14 (fun x14 e14 => ?_)
    have hF := bn hF e14
    refine r_ldc2 (2) rfl hx hb hts hown mw_6_5 dX7_isSheet_15 (fun x15 e15 => ?_)
    have hF := bn hF e15
    obtain ⟨v18, hd18, -⟩ := bd0_s hF
    refine cl_Si (rest := []) hC hK hSK (c_X7_in l z σ x13 x14 x15 v18 hd18) k_X7_in mw_4_154 ⟨rfl, rfl, Nat.le_of_ble_eq_true rfl, Nat.le_of_ble_eq_true rfl⟩ hT rfl hl.1 rfl (Nat.le_of_ble_eq_true rfl) dX7_isSheet_18 ⟨Nat.zero_le _, Nat.zero_le _⟩ hS (fun _ h => h) (fun _ _ h => h) (fun r18 H locs hpo hS => ?_)
    obtain ⟨he18, hT, u18_0, u18_1⟩ := hpo
    have hF := bd0_r hF hd18 he18
    refine r_if_eq (tgt := 28) hx hb dX7_isSheet_21 (by decide) (fun c21 => ?_) (fun c21 => ?_)
    · have hF := ifp hF c21
      refine r_iconst hx hb dX7_isSheet_28 (by decide) (by decide) (fun x28 e28 => ?_)
      have hF := bn hF e28
      exact rt_z hx hb hr hlk hS (by omega) (by omega) ⟨hF, hT, (by omega), (by omega)⟩ dX7_isSheet_29
    · have hF := ifn hF c21
      refine r_iconst hx hb dX7_isSheet_24 (by decide) (by decide) (fun x24 e24 => ?_)
      have hF := bn hF e24
      refine lv_goto (tgt := 29) hx hb dX7_isSheet_25 (by decide) ?_
      exact rt_z hx hb hr hlk hS (by omega) (by omega) ⟨hF, hT, (by omega), (by omega)⟩ dX7_isSheet_29
theorem k_X7_of : cBV yX7_of cX7_of 3 (some .int) 2 := ⟨mw_5_17, ms_2_15, mw_1_8, mw_5_18, ⟨by decide, by decide, by decide⟩⟩
set_option maxHeartbeats 4000000 in
set_option maxRecDepth 100000 in
theorem c_X7_of (l : Launch) (z : Zt) (σ : Sg) (h0 o0 : Nat) (g0 : zG z h0 = (17, o0)) (p1 : Int32) (p2 : Int32) (out : Int) (hF : D_X7_of (σ o0) p1.toInt p2.toInt = some out) (bp1 : 0 ≤ p1.toInt ∧ p1.toInt ≤ 4) (bp2 : 0 ≤ p2.toInt ∧ p2.toInt ≤ 3) : Met l yX7_of (uw yX7_of cX7_of 3 (some .int)) (rmF 1 64) (PcW z [.ref h0, .int p1, .int p2] (fun H => TY z (zA z) σ H)) (QcI z (fun r H => some r.toInt = some out ∧ TY z (zA z) σ H ∧ (0 ≤ r.toInt ∧ r.toInt ≤ 9))) 0 0 (zA z) := by
  refine Met.ofW (cc := cX7_of) (maxL := 3) (ret := (some .int)) (by decide) rfl ?_
  intro p e s m args below meth c s₁ B hml hv
  obtain ⟨rfl, hT, hK, hSK⟩ := hv
  have hx := B.exec
  have hb := B.bytes
  have hr := B.returns
  have hts : ∀ w ∈ lw_ok, w.before ([.ref h0, .int p1, .int p2] : List Value).toArray s = true := fun w hw => atoms_spec (ws := uw yX7_of cX7_of 3 (some .int)) B.pre w (List.mem_cons_of_mem _ hw)
  have hown : s.vm.findClass RX7 = some m.cls := findClass_of_methodNamed B.named
  have hlk := B.notSynchronized
  have hC : CallFix p m c cX7_of 3 s ([.ref h0, .int p1, .int p2] : List Value).toArray lw_ok RX7 := ⟨hx, hb, hml, hown, hts⟩
  have hS : va_S (zA z) s.heap s.heap [] := va_S.rf
  have hl := lv_entry ([.ref h0, .int p1, .int p2]) (n := 3) (Nat.le_of_ble_eq_true rfl)
  rw [lg_entry_eq]
  generalize (lg_sl ([.ref h0, .int p1, .int p2]) ++ List.replicate (3 - (lg_sl ([.ref h0, .int p1, .int p2])).length) Slot.unset).toArray = ls at hl ⊢
  have hl : lv_has ls 3 [(0, .ref h0), (1, .int p1), (2, .int p2)] := hl
  show W p l e (rmF 1 64) s m ([.ref h0, .int p1, .int p2] : List Value).toArray below meth c s.heap [] 0 0 (MQ below (QcI z (fun r H => some r.toInt = some out ∧ TY z (zA z) σ H ∧ (0 ≤ r.toInt ∧ r.toInt ≤ 9))) ([.ref h0, .int p1, .int p2] : List Value).toArray s 0 0 (zA z)) (F0 m 0 ls [])
  unfold D_X7_of at hF
  refine lv_aload_n hx hb dX7_of_0 rfl (lv_at hl 0 rfl) ?_
  refine gt_Model_now hx hb hts ic_Model hown hK hT g0 (hts _ mw_4_71) dX7_of_1 (fun q1 hq1 => ?_)
  refine r_iconst hx hb dX7_of_4 (by decide) (by decide) (fun x4 e4 => ?_)
  have hF := bn hF e4
  refine lv_iload_n hx hb dX7_of_5 rfl (lv_at hl 1 rfl) ?_
  refine r_imulL (4) (by omega) hx hb dX7_of_6 (by omega) (by omega) (fun x6 e6 => ?_)
  have hF := bn hF e6
  refine lv_iload_n hx hb dX7_of_7 rfl (lv_at hl 2 rfl) ?_
  refine r_iadd hx hb dX7_of_8 (by omega) (by omega) (fun x8 e8 => ?_)
  have hF := bn hF e8
  refine al_41 hx hb hK hT hq1 (by omega) (by omega) dX7_of_9 (fun x9 e9 g9 => ?_)
  have hF := bn hF e9
  have f9 := gd59_19 g9 (by omega)
  exact rt_i hx hb hr hlk hS ⟨hF, hT, (by omega)⟩ dX7_of_10
theorem k_X7_becomesOf : cBV yX7_becomesOf cX7_becomesOf 4 none 3 := ⟨mw_5_102, ms_3_9, mw_1_8, mw_5_103, ⟨by decide, by decide, by decide⟩⟩
set_option maxHeartbeats 4000000 in
set_option maxRecDepth 100000 in
theorem c_X7_becomesOf (l : Launch) (z : Zt) (σ : Sg) (h0 o0 : Nat) (g0 : zG z h0 = (17, o0)) (p1 : Int32) (p2 : Int32) (p3 : Int32) (out : Lo) (hF : D_X7_becomesOf (σ o0) p1.toInt p2.toInt p3.toInt = some out) (bp1 : 0 ≤ p1.toInt ∧ p1.toInt ≤ 4) (bp2 : 0 ≤ p2.toInt ∧ p2.toInt ≤ 3) (bp3 : 0 ≤ p3.toInt ∧ p3.toInt ≤ 9) : Met l yX7_becomesOf (uw yX7_becomesOf cX7_becomesOf 4 none) (rmF 1 64) (PcW z [.ref h0, .int p1, .int p2, .int p3] (fun H => TY z (zA z) σ H)) (QcV z (fun H => ∃ σ' : Sg, some (σ' o0) = some out ∧ FR σ σ' o0 ∧ TY z (zA z) σ' H)) 0 0 (zA z) := by
  refine Met.ofW (cc := cX7_becomesOf) (maxL := 4) (ret := none) (by decide) rfl ?_
  intro p e s m args below meth c s₁ B hml hv
  obtain ⟨rfl, hT, hK, hSK⟩ := hv
  have hx := B.exec
  have hb := B.bytes
  have hr := B.returns
  have hts : ∀ w ∈ lw_ok, w.before ([.ref h0, .int p1, .int p2, .int p3] : List Value).toArray s = true := fun w hw => atoms_spec (ws := uw yX7_becomesOf cX7_becomesOf 4 none) B.pre w (List.mem_cons_of_mem _ hw)
  have hown : s.vm.findClass RX7 = some m.cls := findClass_of_methodNamed B.named
  have hlk := B.notSynchronized
  have hC : CallFix p m c cX7_becomesOf 4 s ([.ref h0, .int p1, .int p2, .int p3] : List Value).toArray lw_ok RX7 := ⟨hx, hb, hml, hown, hts⟩
  have hS : va_S (zA z) s.heap s.heap [] := va_S.rf
  have hl := lv_entry ([.ref h0, .int p1, .int p2, .int p3]) (n := 4) (Nat.le_of_ble_eq_true rfl)
  rw [lg_entry_eq]
  generalize (lg_sl ([.ref h0, .int p1, .int p2, .int p3]) ++ List.replicate (4 - (lg_sl ([.ref h0, .int p1, .int p2, .int p3])).length) Slot.unset).toArray = ls at hl ⊢
  have hl : lv_has ls 4 [(0, .ref h0), (1, .int p1), (2, .int p2), (3, .int p3)] := hl
  show W p l e (rmF 1 64) s m ([.ref h0, .int p1, .int p2, .int p3] : List Value).toArray below meth c s.heap [] 0 0 (MQ below (QcV z (fun H => ∃ σ' : Sg, some (σ' o0) = some out ∧ FR σ σ' o0 ∧ TY z (zA z) σ' H)) ([.ref h0, .int p1, .int p2, .int p3] : List Value).toArray s 0 0 (zA z)) (F0 m 0 ls [])
  have hfr : FR σ σ o0 := FR_rf σ o0
  unfold D_X7_becomesOf at hF
  refine lv_aload_n hx hb dX7_becomesOf_0 rfl (lv_at hl 0 rfl) ?_
  refine gt_Model_now hx hb hts ic_Model hown hK hT g0 (hts _ mw_4_71) dX7_becomesOf_1 (fun q1 hq1 => ?_)
  refine r_iconst hx hb dX7_becomesOf_4 (by decide) (by decide) (fun x4 e4 => ?_)
  have hF := bn hF e4
  refine lv_iload_n hx hb dX7_becomesOf_5 rfl (lv_at hl 1 rfl) ?_
  refine r_imulL (4) (by omega) hx hb dX7_becomesOf_6 (by omega) (by omega) (fun x6 e6 => ?_)
  have hF := bn hF e6
  refine lv_iload_n hx hb dX7_becomesOf_7 rfl (lv_at hl 2 rfl) ?_
  refine r_iadd hx hb dX7_becomesOf_8 (by omega) (by omega) (fun x8 e8 => ?_)
  have hF := bn hF e8
  refine lv_iload_n hx hb dX7_becomesOf_9 rfl (lv_at hl 3 rfl) ?_
  refine as_41 hx hb hK hT hS hq1 (by omega) (by omega) (gd59_m19 (by omega) ⟨by omega, by omega⟩) dX7_becomesOf_10 (fun H locs hT hS => ?_)
  obtain ⟨σ10, hF, hfr, hT⟩ := wrL hF hfr hT
  exact rt_v hx hb hr hlk hS ⟨σ10, hF, hfr, hT⟩ dX7_becomesOf_11
theorem k_X7_stature : cBV yX7_stature cX7_stature 3 (some .int) 1 := ⟨mw_5_21, ms_3_0, mw_1_8, mw_5_22, ⟨by decide, by decide, by decide⟩⟩
set_option maxHeartbeats 4000000 in
set_option maxRecDepth 100000 in
theorem c_X7_stature (l : Launch) (z : Zt) (σ : Sg) (h0 o0 : Nat) (g0 : zG z h0 = (17, o0)) (p1 : Int32) (out : Int) (hF : D_X7_stature (σ o0) p1.toInt = some out) (bp1 : 0 ≤ p1.toInt ∧ p1.toInt ≤ 4) : Met l yX7_stature (uw yX7_stature cX7_stature 3 (some .int)) (rmF 2 86) (PcW z [.ref h0, .int p1] (fun H => TY z (zA z) σ H)) (QcI z (fun r H => some r.toInt = some out ∧ TY z (zA z) σ H ∧ (-2 ≤ r.toInt ∧ r.toInt ≤ 21))) 0 0 (zA z) := by
  refine Met.ofW (cc := cX7_stature) (maxL := 3) (ret := (some .int)) (by decide) rfl ?_
  intro p e s m args below meth c s₁ B hml hv
  obtain ⟨rfl, hT, hK, hSK⟩ := hv
  have hx := B.exec
  have hb := B.bytes
  have hr := B.returns
  have hts : ∀ w ∈ lw_ok, w.before ([.ref h0, .int p1] : List Value).toArray s = true := fun w hw => atoms_spec (ws := uw yX7_stature cX7_stature 3 (some .int)) B.pre w (List.mem_cons_of_mem _ hw)
  have hown : s.vm.findClass RX7 = some m.cls := findClass_of_methodNamed B.named
  have hlk := B.notSynchronized
  have hC : CallFix p m c cX7_stature 3 s ([.ref h0, .int p1] : List Value).toArray lw_ok RX7 := ⟨hx, hb, hml, hown, hts⟩
  have hS : va_S (zA z) s.heap s.heap [] := va_S.rf
  have hl := lv_entry ([.ref h0, .int p1]) (n := 3) (Nat.le_of_ble_eq_true rfl)
  rw [lg_entry_eq]
  generalize (lg_sl ([.ref h0, .int p1]) ++ List.replicate (3 - (lg_sl ([.ref h0, .int p1])).length) Slot.unset).toArray = ls at hl ⊢
  have hl : lv_has ls 3 [(0, .ref h0), (1, .int p1)] := hl
  show W p l e (rmF 2 86) s m ([.ref h0, .int p1] : List Value).toArray below meth c s.heap [] 0 0 (MQ below (QcI z (fun r H => some r.toInt = some out ∧ TY z (zA z) σ H ∧ (-2 ≤ r.toInt ∧ r.toInt ≤ 21))) ([.ref h0, .int p1] : List Value).toArray s 0 0 (zA z)) (F0 m 0 ls [])
  unfold D_X7_stature at hF
  refine lv_aload_n hx hb dX7_stature_0 rfl (lv_at hl 0 rfl) ?_
  refine lv_iload_n hx hb dX7_stature_1 rfl (lv_at hl 1 rfl) ?_
  refine r_iconst hx hb dX7_stature_2 (by decide) (by decide) (fun x2 e2 => ?_)
  have hF := bn hF e2
  obtain ⟨v3, hd3, -⟩ := bd0_s hF
  refine cl_Vi (rest := []) hC hK hSK (c_X7_of l z σ h0 (o0) g0 p1 x2 v3 hd3 (by omega) (by omega)) k_X7_of mw_5_15 ⟨rfl, rfl, Nat.le_of_ble_eq_true rfl, Nat.le_of_ble_eq_true rfl⟩ (rv_Model hK hT g0) hT rfl hl.1 rfl (Nat.le_of_ble_eq_true rfl) dX7_stature_3 ⟨Nat.zero_le _, Nat.zero_le _⟩ hS (fun _ h => h) (fun _ _ h => h) (fun r3 H locs hpo hS => ?_)
  obtain ⟨he3, hT, u3_0⟩ := hpo
  have hF := bd0_r hF hd3 he3
  refine lv_istore_n (lv' := [(2, .int r3), (0, .ref h0), (1, .int p1)]) hx hb dX7_stature_6 rfl hl (by decide) rfl (fun ls hl => ?_)
  refine lv_aload_n hx hb dX7_stature_7 rfl (lv_at hl 1 rfl) ?_
  refine lv_iload_n hx hb dX7_stature_8 rfl (lv_at hl 2 rfl) ?_
  refine r_iconst hx hb dX7_stature_9 (by decide) (by decide) (fun x9 e9 => ?_)
  have hF := bn hF e9
  obtain ⟨v10, hd10, -⟩ := bd0_s hF
  refine cl_Vi (rest := []) hC hK hSK (c_X7_of l z σ h0 (o0) g0 p1 x9 v10 hd10 (by omega) (by omega)) k_X7_of mw_5_15 ⟨rfl, rfl, Nat.le_of_ble_eq_true rfl, Nat.le_of_ble_eq_true rfl⟩ (rv_Model hK hT g0) hT rfl hl.1 rfl (Nat.le_of_ble_eq_true rfl) dX7_stature_10 ⟨Nat.zero_le _, Nat.zero_le _⟩ hS (fun _ h => h) (fun _ _ h => h) (fun r10 H locs hpo hS => ?_)
  obtain ⟨he10, hT, u10_0⟩ := hpo
  have hF := bd0_r hF hd10 he10
  refine lv_aload_n hx hb dX7_stature_13 rfl (lv_at hl 1 rfl) ?_
  refine lv_iload_n hx hb dX7_stature_14 rfl (lv_at hl 2 rfl) ?_
  refine r_iconst hx hb dX7_stature_15 (by decide) (by decide) (fun x15 e15 => ?_)
  have hF := bn hF e15
  obtain ⟨v16, hd16, -⟩ := bd0_s hF
  refine cl_Vi (rest := [.int r10]) hC hK hSK (c_X7_of l z σ h0 (o0) g0 p1 x15 v16 hd16 (by omega) (by omega)) k_X7_of mw_5_15 ⟨rfl, rfl, Nat.le_of_ble_eq_true rfl, Nat.le_of_ble_eq_true rfl⟩ (rv_Model hK hT g0) hT rfl hl.1 rfl (Nat.le_of_ble_eq_true rfl) dX7_stature_16 ⟨Nat.zero_le _, Nat.zero_le _⟩ hS (fun _ h => h) (fun _ _ h => h) (fun r16 H locs hpo hS => ?_)
  obtain ⟨he16, hT, u16_0⟩ := hpo
  have hF := bd0_r hF hd16 he16
  refine r_iadd hx hb dX7_stature_19 (by omega) (by omega) (fun x19 e19 => ?_)
  have hF := bn hF e19
  refine lv_iload_n hx hb dX7_stature_20 rfl (lv_at hl 0 rfl) ?_
  refine r_iconst hx hb dX7_stature_21 (by decide) (by decide) (fun x21 e21 => ?_)
  have hF := bn hF e21
  refine r_icmp_ne (tgt := 30) hx hb dX7_stature_22 (by decide) (fun c22 => ?_) (fun c22 => ?_)
  · have hF := ifn hF c22
    refine lv_iload_n hx hb dX7_stature_30 rfl (lv_at hl 0 rfl) ?_
    refine r_iconst hx hb dX7_stature_31 (by decide) (by decide) (fun x31 e31 => ?_)
    have hF := bn hF e31
    refine r_icmp_ne (tgt := 39) hx hb dX7_stature_32 (by decide) (fun c32 => ?_) (fun c32 => ?_)
    · have hF := ifn hF c32
      refine r_iconst hx hb dX7_stature_39 (by decide) (by decide) (fun x39 e39 => ?_)
      have hF := bn hF e39
      refine r_iadd hx hb dX7_stature_40 (by omega) (by omega) (fun x40 e40 => ?_)
      have hF := bn hF e40
      exact rt_i hx hb hr hlk hS ⟨hF, hT, (by omega)⟩ dX7_stature_41
    · have hF := ifp hF c32
      refine r_iconst hx hb dX7_stature_35 (by decide) (by decide) (fun x35 e35 => ?_)
      have hF := bn hF e35
      refine lv_goto (tgt := 40) hx hb dX7_stature_36 (by decide) ?_
      refine r_iadd hx hb dX7_stature_40 (by omega) (by omega) (fun x40 e40 => ?_)
      have hF := bn hF e40
      exact rt_i hx hb hr hlk hS ⟨hF, hT, (by omega)⟩ dX7_stature_41
  · have hF := ifp hF c22
    refine r_bipush hx hb dX7_stature_25 rfl (fun x25 e25 => ?_)
    have hF := bn hF e25
    refine lv_goto (tgt := 40) hx hb dX7_stature_27 (by decide) ?_
    refine r_iadd hx hb dX7_stature_40 (by omega) (by omega) (fun x40 e40 => ?_)
    have hF := bn hF e40
    exact rt_i hx hb hr hlk hS ⟨hF, hT, (by omega)⟩ dX7_stature_41
theorem k_X7_isBelow : cBV yX7_isBelow cX7_isBelow 5 (some .boolean) 2 := ⟨mw_5_29, ms_3_2, mw_1_8, mw_5_30, ⟨by decide, by decide, by decide⟩⟩
set_option maxHeartbeats 4000000 in
set_option maxRecDepth 100000 in
theorem c_X7_isBelow (l : Launch) (z : Zt) (σ : Sg) (h0 o0 : Nat) (g0 : zG z h0 = (17, o0)) (p1 : Int32) (p2 : Int32) (out : Int) (hF : D_X7_isBelow (σ o0) p1.toInt p2.toInt = some out) (bp1 : 0 ≤ p1.toInt ∧ p1.toInt ≤ 4) (bp2 : 0 ≤ p2.toInt ∧ p2.toInt ≤ 4) : Met l yX7_isBelow (uw yX7_isBelow cX7_isBelow 5 (some .boolean)) (rmF 3 108) (PcW z [.ref h0, .int p1, .int p2] (fun H => TY z (zA z) σ H)) (QcI z (fun r H => some r.toInt = some out ∧ TY z (zA z) σ H ∧ (0 ≤ r.toInt ∧ r.toInt ≤ 1))) 0 0 (zA z) := by
  refine Met.ofW (cc := cX7_isBelow) (maxL := 5) (ret := (some .boolean)) (by decide) rfl ?_
  intro p e s m args below meth c s₁ B hml hv
  obtain ⟨rfl, hT, hK, hSK⟩ := hv
  have hx := B.exec
  have hb := B.bytes
  have hr := B.returns
  have hts : ∀ w ∈ lw_ok, w.before ([.ref h0, .int p1, .int p2] : List Value).toArray s = true := fun w hw => atoms_spec (ws := uw yX7_isBelow cX7_isBelow 5 (some .boolean)) B.pre w (List.mem_cons_of_mem _ hw)
  have hown : s.vm.findClass RX7 = some m.cls := findClass_of_methodNamed B.named
  have hlk := B.notSynchronized
  have hC : CallFix p m c cX7_isBelow 5 s ([.ref h0, .int p1, .int p2] : List Value).toArray lw_ok RX7 := ⟨hx, hb, hml, hown, hts⟩
  have hS : va_S (zA z) s.heap s.heap [] := va_S.rf
  have hl := lv_entry ([.ref h0, .int p1, .int p2]) (n := 5) (Nat.le_of_ble_eq_true rfl)
  rw [lg_entry_eq]
  generalize (lg_sl ([.ref h0, .int p1, .int p2]) ++ List.replicate (5 - (lg_sl ([.ref h0, .int p1, .int p2])).length) Slot.unset).toArray = ls at hl ⊢
  have hl : lv_has ls 5 [(0, .ref h0), (1, .int p1), (2, .int p2)] := hl
  show W p l e (rmF 3 108) s m ([.ref h0, .int p1, .int p2] : List Value).toArray below meth c s.heap [] 0 0 (MQ below (QcI z (fun r H => some r.toInt = some out ∧ TY z (zA z) σ H ∧ (0 ≤ r.toInt ∧ r.toInt ≤ 1))) ([.ref h0, .int p1, .int p2] : List Value).toArray s 0 0 (zA z)) (F0 m 0 ls [])
  unfold D_X7_isBelow at hF
  refine lv_aload_n hx hb dX7_isBelow_0 rfl (lv_at hl 0 rfl) ?_
  refine lv_iload_n hx hb dX7_isBelow_1 rfl (lv_at hl 1 rfl) ?_
  obtain ⟨v2, hd2, -⟩ := bd0_s hF
  refine cl_Vi (rest := []) hC hK hSK (c_X7_stature l z σ h0 (o0) g0 p1 v2 hd2 (by omega)) k_X7_stature mw_5_19 ⟨rfl, rfl, Nat.le_of_ble_eq_true rfl, Nat.le_of_ble_eq_true rfl⟩ (rv_Model hK hT g0) hT rfl hl.1 rfl (Nat.le_of_ble_eq_true rfl) dX7_isBelow_2 ⟨Nat.zero_le _, Nat.zero_le _⟩ hS (fun _ h => h) (fun _ _ h => h) (fun r2 H locs hpo hS => ?_)
  obtain ⟨he2, hT, u2_0⟩ := hpo
  have hF := bd0_r hF hd2 he2
  refine lv_aload_n hx hb dX7_isBelow_5 rfl (lv_at hl 0 rfl) ?_
  refine lv_iload_n hx hb dX7_isBelow_6 rfl (lv_at hl 2 rfl) ?_
  obtain ⟨v7, hd7, -⟩ := bd0_s hF
  refine cl_Vi (rest := [.int r2]) hC hK hSK (c_X7_stature l z σ h0 (o0) g0 p2 v7 hd7 (by omega)) k_X7_stature mw_5_19 ⟨rfl, rfl, Nat.le_of_ble_eq_true rfl, Nat.le_of_ble_eq_true rfl⟩ (rv_Model hK hT g0) hT rfl hl.1 rfl (Nat.le_of_ble_eq_true rfl) dX7_isBelow_7 ⟨Nat.zero_le _, Nat.zero_le _⟩ hS (fun _ h => h) (fun _ _ h => h) (fun r7 H locs hpo hS => ?_)
  obtain ⟨he7, hT, u7_0⟩ := hpo
  have hF := bd0_r hF hd7 he7
  refine r_isub hx hb dX7_isBelow_10 (by omega) (by omega) (fun x10 e10 => ?_)
  have hF := bn hF e10
  refine lv_istore_n (lv' := [(3, .int x10), (0, .ref h0), (1, .int p1), (2, .int p2)]) hx hb dX7_isBelow_11 rfl hl (by decide) rfl (fun ls hl => ?_)
  refine lv_aload_n hx hb dX7_isBelow_12 rfl (lv_at hl 1 rfl) ?_
  refine lv_iload_n hx hb dX7_isBelow_13 rfl (lv_at hl 2 rfl) ?_
  refine r_iconst hx hb dX7_isBelow_14 (by decide) (by decide) (fun x14 e14 => ?_)
  have hF := bn hF e14
  obtain ⟨v15, hd15, -⟩ := bd0_s hF
  refine cl_Vi (rest := []) hC hK hSK (c_X7_of l z σ h0 (o0) g0 p1 x14 v15 hd15 (by omega) (by omega)) k_X7_of mw_5_15 ⟨rfl, rfl, Nat.le_of_ble_eq_true rfl, Nat.le_of_ble_eq_true rfl⟩ (rv_Model hK hT g0) hT rfl hl.1 rfl (Nat.le_of_ble_eq_true rfl) dX7_isBelow_15 ⟨Nat.zero_le _, Nat.zero_le _⟩ hS (fun _ h => h) (fun _ _ h => h) (fun r15 H locs hpo hS => ?_)
  obtain ⟨he15, hT, u15_0⟩ := hpo
  have hF := bd0_r hF hd15 he15
  refine lv_aload_n hx hb dX7_isBelow_18 rfl (lv_at hl 1 rfl) ?_
  refine lv_iload_n hx hb dX7_isBelow_19 rfl (lv_at hl 3 rfl) ?_
  refine r_iconst hx hb dX7_isBelow_20 (by decide) (by decide) (fun x20 e20 => ?_)
  have hF := bn hF e20
  obtain ⟨v21, hd21, -⟩ := bd0_s hF
  refine cl_Vi (rest := [.int r15]) hC hK hSK (c_X7_of l z σ h0 (o0) g0 p2 x20 v21 hd21 (by omega) (by omega)) k_X7_of mw_5_15 ⟨rfl, rfl, Nat.le_of_ble_eq_true rfl, Nat.le_of_ble_eq_true rfl⟩ (rv_Model hK hT g0) hT rfl hl.1 rfl (Nat.le_of_ble_eq_true rfl) dX7_isBelow_21 ⟨Nat.zero_le _, Nat.zero_le _⟩ hS (fun _ h => h) (fun _ _ h => h) (fun r21 H locs hpo hS => ?_)
  obtain ⟨he21, hT, u21_0⟩ := hpo
  have hF := bd0_r hF hd21 he21
  refine r_isub hx hb dX7_isBelow_24 (by omega) (by omega) (fun x24 e24 => ?_)
  have hF := bn hF e24
  refine lv_istore (lv' := [(4, .int x24), (3, .int x10), (0, .ref h0), (1, .int p1), (2, .int p2)]) hx hb dX7_isBelow_25 hl (by decide) rfl (fun ls hl => ?_)
  refine lv_iload_n hx hb dX7_isBelow_27 rfl (lv_at hl 1 rfl) ?_
  have J50 : ∀ (ls : Array Slot) (H : Heap) (locs : List Loc), (-23 ≤ x10.toInt ∧ x10.toInt ≤ 0) → D_X7_isBelow_50 = some out → TY z (zA z) σ H → va_S (zA z) s.heap H locs → lv_has ls 5 [(0, .ref h0), (1, .int p1), (2, .int p2), (3, .int x10), (4, .int x24)] → W p l e (rmF 3 108) s m ([.ref h0, .int p1, .int p2] : List Value).toArray below meth c H locs 0 0 (MQ below (QcI z (fun r H => some r.toInt = some out ∧ TY z (zA z) σ H ∧ (0 ≤ r.toInt ∧ r.toInt ≤ 1))) ([.ref h0, .int p1, .int p2] : List Value).toArray s 0 0 (zA z)) (F0 m 50 ls []) := by
    intro ls H locs j50_x10 hF hT hS hl
    unfold D_X7_isBelow_50 at hF
    refine r_iconst hx hb dX7_isBelow_50 (by decide) (by decide) (fun x50 e50 => ?_)
    have hF := bn hF e50
    refine lv_goto (tgt := 55) hx hb dX7_isBelow_51 (by decide) ?_
    exact rt_z hx hb hr hlk hS (by omega) (by omega) ⟨hF, hT, (by omega)⟩ dX7_isBelow_55
  refine r_if_lt (tgt := 50) hx hb dX7_isBelow_28 (by decide) (fun c28 => ?_) (fun c28 => ?_)
  · have hF := ifp hF c28
    exact J50 ls _ _ (by omega) hF hT hS (lv_sub hl [2, 3, 4, 1, 0] rfl)
  · have hF := ifn hF (Int.not_lt.mpr c28)
    refine lv_iload_n hx hb dX7_isBelow_31 rfl (lv_at hl 1 rfl) ?_
    have J54 : ∀ (ls : Array Slot) (H : Heap) (locs : List Loc), D_X7_isBelow_54 = some out → TY z (zA z) σ H → va_S (zA z) s.heap H locs → lv_has ls 5 [(0, .ref h0), (1, .int p1), (2, .int p2), (3, .int x10), (4, .int x24)] → W p l e (rmF 3 108) s m ([.ref h0, .int p1, .int p2] : List Value).toArray below meth c H locs 0 0 (MQ below (QcI z (fun r H => some r.toInt = some out ∧ TY z (zA z) σ H ∧ (0 ≤ r.toInt ∧ r.toInt ≤ 1))) ([.ref h0, .int p1, .int p2] : List Value).toArray s 0 0 (zA z)) (F0 m 54 ls []) := by
      intro ls H locs hF hT hS hl
      unfold D_X7_isBelow_54 at hF
      refine r_iconst hx hb dX7_isBelow_54 (by decide) (by decide) (fun x54 e54 => ?_)
      have hF := bn hF e54
      exact rt_z hx hb hr hlk hS (by omega) (by omega) ⟨hF, hT, (by omega)⟩ dX7_isBelow_55
    refine r_if_ne (tgt := 54) hx hb dX7_isBelow_32 (by decide) (fun c32 => ?_) (fun c32 => ?_)
    · have hF := ifn hF c32
      exact J54 ls _ _ hF hT hS (lv_sub hl [2, 3, 4, 1, 0] rfl)
    · have hF := ifp hF c32
      refine lv_iload hx hb dX7_isBelow_35 (lv_at hl 0 rfl) ?_
      refine r_if_gt (tgt := 50) hx hb dX7_isBelow_37 (by decide) (fun c37 => ?_) (fun c37 => ?_)
      · have hF := ifp hF c37
        exact J50 ls _ _ (by omega) hF hT hS (lv_sub hl [2, 3, 4, 1, 0] rfl)
      · have hF := ifn hF (Int.not_lt.mpr c37)
        refine lv_iload hx hb dX7_isBelow_40 (lv_at hl 0 rfl) ?_
        refine r_if_ne (tgt := 54) hx hb dX7_isBelow_42 (by decide) (fun c42 => ?_) (fun c42 => ?_)
        · have hF := ifn hF c42
          exact J54 ls _ _ hF hT hS (lv_sub hl [2, 3, 4, 1, 0] rfl)
        · have hF := ifp hF c42
          refine lv_iload_n hx hb dX7_isBelow_45 rfl (lv_at hl 3 rfl) ?_
          refine lv_iload_n hx hb dX7_isBelow_46 rfl (lv_at hl 4 rfl) ?_
          refine r_icmp_ge (tgt := 54) hx hb dX7_isBelow_47 (by decide) (fun c47 => ?_) (fun c47 => ?_)
          · have hF := ifn hF (Int.not_lt.mpr c47)
            exact J54 ls _ _ hF hT hS (lv_sub hl [2, 3, 4, 1, 0] rfl)
          · have hF := ifp hF c47
            exact J50 ls _ _ (by omega) hF hT hS (lv_sub hl [2, 3, 4, 1, 0] rfl)
theorem k_X7_rankOf : cBV yX7_rankOf cX7_rankOf 4 (some .int) 1 := ⟨mw_5_25, ms_3_1, mw_1_8, mw_5_26, ⟨by decide, by decide, by decide⟩⟩
set_option maxHeartbeats 4000000 in
set_option maxRecDepth 100000 in
theorem c_X7_rankOf (l : Launch) (z : Zt) (σ : Sg) (h0 o0 : Nat) (g0 : zG z h0 = (17, o0)) (p1 : Int32) (out : Int) (hF : D_X7_rankOf (σ o0) p1.toInt = some out) (bp1 : 0 ≤ p1.toInt ∧ p1.toInt ≤ 4) : Met l yX7_rankOf (uw yX7_rankOf cX7_rankOf 4 (some .int)) (rmF 4 132) (PcW z [.ref h0, .int p1] (fun H => TY z (zA z) σ H)) (QcI z (fun r H => some r.toInt = some out ∧ TY z (zA z) σ H ∧ (0 ≤ r.toInt ∧ r.toInt ≤ 4))) 0 0 (zA z) := by
  refine Met.ofW (cc := cX7_rankOf) (maxL := 4) (ret := (some .int)) (by decide) rfl ?_
  intro p e s m args below meth c s₁ B hml hv
  obtain ⟨rfl, hT, hK, hSK⟩ := hv
  have hx := B.exec
  have hb := B.bytes
  have hr := B.returns
  have hts : ∀ w ∈ lw_ok, w.before ([.ref h0, .int p1] : List Value).toArray s = true := fun w hw => atoms_spec (ws := uw yX7_rankOf cX7_rankOf 4 (some .int)) B.pre w (List.mem_cons_of_mem _ hw)
  have hown : s.vm.findClass RX7 = some m.cls := findClass_of_methodNamed B.named
  have hlk := B.notSynchronized
  have hC : CallFix p m c cX7_rankOf 4 s ([.ref h0, .int p1] : List Value).toArray lw_ok RX7 := ⟨hx, hb, hml, hown, hts⟩
  have hS : va_S (zA z) s.heap s.heap [] := va_S.rf
  have hl := lv_entry ([.ref h0, .int p1]) (n := 4) (Nat.le_of_ble_eq_true rfl)
  rw [lg_entry_eq]
  generalize (lg_sl ([.ref h0, .int p1]) ++ List.replicate (4 - (lg_sl ([.ref h0, .int p1])).length) Slot.unset).toArray = ls at hl ⊢
  have hl : lv_has ls 4 [(0, .ref h0), (1, .int p1)] := hl
  show W p l e (rmF 4 132) s m ([.ref h0, .int p1] : List Value).toArray below meth c s.heap [] 0 0 (MQ below (QcI z (fun r H => some r.toInt = some out ∧ TY z (zA z) σ H ∧ (0 ≤ r.toInt ∧ r.toInt ≤ 4))) ([.ref h0, .int p1] : List Value).toArray s 0 0 (zA z)) (F0 m 0 ls [])
  unfold D_X7_rankOf at hF
  refine r_iconst hx hb dX7_rankOf_0 (by decide) (by decide) (fun x0 e0 => ?_)
  have hF := bn hF e0
  refine lv_istore_n (lv' := [(2, .int x0), (0, .ref h0), (1, .int p1)]) hx hb dX7_rankOf_1 rfl hl (by decide) rfl (fun ls hl => ?_)
  refine r_iconst hx hb dX7_rankOf_2 (by decide) (by decide) (fun x2 e2 => ?_)
  have hF := bn hF e2
  refine lv_istore_n (lv' := [(3, .int x2), (2, .int x0), (0, .ref h0), (1, .int p1)]) hx hb dX7_rankOf_3 rfl hl (by decide) rfl (fun ls hl => ?_)
  have J4 : ∀ (n4 : Nat) (ls : Array Slot) (H : Heap) (locs : List Loc) (y4_2 : Int32) (y4_3 : Int32), (0 ≤ y4_3.toInt ∧ y4_3.toInt ≤ 5) → D_X7_rankOf_4 p1.toInt (σ o0) n4 y4_2.toInt y4_3.toInt = some out → TY z (zA z) σ H → va_S (zA z) s.heap H locs → lv_has ls 4 [(0, .ref h0), (1, .int p1), (2, .int y4_2), (3, .int y4_3)] → W p l e (rmF 4 132) s m ([.ref h0, .int p1] : List Value).toArray below meth c H locs 0 0 (MQ below (QcI z (fun r H => some r.toInt = some out ∧ TY z (zA z) σ H ∧ (0 ≤ r.toInt ∧ r.toInt ≤ 4))) ([.ref h0, .int p1] : List Value).toArray s 0 0 (zA z)) (F0 m 4 ls []) := by
    intro n4
    induction n4 with
    | zero => intro ls H locs y4_2 y4_3 j4_y4_3 hF hT hS hl; exact (no_s hF).elim
    | succ n4 ih4 =>
      intro ls H locs y4_2 y4_3 j4_y4_3 hF hT hS hl
      rw [D_X7_rankOf_4.eq_2] at hF
      refine lv_iload_n hx hb dX7_rankOf_4 rfl (lv_at hl 3 rfl) ?_
      refine lv_aload_n hx hb dX7_rankOf_5 rfl (lv_at hl 0 rfl) ?_
      refine gt_Model_men hx hb hts ic_Model hown hK hT g0 (hts _ mw_4_73) dX7_rankOf_6 (fun x6 e6 f6 g6 => ?_)
      have hF := bn hF e6
      refine r_icmp_ge (tgt := 43) hx hb dX7_rankOf_9 (by decide) (fun c9 => ?_) (fun c9 => ?_)
      · have hF := ifn hF (Int.not_lt.mpr c9)
        refine lv_iload_n hx hb dX7_rankOf_43 rfl (lv_at hl 2 rfl) ?_
        obtain ⟨k44, hF⟩ := ck hF
        exact rt_i hx hb hr hlk hS ⟨hF, hT, (by omega)⟩ dX7_rankOf_44
      · have hF := ifp hF c9
        refine lv_iload_n hx hb dX7_rankOf_12 rfl (lv_at hl 2 rfl) ?_
        refine lv_iload_n hx hb dX7_rankOf_13 rfl (lv_at hl 3 rfl) ?_
        refine lv_iload_n hx hb dX7_rankOf_14 rfl (lv_at hl 1 rfl) ?_
        have J32 : ∀ (ls : Array Slot) (H : Heap) (locs : List Loc) (t32_1 : Int32), (0 ≤ t32_1.toInt ∧ t32_1.toInt ≤ 1) → D_X7_rankOf_32 (D_X7_rankOf_4 p1.toInt (σ o0) n4) y4_2.toInt y4_3.toInt t32_1.toInt = some out → TY z (zA z) σ H → va_S (zA z) s.heap H locs → lv_has ls 4 [(0, .ref h0), (1, .int p1), (2, .int y4_2), (3, .int y4_3)] → W p l e (rmF 4 132) s m ([.ref h0, .int p1] : List Value).toArray below meth c H locs 0 0 (MQ below (QcI z (fun r H => some r.toInt = some out ∧ TY z (zA z) σ H ∧ (0 ≤ r.toInt ∧ r.toInt ≤ 4))) ([.ref h0, .int p1] : List Value).toArray s 0 0 (zA z)) (F0 m 32 ls [.int t32_1, .int y4_2]) := by
          intro ls H locs t32_1 j32_t32_1 hF hT hS hl
          unfold D_X7_rankOf_32 at hF
          obtain ⟨v32, hd32, -⟩ := bd0_s hF
          refine cl_Si (rest := [.int y4_2]) hC hK hSK (c_X7_flag l z σ t32_1 v32 hd32 (by omega)) k_X7_flag mw_5_4 ⟨rfl, rfl, Nat.le_of_ble_eq_true rfl, Nat.le_of_ble_eq_true rfl⟩ hT rfl hl.1 rfl (Nat.le_of_ble_eq_true rfl) dX7_rankOf_32 ⟨Nat.zero_le _, Nat.zero_le _⟩ hS (fun _ h => h) (fun _ _ h => h) (fun r32 H locs hpo hS => ?_)
          obtain ⟨he32, hT, u32_0⟩ := hpo
          have hF := bd0_r hF hd32 he32
          refine x_iadd hx hb dX7_rankOf_35 (fun x35 e35 => ?_)
          have hF := bn hF e35
          refine lv_istore_n (lv' := [(2, .int x35), (0, .ref h0), (1, .int p1), (3, .int y4_3)]) hx hb dX7_rankOf_36 rfl hl (by decide) rfl (fun ls hl => ?_)
          refine r_iinc (lv' := fun v__ => [(3, .int v__), (2, .int x35), (0, .ref h0), (1, .int p1)]) hx hb dX7_rankOf_37 hl (k := 3) rfl (by decide) (fun _ => rfl) ⟨by decide, by decide⟩ (by omega) (by omega) (fun x37 ls e37 hl => ?_)
          have hF := bn hF e37
          refine lv_goto (tgt := 4) hx hb dX7_rankOf_40 (by decide) ?_
          exact ih4 ls _ _ x35 x37 (by omega) hF hT hS (lv_sub hl [2, 3, 1, 0] rfl)
        have J31 : ∀ (ls : Array Slot) (H : Heap) (locs : List Loc), D_X7_rankOf_31 (D_X7_rankOf_4 p1.toInt (σ o0) n4) y4_2.toInt y4_3.toInt = some out → TY z (zA z) σ H → va_S (zA z) s.heap H locs → lv_has ls 4 [(0, .ref h0), (1, .int p1), (2, .int y4_2), (3, .int y4_3)] → W p l e (rmF 4 132) s m ([.ref h0, .int p1] : List Value).toArray below meth c H locs 0 0 (MQ below (QcI z (fun r H => some r.toInt = some out ∧ TY z (zA z) σ H ∧ (0 ≤ r.toInt ∧ r.toInt ≤ 4))) ([.ref h0, .int p1] : List Value).toArray s 0 0 (zA z)) (F0 m 31 ls [.int y4_2]) := by
          intro ls H locs hF hT hS hl
          unfold D_X7_rankOf_31 at hF
          refine r_iconst hx hb dX7_rankOf_31 (by decide) (by decide) (fun x31 e31 => ?_)
          have hF := bn hF e31
          exact J32 ls _ _ x31 (by omega) hF hT hS (lv_sub hl [0, 1, 2, 3] rfl)
        refine r_icmp_eq (tgt := 31) hx hb dX7_rankOf_15 (by decide) (fun c15 => ?_) (fun c15 => ?_)
        · have hF := ifp hF c15
          exact J31 ls _ _ hF hT hS (lv_sub hl [0, 1, 2, 3] rfl)
        · have hF := ifn hF c15
          refine lv_aload_n hx hb dX7_rankOf_18 rfl (lv_at hl 0 rfl) ?_
          refine lv_iload_n hx hb dX7_rankOf_19 rfl (lv_at hl 3 rfl) ?_
          refine lv_iload_n hx hb dX7_rankOf_20 rfl (lv_at hl 1 rfl) ?_
          obtain ⟨v21, hd21, -⟩ := bd0_s hF
          refine cl_Vi (rest := [.int y4_2]) hC hK hSK (c_X7_isBelow l z σ h0 (o0) g0 y4_3 p1 v21 hd21 (by omega) (by omega)) k_X7_isBelow mw_5_27 ⟨rfl, rfl, Nat.le_of_ble_eq_true rfl, Nat.le_of_ble_eq_true rfl⟩ (rv_Model hK hT g0) hT rfl hl.1 rfl (Nat.le_of_ble_eq_true rfl) dX7_rankOf_21 ⟨Nat.zero_le _, Nat.zero_le _⟩ hS (fun _ h => h) (fun _ _ h => h) (fun r21 H locs hpo hS => ?_)
          obtain ⟨he21, hT, u21_0⟩ := hpo
          have hF := bd0_r hF hd21 he21
          refine r_if_eq (tgt := 31) hx hb dX7_rankOf_24 (by decide) (fun c24 => ?_) (fun c24 => ?_)
          · have hF := ifp hF c24
            exact J31 ls _ _ hF hT hS (lv_sub hl [0, 1, 2, 3] rfl)
          · have hF := ifn hF c24
            refine r_iconst hx hb dX7_rankOf_27 (by decide) (by decide) (fun x27 e27 => ?_)
            have hF := bn hF e27
            refine lv_goto (tgt := 32) hx hb dX7_rankOf_28 (by decide) ?_
            exact J32 ls _ _ x27 (by omega) hF hT hS (lv_sub hl [0, 1, 2, 3] rfl)
  exact J4 5000 ls _ _ x0 x2 (by omega) hF hT hS (lv_sub hl [2, 3, 1, 0] rfl)
theorem k_X7_findRanks : cBV yX7_findRanks cX7_findRanks 2 none 0 := ⟨mw_5_45, ms_3_4, mw_1_8, mw_5_46, ⟨by decide, by decide, by decide⟩⟩
set_option maxHeartbeats 4000000 in
set_option maxRecDepth 100000 in
theorem c_X7_findRanks (l : Launch) (z : Zt) (σ : Sg) (h0 o0 : Nat) (g0 : zG z h0 = (17, o0)) (out : Lo) (hF : D_X7_findRanks (σ o0) = some out) : Met l yX7_findRanks (uw yX7_findRanks cX7_findRanks 2 none) (rmF 5 155) (PcW z [.ref h0] (fun H => TY z (zA z) σ H)) (QcV z (fun H => ∃ σ' : Sg, some (σ' o0) = some out ∧ FR σ σ' o0 ∧ TY z (zA z) σ' H)) 0 0 (zA z) := by
  refine Met.ofW (cc := cX7_findRanks) (maxL := 2) (ret := none) (by decide) rfl ?_
  intro p e s m args below meth c s₁ B hml hv
  obtain ⟨rfl, hT, hK, hSK⟩ := hv
  have hx := B.exec
  have hb := B.bytes
  have hr := B.returns
  have hts : ∀ w ∈ lw_ok, w.before ([.ref h0] : List Value).toArray s = true := fun w hw => atoms_spec (ws := uw yX7_findRanks cX7_findRanks 2 none) B.pre w (List.mem_cons_of_mem _ hw)
  have hown : s.vm.findClass RX7 = some m.cls := findClass_of_methodNamed B.named
  have hlk := B.notSynchronized
  have hC : CallFix p m c cX7_findRanks 2 s ([.ref h0] : List Value).toArray lw_ok RX7 := ⟨hx, hb, hml, hown, hts⟩
  have hS : va_S (zA z) s.heap s.heap [] := va_S.rf
  have hl := lv_entry ([.ref h0]) (n := 2) (Nat.le_of_ble_eq_true rfl)
  rw [lg_entry_eq]
  generalize (lg_sl ([.ref h0]) ++ List.replicate (2 - (lg_sl ([.ref h0])).length) Slot.unset).toArray = ls at hl ⊢
  have hl : lv_has ls 2 [(0, .ref h0)] := hl
  show W p l e (rmF 5 155) s m ([.ref h0] : List Value).toArray below meth c s.heap [] 0 0 (MQ below (QcV z (fun H => ∃ σ' : Sg, some (σ' o0) = some out ∧ FR σ σ' o0 ∧ TY z (zA z) σ' H)) ([.ref h0] : List Value).toArray s 0 0 (zA z)) (F0 m 0 ls [])
  have hfr : FR σ σ o0 := FR_rf σ o0
  unfold D_X7_findRanks at hF
  refine r_iconst hx hb dX7_findRanks_0 (by decide) (by decide) (fun x0 e0 => ?_)
  have hF := bn hF e0
  refine lv_istore_n (lv' := [(1, .int x0), (0, .ref h0)]) hx hb dX7_findRanks_1 rfl hl (by decide) rfl (fun ls hl => ?_)
  have J2 : ∀ (n2 : Nat) (ls : Array Slot) (H : Heap) (locs : List Loc) (y2_1 : Int32) (σj2 : Sg), (0 ≤ y2_1.toInt ∧ y2_1.toInt ≤ 5) → D_X7_findRanks_2 n2 (σj2 o0) y2_1.toInt = some out → FR σ σj2 o0 → TY z (zA z) σj2 H → va_S (zA z) s.heap H locs → lv_has ls 2 [(0, .ref h0), (1, .int y2_1)] → W p l e (rmF 5 155) s m ([.ref h0] : List Value).toArray below meth c H locs 0 0 (MQ below (QcV z (fun H => ∃ σ' : Sg, some (σ' o0) = some out ∧ FR σ σ' o0 ∧ TY z (zA z) σ' H)) ([.ref h0] : List Value).toArray s 0 0 (zA z)) (F0 m 2 ls []) := by
    intro n2
    induction n2 with
    | zero => intro ls H locs y2_1 σj2 j2_y2_1 hF hfr hT hS hl; exact (no_s hF).elim
    | succ n2 ih2 =>
      intro ls H locs y2_1 σj2 j2_y2_1 hF hfr hT hS hl
      rw [D_X7_findRanks_2.eq_2] at hF
      refine lv_iload_n hx hb dX7_findRanks_2 rfl (lv_at hl 1 rfl) ?_
      refine lv_aload_n hx hb dX7_findRanks_3 rfl (lv_at hl 0 rfl) ?_
      refine gt_Model_men hx hb hts ic_Model hown hK hT g0 (hts _ mw_4_73) dX7_findRanks_4 (fun x4 e4 f4 g4 => ?_)
      have hF := bn hF e4
      refine r_icmp_ge (tgt := 27) hx hb dX7_findRanks_7 (by decide) (fun c7 => ?_) (fun c7 => ?_)
      · have hF := ifn hF (Int.not_lt.mpr c7)
        exact rt_v hx hb hr hlk hS ⟨σj2, hF, hfr, hT⟩ dX7_findRanks_27
      · have hF := ifp hF c7
        refine lv_aload_n hx hb dX7_findRanks_10 rfl (lv_at hl 0 rfl) ?_
        refine gt_Model_byRank hx hb hts ic_Model hown hK hT g0 (hts _ mw_4_87) dX7_findRanks_11 (fun q11 hq11 => ?_)
        refine lv_aload_n hx hb dX7_findRanks_14 rfl (lv_at hl 0 rfl) ?_
        refine lv_iload_n hx hb dX7_findRanks_15 rfl (lv_at hl 1 rfl) ?_
        obtain ⟨v16, hd16, -⟩ := bd0_s hF
        refine cl_Vi (rest := [.ref q11]) hC hK hSK (c_X7_rankOf l z σj2 h0 (o0) g0 y2_1 v16 hd16 (by omega)) k_X7_rankOf mw_5_23 ⟨rfl, rfl, Nat.le_of_ble_eq_true rfl, Nat.le_of_ble_eq_true rfl⟩ (rv_Model hK hT g0) hT rfl hl.1 rfl (Nat.le_of_ble_eq_true rfl) dX7_findRanks_16 ⟨Nat.zero_le _, Nat.zero_le _⟩ hS (fun _ h => h) (fun _ _ h => h) (fun r16 H locs hpo hS => ?_)
        obtain ⟨he16, hT, u16_0⟩ := hpo
        have hF := bd0_r hF hd16 he16
        refine lv_iload_n hx hb dX7_findRanks_19 rfl (lv_at hl 1 rfl) ?_
        refine as_45 hx hb hK hT hS hq11 (by omega) (by omega) ⟨by omega, by omega⟩ dX7_findRanks_20 (fun H locs hT hS => ?_)
        obtain ⟨σ20, hF, hfr, hT⟩ := wrL hF hfr hT
        refine r_iinc (lv' := fun v__ => [(1, .int v__), (0, .ref h0)]) hx hb dX7_findRanks_21 hl (k := 1) rfl (by decide) (fun _ => rfl) ⟨by decide, by decide⟩ (by omega) (by omega) (fun x21 ls e21 hl => ?_)
        have hF := bn hF e21
        refine lv_goto (tgt := 2) hx hb dX7_findRanks_24 (by decide) ?_
        exact ih2 ls _ _ x21 σ20 (by omega) hF hfr hT hS (lv_sub hl [1, 0] rfl)
  exact J2 5000 ls _ _ x0 σ (by omega) hF hfr hT hS (lv_sub hl [1, 0] rfl)
theorem k_X7_goesTo : cBV yX7_goesTo cX7_goesTo 3 (some .int) 2 := ⟨mw_5_98, ms_3_8, mw_1_8, mw_5_99, ⟨by decide, by decide, by decide⟩⟩
set_option maxHeartbeats 4000000 in
set_option maxRecDepth 100000 in
theorem c_X7_goesTo (l : Launch) (z : Zt) (σ : Sg) (h0 o0 : Nat) (g0 : zG z h0 = (17, o0)) (p1 : Int32) (p2 : Int32) (out : Int) (hF : D_X7_goesTo (σ o0) p1.toInt p2.toInt = some out) (bp1 : 0 ≤ p1.toInt ∧ p1.toInt ≤ 4) : Met l yX7_goesTo (uw yX7_goesTo cX7_goesTo 3 (some .int)) (rmF 1 64) (PcW z [.ref h0, .int p1, .int p2] (fun H => TY z (zA z) σ H)) (QcI z (fun r H => some r.toInt = some out ∧ TY z (zA z) σ H ∧ (0 ≤ r.toInt ∧ r.toInt ≤ 4))) 0 0 (zA z) := by
  refine Met.ofW (cc := cX7_goesTo) (maxL := 3) (ret := (some .int)) (by decide) rfl ?_
  intro p e s m args below meth c s₁ B hml hv
  obtain ⟨rfl, hT, hK, hSK⟩ := hv
  have hx := B.exec
  have hb := B.bytes
  have hr := B.returns
  have hts : ∀ w ∈ lw_ok, w.before ([.ref h0, .int p1, .int p2] : List Value).toArray s = true := fun w hw => atoms_spec (ws := uw yX7_goesTo cX7_goesTo 3 (some .int)) B.pre w (List.mem_cons_of_mem _ hw)
  have hown : s.vm.findClass RX7 = some m.cls := findClass_of_methodNamed B.named
  have hlk := B.notSynchronized
  have hC : CallFix p m c cX7_goesTo 3 s ([.ref h0, .int p1, .int p2] : List Value).toArray lw_ok RX7 := ⟨hx, hb, hml, hown, hts⟩
  have hS : va_S (zA z) s.heap s.heap [] := va_S.rf
  have hl := lv_entry ([.ref h0, .int p1, .int p2]) (n := 3) (Nat.le_of_ble_eq_true rfl)
  rw [lg_entry_eq]
  generalize (lg_sl ([.ref h0, .int p1, .int p2]) ++ List.replicate (3 - (lg_sl ([.ref h0, .int p1, .int p2])).length) Slot.unset).toArray = ls at hl ⊢
  have hl : lv_has ls 3 [(0, .ref h0), (1, .int p1), (2, .int p2)] := hl
  show W p l e (rmF 1 64) s m ([.ref h0, .int p1, .int p2] : List Value).toArray below meth c s.heap [] 0 0 (MQ below (QcI z (fun r H => some r.toInt = some out ∧ TY z (zA z) σ H ∧ (0 ≤ r.toInt ∧ r.toInt ≤ 4))) ([.ref h0, .int p1, .int p2] : List Value).toArray s 0 0 (zA z)) (F0 m 0 ls [])
  unfold D_X7_goesTo at hF
  have mx_p2 := i_mx p2
  refine lv_iload_n hx hb dX7_goesTo_0 rfl (lv_at hl 2 rfl) ?_
  rcases (show p2.toInt = 0 ∨ p2.toInt = 1 ∨ p2.toInt = 2 ∨ (p2.toInt < 0 ∨ 2 < p2.toInt) by omega) with c1 | c1 | c1 | c1
  · have hF := ifp hF c1
    refine lv_tableIn (off := 27) (tgt := 28) hx hb dX7_goesTo_1 (by omega) (by omega) (by rw [c1]; rfl) (by decide) ?_
    refine lv_iload_n hx hb dX7_goesTo_28 rfl (lv_at hl 1 rfl) ?_
    refine r_iconst hx hb dX7_goesTo_29 (by decide) (by decide) (fun x29 e29 => ?_)
    have hF := bn hF e29
    refine r_iadd hx hb dX7_goesTo_30 (by omega) (by omega) (fun x30 e30 => ?_)
    have hF := bn hF e30
    refine lv_aload_n hx hb dX7_goesTo_31 rfl (lv_at hl 0 rfl) ?_
    refine gt_Model_men hx hb hts ic_Model hown hK hT g0 (hts _ mw_4_73) dX7_goesTo_32 (fun x32 e32 f32 g32 => ?_)
    have hF := bn hF e32
    obtain ⟨ky35, hF⟩ := ck hF
    refine r_irem hx hb dX7_goesTo_35 (by omega) (by omega) (fun x35 e35 g35 h35 => ?_)
    have hF := bn hF e35
    exact rt_i hx hb hr hlk hS ⟨hF, hT, (by omega)⟩ dX7_goesTo_36
  · have hF := ifn hF (by omega)
    have hF := ifp hF c1
    refine lv_tableIn (off := 36) (tgt := 37) hx hb dX7_goesTo_1 (by omega) (by omega) (by rw [c1]; rfl) (by decide) ?_
    refine lv_iload_n hx hb dX7_goesTo_37 rfl (lv_at hl 1 rfl) ?_
    refine lv_aload_n hx hb dX7_goesTo_38 rfl (lv_at hl 0 rfl) ?_
    refine gt_Model_men hx hb hts ic_Model hown hK hT g0 (hts _ mw_4_73) dX7_goesTo_39 (fun x39 e39 f39 g39 => ?_)
    have hF := bn hF e39
    refine r_iadd hx hb dX7_goesTo_42 (by omega) (by omega) (fun x42 e42 => ?_)
    have hF := bn hF e42
    refine r_iconst hx hb dX7_goesTo_43 (by decide) (by decide) (fun x43 e43 => ?_)
    have hF := bn hF e43
    refine r_isub hx hb dX7_goesTo_44 (by omega) (by omega) (fun x44 e44 => ?_)
    have hF := bn hF e44
    refine lv_aload_n hx hb dX7_goesTo_45 rfl (lv_at hl 0 rfl) ?_
    refine gt_Model_men hx hb hts ic_Model hown hK hT g0 (hts _ mw_4_73) dX7_goesTo_46 (fun x46 e46 f46 g46 => ?_)
    have hF := bn hF e46
    obtain ⟨kx49, hF⟩ := ck hF
    obtain ⟨ky49, hF⟩ := ck hF
    refine r_irem hx hb dX7_goesTo_49 (by omega) (by omega) (fun x49 e49 g49 h49 => ?_)
    have hF := bn hF e49
    exact rt_i hx hb hr hlk hS ⟨hF, hT, (by omega)⟩ dX7_goesTo_50
  · have hF := ifn hF (by omega)
    have hF := ifn hF (by omega)
    have hF := ifp hF c1
    refine lv_tableIn (off := 50) (tgt := 51) hx hb dX7_goesTo_1 (by omega) (by omega) (by rw [c1]; rfl) (by decide) ?_
    refine lv_iload_n hx hb dX7_goesTo_51 rfl (lv_at hl 1 rfl) ?_
    refine r_iconst hx hb dX7_goesTo_52 (by decide) (by decide) (fun x52 e52 => ?_)
    have hF := bn hF e52
    refine r_iadd hx hb dX7_goesTo_53 (by omega) (by omega) (fun x53 e53 => ?_)
    have hF := bn hF e53
    refine lv_aload_n hx hb dX7_goesTo_54 rfl (lv_at hl 0 rfl) ?_
    refine gt_Model_men hx hb hts ic_Model hown hK hT g0 (hts _ mw_4_73) dX7_goesTo_55 (fun x55 e55 f55 g55 => ?_)
    have hF := bn hF e55
    obtain ⟨ky58, hF⟩ := ck hF
    refine r_irem hx hb dX7_goesTo_58 (by omega) (by omega) (fun x58 e58 g58 h58 => ?_)
    have hF := bn hF e58
    exact rt_i hx hb hr hlk hS ⟨hF, hT, (by omega)⟩ dX7_goesTo_59
  · have hF := ifn hF (by omega)
    have hF := ifn hF (by omega)
    have hF := ifn hF (by omega)
    refine lv_tableOut (tgt := 60) hx hb dX7_goesTo_1 c1 (by decide) ?_
    refine lv_aload_n hx hb dX7_goesTo_60 rfl (lv_at hl 0 rfl) ?_
    refine gt_Model_men hx hb hts ic_Model hown hK hT g0 (hts _ mw_4_73) dX7_goesTo_61 (fun x61 e61 f61 g61 => ?_)
    have hF := bn hF e61
    refine r_iconst hx hb dX7_goesTo_64 (by decide) (by decide) (fun x64 e64 => ?_)
    have hF := bn hF e64
    refine r_isub hx hb dX7_goesTo_65 (by omega) (by omega) (fun x65 e65 => ?_)
    have hF := bn hF e65
    refine lv_iload_n hx hb dX7_goesTo_66 rfl (lv_at hl 1 rfl) ?_
    refine r_isub hx hb dX7_goesTo_67 (by omega) (by omega) (fun x67 e67 => ?_)
    have hF := bn hF e67
    obtain ⟨k68, hF⟩ := ck hF
    exact rt_i hx hb hr hlk hS ⟨hF, hT, (by omega)⟩ dX7_goesTo_68
theorem k_X7_changes : cBV yX7_changes cX7_changes 3 none 1 := ⟨mw_5_94, ms_3_7, mw_1_8, mw_5_95, ⟨by decide, by decide, by decide⟩⟩
set_option maxHeartbeats 4000000 in
set_option maxRecDepth 100000 in
theorem c_X7_changes (l : Launch) (z : Zt) (σ : Sg) (h0 o0 : Nat) (g0 : zG z h0 = (17, o0)) (p1 : Int32) (out : Lo) (hF : D_X7_changes (σ o0) p1.toInt = some out) : Met l yX7_changes (uw yX7_changes cX7_changes 3 none) (rmF 6 176) (PcW z [.ref h0, .int p1] (fun H => TY z (zA z) σ H)) (QcV z (fun H => ∃ σ' : Sg, some (σ' o0) = some out ∧ FR σ σ' o0 ∧ TY z (zA z) σ' H)) 0 0 (zA z) := by
  refine Met.ofW (cc := cX7_changes) (maxL := 3) (ret := none) (by decide) rfl ?_
  intro p e s m args below meth c s₁ B hml hv
  obtain ⟨rfl, hT, hK, hSK⟩ := hv
  have hx := B.exec
  have hb := B.bytes
  have hr := B.returns
  have hts : ∀ w ∈ lw_ok, w.before ([.ref h0, .int p1] : List Value).toArray s = true := fun w hw => atoms_spec (ws := uw yX7_changes cX7_changes 3 none) B.pre w (List.mem_cons_of_mem _ hw)
  have hown : s.vm.findClass RX7 = some m.cls := findClass_of_methodNamed B.named
  have hlk := B.notSynchronized
  have hC : CallFix p m c cX7_changes 3 s ([.ref h0, .int p1] : List Value).toArray lw_ok RX7 := ⟨hx, hb, hml, hown, hts⟩
  have hS : va_S (zA z) s.heap s.heap [] := va_S.rf
  have hl := lv_entry ([.ref h0, .int p1]) (n := 3) (Nat.le_of_ble_eq_true rfl)
  rw [lg_entry_eq]
  generalize (lg_sl ([.ref h0, .int p1]) ++ List.replicate (3 - (lg_sl ([.ref h0, .int p1])).length) Slot.unset).toArray = ls at hl ⊢
  have hl : lv_has ls 3 [(0, .ref h0), (1, .int p1)] := hl
  show W p l e (rmF 6 176) s m ([.ref h0, .int p1] : List Value).toArray below meth c s.heap [] 0 0 (MQ below (QcV z (fun H => ∃ σ' : Sg, some (σ' o0) = some out ∧ FR σ σ' o0 ∧ TY z (zA z) σ' H)) ([.ref h0, .int p1] : List Value).toArray s 0 0 (zA z)) (F0 m 0 ls [])
  have hfr : FR σ σ o0 := FR_rf σ o0
  unfold D_X7_changes at hF
  have mx_p1 := i_mx p1
  refine lv_aload_n hx hb dX7_changes_0 rfl (lv_at hl 0 rfl) ?_
  obtain ⟨s1, hd1, -⟩ := bd1_s hF
  refine cl_Vv (rest := []) hC hK hSK (c_X7_findRanks l z σ h0 (o0) g0 s1 hd1) k_X7_findRanks mw_5_43 ⟨rfl, rfl, Nat.le_of_ble_eq_true rfl, Nat.le_of_ble_eq_true rfl⟩ (rv_Model hK hT g0) hT rfl hl.1 rfl (Nat.le_of_ble_eq_true rfl) dX7_changes_1 ⟨Nat.zero_le _, Nat.zero_le _⟩ hS (fun _ h => h) (fun _ _ h => h) (fun H locs hpo hS => ?_)
  obtain ⟨σ1, he1, hf1, hT⟩ := hpo
  have hF := bd1_r hF hd1 he1
  have hfr := FR_tr hf1 hfr
  refine r_iconst hx hb dX7_changes_4 (by decide) (by decide) (fun x4 e4 => ?_)
  have hF := bn hF e4
  refine lv_istore_n (lv' := [(2, .int x4), (0, .ref h0), (1, .int p1)]) hx hb dX7_changes_5 rfl hl (by decide) rfl (fun ls hl => ?_)
  have J6 : ∀ (n6 : Nat) (ls : Array Slot) (H : Heap) (locs : List Loc) (y6_2 : Int32) (σj6 : Sg), (0 ≤ y6_2.toInt ∧ y6_2.toInt ≤ 5) → D_X7_changes_6 p1.toInt n6 (σj6 o0) y6_2.toInt = some out → FR σ σj6 o0 → TY z (zA z) σj6 H → va_S (zA z) s.heap H locs → lv_has ls 3 [(0, .ref h0), (1, .int p1), (2, .int y6_2)] → W p l e (rmF 6 176) s m ([.ref h0, .int p1] : List Value).toArray below meth c H locs 0 0 (MQ below (QcV z (fun H => ∃ σ' : Sg, some (σ' o0) = some out ∧ FR σ σ' o0 ∧ TY z (zA z) σ' H)) ([.ref h0, .int p1] : List Value).toArray s 0 0 (zA z)) (F0 m 6 ls []) := by
    intro n6
    induction n6 with
    | zero => intro ls H locs y6_2 σj6 j6_y6_2 hF hfr hT hS hl; exact (no_s hF).elim
    | succ n6 ih6 =>
      intro ls H locs y6_2 σj6 j6_y6_2 hF hfr hT hS hl
      rw [D_X7_changes_6.eq_2] at hF
      refine lv_iload_n hx hb dX7_changes_6 rfl (lv_at hl 2 rfl) ?_
      refine lv_aload_n hx hb dX7_changes_7 rfl (lv_at hl 0 rfl) ?_
      refine gt_Model_men hx hb hts ic_Model hown hK hT g0 (hts _ mw_4_73) dX7_changes_8 (fun x8 e8 f8 g8 => ?_)
      have hF := bn hF e8
      refine r_icmp_ge (tgt := 52) hx hb dX7_changes_11 (by decide) (fun c11 => ?_) (fun c11 => ?_)
      · have hF := ifn hF (Int.not_lt.mpr c11)
        exact rt_v hx hb hr hlk hS ⟨σj6, hF, hfr, hT⟩ dX7_changes_52
      · have hF := ifp hF c11
        refine lv_aload_n hx hb dX7_changes_14 rfl (lv_at hl 0 rfl) ?_
        refine gt_Model_now hx hb hts ic_Model hown hK hT g0 (hts _ mw_4_71) dX7_changes_15 (fun q15 hq15 => ?_)
        refine r_bipush hx hb dX7_changes_18 rfl (fun x18 e18 => ?_)
        have hF := bn hF e18
        refine lv_iload_n hx hb dX7_changes_20 rfl (lv_at hl 2 rfl) ?_
        refine r_iadd hx hb dX7_changes_21 (by omega) (by omega) (fun x21 e21 => ?_)
        have hF := bn hF e21
        refine lv_aload_n hx hb dX7_changes_22 rfl (lv_at hl 0 rfl) ?_
        refine gt_Model_byRank hx hb hts ic_Model hown hK hT g0 (hts _ mw_4_87) dX7_changes_23 (fun q23 hq23 => ?_)
        refine lv_aload_n hx hb dX7_changes_26 rfl (lv_at hl 0 rfl) ?_
        refine lv_aload_n hx hb dX7_changes_27 rfl (lv_at hl 0 rfl) ?_
        refine lv_aload_n hx hb dX7_changes_28 rfl (lv_at hl 0 rfl) ?_
        refine gt_Model_now hx hb hts ic_Model hown hK hT g0 (hts _ mw_4_71) dX7_changes_29 (fun q29 hq29 => ?_)
        refine r_bipush hx hb dX7_changes_32 rfl (fun x32 e32 => ?_)
        have hF := bn hF e32
        refine lv_iload_n hx hb dX7_changes_34 rfl (lv_at hl 2 rfl) ?_
        refine r_iadd hx hb dX7_changes_35 (by omega) (by omega) (fun x35 e35 => ?_)
        have hF := bn hF e35
        refine al_41 hx hb hK hT hq29 (by omega) (by omega) dX7_changes_36 (fun x36 e36 g36 => ?_)
        have hF := bn hF e36
        have f36 := gd59_20 g36 (by omega) (by omega)
        obtain ⟨v37, hd37, -⟩ := bd0_s hF
        refine cl_Vi (rest := [.ref h0, .ref q23, .int x21, .ref q15]) hC hK hSK (c_X7_rankOf l z σj6 h0 (o0) g0 x36 v37 hd37 (by omega)) k_X7_rankOf mw_5_23 ⟨rfl, rfl, Nat.le_of_ble_eq_true rfl, Nat.le_of_ble_eq_true rfl⟩ (rv_Model hK hT g0) hT rfl hl.1 rfl (Nat.le_of_ble_eq_true rfl) dX7_changes_37 ⟨Nat.zero_le _, Nat.zero_le _⟩ hS (fun _ h => h) (fun _ _ h => h) (fun r37 H locs hpo hS => ?_)
        obtain ⟨he37, hT, u37_0⟩ := hpo
        have hF := bd0_r hF hd37 he37
        refine lv_iload_n hx hb dX7_changes_40 rfl (lv_at hl 1 rfl) ?_
        obtain ⟨v41, hd41, -⟩ := bd0_s hF
        refine cl_Vi (rest := [.ref q23, .int x21, .ref q15]) hC hK hSK (c_X7_goesTo l z σj6 h0 (o0) g0 r37 p1 v41 hd41 (by omega)) k_X7_goesTo mw_5_96 ⟨rfl, rfl, Nat.le_of_ble_eq_true rfl, Nat.le_of_ble_eq_true rfl⟩ (rv_Model hK hT g0) hT rfl hl.1 rfl (Nat.le_of_ble_eq_true rfl) dX7_changes_41 ⟨Nat.zero_le _, Nat.zero_le _⟩ hS (fun _ h => h) (fun _ _ h => h) (fun r41 H locs hpo hS => ?_)
        obtain ⟨he41, hT, u41_0⟩ := hpo
        have hF := bd0_r hF hd41 he41
        refine al_45 hx hb hK hT hq23 (by omega) (by omega) dX7_changes_44 (fun x44 e44 g44 => ?_)
        have hF := bn hF e44
        refine as_41 hx hb hK hT hS hq15 (by omega) (by omega) (gd59_m20 (by omega) (by omega) ⟨by omega, by omega⟩) dX7_changes_45 (fun H locs hT hS => ?_)
        obtain ⟨σ45, hF, hfr, hT⟩ := wrL hF hfr hT
        refine r_iinc (lv' := fun v__ => [(2, .int v__), (0, .ref h0), (1, .int p1)]) hx hb dX7_changes_46 hl (k := 2) rfl (by decide) (fun _ => rfl) ⟨by decide, by decide⟩ (by omega) (by omega) (fun x46 ls e46 hl => ?_)
        have hF := bn hF e46
        refine lv_goto (tgt := 6) hx hb dX7_changes_49 (by decide) ?_
        exact ih6 ls _ _ x46 σ45 (by omega) hF hfr hT hS (lv_sub hl [1, 2, 0] rfl)
  exact J6 5000 ls _ _ x4 σ1 (by omega) hF hfr hT hS (lv_sub hl [1, 2, 0] rfl)
theorem k_X7_danceOn : cBV yX7_danceOn cX7_danceOn 5 none 1 := ⟨mw_5_90, ms_3_6, mw_1_8, mw_5_91, ⟨by decide, by decide, by decide⟩⟩
set_option maxHeartbeats 4000000 in
set_option maxRecDepth 100000 in
theorem c_X7_danceOn (l : Launch) (z : Zt) (σ : Sg) (h0 o0 : Nat) (g0 : zG z h0 = (17, o0)) (p1 : Int32) (out : Lo) (hF : D_X7_danceOn (σ o0) p1.toInt = some out) : Met l yX7_danceOn (uw yX7_danceOn cX7_danceOn 5 none) (rmF 7 198) (PcW z [.ref h0, .int p1] (fun H => TY z (zA z) σ H)) (QcV z (fun H => ∃ σ' : Sg, some (σ' o0) = some out ∧ FR σ σ' o0 ∧ TY z (zA z) σ' H)) 0 0 (zA z) := by
  refine Met.ofW (cc := cX7_danceOn) (maxL := 5) (ret := none) (by decide) rfl ?_
  intro p e s m args below meth c s₁ B hml hv
  obtain ⟨rfl, hT, hK, hSK⟩ := hv
  have hx := B.exec
  have hb := B.bytes
  have hr := B.returns
  have hts : ∀ w ∈ lw_ok, w.before ([.ref h0, .int p1] : List Value).toArray s = true := fun w hw => atoms_spec (ws := uw yX7_danceOn cX7_danceOn 5 none) B.pre w (List.mem_cons_of_mem _ hw)
  have hown : s.vm.findClass RX7 = some m.cls := findClass_of_methodNamed B.named
  have hlk := B.notSynchronized
  have hC : CallFix p m c cX7_danceOn 5 s ([.ref h0, .int p1] : List Value).toArray lw_ok RX7 := ⟨hx, hb, hml, hown, hts⟩
  have hS : va_S (zA z) s.heap s.heap [] := va_S.rf
  have hl := lv_entry ([.ref h0, .int p1]) (n := 5) (Nat.le_of_ble_eq_true rfl)
  rw [lg_entry_eq]
  generalize (lg_sl ([.ref h0, .int p1]) ++ List.replicate (5 - (lg_sl ([.ref h0, .int p1])).length) Slot.unset).toArray = ls at hl ⊢
  have hl : lv_has ls 5 [(0, .ref h0), (1, .int p1)] := hl
  show W p l e (rmF 7 198) s m ([.ref h0, .int p1] : List Value).toArray below meth c s.heap [] 0 0 (MQ below (QcV z (fun H => ∃ σ' : Sg, some (σ' o0) = some out ∧ FR σ σ' o0 ∧ TY z (zA z) σ' H)) ([.ref h0, .int p1] : List Value).toArray s 0 0 (zA z)) (F0 m 0 ls [])
  have hfr : FR σ σ o0 := FR_rf σ o0
  unfold D_X7_danceOn at hF
  have mx_p1 := i_mx p1
  refine lv_aload_n hx hb dX7_danceOn_0 rfl (lv_at hl 0 rfl) ?_
  refine lv_iload_n hx hb dX7_danceOn_1 rfl (lv_at hl 1 rfl) ?_
  obtain ⟨s2, hd2, -⟩ := bd1_s hF
  refine cl_Vv (rest := []) hC hK hSK (c_X7_changes l z σ h0 (o0) g0 p1 s2 hd2) k_X7_changes mw_5_92 ⟨rfl, rfl, Nat.le_of_ble_eq_true rfl, Nat.le_of_ble_eq_true rfl⟩ (rv_Model hK hT g0) hT rfl hl.1 rfl (Nat.le_of_ble_eq_true rfl) dX7_danceOn_2 ⟨Nat.zero_le _, Nat.zero_le _⟩ hS (fun _ h => h) (fun _ _ h => h) (fun H locs hpo hS => ?_)
  obtain ⟨σ2, he2, hf2, hT⟩ := hpo
  have hF := bd1_r hF hd2 he2
  have hfr := FR_tr hf2 hfr
  refine r_iconst hx hb dX7_danceOn_5 (by decide) (by decide) (fun x5 e5 => ?_)
  have hF := bn hF e5
  refine lv_istore_n (lv' := [(2, .int x5), (0, .ref h0), (1, .int p1)]) hx hb dX7_danceOn_6 rfl hl (by decide) rfl (fun ls hl => ?_)
  have J7 : ∀ (n7 : Nat) (ls : Array Slot) (H : Heap) (locs : List Loc) (y7_2 : Int32) (σj7 : Sg), (0 ≤ y7_2.toInt ∧ y7_2.toInt ≤ 5) → D_X7_danceOn_7 n7 (σj7 o0) y7_2.toInt = some out → FR σ σj7 o0 → TY z (zA z) σj7 H → va_S (zA z) s.heap H locs → lv_has ls 5 [(0, .ref h0), (1, .int p1), (2, .int y7_2)] → W p l e (rmF 7 198) s m ([.ref h0, .int p1] : List Value).toArray below meth c H locs 0 0 (MQ below (QcV z (fun H => ∃ σ' : Sg, some (σ' o0) = some out ∧ FR σ σ' o0 ∧ TY z (zA z) σ' H)) ([.ref h0, .int p1] : List Value).toArray s 0 0 (zA z)) (F0 m 7 ls []) := by
    intro n7
    induction n7 with
    | zero => intro ls H locs y7_2 σj7 j7_y7_2 hF hfr hT hS hl; exact (no_s hF).elim
    | succ n7 ih7 =>
      intro ls H locs y7_2 σj7 j7_y7_2 hF hfr hT hS hl
      rw [D_X7_danceOn_7.eq_2] at hF
      refine lv_iload_n hx hb dX7_danceOn_7 rfl (lv_at hl 2 rfl) ?_
      refine lv_aload_n hx hb dX7_danceOn_8 rfl (lv_at hl 0 rfl) ?_
      refine gt_Model_men hx hb hts ic_Model hown hK hT g0 (hts _ mw_4_73) dX7_danceOn_9 (fun x9 e9 f9 g9 => ?_)
      have hF := bn hF e9
      refine r_icmp_ge (tgt := 103) hx hb dX7_danceOn_12 (by decide) (fun c12 => ?_) (fun c12 => ?_)
      · have hF := ifn hF (Int.not_lt.mpr c12)
        refine r_iconst hx hb dX7_danceOn_103 (by decide) (by decide) (fun x103 e103 => ?_)
        have hF := bn hF e103
        refine lv_istore_n (lv' := [(2, .int x103), (0, .ref h0), (1, .int p1)]) hx hb dX7_danceOn_104 rfl hl (by decide) rfl (fun ls hl => ?_)
        have J105 : ∀ (n105 : Nat) (ls : Array Slot) (H : Heap) (locs : List Loc) (y105_2 : Int32) (σj105 : Sg), (0 ≤ y105_2.toInt ∧ y105_2.toInt ≤ 5) → D_X7_danceOn_105 n105 (σj105 o0) y105_2.toInt = some out → FR σ σj105 o0 → TY z (zA z) σj105 H → va_S (zA z) s.heap H locs → lv_has ls 5 [(0, .ref h0), (1, .int p1), (2, .int y105_2)] → W p l e (rmF 7 198) s m ([.ref h0, .int p1] : List Value).toArray below meth c H locs 0 0 (MQ below (QcV z (fun H => ∃ σ' : Sg, some (σ' o0) = some out ∧ FR σ σ' o0 ∧ TY z (zA z) σ' H)) ([.ref h0, .int p1] : List Value).toArray s 0 0 (zA z)) (F0 m 105 ls []) := by
          intro n105
          induction n105 with
          | zero => intro ls H locs y105_2 σj105 j105_y105_2 hF hfr hT hS hl; exact (no_s hF).elim
          | succ n105 ih105 =>
            intro ls H locs y105_2 σj105 j105_y105_2 hF hfr hT hS hl
            rw [D_X7_danceOn_105.eq_2] at hF
            refine lv_iload_n hx hb dX7_danceOn_105 rfl (lv_at hl 2 rfl) ?_
            refine lv_aload_n hx hb dX7_danceOn_106 rfl (lv_at hl 0 rfl) ?_
            refine gt_Model_men hx hb hts ic_Model hown hK hT g0 (hts _ mw_4_73) dX7_danceOn_107 (fun x107 e107 f107 g107 => ?_)
            have hF := bn hF e107
            refine r_icmp_ge (tgt := 166) hx hb dX7_danceOn_110 (by decide) (fun c110 => ?_) (fun c110 => ?_)
            · have hF := ifn hF (Int.not_lt.mpr c110)
              refine lv_aload_n hx hb dX7_danceOn_166 rfl (lv_at hl 0 rfl) ?_
              refine gt_Model_now hx hb hts ic_Model hown hK hT g0 (hts _ mw_4_71) dX7_danceOn_167 (fun q167 hq167 => ?_)
              refine r_bipush hx hb dX7_danceOn_170 rfl (fun x170 e170 => ?_)
              have hF := bn hF e170
              refine lv_dup2_11 hx hb dX7_danceOn_172 rfl rfl ?_
              refine al_41 hx hb hK hT hq167 (by omega) (by omega) dX7_danceOn_173 (fun x173 e173 g173 => ?_)
              have hF := bn hF e173
              have f173 := gd59_30 g173 (by omega)
              refine lv_aload_n hx hb dX7_danceOn_174 rfl (lv_at hl 0 rfl) ?_
              refine gt_Model_now hx hb hts ic_Model hown hK hT g0 (hts _ mw_4_71) dX7_danceOn_175 (fun q175 hq175 => ?_)
              refine r_bipush hx hb dX7_danceOn_178 rfl (fun x178 e178 => ?_)
              have hF := bn hF e178
              refine al_41 hx hb hK hT hq175 (by omega) (by omega) dX7_danceOn_180 (fun x180 e180 g180 => ?_)
              have hF := bn hF e180
              have f180 := gd59_30 g180 (by omega)
              refine r_sipush hx hb dX7_danceOn_181 rfl (fun x181 e181 => ?_)
              have hF := bn hF e181
              have J192 : ∀ (ls : Array Slot) (H : Heap) (locs : List Loc) (t192_3 : Int32) (σj192 : Sg), (0 ≤ t192_3.toInt ∧ t192_3.toInt ≤ 1) → D_X7_danceOn_192 x170.toInt x173.toInt (σj192 o0) t192_3.toInt = some out → FR σ σj192 o0 → TY z (zA z) σj192 H → va_S (zA z) s.heap H locs → lv_has ls 5 [(0, .ref h0), (1, .int p1), (2, .int y105_2)] → W p l e (rmF 7 198) s m ([.ref h0, .int p1] : List Value).toArray below meth c H locs 0 0 (MQ below (QcV z (fun H => ∃ σ' : Sg, some (σ' o0) = some out ∧ FR σ σ' o0 ∧ TY z (zA z) σ' H)) ([.ref h0, .int p1] : List Value).toArray s 0 0 (zA z)) (F0 m 192 ls [.int t192_3, .int x173, .int x170, .ref q167]) := by
                intro ls H locs t192_3 σj192 j192_t192_3 hF hfr hT hS hl
                unfold D_X7_danceOn_192 at hF
                obtain ⟨v192, hd192, -⟩ := bd0_s hF
                refine cl_Si (rest := [.int x173, .int x170, .ref q167]) hC hK hSK (c_X7_flag l z σj192 t192_3 v192 hd192 (by omega)) k_X7_flag mw_5_4 ⟨rfl, rfl, Nat.le_of_ble_eq_true rfl, Nat.le_of_ble_eq_true rfl⟩ hT rfl hl.1 rfl (Nat.le_of_ble_eq_true rfl) dX7_danceOn_192 ⟨Nat.zero_le _, Nat.zero_le _⟩ hS (fun _ h => h) (fun _ _ h => h) (fun r192 H locs hpo hS => ?_)
                obtain ⟨he192, hT, u192_0⟩ := hpo
                have hF := bd0_r hF hd192 he192
                refine r_iadd hx hb dX7_danceOn_195 (by omega) (by omega) (fun x195 e195 => ?_)
                have hF := bn hF e195
                obtain ⟨kv196, hF⟩ := ckd hF
                refine as_41 hx hb hK hT hS hq167 (by omega) (by omega) kv196 dX7_danceOn_196 (fun H locs hT hS => ?_)
                obtain ⟨σ196, hF, hfr, hT⟩ := wrL hF hfr hT
                exact rt_v hx hb hr hlk hS ⟨σ196, hF, hfr, hT⟩ dX7_danceOn_197
              refine r_icmp_ge (tgt := 191) hx hb dX7_danceOn_184 (by decide) (fun c184 => ?_) (fun c184 => ?_)
              · have hF := ifn hF (Int.not_lt.mpr c184)
                refine r_iconst hx hb dX7_danceOn_191 (by decide) (by decide) (fun x191 e191 => ?_)
                have hF := bn hF e191
                exact J192 ls _ _ x191 σj105 (by omega) hF hfr hT hS (lv_sub hl [0, 1, 2] rfl)
              · have hF := ifp hF c184
                refine r_iconst hx hb dX7_danceOn_187 (by decide) (by decide) (fun x187 e187 => ?_)
                have hF := bn hF e187
                refine lv_goto (tgt := 192) hx hb dX7_danceOn_188 (by decide) ?_
                exact J192 ls _ _ x187 σj105 (by omega) hF hfr hT hS (lv_sub hl [0, 1, 2] rfl)
            · have hF := ifp hF c110
              refine lv_aload_n hx hb dX7_danceOn_113 rfl (lv_at hl 0 rfl) ?_
              refine gt_Model_now hx hb hts ic_Model hown hK hT g0 (hts _ mw_4_71) dX7_danceOn_114 (fun q114 hq114 => ?_)
              refine r_bipush hx hb dX7_danceOn_117 rfl (fun x117 e117 => ?_)
              have hF := bn hF e117
              refine lv_iload_n hx hb dX7_danceOn_119 rfl (lv_at hl 2 rfl) ?_
              refine r_iadd hx hb dX7_danceOn_120 (by omega) (by omega) (fun x120 e120 => ?_)
              have hF := bn hF e120
              refine al_41 hx hb hK hT hq114 (by omega) (by omega) dX7_danceOn_121 (fun x121 e121 g121 => ?_)
              have hF := bn hF e121
              have f121 := gd59_20 g121 (by omega) (by omega)
              refine lv_iload_n hx hb dX7_danceOn_122 rfl (lv_at hl 2 rfl) ?_
              have J142 : ∀ (ls : Array Slot) (H : Heap) (locs : List Loc) (t142_0 : Int32) (σj142 : Sg), (0 ≤ t142_0.toInt ∧ t142_0.toInt ≤ 1) → D_X7_danceOn_142 (D_X7_danceOn_105 n105) y105_2.toInt (σj142 o0) t142_0.toInt = some out → FR σ σj142 o0 → TY z (zA z) σj142 H → va_S (zA z) s.heap H locs → lv_has ls 5 [(0, .ref h0), (1, .int p1), (2, .int y105_2)] → W p l e (rmF 7 198) s m ([.ref h0, .int p1] : List Value).toArray below meth c H locs 0 0 (MQ below (QcV z (fun H => ∃ σ' : Sg, some (σ' o0) = some out ∧ FR σ σ' o0 ∧ TY z (zA z) σ' H)) ([.ref h0, .int p1] : List Value).toArray s 0 0 (zA z)) (F0 m 142 ls [.int t142_0]) := by
                intro ls H locs t142_0 σj142 j142_t142_0 hF hfr hT hS hl
                unfold D_X7_danceOn_142 at hF
                refine lv_istore_n (lv' := [(3, .int t142_0), (0, .ref h0), (1, .int p1), (2, .int y105_2)]) hx hb dX7_danceOn_142 rfl hl (by decide) rfl (fun ls hl => ?_)
                refine lv_aload_n hx hb dX7_danceOn_143 rfl (lv_at hl 1 rfl) ?_
                refine lv_iload_n hx hb dX7_danceOn_144 rfl (lv_at hl 3 rfl) ?_
                refine r_iconst hx hb dX7_danceOn_145 (by decide) (by decide) (fun x145 e145 => ?_)
                have hF := bn hF e145
                refine lv_aload_n hx hb dX7_danceOn_146 rfl (lv_at hl 1 rfl) ?_
                refine lv_iload_n hx hb dX7_danceOn_147 rfl (lv_at hl 3 rfl) ?_
                refine r_iconst hx hb dX7_danceOn_148 (by decide) (by decide) (fun x148 e148 => ?_)
                have hF := bn hF e148
                obtain ⟨v149, hd149, -⟩ := bd0_s hF
                refine cl_Vi (rest := [.int x145, .int y105_2, .ref h0]) hC hK hSK (c_X7_of l z σj142 h0 (o0) g0 y105_2 x148 v149 hd149 (by omega) (by omega)) k_X7_of mw_5_15 ⟨rfl, rfl, Nat.le_of_ble_eq_true rfl, Nat.le_of_ble_eq_true rfl⟩ (rv_Model hK hT g0) hT rfl hl.1 rfl (Nat.le_of_ble_eq_true rfl) dX7_danceOn_149 ⟨Nat.zero_le _, Nat.zero_le _⟩ hS (fun _ h => h) (fun _ _ h => h) (fun r149 H locs hpo hS => ?_)
                obtain ⟨he149, hT, u149_0⟩ := hpo
                have hF := bd0_r hF hd149 he149
                refine lv_iload_n hx hb dX7_danceOn_152 rfl (lv_at hl 0 rfl) ?_
                obtain ⟨v153, hd153, -⟩ := bd0_s hF
                refine cl_Si (rest := [.int r149, .int x145, .int y105_2, .ref h0]) hC hK hSK (c_X7_flag l z σj142 t142_0 v153 hd153 (by omega)) k_X7_flag mw_5_4 ⟨rfl, rfl, Nat.le_of_ble_eq_true rfl, Nat.le_of_ble_eq_true rfl⟩ hT rfl hl.1 rfl (Nat.le_of_ble_eq_true rfl) dX7_danceOn_153 ⟨Nat.zero_le _, Nat.zero_le _⟩ hS (fun _ h => h) (fun _ _ h => h) (fun r153 H locs hpo hS => ?_)
                obtain ⟨he153, hT, u153_0⟩ := hpo
                have hF := bd0_r hF hd153 he153
                refine r_iadd hx hb dX7_danceOn_156 (by omega) (by omega) (fun x156 e156 => ?_)
                have hF := bn hF e156
                obtain ⟨ka157_2, hF⟩ := ck hF
                obtain ⟨s157, hd157, -⟩ := bd1_s hF
                refine cl_Vv (rest := []) hC hK hSK (c_X7_becomesOf l z σj142 h0 (o0) g0 y105_2 x145 x156 s157 hd157 (by omega) (by omega) (by omega)) k_X7_becomesOf mw_5_100 ⟨rfl, rfl, Nat.le_of_ble_eq_true rfl, Nat.le_of_ble_eq_true rfl⟩ (rv_Model hK hT g0) hT rfl hl.1 rfl (Nat.le_of_ble_eq_true rfl) dX7_danceOn_157 ⟨Nat.zero_le _, Nat.zero_le _⟩ hS (fun _ h => h) (fun _ _ h => h) (fun H locs hpo hS => ?_)
                obtain ⟨σ157, he157, hf157, hT⟩ := hpo
                have hF := bd1_r hF hd157 he157
                have hfr := FR_tr hf157 hfr
                refine r_iinc (lv' := fun v__ => [(2, .int v__), (3, .int t142_0), (0, .ref h0), (1, .int p1)]) hx hb dX7_danceOn_160 hl (k := 3) rfl (by decide) (fun _ => rfl) ⟨by decide, by decide⟩ (by omega) (by omega) (fun x160 ls e160 hl => ?_)
                have hF := bn hF e160
                refine lv_goto (tgt := 105) hx hb dX7_danceOn_163 (by decide) ?_
                exact ih105 ls _ _ x160 σ157 (by omega) hF hfr hT hS (lv_sub hl [2, 3, 0] rfl)
              have J141 : ∀ (ls : Array Slot) (H : Heap) (locs : List Loc) (σj141 : Sg), D_X7_danceOn_141 (D_X7_danceOn_105 n105) y105_2.toInt (σj141 o0) = some out → FR σ σj141 o0 → TY z (zA z) σj141 H → va_S (zA z) s.heap H locs → lv_has ls 5 [(0, .ref h0), (1, .int p1), (2, .int y105_2)] → W p l e (rmF 7 198) s m ([.ref h0, .int p1] : List Value).toArray below meth c H locs 0 0 (MQ below (QcV z (fun H => ∃ σ' : Sg, some (σ' o0) = some out ∧ FR σ σ' o0 ∧ TY z (zA z) σ' H)) ([.ref h0, .int p1] : List Value).toArray s 0 0 (zA z)) (F0 m 141 ls []) := by
                intro ls H locs σj141 hF hfr hT hS hl
                unfold D_X7_danceOn_141 at hF
                refine r_iconst hx hb dX7_danceOn_141 (by decide) (by decide) (fun x141 e141 => ?_)
                have hF := bn hF e141
                exact J142 ls _ _ x141 σj141 (by omega) hF hfr hT hS (lv_sub hl [0, 1, 2] rfl)
              refine r_icmp_ne (tgt := 141) hx hb dX7_danceOn_123 (by decide) (fun c123 => ?_) (fun c123 => ?_)
              · have hF := ifn hF c123
                exact J141 ls _ _ σj105 hF hfr hT hS (lv_sub hl [0, 1, 2] rfl)
              · have hF := ifp hF c123
                refine lv_aload_n hx hb dX7_danceOn_126 rfl (lv_at hl 0 rfl) ?_
                refine lv_iload_n hx hb dX7_danceOn_127 rfl (lv_at hl 2 rfl) ?_
                refine r_iconst hx hb dX7_danceOn_128 (by decide) (by decide) (fun x128 e128 => ?_)
                have hF := bn hF e128
                obtain ⟨v129, hd129, -⟩ := bd0_s hF
                refine cl_Vi (rest := []) hC hK hSK (c_X7_of l z σj105 h0 (o0) g0 y105_2 x128 v129 hd129 (by omega) (by omega)) k_X7_of mw_5_15 ⟨rfl, rfl, Nat.le_of_ble_eq_true rfl, Nat.le_of_ble_eq_true rfl⟩ (rv_Model hK hT g0) hT rfl hl.1 rfl (Nat.le_of_ble_eq_true rfl) dX7_danceOn_129 ⟨Nat.zero_le _, Nat.zero_le _⟩ hS (fun _ h => h) (fun _ _ h => h) (fun r129 H locs hpo hS => ?_)
                obtain ⟨he129, hT, u129_0⟩ := hpo
                have hF := bd0_r hF hd129 he129
                refine r_bipush hx hb dX7_danceOn_132 rfl (fun x132 e132 => ?_)
                have hF := bn hF e132
                refine r_icmp_ge (tgt := 141) hx hb dX7_danceOn_134 (by decide) (fun c134 => ?_) (fun c134 => ?_)
                · have hF := ifn hF (Int.not_lt.mpr c134)
                  exact J141 ls _ _ σj105 hF hfr hT hS (lv_sub hl [0, 1, 2] rfl)
                · have hF := ifp hF c134
                  refine r_iconst hx hb dX7_danceOn_137 (by decide) (by decide) (fun x137 e137 => ?_)
                  have hF := bn hF e137
                  refine lv_goto (tgt := 142) hx hb dX7_danceOn_138 (by decide) ?_
                  exact J142 ls _ _ x137 σj105 (by omega) hF hfr hT hS (lv_sub hl [0, 1, 2] rfl)
        exact J105 5000 ls _ _ x103 σj7 (by omega) hF hfr hT hS (lv_sub hl [1, 2, 0] rfl)
      · have hF := ifp hF c12
        refine lv_aload_n hx hb dX7_danceOn_15 rfl (lv_at hl 0 rfl) ?_
        refine lv_iload_n hx hb dX7_danceOn_16 rfl (lv_at hl 2 rfl) ?_
        refine r_iconst hx hb dX7_danceOn_17 (by decide) (by decide) (fun x17 e17 => ?_)
        have hF := bn hF e17
        obtain ⟨v18, hd18, -⟩ := bd0_s hF
        refine cl_Vi (rest := []) hC hK hSK (c_X7_of l z σj7 h0 (o0) g0 y7_2 x17 v18 hd18 (by omega) (by omega)) k_X7_of mw_5_15 ⟨rfl, rfl, Nat.le_of_ble_eq_true rfl, Nat.le_of_ble_eq_true rfl⟩ (rv_Model hK hT g0) hT rfl hl.1 rfl (Nat.le_of_ble_eq_true rfl) dX7_danceOn_18 ⟨Nat.zero_le _, Nat.zero_le _⟩ hS (fun _ h => h) (fun _ _ h => h) (fun r18 H locs hpo hS => ?_)
        obtain ⟨he18, hT, u18_0⟩ := hpo
        have hF := bd0_r hF hd18 he18
        refine lv_istore_n (lv' := [(3, .int r18), (0, .ref h0), (1, .int p1), (2, .int y7_2)]) hx hb dX7_danceOn_21 rfl hl (by decide) rfl (fun ls hl => ?_)
        refine lv_iload_n hx hb dX7_danceOn_22 rfl (lv_at hl 0 rfl) ?_
        refine r_iconst hx hb dX7_danceOn_23 (by decide) (by decide) (fun x23 e23 => ?_)
        have hF := bn hF e23
        have J58 : ∀ (ls : Array Slot) (H : Heap) (locs : List Loc) (t58_0 : Int32) (σj58 : Sg), (0 ≤ t58_0.toInt ∧ t58_0.toInt ≤ 1) → D_X7_danceOn_58 (D_X7_danceOn_7 n7) y7_2.toInt (σj58 o0) t58_0.toInt = some out → FR σ σj58 o0 → TY z (zA z) σj58 H → va_S (zA z) s.heap H locs → lv_has ls 5 [(0, .ref h0), (1, .int p1), (2, .int y7_2), (3, .int r18)] → W p l e (rmF 7 198) s m ([.ref h0, .int p1] : List Value).toArray below meth c H locs 0 0 (MQ below (QcV z (fun H => ∃ σ' : Sg, some (σ' o0) = some out ∧ FR σ σ' o0 ∧ TY z (zA z) σ' H)) ([.ref h0, .int p1] : List Value).toArray s 0 0 (zA z)) (F0 m 58 ls [.int t58_0]) := by
          intro ls H locs t58_0 σj58 j58_t58_0 hF hfr hT hS hl
          unfold D_X7_danceOn_58 at hF
          refine lv_istore (lv' := [(4, .int t58_0), (0, .ref h0), (1, .int p1), (2, .int y7_2), (3, .int r18)]) hx hb dX7_danceOn_58 hl (by decide) rfl (fun ls hl => ?_)
          refine lv_aload_n hx hb dX7_danceOn_60 rfl (lv_at hl 1 rfl) ?_
          refine lv_iload_n hx hb dX7_danceOn_61 rfl (lv_at hl 3 rfl) ?_
          refine r_iconst hx hb dX7_danceOn_62 (by decide) (by decide) (fun x62 e62 => ?_)
          have hF := bn hF e62
          refine lv_iload hx hb dX7_danceOn_63 (lv_at hl 0 rfl) ?_
          have J94 : ∀ (ls : Array Slot) (H : Heap) (locs : List Loc) (t94_3 : Int32) (σj94 : Sg), (-1 ≤ t94_3.toInt ∧ t94_3.toInt ≤ 9) → D_X7_danceOn_94 (D_X7_danceOn_7 n7) x62.toInt y7_2.toInt (σj94 o0) t94_3.toInt = some out → FR σ σj94 o0 → TY z (zA z) σj94 H → va_S (zA z) s.heap H locs → lv_has ls 5 [(0, .ref h0), (1, .int p1), (2, .int y7_2), (3, .int r18), (4, .int t58_0)] → W p l e (rmF 7 198) s m ([.ref h0, .int p1] : List Value).toArray below meth c H locs 0 0 (MQ below (QcV z (fun H => ∃ σ' : Sg, some (σ' o0) = some out ∧ FR σ σ' o0 ∧ TY z (zA z) σ' H)) ([.ref h0, .int p1] : List Value).toArray s 0 0 (zA z)) (F0 m 94 ls [.int t94_3, .int x62, .int y7_2, .ref h0]) := by
            intro ls H locs t94_3 σj94 j94_t94_3 hF hfr hT hS hl
            unfold D_X7_danceOn_94 at hF
            obtain ⟨ka94_2, hF⟩ := ck hF
            obtain ⟨s94, hd94, -⟩ := bd1_s hF
            refine cl_Vv (rest := []) hC hK hSK (c_X7_becomesOf l z σj94 h0 (o0) g0 y7_2 x62 t94_3 s94 hd94 (by omega) (by omega) (by omega)) k_X7_becomesOf mw_5_100 ⟨rfl, rfl, Nat.le_of_ble_eq_true rfl, Nat.le_of_ble_eq_true rfl⟩ (rv_Model hK hT g0) hT rfl hl.1 rfl (Nat.le_of_ble_eq_true rfl) dX7_danceOn_94 ⟨Nat.zero_le _, Nat.zero_le _⟩ hS (fun _ h => h) (fun _ _ h => h) (fun H locs hpo hS => ?_)
            obtain ⟨σ94, he94, hf94, hT⟩ := hpo
            have hF := bd1_r hF hd94 he94
            have hfr := FR_tr hf94 hfr
            refine r_iinc (lv' := fun v__ => [(2, .int v__), (0, .ref h0), (1, .int p1), (3, .int r18), (4, .int t58_0)]) hx hb dX7_danceOn_97 hl (k := 2) rfl (by decide) (fun _ => rfl) ⟨by decide, by decide⟩ (by omega) (by omega) (fun x97 ls e97 hl => ?_)
            have hF := bn hF e97
            refine lv_goto (tgt := 7) hx hb dX7_danceOn_100 (by decide) ?_
            exact ih7 ls _ _ x97 σ94 (by omega) hF hfr hT hS (lv_sub hl [1, 2, 0] rfl)
          have J88 : ∀ (ls : Array Slot) (H : Heap) (locs : List Loc) (σj88 : Sg), D_X7_danceOn_88 (D_X7_danceOn_7 n7) x62.toInt y7_2.toInt (σj88 o0) = some out → FR σ σj88 o0 → TY z (zA z) σj88 H → va_S (zA z) s.heap H locs → lv_has ls 5 [(0, .ref h0), (1, .int p1), (2, .int y7_2), (3, .int r18), (4, .int t58_0)] → W p l e (rmF 7 198) s m ([.ref h0, .int p1] : List Value).toArray below meth c H locs 0 0 (MQ below (QcV z (fun H => ∃ σ' : Sg, some (σ' o0) = some out ∧ FR σ σ' o0 ∧ TY z (zA z) σ' H)) ([.ref h0, .int p1] : List Value).toArray s 0 0 (zA z)) (F0 m 88 ls [.int x62, .int y7_2, .ref h0]) := by
            intro ls H locs σj88 hF hfr hT hS hl
            unfold D_X7_danceOn_88 at hF
            refine lv_aload_n hx hb dX7_danceOn_88 rfl (lv_at hl 0 rfl) ?_
            refine lv_iload_n hx hb dX7_danceOn_89 rfl (lv_at hl 2 rfl) ?_
            refine r_iconst hx hb dX7_danceOn_90 (by decide) (by decide) (fun x90 e90 => ?_)
            have hF := bn hF e90
            obtain ⟨v91, hd91, -⟩ := bd0_s hF
            refine cl_Vi (rest := [.int x62, .int y7_2, .ref h0]) hC hK hSK (c_X7_of l z σj88 h0 (o0) g0 y7_2 x90 v91 hd91 (by omega) (by omega)) k_X7_of mw_5_15 ⟨rfl, rfl, Nat.le_of_ble_eq_true rfl, Nat.le_of_ble_eq_true rfl⟩ (rv_Model hK hT g0) hT rfl hl.1 rfl (Nat.le_of_ble_eq_true rfl) dX7_danceOn_91 ⟨Nat.zero_le _, Nat.zero_le _⟩ hS (fun _ h => h) (fun _ _ h => h) (fun r91 H locs hpo hS => ?_)
            obtain ⟨he91, hT, u91_0⟩ := hpo
            have hF := bd0_r hF hd91 he91
            exact J94 ls _ _ r91 σj88 (by omega) hF hfr hT hS (lv_sub hl [0, 1, 2, 3, 4] rfl)
          refine r_if_eq (tgt := 88) hx hb dX7_danceOn_65 (by decide) (fun c65 => ?_) (fun c65 => ?_)
          · have hF := ifp hF c65
            exact J88 ls _ _ σj58 hF hfr hT hS (lv_sub hl [1, 2, 3, 4, 0] rfl)
          · have hF := ifn hF c65
            refine lv_aload_n hx hb dX7_danceOn_68 rfl (lv_at hl 1 rfl) ?_
            refine lv_iload_n hx hb dX7_danceOn_69 rfl (lv_at hl 3 rfl) ?_
            refine r_iconst hx hb dX7_danceOn_70 (by decide) (by decide) (fun x70 e70 => ?_)
            have hF := bn hF e70
            obtain ⟨v71, hd71, -⟩ := bd0_s hF
            refine cl_Vi (rest := [.int x62, .int y7_2, .ref h0]) hC hK hSK (c_X7_of l z σj58 h0 (o0) g0 y7_2 x70 v71 hd71 (by omega) (by omega)) k_X7_of mw_5_15 ⟨rfl, rfl, Nat.le_of_ble_eq_true rfl, Nat.le_of_ble_eq_true rfl⟩ (rv_Model hK hT g0) hT rfl hl.1 rfl (Nat.le_of_ble_eq_true rfl) dX7_danceOn_71 ⟨Nat.zero_le _, Nat.zero_le _⟩ hS (fun _ h => h) (fun _ _ h => h) (fun r71 H locs hpo hS => ?_)
            obtain ⟨he71, hT, u71_0⟩ := hpo
            have hF := bd0_r hF hd71 he71
            refine r_if_le (tgt := 88) hx hb dX7_danceOn_74 (by decide) (fun c74 => ?_) (fun c74 => ?_)
            · have hF := ifn hF (Int.not_lt.mpr c74)
              exact J88 ls _ _ σj58 hF hfr hT hS (lv_sub hl [1, 2, 3, 4, 0] rfl)
            · have hF := ifp hF c74
              refine lv_aload_n hx hb dX7_danceOn_77 rfl (lv_at hl 1 rfl) ?_
              refine lv_iload_n hx hb dX7_danceOn_78 rfl (lv_at hl 3 rfl) ?_
              refine r_iconst hx hb dX7_danceOn_79 (by decide) (by decide) (fun x79 e79 => ?_)
              have hF := bn hF e79
              obtain ⟨v80, hd80, -⟩ := bd0_s hF
              refine cl_Vi (rest := [.int x62, .int y7_2, .ref h0]) hC hK hSK (c_X7_of l z σj58 h0 (o0) g0 y7_2 x79 v80 hd80 (by omega) (by omega)) k_X7_of mw_5_15 ⟨rfl, rfl, Nat.le_of_ble_eq_true rfl, Nat.le_of_ble_eq_true rfl⟩ (rv_Model hK hT g0) hT rfl hl.1 rfl (Nat.le_of_ble_eq_true rfl) dX7_danceOn_80 ⟨Nat.zero_le _, Nat.zero_le _⟩ hS (fun _ h => h) (fun _ _ h => h) (fun r80 H locs hpo hS => ?_)
              obtain ⟨he80, hT, u80_0⟩ := hpo
              have hF := bd0_r hF hd80 he80
              refine r_iconst hx hb dX7_danceOn_83 (by decide) (by decide) (fun x83 e83 => ?_)
              have hF := bn hF e83
              refine r_isub hx hb dX7_danceOn_84 (by omega) (by omega) (fun x84 e84 => ?_)
              have hF := bn hF e84
              refine lv_goto (tgt := 94) hx hb dX7_danceOn_85 (by decide) ?_
              exact J94 ls _ _ x84 σj58 (by omega) hF hfr hT hS (lv_sub hl [1, 2, 3, 4, 0] rfl)
        refine r_icmp_ne (tgt := 48) hx hb dX7_danceOn_24 (by decide) (fun c24 => ?_) (fun c24 => ?_)
        · have hF := ifn hF c24
          refine lv_iload_n hx hb dX7_danceOn_48 rfl (lv_at hl 0 rfl) ?_
          refine r_iconst hx hb dX7_danceOn_49 (by decide) (by decide) (fun x49 e49 => ?_)
          have hF := bn hF e49
          refine r_icmp_eq (tgt := 57) hx hb dX7_danceOn_50 (by decide) (fun c50 => ?_) (fun c50 => ?_)
          · have hF := ifp hF c50
            refine r_iconst hx hb dX7_danceOn_57 (by decide) (by decide) (fun x57 e57 => ?_)
            have hF := bn hF e57
            exact J58 ls _ _ x57 σj7 (by omega) hF hfr hT hS (lv_sub hl [1, 2, 3, 0] rfl)
          · have hF := ifn hF c50
            refine r_iconst hx hb dX7_danceOn_53 (by decide) (by decide) (fun x53 e53 => ?_)
            have hF := bn hF e53
            refine lv_goto (tgt := 58) hx hb dX7_danceOn_54 (by decide) ?_
            exact J58 ls _ _ x53 σj7 (by omega) hF hfr hT hS (lv_sub hl [1, 2, 3, 0] rfl)
        · have hF := ifp hF c24
          refine lv_aload_n hx hb dX7_danceOn_27 rfl (lv_at hl 1 rfl) ?_
          refine gt_Model_now hx hb hts ic_Model hown hK hT g0 (hts _ mw_4_71) dX7_danceOn_28 (fun q28 hq28 => ?_)
          refine r_bipush hx hb dX7_danceOn_31 rfl (fun x31 e31 => ?_)
          have hF := bn hF e31
          refine al_41 hx hb hK hT hq28 (by omega) (by omega) dX7_danceOn_33 (fun x33 e33 g33 => ?_)
          have hF := bn hF e33
          have f33 := gd59_30 g33 (by omega)
          refine r_iconst hx hb dX7_danceOn_34 (by decide) (by decide) (fun x34 e34 => ?_)
          have hF := bn hF e34
          refine r_irem hx hb dX7_danceOn_35 (by omega) (by omega) (fun x35 e35 g35 h35 => ?_)
          have hF := bn hF e35
          refine r_iconst hx hb dX7_danceOn_36 (by decide) (by decide) (fun x36 e36 => ?_)
          have hF := bn hF e36
          refine r_icmp_ne (tgt := 44) hx hb dX7_danceOn_37 (by decide) (fun c37 => ?_) (fun c37 => ?_)
          · have hF := ifn hF c37
            refine r_iconst hx hb dX7_danceOn_44 (by decide) (by decide) (fun x44 e44 => ?_)
            have hF := bn hF e44
            refine lv_goto (tgt := 58) hx hb dX7_danceOn_45 (by decide) ?_
            exact J58 ls _ _ x44 σj7 (by omega) hF hfr hT hS (lv_sub hl [1, 2, 3, 0] rfl)
          · have hF := ifp hF c37
            refine r_iconst hx hb dX7_danceOn_40 (by decide) (by decide) (fun x40 e40 => ?_)
            have hF := bn hF e40
            refine lv_goto (tgt := 58) hx hb dX7_danceOn_41 (by decide) ?_
            exact J58 ls _ _ x40 σj7 (by omega) hF hfr hT hS (lv_sub hl [1, 2, 3, 0] rfl)
  exact J7 5000 ls _ _ x5 σ2 (by omega) hF hfr hT hS (lv_sub hl [1, 2, 0] rfl)
