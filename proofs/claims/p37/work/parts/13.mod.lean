theorem k_X7_flag : cBS yX7_flag cX7_flag 1 (some .int) 1 := ⟨mw_5_5, mw_1_8, mw_5_6, ⟨by decide, by decide, by decide⟩⟩
set_option maxHeartbeats 4000000 in
set_option maxRecDepth 100000 in
theorem c_X7_flag (l : Launch) (z : Zt) (gh : Gh) (p1 : Int32) (bp1 : 0 ≤ p1.toInt ∧ p1.toInt ≤ 1) : Met l yX7_flag (uw yX7_flag cX7_flag 1 (some .int)) (rmF 1 64) (PcW z [.int p1] (fun H => TY z (zA z) gh H)) (QcI z (fun r H => TY z (zA z) gh H ∧ (r.toInt = p1.toInt))) 0 0 (zA z) := by
  refine Met.ofW (cc := cX7_flag) (maxL := 1) (ret := (some .int)) (by decide) rfl ?_
  intro p e s m args below meth c s₁ B hml hv
  obtain ⟨rfl, hW, hK, hSK⟩ := hv
  have hx := B.exec
  have hb := B.bytes
  have hr := B.returns
  have hts : ∀ w ∈ lw_ok, w.before ([.int p1] : List Value).toArray s = true := fun w hw => atoms_spec (ws := uw yX7_flag cX7_flag 1 (some .int)) B.pre w (List.mem_cons_of_mem _ hw)
  have hown : s.vm.findClass RX7 = some m.cls := findClass_of_methodNamed B.named
  have hlk := B.notSynchronized
  have hC : CallFix p m c cX7_flag 1 s ([.int p1] : List Value).toArray lw_ok RX7 := ⟨hx, hb, hml, hown, hts⟩
  have hS : va_S (zA z) s.heap s.heap [] := va_S.rf
  have hl := lv_entry ([.int p1]) (n := 1) (Nat.le_of_ble_eq_true rfl)
  rw [lg_entry_eq]
  generalize (lg_sl ([.int p1]) ++ List.replicate (1 - (lg_sl ([.int p1])).length) Slot.unset).toArray = ls at hl ⊢
  have hl : lv_has ls 1 [(0, .int p1)] := hl
  show W p l e (rmF 1 64) s m ([.int p1] : List Value).toArray below meth c s.heap [] 0 0 (MQ below (QcI z (fun r H => TY z (zA z) gh H ∧ (r.toInt = p1.toInt))) ([.int p1] : List Value).toArray s 0 0 (zA z)) (F0 m 0 ls [])
  have hT : TY z (zA z) gh s.heap := hW
  refine lv_iload_n hx hb dX7_flag_0 rfl (lv_at hl 0 rfl) ?_
  refine r_if_eq (tgt := 8) hx hb dX7_flag_1 (by decide) (fun c1 => ?_) (fun c1 => ?_)
  · refine r_iconst hx hb dX7_flag_8 (by decide) (by decide) (fun x8 e8 => ?_)
    exact rt_i hx hb hr hlk hS ⟨hT, by omega⟩ dX7_flag_9
  · refine r_iconst hx hb dX7_flag_4 (by decide) (by decide) (fun x4 e4 => ?_)
    refine lv_goto (tgt := 9) hx hb dX7_flag_5 (by decide) ?_
    exact rt_i hx hb hr hlk hS ⟨hT, by omega⟩ dX7_flag_9
theorem k_X7_in : cBS yX7_in cX7_in 6 (some .boolean) 3 := ⟨mw_4_155, mw_1_8, mw_4_156, ⟨by decide, by decide, by decide⟩⟩
set_option maxHeartbeats 4000000 in
set_option maxRecDepth 100000 in
theorem c_X7_in (l : Launch) (z : Zt) (gh : Gh) (p1 : Int64) (p2 : Int64) (p3 : Int64) : Met l yX7_in (uw yX7_in cX7_in 6 (some .boolean)) (rmF 1 64) (PcW z [.long p1, .long p2, .long p3] (fun H => TY z (zA z) gh H)) (QcI z (fun r H => TY z (zA z) gh H ∧ ((r.toInt = 1 ∧ p2.toInt ≤ p1.toInt ∧ p1.toInt ≤ p3.toInt) ∨ (r.toInt = 0 ∧ (p1.toInt < p2.toInt ∨ p3.toInt < p1.toInt))) ∧ (0 ≤ r.toInt ∧ r.toInt ≤ 1))) 0 0 (zA z) := by
  refine Met.ofW (cc := cX7_in) (maxL := 6) (ret := (some .boolean)) (by decide) rfl ?_
  intro p e s m args below meth c s₁ B hml hv
  obtain ⟨rfl, hW, hK, hSK⟩ := hv
  have hx := B.exec
  have hb := B.bytes
  have hr := B.returns
  have hts : ∀ w ∈ lw_ok, w.before ([.long p1, .long p2, .long p3] : List Value).toArray s = true := fun w hw => atoms_spec (ws := uw yX7_in cX7_in 6 (some .boolean)) B.pre w (List.mem_cons_of_mem _ hw)
  have hown : s.vm.findClass RX7 = some m.cls := findClass_of_methodNamed B.named
  have hlk := B.notSynchronized
  have hC : CallFix p m c cX7_in 6 s ([.long p1, .long p2, .long p3] : List Value).toArray lw_ok RX7 := ⟨hx, hb, hml, hown, hts⟩
  have hS : va_S (zA z) s.heap s.heap [] := va_S.rf
  have hl := lv_entry ([.long p1, .long p2, .long p3]) (n := 6) (Nat.le_of_ble_eq_true rfl)
  rw [lg_entry_eq]
  generalize (lg_sl ([.long p1, .long p2, .long p3]) ++ List.replicate (6 - (lg_sl ([.long p1, .long p2, .long p3])).length) Slot.unset).toArray = ls at hl ⊢
  have hl : lv_has ls 6 [(0, .long p1), (2, .long p2), (4, .long p3)] := hl
  show W p l e (rmF 1 64) s m ([.long p1, .long p2, .long p3] : List Value).toArray below meth c s.heap [] 0 0 (MQ below (QcI z (fun r H => TY z (zA z) gh H ∧ ((r.toInt = 1 ∧ p2.toInt ≤ p1.toInt ∧ p1.toInt ≤ p3.toInt) ∨ (r.toInt = 0 ∧ (p1.toInt < p2.toInt ∨ p3.toInt < p1.toInt))) ∧ (0 ≤ r.toInt ∧ r.toInt ≤ 1))) ([.long p1, .long p2, .long p3] : List Value).toArray s 0 0 (zA z)) (F0 m 0 ls [])
  have hT : TY z (zA z) gh s.heap := hW
  refine lv_lload_n hx hb dX7_in_0 rfl (lv_at hl 0 rfl) ?_
  refine lv_lload_n hx hb dX7_in_1 rfl (lv_at hl 1 rfl) ?_
  refine r_lcmp hx hb dX7_in_2 (fun x2 e2 g2 k2 => ?_)
  have v2 : -1 ≤ x2.toInt ∧ x2.toInt ≤ 1 := by omega
  refine r_if_lt (tgt := 17) hx hb dX7_in_3 (by decide) (fun c3 => ?_) (fun c3 => ?_)
  · refine r_iconst hx hb dX7_in_17 (by decide) (by decide) (fun x17 e17 => ?_)
    exact rt_z hx hb hr hlk hS (by omega) (by omega) ⟨hT, by omega, by omega⟩ dX7_in_18
  · refine lv_lload_n hx hb dX7_in_6 rfl (lv_at hl 0 rfl) ?_
    refine lv_lload hx hb dX7_in_7 (lv_at hl 2 rfl) ?_
    refine r_lcmp hx hb dX7_in_9 (fun x9 e9 g9 k9 => ?_)
    have v9 : -1 ≤ x9.toInt ∧ x9.toInt ≤ 1 := by omega
    refine r_if_gt (tgt := 17) hx hb dX7_in_10 (by decide) (fun c10 => ?_) (fun c10 => ?_)
    · refine r_iconst hx hb dX7_in_17 (by decide) (by decide) (fun x17 e17 => ?_)
      exact rt_z hx hb hr hlk hS (by omega) (by omega) ⟨hT, by omega, by omega⟩ dX7_in_18
    · refine r_iconst hx hb dX7_in_13 (by decide) (by decide) (fun x13 e13 => ?_)
      refine lv_goto (tgt := 18) hx hb dX7_in_14 (by decide) ?_
      exact rt_z hx hb hr hlk hS (by omega) (by omega) ⟨hT, by omega, by omega⟩ dX7_in_18
theorem k_X7_isOne : cBV yX7_isOne cX7_isOne 2 (some .boolean) 1 := ⟨mw_5_13, ms_2_14, mw_1_8, mw_5_14, ⟨by decide, by decide, by decide⟩⟩
set_option maxHeartbeats 4000000 in
set_option maxRecDepth 100000 in
theorem c_X7_isOne (l : Launch) (z : Zt) (gh : Gh) (h0 o0 : Nat) (g0 : zG z h0 = (17, o0)) (p1 : Int32) : Met l yX7_isOne (uw yX7_isOne cX7_isOne 2 (some .boolean)) (rmF 2 89) (PcW z [.ref h0, .int p1] (fun H => TY z (zA z) gh H)) (QcI z (fun r H => TY z (zA z) gh H ∧ (r.toInt ≠ 0 → 0 ≤ p1.toInt ∧ p1.toInt < gh.1 h0 41 ∧ p1.toInt ≤ 4) ∧ (0 ≤ r.toInt ∧ r.toInt ≤ 1))) 0 0 (zA z) := by
  refine Met.ofW (cc := cX7_isOne) (maxL := 2) (ret := (some .boolean)) (by decide) rfl ?_
  intro p e s m args below meth c s₁ B hml hv
  obtain ⟨rfl, hW, hK, hSK⟩ := hv
  have hx := B.exec
  have hb := B.bytes
  have hr := B.returns
  have hts : ∀ w ∈ lw_ok, w.before ([.ref h0, .int p1] : List Value).toArray s = true := fun w hw => atoms_spec (ws := uw yX7_isOne cX7_isOne 2 (some .boolean)) B.pre w (List.mem_cons_of_mem _ hw)
  have hown : s.vm.findClass RX7 = some m.cls := findClass_of_methodNamed B.named
  have hlk := B.notSynchronized
  have hC : CallFix p m c cX7_isOne 2 s ([.ref h0, .int p1] : List Value).toArray lw_ok RX7 := ⟨hx, hb, hml, hown, hts⟩
  have hS : va_S (zA z) s.heap s.heap [] := va_S.rf
  have hl := lv_entry ([.ref h0, .int p1]) (n := 2) (Nat.le_of_ble_eq_true rfl)
  rw [lg_entry_eq]
  generalize (lg_sl ([.ref h0, .int p1]) ++ List.replicate (2 - (lg_sl ([.ref h0, .int p1])).length) Slot.unset).toArray = ls at hl ⊢
  have hl : lv_has ls 2 [(0, .ref h0), (1, .int p1)] := hl
  show W p l e (rmF 2 89) s m ([.ref h0, .int p1] : List Value).toArray below meth c s.heap [] 0 0 (MQ below (QcI z (fun r H => TY z (zA z) gh H ∧ (r.toInt ≠ 0 → 0 ≤ p1.toInt ∧ p1.toInt < gh.1 h0 41 ∧ p1.toInt ≤ 4) ∧ (0 ≤ r.toInt ∧ r.toInt ≤ 1))) ([.ref h0, .int p1] : List Value).toArray s 0 0 (zA z)) (F0 m 0 ls [])
  have hT : TY z (zA z) gh s.heap := hW
  have mx_p1 := i_mx p1
  refine lv_iload_n hx hb dX7_isOne_0 rfl (lv_at hl 1 rfl) ?_
  refine r_i2l hx hb dX7_isOne_1 (fun x1 e1 => ?_)
  refine r_lconst0 hx hb dX7_isOne_2 (fun x2 e2 => ?_)
  refine lv_aload_n hx hb dX7_isOne_3 rfl (lv_at hl 0 rfl) ?_
  refine gt_Model_men hx hb hts ic_Model hown hK hT g0 (hts _ mw_4_73) dX7_isOne_4 (fun x4 i4 e4 g4 => ?_)
  refine r_iconst hx hb dX7_isOne_7 (by decide) (by decide) (fun x7 e7 => ?_)
  refine r_isub hx hb dX7_isOne_8 (by omega) (by omega) (fun x8 e8 => ?_)
  refine r_i2l hx hb dX7_isOne_9 (fun x9 e9 => ?_)
  refine cl_Si (rest := []) hC hK hSK (c_X7_in l z gh x1 x2 x9) k_X7_in mw_4_154 ⟨rfl, rfl, Nat.le_of_ble_eq_true rfl, Nat.le_of_ble_eq_true rfl⟩ hT rfl hl.1 rfl (Nat.le_of_ble_eq_true rfl) dX7_isOne_10 ⟨Nat.zero_le _, Nat.zero_le _⟩ hS (fun _ h => h) (fun _ _ h => h) (fun r10 H locs hpo hS => ?_)
  obtain ⟨hT, u10_0, u10_1⟩ := hpo
  exact rt_z hx hb hr hlk hS (by omega) (by omega) ⟨hT, by omega, by omega⟩ dX7_isOne_13
theorem k_X7_isFigure : cBS yX7_isFigure cX7_isFigure 1 (some .boolean) 1 := ⟨mw_5_78, mw_1_8, mw_5_79, ⟨by decide, by decide, by decide⟩⟩
set_option maxHeartbeats 4000000 in
set_option maxRecDepth 100000 in
theorem c_X7_isFigure (l : Launch) (z : Zt) (gh : Gh) (p1 : Int32) : Met l yX7_isFigure (uw yX7_isFigure cX7_isFigure 1 (some .boolean)) (rmF 2 89) (PcW z [.int p1] (fun H => TY z (zA z) gh H)) (QcI z (fun r H => TY z (zA z) gh H ∧ (0 ≤ r.toInt ∧ r.toInt ≤ 1))) 0 0 (zA z) := by
  refine Met.ofW (cc := cX7_isFigure) (maxL := 1) (ret := (some .boolean)) (by decide) rfl ?_
  intro p e s m args below meth c s₁ B hml hv
  obtain ⟨rfl, hW, hK, hSK⟩ := hv
  have hx := B.exec
  have hb := B.bytes
  have hr := B.returns
  have hts : ∀ w ∈ lw_ok, w.before ([.int p1] : List Value).toArray s = true := fun w hw => atoms_spec (ws := uw yX7_isFigure cX7_isFigure 1 (some .boolean)) B.pre w (List.mem_cons_of_mem _ hw)
  have hown : s.vm.findClass RX7 = some m.cls := findClass_of_methodNamed B.named
  have hlk := B.notSynchronized
  have hC : CallFix p m c cX7_isFigure 1 s ([.int p1] : List Value).toArray lw_ok RX7 := ⟨hx, hb, hml, hown, hts⟩
  have hS : va_S (zA z) s.heap s.heap [] := va_S.rf
  have hl := lv_entry ([.int p1]) (n := 1) (Nat.le_of_ble_eq_true rfl)
  rw [lg_entry_eq]
  generalize (lg_sl ([.int p1]) ++ List.replicate (1 - (lg_sl ([.int p1])).length) Slot.unset).toArray = ls at hl ⊢
  have hl : lv_has ls 1 [(0, .int p1)] := hl
  show W p l e (rmF 2 89) s m ([.int p1] : List Value).toArray below meth c s.heap [] 0 0 (MQ below (QcI z (fun r H => TY z (zA z) gh H ∧ (0 ≤ r.toInt ∧ r.toInt ≤ 1))) ([.int p1] : List Value).toArray s 0 0 (zA z)) (F0 m 0 ls [])
  have hT : TY z (zA z) gh s.heap := hW
  have mx_p1 := i_mx p1
  refine lv_iload_n hx hb dX7_isFigure_0 rfl (lv_at hl 0 rfl) ?_
  refine r_i2l hx hb dX7_isFigure_1 (fun x1 e1 => ?_)
  refine r_lconst0 hx hb dX7_isFigure_2 (fun x2 e2 => ?_)
  refine r_ldc2 (3) rfl hx hb hts hown mw_5_59 dX7_isFigure_3 (fun x3 e3 => ?_)
  refine cl_Si (rest := []) hC hK hSK (c_X7_in l z gh x1 x2 x3) k_X7_in mw_4_154 ⟨rfl, rfl, Nat.le_of_ble_eq_true rfl, Nat.le_of_ble_eq_true rfl⟩ hT rfl hl.1 rfl (Nat.le_of_ble_eq_true rfl) dX7_isFigure_6 ⟨Nat.zero_le _, Nat.zero_le _⟩ hS (fun _ h => h) (fun _ _ h => h) (fun r6 H locs hpo hS => ?_)
  obtain ⟨hT, u6_0, u6_1⟩ := hpo
  exact rt_z hx hb hr hlk hS (by omega) (by omega) ⟨hT, by omega⟩ dX7_isFigure_9
theorem k_X7_isPart : cBS yX7_isPart cX7_isPart 1 (some .boolean) 1 := ⟨mw_5_153, mw_1_8, mw_5_154, ⟨by decide, by decide, by decide⟩⟩
set_option maxHeartbeats 4000000 in
set_option maxRecDepth 100000 in
theorem c_X7_isPart (l : Launch) (z : Zt) (gh : Gh) (p1 : Int32) : Met l yX7_isPart (uw yX7_isPart cX7_isPart 1 (some .boolean)) (rmF 2 89) (PcW z [.int p1] (fun H => TY z (zA z) gh H)) (QcI z (fun r H => TY z (zA z) gh H ∧ (r.toInt ≠ 0 → 0 ≤ p1.toInt ∧ p1.toInt ≤ 1) ∧ (r.toInt = 0 → p1.toInt < 0 ∨ 1 < p1.toInt) ∧ (0 ≤ r.toInt ∧ r.toInt ≤ 1))) 0 0 (zA z) := by
  refine Met.ofW (cc := cX7_isPart) (maxL := 1) (ret := (some .boolean)) (by decide) rfl ?_
  intro p e s m args below meth c s₁ B hml hv
  obtain ⟨rfl, hW, hK, hSK⟩ := hv
  have hx := B.exec
  have hb := B.bytes
  have hr := B.returns
  have hts : ∀ w ∈ lw_ok, w.before ([.int p1] : List Value).toArray s = true := fun w hw => atoms_spec (ws := uw yX7_isPart cX7_isPart 1 (some .boolean)) B.pre w (List.mem_cons_of_mem _ hw)
  have hown : s.vm.findClass RX7 = some m.cls := findClass_of_methodNamed B.named
  have hlk := B.notSynchronized
  have hC : CallFix p m c cX7_isPart 1 s ([.int p1] : List Value).toArray lw_ok RX7 := ⟨hx, hb, hml, hown, hts⟩
  have hS : va_S (zA z) s.heap s.heap [] := va_S.rf
  have hl := lv_entry ([.int p1]) (n := 1) (Nat.le_of_ble_eq_true rfl)
  rw [lg_entry_eq]
  generalize (lg_sl ([.int p1]) ++ List.replicate (1 - (lg_sl ([.int p1])).length) Slot.unset).toArray = ls at hl ⊢
  have hl : lv_has ls 1 [(0, .int p1)] := hl
  show W p l e (rmF 2 89) s m ([.int p1] : List Value).toArray below meth c s.heap [] 0 0 (MQ below (QcI z (fun r H => TY z (zA z) gh H ∧ (r.toInt ≠ 0 → 0 ≤ p1.toInt ∧ p1.toInt ≤ 1) ∧ (r.toInt = 0 → p1.toInt < 0 ∨ 1 < p1.toInt) ∧ (0 ≤ r.toInt ∧ r.toInt ≤ 1))) ([.int p1] : List Value).toArray s 0 0 (zA z)) (F0 m 0 ls [])
  have hT : TY z (zA z) gh s.heap := hW
  have mx_p1 := i_mx p1
  refine lv_iload_n hx hb dX7_isPart_0 rfl (lv_at hl 0 rfl) ?_
  refine r_i2l hx hb dX7_isPart_1 (fun x1 e1 => ?_)
  refine r_lconst0 hx hb dX7_isPart_2 (fun x2 e2 => ?_)
  refine r_lconst1 hx hb dX7_isPart_3 (fun x3 e3 => ?_)
  refine cl_Si (rest := []) hC hK hSK (c_X7_in l z gh x1 x2 x3) k_X7_in mw_4_154 ⟨rfl, rfl, Nat.le_of_ble_eq_true rfl, Nat.le_of_ble_eq_true rfl⟩ hT rfl hl.1 rfl (Nat.le_of_ble_eq_true rfl) dX7_isPart_4 ⟨Nat.zero_le _, Nat.zero_le _⟩ hS (fun _ h => h) (fun _ _ h => h) (fun r4 H locs hpo hS => ?_)
  obtain ⟨hT, u4_0, u4_1⟩ := hpo
  exact rt_z hx hb hr hlk hS (by omega) (by omega) ⟨hT, by omega, by omega, by omega⟩ dX7_isPart_7
theorem k_X7_isSheet : cBS yX7_isSheet cX7_isSheet 2 (some .boolean) 2 := ⟨mw_6_3, mw_1_8, mw_6_4, ⟨by decide, by decide, by decide⟩⟩
set_option maxHeartbeats 4000000 in
set_option maxRecDepth 100000 in
theorem c_X7_isSheet (l : Launch) (z : Zt) (gh : Gh) (p1 : Int32) (p2 : Int32) : Met l yX7_isSheet (uw yX7_isSheet cX7_isSheet 2 (some .boolean)) (rmF 2 89) (PcW z [.int p1, .int p2] (fun H => TY z (zA z) gh H)) (QcI z (fun r H => TY z (zA z) gh H ∧ (r.toInt ≠ 0 → 0 ≤ p1.toInt ∧ p1.toInt ≤ 3 ∧ 0 ≤ p2.toInt ∧ p2.toInt ≤ 2) ∧ (r.toInt = 0 → p1.toInt < 0 ∨ 3 < p1.toInt ∨ p2.toInt < 0 ∨ 2 < p2.toInt) ∧ (0 ≤ r.toInt ∧ r.toInt ≤ 1))) 0 0 (zA z) := by
  refine Met.ofW (cc := cX7_isSheet) (maxL := 2) (ret := (some .boolean)) (by decide) rfl ?_
  intro p e s m args below meth c s₁ B hml hv
  obtain ⟨rfl, hW, hK, hSK⟩ := hv
  have hx := B.exec
  have hb := B.bytes
  have hr := B.returns
  have hts : ∀ w ∈ lw_ok, w.before ([.int p1, .int p2] : List Value).toArray s = true := fun w hw => atoms_spec (ws := uw yX7_isSheet cX7_isSheet 2 (some .boolean)) B.pre w (List.mem_cons_of_mem _ hw)
  have hown : s.vm.findClass RX7 = some m.cls := findClass_of_methodNamed B.named
  have hlk := B.notSynchronized
  have hC : CallFix p m c cX7_isSheet 2 s ([.int p1, .int p2] : List Value).toArray lw_ok RX7 := ⟨hx, hb, hml, hown, hts⟩
  have hS : va_S (zA z) s.heap s.heap [] := va_S.rf
  have hl := lv_entry ([.int p1, .int p2]) (n := 2) (Nat.le_of_ble_eq_true rfl)
  rw [lg_entry_eq]
  generalize (lg_sl ([.int p1, .int p2]) ++ List.replicate (2 - (lg_sl ([.int p1, .int p2])).length) Slot.unset).toArray = ls at hl ⊢
  have hl : lv_has ls 2 [(0, .int p1), (1, .int p2)] := hl
  show W p l e (rmF 2 89) s m ([.int p1, .int p2] : List Value).toArray below meth c s.heap [] 0 0 (MQ below (QcI z (fun r H => TY z (zA z) gh H ∧ (r.toInt ≠ 0 → 0 ≤ p1.toInt ∧ p1.toInt ≤ 3 ∧ 0 ≤ p2.toInt ∧ p2.toInt ≤ 2) ∧ (r.toInt = 0 → p1.toInt < 0 ∨ 3 < p1.toInt ∨ p2.toInt < 0 ∨ 2 < p2.toInt) ∧ (0 ≤ r.toInt ∧ r.toInt ≤ 1))) ([.int p1, .int p2] : List Value).toArray s 0 0 (zA z)) (F0 m 0 ls [])
  have hT : TY z (zA z) gh s.heap := hW
  have mx_p1 := i_mx p1
  have mx_p2 := i_mx p2
  refine lv_iload_n hx hb dX7_isSheet_0 rfl (lv_at hl 0 rfl) ?_
  refine r_i2l hx hb dX7_isSheet_1 (fun x1 e1 => ?_)
  refine r_lconst0 hx hb dX7_isSheet_2 (fun x2 e2 => ?_)
  refine r_ldc2 (3) rfl hx hb hts hown mw_5_59 dX7_isSheet_3 (fun x3 e3 => ?_)
  refine cl_Si (rest := []) hC hK hSK (c_X7_in l z gh x1 x2 x3) k_X7_in mw_4_154 ⟨rfl, rfl, Nat.le_of_ble_eq_true rfl, Nat.le_of_ble_eq_true rfl⟩ hT rfl hl.1 rfl (Nat.le_of_ble_eq_true rfl) dX7_isSheet_6 ⟨Nat.zero_le _, Nat.zero_le _⟩ hS (fun _ h => h) (fun _ _ h => h) (fun r6 H locs hpo hS => ?_)
  obtain ⟨hT, u6_0, u6_1⟩ := hpo
  refine r_if_eq (tgt := 28) hx hb dX7_isSheet_9 (by decide) (fun c9 => ?_) (fun c9 => ?_)
  · refine r_iconst hx hb dX7_isSheet_28 (by decide) (by decide) (fun x28 e28 => ?_)
    exact rt_z hx hb hr hlk hS (by omega) (by omega) ⟨hT, by omega, by omega, by omega⟩ dX7_isSheet_29
  · refine lv_iload_n hx hb dX7_isSheet_12 rfl (lv_at hl 1 rfl) ?_
    refine r_i2l hx hb dX7_isSheet_13 (fun x13 e13 => ?_)
    refine r_lconst0 hx hb dX7_isSheet_14 (fun x14 e14 => ?_)
    refine r_ldc2 (2) rfl hx hb hts hown mw_6_5 dX7_isSheet_15 (fun x15 e15 => ?_)
    refine cl_Si (rest := []) hC hK hSK (c_X7_in l z gh x13 x14 x15) k_X7_in mw_4_154 ⟨rfl, rfl, Nat.le_of_ble_eq_true rfl, Nat.le_of_ble_eq_true rfl⟩ hT rfl hl.1 rfl (Nat.le_of_ble_eq_true rfl) dX7_isSheet_18 ⟨Nat.zero_le _, Nat.zero_le _⟩ hS (fun _ h => h) (fun _ _ h => h) (fun r18 H locs hpo hS => ?_)
    obtain ⟨hT, u18_0, u18_1⟩ := hpo
    refine r_if_eq (tgt := 28) hx hb dX7_isSheet_21 (by decide) (fun c21 => ?_) (fun c21 => ?_)
    · refine r_iconst hx hb dX7_isSheet_28 (by decide) (by decide) (fun x28 e28 => ?_)
      exact rt_z hx hb hr hlk hS (by omega) (by omega) ⟨hT, by omega, by omega, by omega⟩ dX7_isSheet_29
    · refine r_iconst hx hb dX7_isSheet_24 (by decide) (by decide) (fun x24 e24 => ?_)
      refine lv_goto (tgt := 29) hx hb dX7_isSheet_25 (by decide) ?_
      exact rt_z hx hb hr hlk hS (by omega) (by omega) ⟨hT, by omega, by omega, by omega⟩ dX7_isSheet_29
theorem k_X7_of : cBV yX7_of cX7_of 3 (some .int) 2 := ⟨mw_5_17, ms_2_15, mw_1_8, mw_5_18, ⟨by decide, by decide, by decide⟩⟩
set_option maxHeartbeats 4000000 in
set_option maxRecDepth 100000 in
theorem c_X7_of (l : Launch) (z : Zt) (gh : Gh) (h0 o0 : Nat) (g0 : zG z h0 = (17, o0)) (p1 : Int32) (p2 : Int32) (bp1 : 0 ≤ p1.toInt ∧ p1.toInt ≤ 4) (bp2 : 0 ≤ p2.toInt ∧ p2.toInt ≤ 3) (pr0 : zu z) : Met l yX7_of (uw yX7_of cX7_of 3 (some .int)) (rmF 1 64) (PcW z [.ref h0, .int p1, .int p2] (fun H => TY z (zA z) gh H)) (QcI z (fun r H => TY z (zA z) gh H ∧ (∀ q, zG z q = (41, h0) → ∀ j : Nat, (j : Int) = 4 * p1.toInt + p2.toInt → r = gh.2 q j) ∧ (0 ≤ r.toInt ∧ r.toInt ≤ 9))) 0 0 (zA z) := by
  refine Met.ofW (cc := cX7_of) (maxL := 3) (ret := (some .int)) (by decide) rfl ?_
  intro p e s m args below meth c s₁ B hml hv
  obtain ⟨rfl, hW, hK, hSK⟩ := hv
  have hx := B.exec
  have hb := B.bytes
  have hr := B.returns
  have hts : ∀ w ∈ lw_ok, w.before ([.ref h0, .int p1, .int p2] : List Value).toArray s = true := fun w hw => atoms_spec (ws := uw yX7_of cX7_of 3 (some .int)) B.pre w (List.mem_cons_of_mem _ hw)
  have hown : s.vm.findClass RX7 = some m.cls := findClass_of_methodNamed B.named
  have hlk := B.notSynchronized
  have hC : CallFix p m c cX7_of 3 s ([.ref h0, .int p1, .int p2] : List Value).toArray lw_ok RX7 := ⟨hx, hb, hml, hown, hts⟩
  have hS : va_S (zA z) s.heap s.heap [] := va_S.rf
  have hl := lv_entry ([.ref h0, .int p1, .int p2]) (n := 3) (Nat.le_of_ble_eq_true rfl)
  rw [lg_entry_eq]
  generalize (lg_sl ([.ref h0, .int p1, .int p2]) ++ List.replicate (3 - (lg_sl ([.ref h0, .int p1, .int p2])).length) Slot.unset).toArray = ls at hl ⊢
  have hl : lv_has ls 3 [(0, .ref h0), (1, .int p1), (2, .int p2)] := hl
  show W p l e (rmF 1 64) s m ([.ref h0, .int p1, .int p2] : List Value).toArray below meth c s.heap [] 0 0 (MQ below (QcI z (fun r H => TY z (zA z) gh H ∧ (∀ q, zG z q = (41, h0) → ∀ j : Nat, (j : Int) = 4 * p1.toInt + p2.toInt → r = gh.2 q j) ∧ (0 ≤ r.toInt ∧ r.toInt ≤ 9))) ([.ref h0, .int p1, .int p2] : List Value).toArray s 0 0 (zA z)) (F0 m 0 ls [])
  have hT : TY z (zA z) gh s.heap := hW
  refine lv_aload_n hx hb dX7_of_0 rfl (lv_at hl 0 rfl) ?_
  refine gt_Model_now hx hb hts ic_Model hown hK hT g0 (hts _ mw_4_71) dX7_of_1 (fun q1 hq1 => ?_)
  refine r_iconst hx hb dX7_of_4 (by decide) (by decide) (fun x4 e4 => ?_)
  refine lv_iload_n hx hb dX7_of_5 rfl (lv_at hl 1 rfl) ?_
  refine r_imulL (4) (by omega) hx hb dX7_of_6 (by omega) (by omega) (fun x6 e6 => ?_)
  refine lv_iload_n hx hb dX7_of_7 rfl (lv_at hl 2 rfl) ?_
  refine r_iadd hx hb dX7_of_8 (by omega) (by omega) (fun x8 e8 => ?_)
  refine al_41 hx hb hK hT hq1 (by omega) (by omega) dX7_of_9 (fun x9 i9 e9 => ?_)
  have n9 := ix_nat (i := x8) (by omega)
  have f9 := b59_r19 (p41_e e9) (by omega)
  exact rt_i hx hb hr hlk hS ⟨hT, fun q9 h9 j hj => by rw [zu_at pr0 rfl h9 hq1, show j = x8.toNatClampNeg by omega]; exact i9, by omega⟩ dX7_of_10
theorem k_X7_becomesOf : cBV yX7_becomesOf cX7_becomesOf 4 none 3 := ⟨mw_5_102, ms_3_9, mw_1_8, mw_5_103, ⟨by decide, by decide, by decide⟩⟩
set_option maxHeartbeats 4000000 in
set_option maxRecDepth 100000 in
theorem c_X7_becomesOf (l : Launch) (z : Zt) (gh : Gh) (h0 o0 : Nat) (g0 : zG z h0 = (17, o0)) (p1 : Int32) (p2 : Int32) (p3 : Int32) (bp1 : 0 ≤ p1.toInt ∧ p1.toInt ≤ 4) (bp2 : 0 ≤ p2.toInt ∧ p2.toInt ≤ 3) (bp3 : 0 ≤ p3.toInt ∧ p3.toInt ≤ 9) : Met l yX7_becomesOf (uw yX7_becomesOf cX7_becomesOf 4 none) (rmF 1 64) (PcW z [.ref h0, .int p1, .int p2, .int p3] (fun H => TY z (zA z) gh H)) (QcV z (fun H => ∃ gk : Gh, deq z gk gh ∧ TY z (zA z) gk H)) 0 0 (zA z) := by
  refine Met.ofW (cc := cX7_becomesOf) (maxL := 4) (ret := none) (by decide) rfl ?_
  intro p e s m args below meth c s₁ B hml hv
  obtain ⟨rfl, hW, hK, hSK⟩ := hv
  have hx := B.exec
  have hb := B.bytes
  have hr := B.returns
  have hts : ∀ w ∈ lw_ok, w.before ([.ref h0, .int p1, .int p2, .int p3] : List Value).toArray s = true := fun w hw => atoms_spec (ws := uw yX7_becomesOf cX7_becomesOf 4 none) B.pre w (List.mem_cons_of_mem _ hw)
  have hown : s.vm.findClass RX7 = some m.cls := findClass_of_methodNamed B.named
  have hlk := B.notSynchronized
  have hC : CallFix p m c cX7_becomesOf 4 s ([.ref h0, .int p1, .int p2, .int p3] : List Value).toArray lw_ok RX7 := ⟨hx, hb, hml, hown, hts⟩
  have hS : va_S (zA z) s.heap s.heap [] := va_S.rf
  have hl := lv_entry ([.ref h0, .int p1, .int p2, .int p3]) (n := 4) (Nat.le_of_ble_eq_true rfl)
  rw [lg_entry_eq]
  generalize (lg_sl ([.ref h0, .int p1, .int p2, .int p3]) ++ List.replicate (4 - (lg_sl ([.ref h0, .int p1, .int p2, .int p3])).length) Slot.unset).toArray = ls at hl ⊢
  have hl : lv_has ls 4 [(0, .ref h0), (1, .int p1), (2, .int p2), (3, .int p3)] := hl
  show W p l e (rmF 1 64) s m ([.ref h0, .int p1, .int p2, .int p3] : List Value).toArray below meth c s.heap [] 0 0 (MQ below (QcV z (fun H => ∃ gk : Gh, deq z gk gh ∧ TY z (zA z) gk H)) ([.ref h0, .int p1, .int p2, .int p3] : List Value).toArray s 0 0 (zA z)) (F0 m 0 ls [])
  have hT : TY z (zA z) gh s.heap := hW
  have hg1 : deq z gh gh := deq_rf z gh
  refine lv_aload_n hx hb dX7_becomesOf_0 rfl (lv_at hl 0 rfl) ?_
  refine gt_Model_now hx hb hts ic_Model hown hK hT g0 (hts _ mw_4_71) dX7_becomesOf_1 (fun q1 hq1 => ?_)
  refine r_iconst hx hb dX7_becomesOf_4 (by decide) (by decide) (fun x4 e4 => ?_)
  refine lv_iload_n hx hb dX7_becomesOf_5 rfl (lv_at hl 1 rfl) ?_
  refine r_imulL (4) (by omega) hx hb dX7_becomesOf_6 (by omega) (by omega) (fun x6 e6 => ?_)
  refine lv_iload_n hx hb dX7_becomesOf_7 rfl (lv_at hl 2 rfl) ?_
  refine r_iadd hx hb dX7_becomesOf_8 (by omega) (by omega) (fun x8 e8 => ?_)
  refine lv_iload_n hx hb dX7_becomesOf_9 rfl (lv_at hl 3 rfl) ?_
  refine as_41 hx hb hK hT hS hq1 (by omega) (by omega) (by have n0 := ix_nat (i := x8) (by omega); exact b59_m19 (by omega) ⟨by omega, by omega⟩) dX7_becomesOf_10 (fun H locs hT hS => ?_)
  obtain ⟨gk10, w10, hg1, hT⟩ : ∃ g : Gh, g.2 = (gc gh q1 (upd (gh.2 q1) x8.toNatClampNeg p3)).2 ∧ deq z g gh ∧ TY z (zA z) g H := ⟨_, rfl, deq_gc hg1 hq1 (by decide), hT⟩
  exact rt_v hx hb hr hlk hS ⟨_, hg1, hT⟩ dX7_becomesOf_11
theorem k_X7_stature : cBV yX7_stature cX7_stature 3 (some .int) 1 := ⟨mw_5_21, ms_3_0, mw_1_8, mw_5_22, ⟨by decide, by decide, by decide⟩⟩
set_option maxHeartbeats 4000000 in
set_option maxRecDepth 100000 in
theorem c_X7_stature (l : Launch) (z : Zt) (gh : Gh) (h0 o0 : Nat) (g0 : zG z h0 = (17, o0)) (p1 : Int32) (bp1 : 0 ≤ p1.toInt ∧ p1.toInt ≤ 4) (pr0 : zu z) : Met l yX7_stature (uw yX7_stature cX7_stature 3 (some .int)) (rmF 2 86) (PcW z [.ref h0, .int p1] (fun H => TY z (zA z) gh H)) (QcI z (fun r H => TY z (zA z) gh H ∧ (∀ q, zG z q = (41, h0) → r.toInt = mS (gh.2 q) p1.toNatClampNeg) ∧ (-2 ≤ r.toInt ∧ r.toInt ≤ 21))) 0 0 (zA z) := by
  refine Met.ofW (cc := cX7_stature) (maxL := 3) (ret := (some .int)) (by decide) rfl ?_
  intro p e s m args below meth c s₁ B hml hv
  obtain ⟨rfl, hW, hK, hSK⟩ := hv
  have hx := B.exec
  have hb := B.bytes
  have hr := B.returns
  have hts : ∀ w ∈ lw_ok, w.before ([.ref h0, .int p1] : List Value).toArray s = true := fun w hw => atoms_spec (ws := uw yX7_stature cX7_stature 3 (some .int)) B.pre w (List.mem_cons_of_mem _ hw)
  have hown : s.vm.findClass RX7 = some m.cls := findClass_of_methodNamed B.named
  have hlk := B.notSynchronized
  have hC : CallFix p m c cX7_stature 3 s ([.ref h0, .int p1] : List Value).toArray lw_ok RX7 := ⟨hx, hb, hml, hown, hts⟩
  have hS : va_S (zA z) s.heap s.heap [] := va_S.rf
  have hl := lv_entry ([.ref h0, .int p1]) (n := 3) (Nat.le_of_ble_eq_true rfl)
  rw [lg_entry_eq]
  generalize (lg_sl ([.ref h0, .int p1]) ++ List.replicate (3 - (lg_sl ([.ref h0, .int p1])).length) Slot.unset).toArray = ls at hl ⊢
  have hl : lv_has ls 3 [(0, .ref h0), (1, .int p1)] := hl
  show W p l e (rmF 2 86) s m ([.ref h0, .int p1] : List Value).toArray below meth c s.heap [] 0 0 (MQ below (QcI z (fun r H => TY z (zA z) gh H ∧ (∀ q, zG z q = (41, h0) → r.toInt = mS (gh.2 q) p1.toNatClampNeg) ∧ (-2 ≤ r.toInt ∧ r.toInt ≤ 21))) ([.ref h0, .int p1] : List Value).toArray s 0 0 (zA z)) (F0 m 0 ls [])
  have hT : TY z (zA z) gh s.heap := hW
  refine lv_aload_n hx hb dX7_stature_0 rfl (lv_at hl 0 rfl) ?_
  refine lv_iload_n hx hb dX7_stature_1 rfl (lv_at hl 1 rfl) ?_
  refine r_iconst hx hb dX7_stature_2 (by decide) (by decide) (fun x2 e2 => ?_)
  refine cl_Vi (rest := []) hC hK hSK (c_X7_of l z gh h0 (o0) g0 p1 x2 (by omega) (by omega) pr0) k_X7_of mw_5_15 ⟨rfl, rfl, Nat.le_of_ble_eq_true rfl, Nat.le_of_ble_eq_true rfl⟩ (rv_Model hK hT g0) hT rfl hl.1 rfl (Nat.le_of_ble_eq_true rfl) dX7_stature_3 ⟨Nat.zero_le _, Nat.zero_le _⟩ hS (fun _ h => h) (fun _ _ h => h) (fun r3 H locs hpo hS => ?_)
  obtain ⟨hT, u3_0, u3_1⟩ := hpo
  refine lv_istore_n (lv' := [(2, .int r3), (0, .ref h0), (1, .int p1)]) hx hb dX7_stature_6 rfl hl (by decide) rfl (fun ls hl => ?_)
  refine lv_aload_n hx hb dX7_stature_7 rfl (lv_at hl 1 rfl) ?_
  refine lv_iload_n hx hb dX7_stature_8 rfl (lv_at hl 2 rfl) ?_
  refine r_iconst hx hb dX7_stature_9 (by decide) (by decide) (fun x9 e9 => ?_)
  refine cl_Vi (rest := []) hC hK hSK (c_X7_of l z gh h0 (o0) g0 p1 x9 (by omega) (by omega) pr0) k_X7_of mw_5_15 ⟨rfl, rfl, Nat.le_of_ble_eq_true rfl, Nat.le_of_ble_eq_true rfl⟩ (rv_Model hK hT g0) hT rfl hl.1 rfl (Nat.le_of_ble_eq_true rfl) dX7_stature_10 ⟨Nat.zero_le _, Nat.zero_le _⟩ hS (fun _ h => h) (fun _ _ h => h) (fun r10 H locs hpo hS => ?_)
  obtain ⟨hT, u10_0, u10_1⟩ := hpo
  refine lv_aload_n hx hb dX7_stature_13 rfl (lv_at hl 1 rfl) ?_
  refine lv_iload_n hx hb dX7_stature_14 rfl (lv_at hl 2 rfl) ?_
  refine r_iconst hx hb dX7_stature_15 (by decide) (by decide) (fun x15 e15 => ?_)
  refine cl_Vi (rest := [.int r10]) hC hK hSK (c_X7_of l z gh h0 (o0) g0 p1 x15 (by omega) (by omega) pr0) k_X7_of mw_5_15 ⟨rfl, rfl, Nat.le_of_ble_eq_true rfl, Nat.le_of_ble_eq_true rfl⟩ (rv_Model hK hT g0) hT rfl hl.1 rfl (Nat.le_of_ble_eq_true rfl) dX7_stature_16 ⟨Nat.zero_le _, Nat.zero_le _⟩ hS (fun _ h => h) (fun _ _ h => h) (fun r16 H locs hpo hS => ?_)
  obtain ⟨hT, u16_0, u16_1⟩ := hpo
  refine r_iadd hx hb dX7_stature_19 (by omega) (by omega) (fun x19 e19 => ?_)
  refine lv_iload_n hx hb dX7_stature_20 rfl (lv_at hl 0 rfl) ?_
  refine r_iconst hx hb dX7_stature_21 (by decide) (by decide) (fun x21 e21 => ?_)
  refine r_icmp_ne (tgt := 30) hx hb dX7_stature_22 (by decide) (fun c22 => ?_) (fun c22 => ?_)
  · refine lv_iload_n hx hb dX7_stature_30 rfl (lv_at hl 0 rfl) ?_
    refine r_iconst hx hb dX7_stature_31 (by decide) (by decide) (fun x31 e31 => ?_)
    refine r_icmp_ne (tgt := 39) hx hb dX7_stature_32 (by decide) (fun c32 => ?_) (fun c32 => ?_)
    · refine r_iconst hx hb dX7_stature_39 (by decide) (by decide) (fun x39 e39 => ?_)
      refine r_iadd hx hb dX7_stature_40 (by omega) (by omega) (fun x40 e40 => ?_)
      exact rt_i hx hb hr hlk hS ⟨hT, fun q9 h9 => by
      have n1 := ix_nat (i := p1) (by omega)
      have a0 := u3_0 q9 h9 (4 * p1.toNatClampNeg + 0) (by omega)
      have a1 := u10_0 q9 h9 (4 * p1.toNatClampNeg + 1) (by omega)
      have a2 := u16_0 q9 h9 (4 * p1.toNatClampNeg + 2) (by omega)
      unfold mS mV
      rw [← a0, ← a1, ← a2]
      split <;> first | omega | (split <;> omega), by omega⟩ dX7_stature_41
    · refine r_iconst hx hb dX7_stature_35 (by decide) (by decide) (fun x35 e35 => ?_)
      refine lv_goto (tgt := 40) hx hb dX7_stature_36 (by decide) ?_
      refine r_iadd hx hb dX7_stature_40 (by omega) (by omega) (fun x40 e40 => ?_)
      exact rt_i hx hb hr hlk hS ⟨hT, fun q9 h9 => by
      have n1 := ix_nat (i := p1) (by omega)
      have a0 := u3_0 q9 h9 (4 * p1.toNatClampNeg + 0) (by omega)
      have a1 := u10_0 q9 h9 (4 * p1.toNatClampNeg + 1) (by omega)
      have a2 := u16_0 q9 h9 (4 * p1.toNatClampNeg + 2) (by omega)
      unfold mS mV
      rw [← a0, ← a1, ← a2]
      split <;> first | omega | (split <;> omega), by omega⟩ dX7_stature_41
  · refine r_bipush hx hb dX7_stature_25 rfl (fun x25 e25 => ?_)
    refine lv_goto (tgt := 40) hx hb dX7_stature_27 (by decide) ?_
    refine r_iadd hx hb dX7_stature_40 (by omega) (by omega) (fun x40 e40 => ?_)
    exact rt_i hx hb hr hlk hS ⟨hT, fun q9 h9 => by
      have n1 := ix_nat (i := p1) (by omega)
      have a0 := u3_0 q9 h9 (4 * p1.toNatClampNeg + 0) (by omega)
      have a1 := u10_0 q9 h9 (4 * p1.toNatClampNeg + 1) (by omega)
      have a2 := u16_0 q9 h9 (4 * p1.toNatClampNeg + 2) (by omega)
      unfold mS mV
      rw [← a0, ← a1, ← a2]
      split <;> first | omega | (split <;> omega), by omega⟩ dX7_stature_41
theorem k_X7_isBelow : cBV yX7_isBelow cX7_isBelow 5 (some .boolean) 2 := ⟨mw_5_29, ms_3_2, mw_1_8, mw_5_30, ⟨by decide, by decide, by decide⟩⟩
set_option maxHeartbeats 4000000 in
set_option maxRecDepth 100000 in
theorem c_X7_isBelow (l : Launch) (z : Zt) (gh : Gh) (h0 o0 : Nat) (g0 : zG z h0 = (17, o0)) (p1 : Int32) (p2 : Int32) (bp1 : 0 ≤ p1.toInt ∧ p1.toInt ≤ 4) (bp2 : 0 ≤ p2.toInt ∧ p2.toInt ≤ 4) (pr0 : zu z) : Met l yX7_isBelow (uw yX7_isBelow cX7_isBelow 5 (some .boolean)) (rmF 3 108) (PcW z [.ref h0, .int p1, .int p2] (fun H => TY z (zA z) gh H)) (QcI z (fun r H => TY z (zA z) gh H ∧ (∀ q, zG z q = (41, h0) → (r.toInt = 1 ↔ mB (gh.2 q) p1.toNatClampNeg p2.toNatClampNeg)) ∧ (0 ≤ r.toInt ∧ r.toInt ≤ 1))) 0 0 (zA z) := by
  refine Met.ofW (cc := cX7_isBelow) (maxL := 5) (ret := (some .boolean)) (by decide) rfl ?_
  intro p e s m args below meth c s₁ B hml hv
  obtain ⟨rfl, hW, hK, hSK⟩ := hv
  have hx := B.exec
  have hb := B.bytes
  have hr := B.returns
  have hts : ∀ w ∈ lw_ok, w.before ([.ref h0, .int p1, .int p2] : List Value).toArray s = true := fun w hw => atoms_spec (ws := uw yX7_isBelow cX7_isBelow 5 (some .boolean)) B.pre w (List.mem_cons_of_mem _ hw)
  have hown : s.vm.findClass RX7 = some m.cls := findClass_of_methodNamed B.named
  have hlk := B.notSynchronized
  have hC : CallFix p m c cX7_isBelow 5 s ([.ref h0, .int p1, .int p2] : List Value).toArray lw_ok RX7 := ⟨hx, hb, hml, hown, hts⟩
  have hS : va_S (zA z) s.heap s.heap [] := va_S.rf
  have hl := lv_entry ([.ref h0, .int p1, .int p2]) (n := 5) (Nat.le_of_ble_eq_true rfl)
  rw [lg_entry_eq]
  generalize (lg_sl ([.ref h0, .int p1, .int p2]) ++ List.replicate (5 - (lg_sl ([.ref h0, .int p1, .int p2])).length) Slot.unset).toArray = ls at hl ⊢
  have hl : lv_has ls 5 [(0, .ref h0), (1, .int p1), (2, .int p2)] := hl
  show W p l e (rmF 3 108) s m ([.ref h0, .int p1, .int p2] : List Value).toArray below meth c s.heap [] 0 0 (MQ below (QcI z (fun r H => TY z (zA z) gh H ∧ (∀ q, zG z q = (41, h0) → (r.toInt = 1 ↔ mB (gh.2 q) p1.toNatClampNeg p2.toNatClampNeg)) ∧ (0 ≤ r.toInt ∧ r.toInt ≤ 1))) ([.ref h0, .int p1, .int p2] : List Value).toArray s 0 0 (zA z)) (F0 m 0 ls [])
  have hT : TY z (zA z) gh s.heap := hW
  refine lv_aload_n hx hb dX7_isBelow_0 rfl (lv_at hl 0 rfl) ?_
  refine lv_iload_n hx hb dX7_isBelow_1 rfl (lv_at hl 1 rfl) ?_
  refine cl_Vi (rest := []) hC hK hSK (c_X7_stature l z gh h0 (o0) g0 p1 (by omega) pr0) k_X7_stature mw_5_19 ⟨rfl, rfl, Nat.le_of_ble_eq_true rfl, Nat.le_of_ble_eq_true rfl⟩ (rv_Model hK hT g0) hT rfl hl.1 rfl (Nat.le_of_ble_eq_true rfl) dX7_isBelow_2 ⟨Nat.zero_le _, Nat.zero_le _⟩ hS (fun _ h => h) (fun _ _ h => h) (fun r2 H locs hpo hS => ?_)
  obtain ⟨hT, u2_0, u2_1⟩ := hpo
  refine lv_aload_n hx hb dX7_isBelow_5 rfl (lv_at hl 0 rfl) ?_
  refine lv_iload_n hx hb dX7_isBelow_6 rfl (lv_at hl 2 rfl) ?_
  refine cl_Vi (rest := [.int r2]) hC hK hSK (c_X7_stature l z gh h0 (o0) g0 p2 (by omega) pr0) k_X7_stature mw_5_19 ⟨rfl, rfl, Nat.le_of_ble_eq_true rfl, Nat.le_of_ble_eq_true rfl⟩ (rv_Model hK hT g0) hT rfl hl.1 rfl (Nat.le_of_ble_eq_true rfl) dX7_isBelow_7 ⟨Nat.zero_le _, Nat.zero_le _⟩ hS (fun _ h => h) (fun _ _ h => h) (fun r7 H locs hpo hS => ?_)
  obtain ⟨hT, u7_0, u7_1⟩ := hpo
  refine r_isub hx hb dX7_isBelow_10 (by omega) (by omega) (fun x10 e10 => ?_)
  refine lv_istore_n (lv' := [(3, .int x10), (0, .ref h0), (1, .int p1), (2, .int p2)]) hx hb dX7_isBelow_11 rfl hl (by decide) rfl (fun ls hl => ?_)
  refine lv_aload_n hx hb dX7_isBelow_12 rfl (lv_at hl 1 rfl) ?_
  refine lv_iload_n hx hb dX7_isBelow_13 rfl (lv_at hl 2 rfl) ?_
  refine r_iconst hx hb dX7_isBelow_14 (by decide) (by decide) (fun x14 e14 => ?_)
  refine cl_Vi (rest := []) hC hK hSK (c_X7_of l z gh h0 (o0) g0 p1 x14 (by omega) (by omega) pr0) k_X7_of mw_5_15 ⟨rfl, rfl, Nat.le_of_ble_eq_true rfl, Nat.le_of_ble_eq_true rfl⟩ (rv_Model hK hT g0) hT rfl hl.1 rfl (Nat.le_of_ble_eq_true rfl) dX7_isBelow_15 ⟨Nat.zero_le _, Nat.zero_le _⟩ hS (fun _ h => h) (fun _ _ h => h) (fun r15 H locs hpo hS => ?_)
  obtain ⟨hT, u15_0, u15_1⟩ := hpo
  refine lv_aload_n hx hb dX7_isBelow_18 rfl (lv_at hl 1 rfl) ?_
  refine lv_iload_n hx hb dX7_isBelow_19 rfl (lv_at hl 3 rfl) ?_
  refine r_iconst hx hb dX7_isBelow_20 (by decide) (by decide) (fun x20 e20 => ?_)
  refine cl_Vi (rest := [.int r15]) hC hK hSK (c_X7_of l z gh h0 (o0) g0 p2 x20 (by omega) (by omega) pr0) k_X7_of mw_5_15 ⟨rfl, rfl, Nat.le_of_ble_eq_true rfl, Nat.le_of_ble_eq_true rfl⟩ (rv_Model hK hT g0) hT rfl hl.1 rfl (Nat.le_of_ble_eq_true rfl) dX7_isBelow_21 ⟨Nat.zero_le _, Nat.zero_le _⟩ hS (fun _ h => h) (fun _ _ h => h) (fun r21 H locs hpo hS => ?_)
  obtain ⟨hT, u21_0, u21_1⟩ := hpo
  refine r_isub hx hb dX7_isBelow_24 (by omega) (by omega) (fun x24 e24 => ?_)
  refine lv_istore (lv' := [(4, .int x24), (3, .int x10), (0, .ref h0), (1, .int p1), (2, .int p2)]) hx hb dX7_isBelow_25 hl (by decide) rfl (fun ls hl => ?_)
  refine lv_iload_n hx hb dX7_isBelow_27 rfl (lv_at hl 1 rfl) ?_
  refine r_if_lt (tgt := 50) hx hb dX7_isBelow_28 (by decide) (fun c28 => ?_) (fun c28 => ?_)
  · refine r_iconst hx hb dX7_isBelow_50 (by decide) (by decide) (fun x50 e50 => ?_)
    refine lv_goto (tgt := 55) hx hb dX7_isBelow_51 (by decide) ?_
    exact rt_z hx hb hr hlk hS (by omega) (by omega) ⟨hT, fun q9 h9 => by
      have n1 := ix_nat (i := p1) (by omega)
      have n2 := ix_nat (i := p2) (by omega)
      have b1 := u2_0 q9 h9
      have b2 := u7_0 q9 h9
      have a1 := u15_0 q9 h9 (4 * p1.toNatClampNeg + 3) (by omega)
      have a2 := u21_0 q9 h9 (4 * p2.toNatClampNeg + 3) (by omega)
      unfold mB mV
      rw [← a1, ← a2, ← b1, ← b2]
      omega, by omega⟩ dX7_isBelow_55
  · refine lv_iload_n hx hb dX7_isBelow_31 rfl (lv_at hl 1 rfl) ?_
    refine r_if_ne (tgt := 54) hx hb dX7_isBelow_32 (by decide) (fun c32 => ?_) (fun c32 => ?_)
    · refine r_iconst hx hb dX7_isBelow_54 (by decide) (by decide) (fun x54 e54 => ?_)
      exact rt_z hx hb hr hlk hS (by omega) (by omega) ⟨hT, fun q9 h9 => by
      have n1 := ix_nat (i := p1) (by omega)
      have n2 := ix_nat (i := p2) (by omega)
      have b1 := u2_0 q9 h9
      have b2 := u7_0 q9 h9
      have a1 := u15_0 q9 h9 (4 * p1.toNatClampNeg + 3) (by omega)
      have a2 := u21_0 q9 h9 (4 * p2.toNatClampNeg + 3) (by omega)
      unfold mB mV
      rw [← a1, ← a2, ← b1, ← b2]
      omega, by omega⟩ dX7_isBelow_55
    · refine lv_iload hx hb dX7_isBelow_35 (lv_at hl 0 rfl) ?_
      refine r_if_gt (tgt := 50) hx hb dX7_isBelow_37 (by decide) (fun c37 => ?_) (fun c37 => ?_)
      · refine r_iconst hx hb dX7_isBelow_50 (by decide) (by decide) (fun x50 e50 => ?_)
        refine lv_goto (tgt := 55) hx hb dX7_isBelow_51 (by decide) ?_
        exact rt_z hx hb hr hlk hS (by omega) (by omega) ⟨hT, fun q9 h9 => by
      have n1 := ix_nat (i := p1) (by omega)
      have n2 := ix_nat (i := p2) (by omega)
      have b1 := u2_0 q9 h9
      have b2 := u7_0 q9 h9
      have a1 := u15_0 q9 h9 (4 * p1.toNatClampNeg + 3) (by omega)
      have a2 := u21_0 q9 h9 (4 * p2.toNatClampNeg + 3) (by omega)
      unfold mB mV
      rw [← a1, ← a2, ← b1, ← b2]
      omega, by omega⟩ dX7_isBelow_55
      · refine lv_iload hx hb dX7_isBelow_40 (lv_at hl 0 rfl) ?_
        refine r_if_ne (tgt := 54) hx hb dX7_isBelow_42 (by decide) (fun c42 => ?_) (fun c42 => ?_)
        · refine r_iconst hx hb dX7_isBelow_54 (by decide) (by decide) (fun x54 e54 => ?_)
          exact rt_z hx hb hr hlk hS (by omega) (by omega) ⟨hT, fun q9 h9 => by
      have n1 := ix_nat (i := p1) (by omega)
      have n2 := ix_nat (i := p2) (by omega)
      have b1 := u2_0 q9 h9
      have b2 := u7_0 q9 h9
      have a1 := u15_0 q9 h9 (4 * p1.toNatClampNeg + 3) (by omega)
      have a2 := u21_0 q9 h9 (4 * p2.toNatClampNeg + 3) (by omega)
      unfold mB mV
      rw [← a1, ← a2, ← b1, ← b2]
      omega, by omega⟩ dX7_isBelow_55
        · refine lv_iload_n hx hb dX7_isBelow_45 rfl (lv_at hl 3 rfl) ?_
          refine lv_iload_n hx hb dX7_isBelow_46 rfl (lv_at hl 4 rfl) ?_
          refine r_icmp_ge (tgt := 54) hx hb dX7_isBelow_47 (by decide) (fun c47 => ?_) (fun c47 => ?_)
          · refine r_iconst hx hb dX7_isBelow_54 (by decide) (by decide) (fun x54 e54 => ?_)
            exact rt_z hx hb hr hlk hS (by omega) (by omega) ⟨hT, fun q9 h9 => by
      have n1 := ix_nat (i := p1) (by omega)
      have n2 := ix_nat (i := p2) (by omega)
      have b1 := u2_0 q9 h9
      have b2 := u7_0 q9 h9
      have a1 := u15_0 q9 h9 (4 * p1.toNatClampNeg + 3) (by omega)
      have a2 := u21_0 q9 h9 (4 * p2.toNatClampNeg + 3) (by omega)
      unfold mB mV
      rw [← a1, ← a2, ← b1, ← b2]
      omega, by omega⟩ dX7_isBelow_55
          · refine r_iconst hx hb dX7_isBelow_50 (by decide) (by decide) (fun x50 e50 => ?_)
            refine lv_goto (tgt := 55) hx hb dX7_isBelow_51 (by decide) ?_
            exact rt_z hx hb hr hlk hS (by omega) (by omega) ⟨hT, fun q9 h9 => by
      have n1 := ix_nat (i := p1) (by omega)
      have n2 := ix_nat (i := p2) (by omega)
      have b1 := u2_0 q9 h9
      have b2 := u7_0 q9 h9
      have a1 := u15_0 q9 h9 (4 * p1.toNatClampNeg + 3) (by omega)
      have a2 := u21_0 q9 h9 (4 * p2.toNatClampNeg + 3) (by omega)
      unfold mB mV
      rw [← a1, ← a2, ← b1, ← b2]
      omega, by omega⟩ dX7_isBelow_55
theorem k_X7_rankOf : cBV yX7_rankOf cX7_rankOf 4 (some .int) 1 := ⟨mw_5_25, ms_3_1, mw_1_8, mw_5_26, ⟨by decide, by decide, by decide⟩⟩
set_option maxHeartbeats 4000000 in
set_option maxRecDepth 100000 in
theorem c_X7_rankOf (l : Launch) (z : Zt) (gh : Gh) (h0 o0 : Nat) (g0 : zG z h0 = (17, o0)) (p1 : Int32) (bp1 : 0 ≤ p1.toInt ∧ p1.toInt ≤ 4) (pr0 : zu z) : Met l yX7_rankOf (uw yX7_rankOf cX7_rankOf 4 (some .int)) (rmF 4 132) (PcW z [.ref h0, .int p1] (fun H => TY z (zA z) gh H)) (QcI z (fun r H => TY z (zA z) gh H ∧ (∀ q, zG z q = (41, h0) → r.toInt = ((mK (gh.2 q) p1.toNatClampNeg (gh.1 h0 41).toNat : Nat) : Int)) ∧ (0 ≤ r.toInt ∧ r.toInt ≤ 4) ∧ (p1.toInt < gh.1 h0 41 → r.toInt < gh.1 h0 41))) 0 0 (zA z) := by
  refine Met.ofW (cc := cX7_rankOf) (maxL := 4) (ret := (some .int)) (by decide) rfl ?_
  intro p e s m args below meth c s₁ B hml hv
  obtain ⟨rfl, hW, hK, hSK⟩ := hv
  have hx := B.exec
  have hb := B.bytes
  have hr := B.returns
  have hts : ∀ w ∈ lw_ok, w.before ([.ref h0, .int p1] : List Value).toArray s = true := fun w hw => atoms_spec (ws := uw yX7_rankOf cX7_rankOf 4 (some .int)) B.pre w (List.mem_cons_of_mem _ hw)
  have hown : s.vm.findClass RX7 = some m.cls := findClass_of_methodNamed B.named
  have hlk := B.notSynchronized
  have hC : CallFix p m c cX7_rankOf 4 s ([.ref h0, .int p1] : List Value).toArray lw_ok RX7 := ⟨hx, hb, hml, hown, hts⟩
  have hS : va_S (zA z) s.heap s.heap [] := va_S.rf
  have hl := lv_entry ([.ref h0, .int p1]) (n := 4) (Nat.le_of_ble_eq_true rfl)
  rw [lg_entry_eq]
  generalize (lg_sl ([.ref h0, .int p1]) ++ List.replicate (4 - (lg_sl ([.ref h0, .int p1])).length) Slot.unset).toArray = ls at hl ⊢
  have hl : lv_has ls 4 [(0, .ref h0), (1, .int p1)] := hl
  show W p l e (rmF 4 132) s m ([.ref h0, .int p1] : List Value).toArray below meth c s.heap [] 0 0 (MQ below (QcI z (fun r H => TY z (zA z) gh H ∧ (∀ q, zG z q = (41, h0) → r.toInt = ((mK (gh.2 q) p1.toNatClampNeg (gh.1 h0 41).toNat : Nat) : Int)) ∧ (0 ≤ r.toInt ∧ r.toInt ≤ 4) ∧ (p1.toInt < gh.1 h0 41 → r.toInt < gh.1 h0 41))) ([.ref h0, .int p1] : List Value).toArray s 0 0 (zA z)) (F0 m 0 ls [])
  have hT : TY z (zA z) gh s.heap := hW
  have hMd := (ty_md hT g0).1
  refine r_iconst hx hb dX7_rankOf_0 (by decide) (by decide) (fun x0 e0 => ?_)
  refine lv_istore_n (lv' := [(2, .int x0), (0, .ref h0), (1, .int p1)]) hx hb dX7_rankOf_1 rfl hl (by decide) rfl (fun ls hl => ?_)
  refine r_iconst hx hb dX7_rankOf_2 (by decide) (by decide) (fun x2 e2 => ?_)
  refine lv_istore_n (lv' := [(3, .int x2), (2, .int x0), (0, .ref h0), (1, .int p1)]) hx hb dX7_rankOf_3 rfl hl (by decide) rfl (fun ls hl => ?_)
  have J4 : ∀ (n4 : Nat) (ls : Array Slot) (H : Heap) (locs : List Loc) (y4_2 : Int32) (y4_3 : Int32), (0 ≤ y4_2.toInt ∧ y4_2.toInt ≤ 5) → (0 ≤ y4_3.toInt ∧ y4_3.toInt ≤ 5) → (∀ q, zG z q = (41, h0) → y4_2.toInt = ((mK (gh.2 q) p1.toNatClampNeg y4_3.toNatClampNeg : Nat) : Int)) → (0 ≤ y4_2.toInt ∧ y4_2.toInt ≤ y4_3.toInt) → (y4_3.toInt ≤ gh.1 h0 41) → (5 - y4_3.toInt) < (n4 : Int) → TY z (zA z) gh H → va_S (zA z) s.heap H locs → lv_has ls 4 [(0, .ref h0), (1, .int p1), (2, .int y4_2), (3, .int y4_3)] → W p l e (rmF 4 132) s m ([.ref h0, .int p1] : List Value).toArray below meth c H locs 0 0 (MQ below (QcI z (fun r H => TY z (zA z) gh H ∧ (∀ q, zG z q = (41, h0) → r.toInt = ((mK (gh.2 q) p1.toNatClampNeg (gh.1 h0 41).toNat : Nat) : Int)) ∧ (0 ≤ r.toInt ∧ r.toInt ≤ 4) ∧ (p1.toInt < gh.1 h0 41 → r.toInt < gh.1 h0 41))) ([.ref h0, .int p1] : List Value).toArray s 0 0 (zA z)) (F0 m 4 ls []) := by
    intro n4
    induction n4 with
    | zero => intro ls H locs y4_2 y4_3 j4_y4_2 j4_y4_3 ex4_0 ex4_1 ex4_2 mm4 hT hS hl; exfalso; omega
    | succ n4 ih4 =>
      intro ls H locs y4_2 y4_3 j4_y4_2 j4_y4_3 ex4_0 ex4_1 ex4_2 mm4 hT hS hl
      refine lv_iload_n hx hb dX7_rankOf_4 rfl (lv_at hl 3 rfl) ?_
      refine lv_aload_n hx hb dX7_rankOf_5 rfl (lv_at hl 0 rfl) ?_
      refine gt_Model_men hx hb hts ic_Model hown hK hT g0 (hts _ mw_4_73) dX7_rankOf_6 (fun x6 i6 e6 g6 => ?_)
      refine r_icmp_ge (tgt := 43) hx hb dX7_rankOf_9 (by decide) (fun c9 => ?_) (fun c9 => ?_)
      · refine lv_iload_n hx hb dX7_rankOf_43 rfl (lv_at hl 2 rfl) ?_
        exact rt_i hx hb hr hlk hS ⟨hT, fun q9 h9 => by
      have a0 := ex4_0 q9 h9
      have n3 := ix_nat (i := y4_3) (by omega)
      rw [show (gh.1 h0 41).toNat = y4_3.toNatClampNeg by omega]
      exact a0, by
      obtain ⟨q9, h9⟩ := (ty_md hT g0).2.1
      have a0 := ex4_0 q9 h9
      have n3 := ix_nat (i := y4_3) (by omega)
      have n1 := ix_nat (i := p1) (by omega)
      have b1 := mK_le (gh.2 q9) p1.toNatClampNeg y4_3.toNatClampNeg
      have b2 := mK_lt (gh.2 q9) p1.toNatClampNeg y4_3.toNatClampNeg
      omega, by
      obtain ⟨q9, h9⟩ := (ty_md hT g0).2.1
      have a0 := ex4_0 q9 h9
      have n3 := ix_nat (i := y4_3) (by omega)
      have n1 := ix_nat (i := p1) (by omega)
      have b2 := mK_lt (gh.2 q9) p1.toNatClampNeg y4_3.toNatClampNeg
      omega⟩ dX7_rankOf_44
      · refine lv_iload_n hx hb dX7_rankOf_12 rfl (lv_at hl 2 rfl) ?_
        refine lv_iload_n hx hb dX7_rankOf_13 rfl (lv_at hl 3 rfl) ?_
        refine lv_iload_n hx hb dX7_rankOf_14 rfl (lv_at hl 1 rfl) ?_
        refine r_icmp_eq (tgt := 31) hx hb dX7_rankOf_15 (by decide) (fun c15 => ?_) (fun c15 => ?_)
        · refine r_iconst hx hb dX7_rankOf_31 (by decide) (by decide) (fun x31 e31 => ?_)
          refine cl_Si (rest := [.int y4_2]) hC hK hSK (c_X7_flag l z gh x31 (by omega)) k_X7_flag mw_5_4 ⟨rfl, rfl, Nat.le_of_ble_eq_true rfl, Nat.le_of_ble_eq_true rfl⟩ hT rfl hl.1 rfl (Nat.le_of_ble_eq_true rfl) dX7_rankOf_32 ⟨Nat.zero_le _, Nat.zero_le _⟩ hS (fun _ h => h) (fun _ _ h => h) (fun r32 H locs hpo hS => ?_)
          obtain ⟨hT, u32_0⟩ := hpo
          refine r_iadd hx hb dX7_rankOf_35 (by omega) (by omega) (fun x35 e35 => ?_)
          refine lv_istore_n (lv' := [(2, .int x35), (0, .ref h0), (1, .int p1), (3, .int y4_3)]) hx hb dX7_rankOf_36 rfl hl (by decide) rfl (fun ls hl => ?_)
          refine r_iinc (lv' := fun v__ => [(3, .int v__), (2, .int x35), (0, .ref h0), (1, .int p1)]) hx hb dX7_rankOf_37 hl (k := 3) rfl (by decide) (fun _ => rfl) ⟨by decide, by decide⟩ (by omega) (by omega) (fun x37 ls e37 hl => ?_)
          refine lv_goto (tgt := 4) hx hb dX7_rankOf_40 (by decide) ?_
          exact ih4 ls _ _ x35 x37 (by omega) (by omega) (by intro q9 h9; have a0 := ex4_0 q9 h9; have n3 := ix_nat (i := y4_3) (by omega); have n5 := ix_nat (i := x37) (by omega); have n1 := ix_nat (i := p1) (by omega); rw [show x37.toNatClampNeg = y4_3.toNatClampNeg + 1 by omega]; first | (rw [mK_s1 (f := gh.2 q9) ⟨by omega, (u21_0 q9 h9).mp (by omega)⟩]; omega) | (rw [mK_s0 (f := gh.2 q9) (fun q => absurd ((u21_0 q9 h9).mpr q.2) (by omega))]; omega) | (rw [mK_s0 (f := gh.2 q9) (fun q => q.1 (by omega))]; omega)) (by omega) (by omega) (by omega) hT hS (lv_sub hl [2, 3, 1, 0] rfl)
        · refine lv_aload_n hx hb dX7_rankOf_18 rfl (lv_at hl 0 rfl) ?_
          refine lv_iload_n hx hb dX7_rankOf_19 rfl (lv_at hl 3 rfl) ?_
          refine lv_iload_n hx hb dX7_rankOf_20 rfl (lv_at hl 1 rfl) ?_
          refine cl_Vi (rest := [.int y4_2]) hC hK hSK (c_X7_isBelow l z gh h0 (o0) g0 y4_3 p1 (by omega) (by omega) pr0) k_X7_isBelow mw_5_27 ⟨rfl, rfl, Nat.le_of_ble_eq_true rfl, Nat.le_of_ble_eq_true rfl⟩ (rv_Model hK hT g0) hT rfl hl.1 rfl (Nat.le_of_ble_eq_true rfl) dX7_rankOf_21 ⟨Nat.zero_le _, Nat.zero_le _⟩ hS (fun _ h => h) (fun _ _ h => h) (fun r21 H locs hpo hS => ?_)
          obtain ⟨hT, u21_0, u21_1⟩ := hpo
          refine r_if_eq (tgt := 31) hx hb dX7_rankOf_24 (by decide) (fun c24 => ?_) (fun c24 => ?_)
          · refine r_iconst hx hb dX7_rankOf_31 (by decide) (by decide) (fun x31 e31 => ?_)
            refine cl_Si (rest := [.int y4_2]) hC hK hSK (c_X7_flag l z gh x31 (by omega)) k_X7_flag mw_5_4 ⟨rfl, rfl, Nat.le_of_ble_eq_true rfl, Nat.le_of_ble_eq_true rfl⟩ hT rfl hl.1 rfl (Nat.le_of_ble_eq_true rfl) dX7_rankOf_32 ⟨Nat.zero_le _, Nat.zero_le _⟩ hS (fun _ h => h) (fun _ _ h => h) (fun r32 H locs hpo hS => ?_)
            obtain ⟨hT, u32_0⟩ := hpo
            refine r_iadd hx hb dX7_rankOf_35 (by omega) (by omega) (fun x35 e35 => ?_)
            refine lv_istore_n (lv' := [(2, .int x35), (0, .ref h0), (1, .int p1), (3, .int y4_3)]) hx hb dX7_rankOf_36 rfl hl (by decide) rfl (fun ls hl => ?_)
            refine r_iinc (lv' := fun v__ => [(3, .int v__), (2, .int x35), (0, .ref h0), (1, .int p1)]) hx hb dX7_rankOf_37 hl (k := 3) rfl (by decide) (fun _ => rfl) ⟨by decide, by decide⟩ (by omega) (by omega) (fun x37 ls e37 hl => ?_)
            refine lv_goto (tgt := 4) hx hb dX7_rankOf_40 (by decide) ?_
            exact ih4 ls _ _ x35 x37 (by omega) (by omega) (by intro q9 h9; have a0 := ex4_0 q9 h9; have n3 := ix_nat (i := y4_3) (by omega); have n5 := ix_nat (i := x37) (by omega); have n1 := ix_nat (i := p1) (by omega); rw [show x37.toNatClampNeg = y4_3.toNatClampNeg + 1 by omega]; first | (rw [mK_s1 (f := gh.2 q9) ⟨by omega, (u21_0 q9 h9).mp (by omega)⟩]; omega) | (rw [mK_s0 (f := gh.2 q9) (fun q => absurd ((u21_0 q9 h9).mpr q.2) (by omega))]; omega) | (rw [mK_s0 (f := gh.2 q9) (fun q => q.1 (by omega))]; omega)) (by omega) (by omega) (by omega) hT hS (lv_sub hl [2, 3, 1, 0] rfl)
          · refine r_iconst hx hb dX7_rankOf_27 (by decide) (by decide) (fun x27 e27 => ?_)
            refine lv_goto (tgt := 32) hx hb dX7_rankOf_28 (by decide) ?_
            refine cl_Si (rest := [.int y4_2]) hC hK hSK (c_X7_flag l z gh x27 (by omega)) k_X7_flag mw_5_4 ⟨rfl, rfl, Nat.le_of_ble_eq_true rfl, Nat.le_of_ble_eq_true rfl⟩ hT rfl hl.1 rfl (Nat.le_of_ble_eq_true rfl) dX7_rankOf_32 ⟨Nat.zero_le _, Nat.zero_le _⟩ hS (fun _ h => h) (fun _ _ h => h) (fun r32 H locs hpo hS => ?_)
            obtain ⟨hT, u32_0⟩ := hpo
            refine r_iadd hx hb dX7_rankOf_35 (by omega) (by omega) (fun x35 e35 => ?_)
            refine lv_istore_n (lv' := [(2, .int x35), (0, .ref h0), (1, .int p1), (3, .int y4_3)]) hx hb dX7_rankOf_36 rfl hl (by decide) rfl (fun ls hl => ?_)
            refine r_iinc (lv' := fun v__ => [(3, .int v__), (2, .int x35), (0, .ref h0), (1, .int p1)]) hx hb dX7_rankOf_37 hl (k := 3) rfl (by decide) (fun _ => rfl) ⟨by decide, by decide⟩ (by omega) (by omega) (fun x37 ls e37 hl => ?_)
            refine lv_goto (tgt := 4) hx hb dX7_rankOf_40 (by decide) ?_
            exact ih4 ls _ _ x35 x37 (by omega) (by omega) (by intro q9 h9; have a0 := ex4_0 q9 h9; have n3 := ix_nat (i := y4_3) (by omega); have n5 := ix_nat (i := x37) (by omega); have n1 := ix_nat (i := p1) (by omega); rw [show x37.toNatClampNeg = y4_3.toNatClampNeg + 1 by omega]; first | (rw [mK_s1 (f := gh.2 q9) ⟨by omega, (u21_0 q9 h9).mp (by omega)⟩]; omega) | (rw [mK_s0 (f := gh.2 q9) (fun q => absurd ((u21_0 q9 h9).mpr q.2) (by omega))]; omega) | (rw [mK_s0 (f := gh.2 q9) (fun q => q.1 (by omega))]; omega)) (by omega) (by omega) (by omega) hT hS (lv_sub hl [2, 3, 1, 0] rfl)
  exact J4 (((5 - x2.toInt)).toNat + 1) ls _ _ x0 x2 (by omega) (by omega) (by intro q9 h9; have n3 := ix_nat (i := x2) (by omega); rw [show x2.toNatClampNeg = 0 by omega]; show x0.toInt = ((0 : Nat) : Int); omega) (by omega) (by omega) (by omega) hT hS (lv_sub hl [2, 3, 1, 0] rfl)
theorem k_X7_findRanks : cBV yX7_findRanks cX7_findRanks 2 none 0 := ⟨mw_5_45, ms_3_4, mw_1_8, mw_5_46, ⟨by decide, by decide, by decide⟩⟩
set_option maxHeartbeats 4000000 in
set_option maxRecDepth 100000 in
theorem c_X7_findRanks (l : Launch) (z : Zt) (gh : Gh) (h0 o0 : Nat) (g0 : zG z h0 = (17, o0)) (pr0 : zu z) : Met l yX7_findRanks (uw yX7_findRanks cX7_findRanks 2 none) (rmF 5 155) (PcW z [.ref h0] (fun H => TY z (zA z) gh H)) (QcV z (fun H => ∃ gk : Gh, deq z gk gh ∧ TY z (zA z) gk H ∧ (∀ q, zG z q = (45, h0) → ∀ i : Nat, (i : Int) < gh.1 h0 41 → 0 ≤ (gk.2 q i).toInt ∧ (gk.2 q i).toInt < gh.1 h0 41) ∧ (∀ q, zG z q = (41, h0) → gk.2 q = gh.2 q))) 0 0 (zA z) := by
  refine Met.ofW (cc := cX7_findRanks) (maxL := 2) (ret := none) (by decide) rfl ?_
  intro p e s m args below meth c s₁ B hml hv
  obtain ⟨rfl, hW, hK, hSK⟩ := hv
  have hx := B.exec
  have hb := B.bytes
  have hr := B.returns
  have hts : ∀ w ∈ lw_ok, w.before ([.ref h0] : List Value).toArray s = true := fun w hw => atoms_spec (ws := uw yX7_findRanks cX7_findRanks 2 none) B.pre w (List.mem_cons_of_mem _ hw)
  have hown : s.vm.findClass RX7 = some m.cls := findClass_of_methodNamed B.named
  have hlk := B.notSynchronized
  have hC : CallFix p m c cX7_findRanks 2 s ([.ref h0] : List Value).toArray lw_ok RX7 := ⟨hx, hb, hml, hown, hts⟩
  have hS : va_S (zA z) s.heap s.heap [] := va_S.rf
  have hl := lv_entry ([.ref h0]) (n := 2) (Nat.le_of_ble_eq_true rfl)
  rw [lg_entry_eq]
  generalize (lg_sl ([.ref h0]) ++ List.replicate (2 - (lg_sl ([.ref h0])).length) Slot.unset).toArray = ls at hl ⊢
  have hl : lv_has ls 2 [(0, .ref h0)] := hl
  show W p l e (rmF 5 155) s m ([.ref h0] : List Value).toArray below meth c s.heap [] 0 0 (MQ below (QcV z (fun H => ∃ gk : Gh, deq z gk gh ∧ TY z (zA z) gk H ∧ (∀ q, zG z q = (45, h0) → ∀ i : Nat, (i : Int) < gh.1 h0 41 → 0 ≤ (gk.2 q i).toInt ∧ (gk.2 q i).toInt < gh.1 h0 41) ∧ (∀ q, zG z q = (41, h0) → gk.2 q = gh.2 q))) ([.ref h0] : List Value).toArray s 0 0 (zA z)) (F0 m 0 ls [])
  have hT : TY z (zA z) gh s.heap := hW
  have hg1 : deq z gh gh := deq_rf z gh
  have hMd := (ty_md hT g0).1
  refine r_iconst hx hb dX7_findRanks_0 (by decide) (by decide) (fun x0 e0 => ?_)
  refine lv_istore_n (lv' := [(1, .int x0), (0, .ref h0)]) hx hb dX7_findRanks_1 rfl hl (by decide) rfl (fun ls hl => ?_)
  have J2 : ∀ (n2 : Nat) (ls : Array Slot) (H : Heap) (locs : List Loc) (y2_1 : Int32) (gk : Gh), (0 ≤ y2_1.toInt ∧ y2_1.toInt ≤ 5) → (∀ q q2, zG z q = (45, h0) → zG z q2 = (41, h0) → ∀ j : Nat, j < y2_1.toNatClampNeg → (gk.2 q (mK (gh.2 q2) j (gh.1 h0 41).toNat)).toInt = j) → (∀ q, zG z q = (41, h0) → gk.2 q = gh.2 q) → (y2_1.toInt ≤ gh.1 h0 41) → (5 - y2_1.toInt) < (n2 : Int) → deq z gk gh → TY z (zA z) gk H → va_S (zA z) s.heap H locs → lv_has ls 2 [(0, .ref h0), (1, .int y2_1)] → W p l e (rmF 5 155) s m ([.ref h0] : List Value).toArray below meth c H locs 0 0 (MQ below (QcV z (fun H => ∃ gk : Gh, deq z gk gh ∧ TY z (zA z) gk H ∧ (∀ q, zG z q = (45, h0) → ∀ i : Nat, (i : Int) < gh.1 h0 41 → 0 ≤ (gk.2 q i).toInt ∧ (gk.2 q i).toInt < gh.1 h0 41) ∧ (∀ q, zG z q = (41, h0) → gk.2 q = gh.2 q))) ([.ref h0] : List Value).toArray s 0 0 (zA z)) (F0 m 2 ls []) := by
    intro n2
    induction n2 with
    | zero => intro ls H locs y2_1 gk j2_y2_1 ex2_0 ex2_1 ex2_2 mm2 hg1 hT hS hl; exfalso; omega
    | succ n2 ih2 =>
      intro ls H locs y2_1 gk j2_y2_1 ex2_0 ex2_1 ex2_2 mm2 hg1 hT hS hl
      have m41a := deq_r hg1 h0 41
      refine lv_iload_n hx hb dX7_findRanks_2 rfl (lv_at hl 1 rfl) ?_
      refine lv_aload_n hx hb dX7_findRanks_3 rfl (lv_at hl 0 rfl) ?_
      refine gt_Model_men hx hb hts ic_Model hown hK hT g0 (hts _ mw_4_73) dX7_findRanks_4 (fun x4 i4 e4 g4 => ?_)
      have i4 := i4.trans (deq_r hg1 _ _)
      refine r_icmp_ge (tgt := 27) hx hb dX7_findRanks_7 (by decide) (fun c7 => ?_) (fun c7 => ?_)
      · exact rt_v hx hb hr hlk hS ⟨_, hg1, hT, fun q9 h9 i hi => by
      obtain ⟨q8, h8⟩ := (ty_md hT g0).2.1
      have n3 := ix_nat (i := y2_1) (by omega)
      obtain ⟨j, hj, e⟩ := mK_onto (f := gh.2 q8) (M := (gh.1 h0 41).toNat) (i := i) (by omega)
      have a0 := ex2_0 q9 q8 h9 h8 j (by omega)
      rw [e] at a0
      omega, ex2_1⟩ dX7_findRanks_27
      · refine lv_aload_n hx hb dX7_findRanks_10 rfl (lv_at hl 0 rfl) ?_
        refine gt_Model_byRank hx hb hts ic_Model hown hK hT g0 (hts _ mw_4_87) dX7_findRanks_11 (fun q11 hq11 => ?_)
        refine lv_aload_n hx hb dX7_findRanks_14 rfl (lv_at hl 0 rfl) ?_
        refine lv_iload_n hx hb dX7_findRanks_15 rfl (lv_at hl 1 rfl) ?_
        refine cl_Vi (rest := [.ref q11]) hC hK hSK (c_X7_rankOf l z gk h0 (o0) g0 y2_1 (by omega) pr0) k_X7_rankOf mw_5_23 ⟨rfl, rfl, Nat.le_of_ble_eq_true rfl, Nat.le_of_ble_eq_true rfl⟩ (rv_Model hK hT g0) hT rfl hl.1 rfl (Nat.le_of_ble_eq_true rfl) dX7_findRanks_16 ⟨Nat.zero_le _, Nat.zero_le _⟩ hS (fun _ h => h) (fun _ _ h => h) (fun r16 H locs hpo hS => ?_)
        obtain ⟨hT, u16_0, u16_1, u16_2⟩ := hpo
        refine lv_iload_n hx hb dX7_findRanks_19 rfl (lv_at hl 1 rfl) ?_
        refine as_45 hx hb hK hT hS hq11 (by omega) (by omega) ⟨by omega, by omega⟩ dX7_findRanks_20 (fun H locs hT hS => ?_)
        obtain ⟨gk20, w20, hg1, hT⟩ : ∃ g : Gh, g.2 = (gc gk q11 (upd (gk.2 q11) r16.toNatClampNeg y2_1)).2 ∧ deq z g gh ∧ TY z (zA z) g H := ⟨_, rfl, deq_gc hg1 hq11 (by decide), hT⟩
        refine r_iinc (lv' := fun v__ => [(1, .int v__), (0, .ref h0)]) hx hb dX7_findRanks_21 hl (k := 1) rfl (by decide) (fun _ => rfl) ⟨by decide, by decide⟩ (by omega) (by omega) (fun x21 ls e21 hl => ?_)
        refine lv_goto (tgt := 2) hx hb dX7_findRanks_24 (by decide) ?_
        exact ih2 ls _ _ x21 _ (by omega) (by intro q9 q8 h9 h8; have e9 := zu_at pr0 rfl h9 hq11; have a0 := u16_0 q8 h8; have e5 := ex2_1 q8 h8; have n3 := ix_nat (i := y2_1) (by omega); have n5 := ix_nat (i := x21) (by omega); have n6 := ix_nat (i := r16) (by omega); rw [e9, w20, gc_at, show x21.toNatClampNeg = y2_1.toNatClampNeg + 1 by omega]; rw [e5, m41a] at a0; exact fr_s (ex2_0 q11 q8 hq11 h8) (by omega) (by omega) (by omega)) (by intro q9 h9; rw [w20, gc_na _ _ _ (ro_ne h9 hq11 (by decide))]; exact ex2_1 q9 h9) (by omega) (by omega) hg1 hT hS (lv_sub hl [1, 0] rfl)
  exact J2 (((5 - x0.toInt)).toNat + 1) ls _ _ x0 _ (by omega) (by intro q9 q8 h9 h8 j hj; have n3 := ix_nat (i := x0) (by omega); exact absurd hj (by omega)) (by intro q9 h9; rfl) (by omega) (by omega) hg1 hT hS (lv_sub hl [1, 0] rfl)
theorem k_X7_goesTo : cBV yX7_goesTo cX7_goesTo 3 (some .int) 2 := ⟨mw_5_98, ms_3_8, mw_1_8, mw_5_99, ⟨by decide, by decide, by decide⟩⟩
set_option maxHeartbeats 4000000 in
set_option maxRecDepth 100000 in
theorem c_X7_goesTo (l : Launch) (z : Zt) (gh : Gh) (h0 o0 : Nat) (g0 : zG z h0 = (17, o0)) (p1 : Int32) (p2 : Int32) (bp1 : 0 ≤ p1.toInt ∧ p1.toInt ≤ 4) (pr0 : p1.toInt < gh.1 h0 41) : Met l yX7_goesTo (uw yX7_goesTo cX7_goesTo 3 (some .int)) (rmF 1 64) (PcW z [.ref h0, .int p1, .int p2] (fun H => TY z (zA z) gh H)) (QcI z (fun r H => TY z (zA z) gh H ∧ (0 ≤ r.toInt) ∧ (r.toInt < gh.1 h0 41))) 0 0 (zA z) := by
  refine Met.ofW (cc := cX7_goesTo) (maxL := 3) (ret := (some .int)) (by decide) rfl ?_
  intro p e s m args below meth c s₁ B hml hv
  obtain ⟨rfl, hW, hK, hSK⟩ := hv
  have hx := B.exec
  have hb := B.bytes
  have hr := B.returns
  have hts : ∀ w ∈ lw_ok, w.before ([.ref h0, .int p1, .int p2] : List Value).toArray s = true := fun w hw => atoms_spec (ws := uw yX7_goesTo cX7_goesTo 3 (some .int)) B.pre w (List.mem_cons_of_mem _ hw)
  have hown : s.vm.findClass RX7 = some m.cls := findClass_of_methodNamed B.named
  have hlk := B.notSynchronized
  have hC : CallFix p m c cX7_goesTo 3 s ([.ref h0, .int p1, .int p2] : List Value).toArray lw_ok RX7 := ⟨hx, hb, hml, hown, hts⟩
  have hS : va_S (zA z) s.heap s.heap [] := va_S.rf
  have hl := lv_entry ([.ref h0, .int p1, .int p2]) (n := 3) (Nat.le_of_ble_eq_true rfl)
  rw [lg_entry_eq]
  generalize (lg_sl ([.ref h0, .int p1, .int p2]) ++ List.replicate (3 - (lg_sl ([.ref h0, .int p1, .int p2])).length) Slot.unset).toArray = ls at hl ⊢
  have hl : lv_has ls 3 [(0, .ref h0), (1, .int p1), (2, .int p2)] := hl
  show W p l e (rmF 1 64) s m ([.ref h0, .int p1, .int p2] : List Value).toArray below meth c s.heap [] 0 0 (MQ below (QcI z (fun r H => TY z (zA z) gh H ∧ (0 ≤ r.toInt) ∧ (r.toInt < gh.1 h0 41))) ([.ref h0, .int p1, .int p2] : List Value).toArray s 0 0 (zA z)) (F0 m 0 ls [])
  have hT : TY z (zA z) gh s.heap := hW
  have mx_p2 := i_mx p2
  refine lv_iload_n hx hb dX7_goesTo_0 rfl (lv_at hl 2 rfl) ?_
  rcases (show p2.toInt = 0 ∨ p2.toInt = 1 ∨ p2.toInt = 2 ∨ (p2.toInt < 0 ∨ 2 < p2.toInt) by omega) with c1 | c1 | c1 | c1
  · refine lv_tableIn (off := 27) (tgt := 28) hx hb dX7_goesTo_1 (by omega) (by omega) (by rw [c1]; rfl) (by decide) ?_
    refine lv_iload_n hx hb dX7_goesTo_28 rfl (lv_at hl 1 rfl) ?_
    refine r_iconst hx hb dX7_goesTo_29 (by decide) (by decide) (fun x29 e29 => ?_)
    refine r_iadd hx hb dX7_goesTo_30 (by omega) (by omega) (fun x30 e30 => ?_)
    refine lv_aload_n hx hb dX7_goesTo_31 rfl (lv_at hl 0 rfl) ?_
    refine gt_Model_men hx hb hts ic_Model hown hK hT g0 (hts _ mw_4_73) dX7_goesTo_32 (fun x32 i32 e32 g32 => ?_)
    refine r_irem hx hb dX7_goesTo_35 (by omega) (by omega) (fun x35 e35 g35 k35 => ?_)
    exact rt_i hx hb hr hlk hS ⟨hT, by omega, by omega⟩ dX7_goesTo_36
  · refine lv_tableIn (off := 36) (tgt := 37) hx hb dX7_goesTo_1 (by omega) (by omega) (by rw [c1]; rfl) (by decide) ?_
    refine lv_iload_n hx hb dX7_goesTo_37 rfl (lv_at hl 1 rfl) ?_
    refine lv_aload_n hx hb dX7_goesTo_38 rfl (lv_at hl 0 rfl) ?_
    refine gt_Model_men hx hb hts ic_Model hown hK hT g0 (hts _ mw_4_73) dX7_goesTo_39 (fun x39 i39 e39 g39 => ?_)
    refine r_iadd hx hb dX7_goesTo_42 (by omega) (by omega) (fun x42 e42 => ?_)
    refine r_iconst hx hb dX7_goesTo_43 (by decide) (by decide) (fun x43 e43 => ?_)
    refine r_isub hx hb dX7_goesTo_44 (by omega) (by omega) (fun x44 e44 => ?_)
    refine lv_aload_n hx hb dX7_goesTo_45 rfl (lv_at hl 0 rfl) ?_
    refine gt_Model_men hx hb hts ic_Model hown hK hT g0 (hts _ mw_4_73) dX7_goesTo_46 (fun x46 i46 e46 g46 => ?_)
    refine r_irem hx hb dX7_goesTo_49 (by omega) (by omega) (fun x49 e49 g49 k49 => ?_)
    exact rt_i hx hb hr hlk hS ⟨hT, by omega, by omega⟩ dX7_goesTo_50
  · refine lv_tableIn (off := 50) (tgt := 51) hx hb dX7_goesTo_1 (by omega) (by omega) (by rw [c1]; rfl) (by decide) ?_
    refine lv_iload_n hx hb dX7_goesTo_51 rfl (lv_at hl 1 rfl) ?_
    refine r_iconst hx hb dX7_goesTo_52 (by decide) (by decide) (fun x52 e52 => ?_)
    refine r_iadd hx hb dX7_goesTo_53 (by omega) (by omega) (fun x53 e53 => ?_)
    refine lv_aload_n hx hb dX7_goesTo_54 rfl (lv_at hl 0 rfl) ?_
    refine gt_Model_men hx hb hts ic_Model hown hK hT g0 (hts _ mw_4_73) dX7_goesTo_55 (fun x55 i55 e55 g55 => ?_)
    refine r_irem hx hb dX7_goesTo_58 (by omega) (by omega) (fun x58 e58 g58 k58 => ?_)
    exact rt_i hx hb hr hlk hS ⟨hT, by omega, by omega⟩ dX7_goesTo_59
  · refine lv_tableOut (tgt := 60) hx hb dX7_goesTo_1 c1 (by decide) ?_
    refine lv_aload_n hx hb dX7_goesTo_60 rfl (lv_at hl 0 rfl) ?_
    refine gt_Model_men hx hb hts ic_Model hown hK hT g0 (hts _ mw_4_73) dX7_goesTo_61 (fun x61 i61 e61 g61 => ?_)
    refine r_iconst hx hb dX7_goesTo_64 (by decide) (by decide) (fun x64 e64 => ?_)
    refine r_isub hx hb dX7_goesTo_65 (by omega) (by omega) (fun x65 e65 => ?_)
    refine lv_iload_n hx hb dX7_goesTo_66 rfl (lv_at hl 1 rfl) ?_
    refine r_isub hx hb dX7_goesTo_67 (by omega) (by omega) (fun x67 e67 => ?_)
    exact rt_i hx hb hr hlk hS ⟨hT, by omega, by omega⟩ dX7_goesTo_68
theorem k_X7_changes : cBV yX7_changes cX7_changes 3 none 1 := ⟨mw_5_94, ms_3_7, mw_1_8, mw_5_95, ⟨by decide, by decide, by decide⟩⟩
set_option maxHeartbeats 4000000 in
set_option maxRecDepth 100000 in
theorem c_X7_changes (l : Launch) (z : Zt) (gh : Gh) (h0 o0 : Nat) (g0 : zG z h0 = (17, o0)) (p1 : Int32) (pr0 : zu z) (pr1 : nowOK (gh.1 h0)) : Met l yX7_changes (uw yX7_changes cX7_changes 3 none) (rmF 6 176) (PcW z [.ref h0, .int p1] (fun H => TY z (zA z) gh H)) (QcV z (fun H => ∃ gk : Gh, deq z gk gh ∧ TY z (zA z) gk H)) 0 0 (zA z) := by
  refine Met.ofW (cc := cX7_changes) (maxL := 3) (ret := none) (by decide) rfl ?_
  intro p e s m args below meth c s₁ B hml hv
  obtain ⟨rfl, hW, hK, hSK⟩ := hv
  have hx := B.exec
  have hb := B.bytes
  have hr := B.returns
  have hts : ∀ w ∈ lw_ok, w.before ([.ref h0, .int p1] : List Value).toArray s = true := fun w hw => atoms_spec (ws := uw yX7_changes cX7_changes 3 none) B.pre w (List.mem_cons_of_mem _ hw)
  have hown : s.vm.findClass RX7 = some m.cls := findClass_of_methodNamed B.named
  have hlk := B.notSynchronized
  have hC : CallFix p m c cX7_changes 3 s ([.ref h0, .int p1] : List Value).toArray lw_ok RX7 := ⟨hx, hb, hml, hown, hts⟩
  have hS : va_S (zA z) s.heap s.heap [] := va_S.rf
  have hl := lv_entry ([.ref h0, .int p1]) (n := 3) (Nat.le_of_ble_eq_true rfl)
  rw [lg_entry_eq]
  generalize (lg_sl ([.ref h0, .int p1]) ++ List.replicate (3 - (lg_sl ([.ref h0, .int p1])).length) Slot.unset).toArray = ls at hl ⊢
  have hl : lv_has ls 3 [(0, .ref h0), (1, .int p1)] := hl
  show W p l e (rmF 6 176) s m ([.ref h0, .int p1] : List Value).toArray below meth c s.heap [] 0 0 (MQ below (QcV z (fun H => ∃ gk : Gh, deq z gk gh ∧ TY z (zA z) gk H)) ([.ref h0, .int p1] : List Value).toArray s 0 0 (zA z)) (F0 m 0 ls [])
  have hT : TY z (zA z) gh s.heap := hW
  have hg1 : deq z gh gh := deq_rf z gh
  obtain ⟨na, nb⟩ := id pr1
  have mx_p1 := i_mx p1
  refine lv_aload_n hx hb dX7_changes_0 rfl (lv_at hl 0 rfl) ?_
  refine cl_Vv (rest := []) hC hK hSK (c_X7_findRanks l z gh h0 (o0) g0 pr0) k_X7_findRanks mw_5_43 ⟨rfl, rfl, Nat.le_of_ble_eq_true rfl, Nat.le_of_ble_eq_true rfl⟩ (rv_Model hK hT g0) hT rfl hl.1 rfl (Nat.le_of_ble_eq_true rfl) dX7_changes_1 ⟨Nat.zero_le _, Nat.zero_le _⟩ hS (fun _ h => h) (fun _ _ h => h) (fun H locs hpo hS => ?_)
  obtain ⟨gk1, hz1, hT, u1_0, u1_1⟩ := hpo
  have hg1 := deq_tr hz1 hg1
  refine r_iconst hx hb dX7_changes_4 (by decide) (by decide) (fun x4 e4 => ?_)
  refine lv_istore_n (lv' := [(2, .int x4), (0, .ref h0), (1, .int p1)]) hx hb dX7_changes_5 rfl hl (by decide) rfl (fun ls hl => ?_)
  have J6 : ∀ (n6 : Nat) (ls : Array Slot) (H : Heap) (locs : List Loc) (y6_2 : Int32) (gk : Gh), (0 ≤ y6_2.toInt ∧ y6_2.toInt ≤ 5) → (∀ q, zG z q = (45, h0) → ∀ i : Nat, (i : Int) < gh.1 h0 41 → 0 ≤ (gk.2 q i).toInt ∧ (gk.2 q i).toInt < gh.1 h0 41) → (5 - y6_2.toInt) < (n6 : Int) → deq z gk gh → TY z (zA z) gk H → va_S (zA z) s.heap H locs → lv_has ls 3 [(0, .ref h0), (1, .int p1), (2, .int y6_2)] → W p l e (rmF 6 176) s m ([.ref h0, .int p1] : List Value).toArray below meth c H locs 0 0 (MQ below (QcV z (fun H => ∃ gk : Gh, deq z gk gh ∧ TY z (zA z) gk H)) ([.ref h0, .int p1] : List Value).toArray s 0 0 (zA z)) (F0 m 6 ls []) := by
    intro n6
    induction n6 with
    | zero => intro ls H locs y6_2 gk j6_y6_2 ex6_0 mm6 hg1 hT hS hl; exfalso; omega
    | succ n6 ih6 =>
      intro ls H locs y6_2 gk j6_y6_2 ex6_0 mm6 hg1 hT hS hl
      have m41 := deq_r hg1 h0 41
      refine lv_iload_n hx hb dX7_changes_6 rfl (lv_at hl 2 rfl) ?_
      refine lv_aload_n hx hb dX7_changes_7 rfl (lv_at hl 0 rfl) ?_
      refine gt_Model_men hx hb hts ic_Model hown hK hT g0 (hts _ mw_4_73) dX7_changes_8 (fun x8 i8 e8 g8 => ?_)
      have i8 := i8.trans (deq_r hg1 _ _)
      refine r_icmp_ge (tgt := 52) hx hb dX7_changes_11 (by decide) (fun c11 => ?_) (fun c11 => ?_)
      · exact rt_v hx hb hr hlk hS ⟨_, hg1, hT⟩ dX7_changes_52
      · refine lv_aload_n hx hb dX7_changes_14 rfl (lv_at hl 0 rfl) ?_
        refine gt_Model_now hx hb hts ic_Model hown hK hT g0 (hts _ mw_4_71) dX7_changes_15 (fun q15 hq15 => ?_)
        refine r_bipush hx hb dX7_changes_18 rfl (fun x18 e18 => ?_)
        refine lv_iload_n hx hb dX7_changes_20 rfl (lv_at hl 2 rfl) ?_
        refine r_iadd hx hb dX7_changes_21 (by omega) (by omega) (fun x21 e21 => ?_)
        refine lv_aload_n hx hb dX7_changes_22 rfl (lv_at hl 0 rfl) ?_
        refine gt_Model_byRank hx hb hts ic_Model hown hK hT g0 (hts _ mw_4_87) dX7_changes_23 (fun q23 hq23 => ?_)
        refine lv_aload_n hx hb dX7_changes_26 rfl (lv_at hl 0 rfl) ?_
        refine lv_aload_n hx hb dX7_changes_27 rfl (lv_at hl 0 rfl) ?_
        refine lv_aload_n hx hb dX7_changes_28 rfl (lv_at hl 0 rfl) ?_
        refine gt_Model_now hx hb hts ic_Model hown hK hT g0 (hts _ mw_4_71) dX7_changes_29 (fun q29 hq29 => ?_)
        refine r_bipush hx hb dX7_changes_32 rfl (fun x32 e32 => ?_)
        refine lv_iload_n hx hb dX7_changes_34 rfl (lv_at hl 2 rfl) ?_
        refine r_iadd hx hb dX7_changes_35 (by omega) (by omega) (fun x35 e35 => ?_)
        refine al_41 hx hb hK hT hq29 (by omega) (by omega) dX7_changes_36 (fun x36 i36 e36 => ?_)
        have n36 := ix_nat (i := x35) (by omega)
        have f36 := b59_r20 (p41_e e36) (by omega) (by omega)
        simp only [hg1.1] at f36
        refine cl_Vi (rest := [.ref h0, .ref q23, .int x21, .ref q15]) hC hK hSK (c_X7_rankOf l z gk h0 (o0) g0 x36 (by omega) pr0) k_X7_rankOf mw_5_23 ⟨rfl, rfl, Nat.le_of_ble_eq_true rfl, Nat.le_of_ble_eq_true rfl⟩ (rv_Model hK hT g0) hT rfl hl.1 rfl (Nat.le_of_ble_eq_true rfl) dX7_changes_37 ⟨Nat.zero_le _, Nat.zero_le _⟩ hS (fun _ h => h) (fun _ _ h => h) (fun r37 H locs hpo hS => ?_)
        obtain ⟨hT, u37_0, u37_1, u37_2⟩ := hpo
        refine lv_iload_n hx hb dX7_changes_40 rfl (lv_at hl 1 rfl) ?_
        refine cl_Vi (rest := [.ref q23, .int x21, .ref q15]) hC hK hSK (c_X7_goesTo l z gk h0 (o0) g0 r37 p1 (by omega) (by omega)) k_X7_goesTo mw_5_96 ⟨rfl, rfl, Nat.le_of_ble_eq_true rfl, Nat.le_of_ble_eq_true rfl⟩ (rv_Model hK hT g0) hT rfl hl.1 rfl (Nat.le_of_ble_eq_true rfl) dX7_changes_41 ⟨Nat.zero_le _, Nat.zero_le _⟩ hS (fun _ h => h) (fun _ _ h => h) (fun r41 H locs hpo hS => ?_)
        obtain ⟨hT, u41_0, u41_1⟩ := hpo
        refine al_45 hx hb hK hT hq23 (by omega) (by omega) dX7_changes_44 (fun x44 i44 e44 => ?_)
        have n44 := ix_nat (i := r41) (by omega)
        unfold p45 at e44
        have k44 := ex6_0 _ hq23 r41.toNatClampNeg (by have a1 := ix_nat (i := r41) (by omega); omega)
        rw [← i44] at k44
        refine as_41 hx hb hK hT hS hq15 (by omega) (by omega) (by have n0 := ix_nat (i := x21) (by omega); have r48 := deq_r hg1 (h0) 48; have r49 := deq_r hg1 (h0) 49; exact b59_m20 (by omega) (by omega) ⟨by omega, by omega⟩ (by omega)) dX7_changes_45 (fun H locs hT hS => ?_)
        obtain ⟨gk45, w45, hg1, hT⟩ : ∃ g : Gh, g.2 = (gc gk q15 (upd (gk.2 q15) x21.toNatClampNeg x44)).2 ∧ deq z g gh ∧ TY z (zA z) g H := ⟨_, rfl, deq_gc hg1 hq15 (by decide), hT⟩
        refine r_iinc (lv' := fun v__ => [(2, .int v__), (0, .ref h0), (1, .int p1)]) hx hb dX7_changes_46 hl (k := 2) rfl (by decide) (fun _ => rfl) ⟨by decide, by decide⟩ (by omega) (by omega) (fun x46 ls e46 hl => ?_)
        refine lv_goto (tgt := 6) hx hb dX7_changes_49 (by decide) ?_
        exact ih6 ls _ _ x46 _ (by omega) (by intro q9 h9; rw [w45, gc_na _ _ _ (ro_ne h9 hq15 (by decide))]; exact ex6_0 q9 h9) (by omega) hg1 hT hS (lv_sub hl [1, 2, 0] rfl)
  exact J6 (((5 - x4.toInt)).toNat + 1) ls _ _ x4 _ (by omega) (by exact u1_0) (by omega) hg1 hT hS (lv_sub hl [1, 2, 0] rfl)
theorem k_X7_danceOn : cBV yX7_danceOn cX7_danceOn 5 none 1 := ⟨mw_5_90, ms_3_6, mw_1_8, mw_5_91, ⟨by decide, by decide, by decide⟩⟩
set_option maxHeartbeats 4000000 in
set_option maxRecDepth 100000 in
theorem c_X7_danceOn (l : Launch) (z : Zt) (gh : Gh) (h0 o0 : Nat) (g0 : zG z h0 = (17, o0)) (p1 : Int32) (pr0 : zu z) (pr1 : nowOK (gh.1 h0)) : Met l yX7_danceOn (uw yX7_danceOn cX7_danceOn 5 none) (rmF 7 198) (PcW z [.ref h0, .int p1] (fun H => TY z (zA z) gh H)) (QcV z (fun H => ∃ gk : Gh, deq z gk gh ∧ TY z (zA z) gk H)) 0 0 (zA z) := by
  refine Met.ofW (cc := cX7_danceOn) (maxL := 5) (ret := none) (by decide) rfl ?_
  intro p e s m args below meth c s₁ B hml hv
  obtain ⟨rfl, hW, hK, hSK⟩ := hv
  have hx := B.exec
  have hb := B.bytes
  have hr := B.returns
  have hts : ∀ w ∈ lw_ok, w.before ([.ref h0, .int p1] : List Value).toArray s = true := fun w hw => atoms_spec (ws := uw yX7_danceOn cX7_danceOn 5 none) B.pre w (List.mem_cons_of_mem _ hw)
  have hown : s.vm.findClass RX7 = some m.cls := findClass_of_methodNamed B.named
  have hlk := B.notSynchronized
  have hC : CallFix p m c cX7_danceOn 5 s ([.ref h0, .int p1] : List Value).toArray lw_ok RX7 := ⟨hx, hb, hml, hown, hts⟩
  have hS : va_S (zA z) s.heap s.heap [] := va_S.rf
  have hl := lv_entry ([.ref h0, .int p1]) (n := 5) (Nat.le_of_ble_eq_true rfl)
  rw [lg_entry_eq]
  generalize (lg_sl ([.ref h0, .int p1]) ++ List.replicate (5 - (lg_sl ([.ref h0, .int p1])).length) Slot.unset).toArray = ls at hl ⊢
  have hl : lv_has ls 5 [(0, .ref h0), (1, .int p1)] := hl
  show W p l e (rmF 7 198) s m ([.ref h0, .int p1] : List Value).toArray below meth c s.heap [] 0 0 (MQ below (QcV z (fun H => ∃ gk : Gh, deq z gk gh ∧ TY z (zA z) gk H)) ([.ref h0, .int p1] : List Value).toArray s 0 0 (zA z)) (F0 m 0 ls [])
  have hT : TY z (zA z) gh s.heap := hW
  have hg1 : deq z gh gh := deq_rf z gh
  obtain ⟨na, nb⟩ := id pr1
  have mx_p1 := i_mx p1
  refine lv_aload_n hx hb dX7_danceOn_0 rfl (lv_at hl 0 rfl) ?_
  refine lv_iload_n hx hb dX7_danceOn_1 rfl (lv_at hl 1 rfl) ?_
  refine cl_Vv (rest := []) hC hK hSK (c_X7_changes l z gh h0 (o0) g0 p1 pr0 (by rw [hg1.1]; exact pr1)) k_X7_changes mw_5_92 ⟨rfl, rfl, Nat.le_of_ble_eq_true rfl, Nat.le_of_ble_eq_true rfl⟩ (rv_Model hK hT g0) hT rfl hl.1 rfl (Nat.le_of_ble_eq_true rfl) dX7_danceOn_2 ⟨Nat.zero_le _, Nat.zero_le _⟩ hS (fun _ h => h) (fun _ _ h => h) (fun H locs hpo hS => ?_)
  obtain ⟨gk2, hz2, hT⟩ := hpo
  have hg1 := deq_tr hz2 hg1
  refine r_iconst hx hb dX7_danceOn_5 (by decide) (by decide) (fun x5 e5 => ?_)
  refine lv_istore_n (lv' := [(2, .int x5), (0, .ref h0), (1, .int p1)]) hx hb dX7_danceOn_6 rfl hl (by decide) rfl (fun ls hl => ?_)
  have J7 : ∀ (n7 : Nat) (ls : Array Slot) (H : Heap) (locs : List Loc) (y7_2 : Int32) (gk : Gh), (0 ≤ y7_2.toInt ∧ y7_2.toInt ≤ 5) → (5 - y7_2.toInt) < (n7 : Int) → deq z gk gh → TY z (zA z) gk H → va_S (zA z) s.heap H locs → lv_has ls 5 [(0, .ref h0), (1, .int p1), (2, .int y7_2)] → W p l e (rmF 7 198) s m ([.ref h0, .int p1] : List Value).toArray below meth c H locs 0 0 (MQ below (QcV z (fun H => ∃ gk : Gh, deq z gk gh ∧ TY z (zA z) gk H)) ([.ref h0, .int p1] : List Value).toArray s 0 0 (zA z)) (F0 m 7 ls []) := by
    intro n7
    induction n7 with
    | zero => intro ls H locs y7_2 gk j7_y7_2 mm7 hg1 hT hS hl; exfalso; omega
    | succ n7 ih7 =>
      intro ls H locs y7_2 gk j7_y7_2 mm7 hg1 hT hS hl
      obtain ⟨q41, hq41⟩ := (ty_md hT g0).2.1
      refine lv_iload_n hx hb dX7_danceOn_7 rfl (lv_at hl 2 rfl) ?_
      refine lv_aload_n hx hb dX7_danceOn_8 rfl (lv_at hl 0 rfl) ?_
      refine gt_Model_men hx hb hts ic_Model hown hK hT g0 (hts _ mw_4_73) dX7_danceOn_9 (fun x9 i9 e9 g9 => ?_)
      have i9 := i9.trans (deq_r hg1 _ _)
      refine r_icmp_ge (tgt := 103) hx hb dX7_danceOn_12 (by decide) (fun c12 => ?_) (fun c12 => ?_)
      · refine r_iconst hx hb dX7_danceOn_103 (by decide) (by decide) (fun x103 e103 => ?_)
        refine lv_istore_n (lv' := [(2, .int x103), (0, .ref h0), (1, .int p1)]) hx hb dX7_danceOn_104 rfl hl (by decide) rfl (fun ls hl => ?_)
        have J105 : ∀ (n105 : Nat) (ls : Array Slot) (H : Heap) (locs : List Loc) (y105_2 : Int32) (gk : Gh), (0 ≤ y105_2.toInt ∧ y105_2.toInt ≤ 5) → (5 - y105_2.toInt) < (n105 : Int) → deq z gk gh → TY z (zA z) gk H → va_S (zA z) s.heap H locs → lv_has ls 5 [(0, .ref h0), (1, .int p1), (2, .int y105_2)] → W p l e (rmF 7 198) s m ([.ref h0, .int p1] : List Value).toArray below meth c H locs 0 0 (MQ below (QcV z (fun H => ∃ gk : Gh, deq z gk gh ∧ TY z (zA z) gk H)) ([.ref h0, .int p1] : List Value).toArray s 0 0 (zA z)) (F0 m 105 ls []) := by
          intro n105
          induction n105 with
          | zero => intro ls H locs y105_2 gk j105_y105_2 mm105 hg1 hT hS hl; exfalso; omega
          | succ n105 ih105 =>
            intro ls H locs y105_2 gk j105_y105_2 mm105 hg1 hT hS hl
            obtain ⟨q41, hq41⟩ := (ty_md hT g0).2.1
            refine lv_iload_n hx hb dX7_danceOn_105 rfl (lv_at hl 2 rfl) ?_
            refine lv_aload_n hx hb dX7_danceOn_106 rfl (lv_at hl 0 rfl) ?_
            refine gt_Model_men hx hb hts ic_Model hown hK hT g0 (hts _ mw_4_73) dX7_danceOn_107 (fun x107 i107 e107 g107 => ?_)
            have i107 := i107.trans (deq_r hg1 _ _)
            refine r_icmp_ge (tgt := 166) hx hb dX7_danceOn_110 (by decide) (fun c110 => ?_) (fun c110 => ?_)
            · refine lv_aload_n hx hb dX7_danceOn_166 rfl (lv_at hl 0 rfl) ?_
              refine gt_Model_now hx hb hts ic_Model hown hK hT g0 (hts _ mw_4_71) dX7_danceOn_167 (fun q167 hq167 => ?_)
              refine r_bipush hx hb dX7_danceOn_170 rfl (fun x170 e170 => ?_)
              refine lv_dup2_11 hx hb dX7_danceOn_172 rfl rfl ?_
              refine al_41 hx hb hK hT hq167 (by omega) (by omega) dX7_danceOn_173 (fun x173 i173 e173 => ?_)
              have n173 := ix_nat (i := x170) (by omega)
              refine lv_aload_n hx hb dX7_danceOn_174 rfl (lv_at hl 0 rfl) ?_
              refine gt_Model_now hx hb hts ic_Model hown hK hT g0 (hts _ mw_4_71) dX7_danceOn_175 (fun q175 hq175 => ?_)
              refine r_bipush hx hb dX7_danceOn_178 rfl (fun x178 e178 => ?_)
              refine al_41 hx hb hK hT hq175 (by omega) (by omega) dX7_danceOn_180 (fun x180 i180 e180 => ?_)
              have n180 := ix_nat (i := x178) (by omega)
              refine r_sipush hx hb dX7_danceOn_181 rfl (fun x181 e181 => ?_)
              have J192 : ∀ (ls : Array Slot) (H : Heap) (locs : List Loc) (t192_3 : Int32) (gk : Gh), (0 ≤ t192_3.toInt ∧ t192_3.toInt ≤ 1) → deq z gk gh → TY z (zA z) gk H → va_S (zA z) s.heap H locs → lv_has ls 5 [(0, .ref h0), (1, .int p1), (2, .int y105_2)] → W p l e (rmF 7 198) s m ([.ref h0, .int p1] : List Value).toArray below meth c H locs 0 0 (MQ below (QcV z (fun H => ∃ gk : Gh, deq z gk gh ∧ TY z (zA z) gk H)) ([.ref h0, .int p1] : List Value).toArray s 0 0 (zA z)) (F0 m 192 ls [.int t192_3, .int x173, .int x170, .ref q167]) := by
                intro ls H locs t192_3 gk j192_t192_3 hg1 hT hS hl
                refine cl_Si (rest := [.int x173, .int x170, .ref q167]) hC hK hSK (c_X7_flag l z gk t192_3 (by omega)) k_X7_flag mw_5_4 ⟨rfl, rfl, Nat.le_of_ble_eq_true rfl, Nat.le_of_ble_eq_true rfl⟩ hT rfl hl.1 rfl (Nat.le_of_ble_eq_true rfl) dX7_danceOn_192 ⟨Nat.zero_le _, Nat.zero_le _⟩ hS (fun _ h => h) (fun _ _ h => h) (fun r192 H locs hpo hS => ?_)
                obtain ⟨hT, u192_0⟩ := hpo
                refine w_iadd hx hb dX7_danceOn_195 (fun x195 => ?_)
                refine as_41 hx hb hK hT hS hq167 (by omega) (by omega) (by have n0 := ix_nat (i := x170) (by omega); exact b59_mf (by omega)) dX7_danceOn_196 (fun H locs hT hS => ?_)
                obtain ⟨gk196, w196, hg1, hT⟩ : ∃ g : Gh, g.2 = (gc gk q167 (upd (gk.2 q167) x170.toNatClampNeg x195)).2 ∧ deq z g gh ∧ TY z (zA z) g H := ⟨_, rfl, deq_gc hg1 hq167 (by decide), hT⟩
                exact rt_v hx hb hr hlk hS ⟨_, hg1, hT⟩ dX7_danceOn_197
              refine r_icmp_ge (tgt := 191) hx hb dX7_danceOn_184 (by decide) (fun c184 => ?_) (fun c184 => ?_)
              · refine r_iconst hx hb dX7_danceOn_191 (by decide) (by decide) (fun x191 e191 => ?_)
                exact J192 ls _ _ x191 _ (by omega) hg1 hT hS (lv_sub hl [0, 1, 2] rfl)
              · refine r_iconst hx hb dX7_danceOn_187 (by decide) (by decide) (fun x187 e187 => ?_)
                refine lv_goto (tgt := 192) hx hb dX7_danceOn_188 (by decide) ?_
                exact J192 ls _ _ x187 _ (by omega) hg1 hT hS (lv_sub hl [0, 1, 2] rfl)
            · refine lv_aload_n hx hb dX7_danceOn_113 rfl (lv_at hl 0 rfl) ?_
              refine gt_Model_now hx hb hts ic_Model hown hK hT g0 (hts _ mw_4_71) dX7_danceOn_114 (fun q114 hq114 => ?_)
              refine r_bipush hx hb dX7_danceOn_117 rfl (fun x117 e117 => ?_)
              refine lv_iload_n hx hb dX7_danceOn_119 rfl (lv_at hl 2 rfl) ?_
              refine r_iadd hx hb dX7_danceOn_120 (by omega) (by omega) (fun x120 e120 => ?_)
              refine al_41 hx hb hK hT hq114 (by omega) (by omega) dX7_danceOn_121 (fun x121 i121 e121 => ?_)
              have n121 := ix_nat (i := x120) (by omega)
              have f121 := b59_r20 (p41_e e121) (by omega) (by omega)
              simp only [hg1.1] at f121
              refine lv_iload_n hx hb dX7_danceOn_122 rfl (lv_at hl 2 rfl) ?_
              refine r_icmp_ne (tgt := 141) hx hb dX7_danceOn_123 (by decide) (fun c123 => ?_) (fun c123 => ?_)
              · refine r_iconst hx hb dX7_danceOn_141 (by decide) (by decide) (fun x141 e141 => ?_)
                refine lv_istore_n (lv' := [(3, .int x141), (0, .ref h0), (1, .int p1), (2, .int y105_2)]) hx hb dX7_danceOn_142 rfl hl (by decide) rfl (fun ls hl => ?_)
                refine lv_aload_n hx hb dX7_danceOn_143 rfl (lv_at hl 1 rfl) ?_
                refine lv_iload_n hx hb dX7_danceOn_144 rfl (lv_at hl 3 rfl) ?_
                refine r_iconst hx hb dX7_danceOn_145 (by decide) (by decide) (fun x145 e145 => ?_)
                refine lv_aload_n hx hb dX7_danceOn_146 rfl (lv_at hl 1 rfl) ?_
                refine lv_iload_n hx hb dX7_danceOn_147 rfl (lv_at hl 3 rfl) ?_
                refine r_iconst hx hb dX7_danceOn_148 (by decide) (by decide) (fun x148 e148 => ?_)
                refine cl_Vi (rest := [.int x145, .int y105_2, .ref h0]) hC hK hSK (c_X7_of l z gk h0 (o0) g0 y105_2 x148 (by omega) (by omega) pr0) k_X7_of mw_5_15 ⟨rfl, rfl, Nat.le_of_ble_eq_true rfl, Nat.le_of_ble_eq_true rfl⟩ (rv_Model hK hT g0) hT rfl hl.1 rfl (Nat.le_of_ble_eq_true rfl) dX7_danceOn_149 ⟨Nat.zero_le _, Nat.zero_le _⟩ hS (fun _ h => h) (fun _ _ h => h) (fun r149 H locs hpo hS => ?_)
                obtain ⟨hT, u149_0, u149_1⟩ := hpo
                first | (have e149 : r149.toInt = r129.toInt := by rw [u149_0 q41 hq41 (4 * y105_2.toInt + 3).toNat (by omega), u129_0 q41 hq41 (4 * y105_2.toInt + 3).toNat (by omega)]) | skip
                refine lv_iload_n hx hb dX7_danceOn_152 rfl (lv_at hl 0 rfl) ?_
                refine cl_Si (rest := [.int r149, .int x145, .int y105_2, .ref h0]) hC hK hSK (c_X7_flag l z gk x141 (by omega)) k_X7_flag mw_5_4 ⟨rfl, rfl, Nat.le_of_ble_eq_true rfl, Nat.le_of_ble_eq_true rfl⟩ hT rfl hl.1 rfl (Nat.le_of_ble_eq_true rfl) dX7_danceOn_153 ⟨Nat.zero_le _, Nat.zero_le _⟩ hS (fun _ h => h) (fun _ _ h => h) (fun r153 H locs hpo hS => ?_)
                obtain ⟨hT, u153_0⟩ := hpo
                refine r_iadd hx hb dX7_danceOn_156 (by omega) (by omega) (fun x156 e156 => ?_)
                refine cl_Vv (rest := []) hC hK hSK (c_X7_becomesOf l z gk h0 (o0) g0 y105_2 x145 x156 (by omega) (by omega) (by omega)) k_X7_becomesOf mw_5_100 ⟨rfl, rfl, Nat.le_of_ble_eq_true rfl, Nat.le_of_ble_eq_true rfl⟩ (rv_Model hK hT g0) hT rfl hl.1 rfl (Nat.le_of_ble_eq_true rfl) dX7_danceOn_157 ⟨Nat.zero_le _, Nat.zero_le _⟩ hS (fun _ h => h) (fun _ _ h => h) (fun H locs hpo hS => ?_)
                obtain ⟨gk157, hz157, hT⟩ := hpo
                have hg1 := deq_tr hz157 hg1
                refine r_iinc (lv' := fun v__ => [(2, .int v__), (3, .int x141), (0, .ref h0), (1, .int p1)]) hx hb dX7_danceOn_160 hl (k := 3) rfl (by decide) (fun _ => rfl) ⟨by decide, by decide⟩ (by omega) (by omega) (fun x160 ls e160 hl => ?_)
                refine lv_goto (tgt := 105) hx hb dX7_danceOn_163 (by decide) ?_
                exact ih105 ls _ _ x160 _ (by omega) (by omega) hg1 hT hS (lv_sub hl [2, 3, 0] rfl)
              · refine lv_aload_n hx hb dX7_danceOn_126 rfl (lv_at hl 0 rfl) ?_
                refine lv_iload_n hx hb dX7_danceOn_127 rfl (lv_at hl 2 rfl) ?_
                refine r_iconst hx hb dX7_danceOn_128 (by decide) (by decide) (fun x128 e128 => ?_)
                refine cl_Vi (rest := []) hC hK hSK (c_X7_of l z gk h0 (o0) g0 y105_2 x128 (by omega) (by omega) pr0) k_X7_of mw_5_15 ⟨rfl, rfl, Nat.le_of_ble_eq_true rfl, Nat.le_of_ble_eq_true rfl⟩ (rv_Model hK hT g0) hT rfl hl.1 rfl (Nat.le_of_ble_eq_true rfl) dX7_danceOn_129 ⟨Nat.zero_le _, Nat.zero_le _⟩ hS (fun _ h => h) (fun _ _ h => h) (fun r129 H locs hpo hS => ?_)
                obtain ⟨hT, u129_0, u129_1⟩ := hpo
                refine r_bipush hx hb dX7_danceOn_132 rfl (fun x132 e132 => ?_)
                refine r_icmp_ge (tgt := 141) hx hb dX7_danceOn_134 (by decide) (fun c134 => ?_) (fun c134 => ?_)
                · refine r_iconst hx hb dX7_danceOn_141 (by decide) (by decide) (fun x141 e141 => ?_)
                  refine lv_istore_n (lv' := [(3, .int x141), (0, .ref h0), (1, .int p1), (2, .int y105_2)]) hx hb dX7_danceOn_142 rfl hl (by decide) rfl (fun ls hl => ?_)
                  refine lv_aload_n hx hb dX7_danceOn_143 rfl (lv_at hl 1 rfl) ?_
                  refine lv_iload_n hx hb dX7_danceOn_144 rfl (lv_at hl 3 rfl) ?_
                  refine r_iconst hx hb dX7_danceOn_145 (by decide) (by decide) (fun x145 e145 => ?_)
                  refine lv_aload_n hx hb dX7_danceOn_146 rfl (lv_at hl 1 rfl) ?_
                  refine lv_iload_n hx hb dX7_danceOn_147 rfl (lv_at hl 3 rfl) ?_
                  refine r_iconst hx hb dX7_danceOn_148 (by decide) (by decide) (fun x148 e148 => ?_)
                  refine cl_Vi (rest := [.int x145, .int y105_2, .ref h0]) hC hK hSK (c_X7_of l z gk h0 (o0) g0 y105_2 x148 (by omega) (by omega) pr0) k_X7_of mw_5_15 ⟨rfl, rfl, Nat.le_of_ble_eq_true rfl, Nat.le_of_ble_eq_true rfl⟩ (rv_Model hK hT g0) hT rfl hl.1 rfl (Nat.le_of_ble_eq_true rfl) dX7_danceOn_149 ⟨Nat.zero_le _, Nat.zero_le _⟩ hS (fun _ h => h) (fun _ _ h => h) (fun r149 H locs hpo hS => ?_)
                  obtain ⟨hT, u149_0, u149_1⟩ := hpo
                  first | (have e149 : r149.toInt = r129.toInt := by rw [u149_0 q41 hq41 (4 * y105_2.toInt + 3).toNat (by omega), u129_0 q41 hq41 (4 * y105_2.toInt + 3).toNat (by omega)]) | skip
                  refine lv_iload_n hx hb dX7_danceOn_152 rfl (lv_at hl 0 rfl) ?_
                  refine cl_Si (rest := [.int r149, .int x145, .int y105_2, .ref h0]) hC hK hSK (c_X7_flag l z gk x141 (by omega)) k_X7_flag mw_5_4 ⟨rfl, rfl, Nat.le_of_ble_eq_true rfl, Nat.le_of_ble_eq_true rfl⟩ hT rfl hl.1 rfl (Nat.le_of_ble_eq_true rfl) dX7_danceOn_153 ⟨Nat.zero_le _, Nat.zero_le _⟩ hS (fun _ h => h) (fun _ _ h => h) (fun r153 H locs hpo hS => ?_)
                  obtain ⟨hT, u153_0⟩ := hpo
                  refine r_iadd hx hb dX7_danceOn_156 (by omega) (by omega) (fun x156 e156 => ?_)
                  refine cl_Vv (rest := []) hC hK hSK (c_X7_becomesOf l z gk h0 (o0) g0 y105_2 x145 x156 (by omega) (by omega) (by omega)) k_X7_becomesOf mw_5_100 ⟨rfl, rfl, Nat.le_of_ble_eq_true rfl, Nat.le_of_ble_eq_true rfl⟩ (rv_Model hK hT g0) hT rfl hl.1 rfl (Nat.le_of_ble_eq_true rfl) dX7_danceOn_157 ⟨Nat.zero_le _, Nat.zero_le _⟩ hS (fun _ h => h) (fun _ _ h => h) (fun H locs hpo hS => ?_)
                  obtain ⟨gk157, hz157, hT⟩ := hpo
                  have hg1 := deq_tr hz157 hg1
                  refine r_iinc (lv' := fun v__ => [(2, .int v__), (3, .int x141), (0, .ref h0), (1, .int p1)]) hx hb dX7_danceOn_160 hl (k := 3) rfl (by decide) (fun _ => rfl) ⟨by decide, by decide⟩ (by omega) (by omega) (fun x160 ls e160 hl => ?_)
                  refine lv_goto (tgt := 105) hx hb dX7_danceOn_163 (by decide) ?_
                  exact ih105 ls _ _ x160 _ (by omega) (by omega) hg1 hT hS (lv_sub hl [2, 3, 0] rfl)
                · refine r_iconst hx hb dX7_danceOn_137 (by decide) (by decide) (fun x137 e137 => ?_)
                  refine lv_goto (tgt := 142) hx hb dX7_danceOn_138 (by decide) ?_
                  refine lv_istore_n (lv' := [(3, .int x137), (0, .ref h0), (1, .int p1), (2, .int y105_2)]) hx hb dX7_danceOn_142 rfl hl (by decide) rfl (fun ls hl => ?_)
                  refine lv_aload_n hx hb dX7_danceOn_143 rfl (lv_at hl 1 rfl) ?_
                  refine lv_iload_n hx hb dX7_danceOn_144 rfl (lv_at hl 3 rfl) ?_
                  refine r_iconst hx hb dX7_danceOn_145 (by decide) (by decide) (fun x145 e145 => ?_)
                  refine lv_aload_n hx hb dX7_danceOn_146 rfl (lv_at hl 1 rfl) ?_
                  refine lv_iload_n hx hb dX7_danceOn_147 rfl (lv_at hl 3 rfl) ?_
                  refine r_iconst hx hb dX7_danceOn_148 (by decide) (by decide) (fun x148 e148 => ?_)
                  refine cl_Vi (rest := [.int x145, .int y105_2, .ref h0]) hC hK hSK (c_X7_of l z gk h0 (o0) g0 y105_2 x148 (by omega) (by omega) pr0) k_X7_of mw_5_15 ⟨rfl, rfl, Nat.le_of_ble_eq_true rfl, Nat.le_of_ble_eq_true rfl⟩ (rv_Model hK hT g0) hT rfl hl.1 rfl (Nat.le_of_ble_eq_true rfl) dX7_danceOn_149 ⟨Nat.zero_le _, Nat.zero_le _⟩ hS (fun _ h => h) (fun _ _ h => h) (fun r149 H locs hpo hS => ?_)
                  obtain ⟨hT, u149_0, u149_1⟩ := hpo
                  first | (have e149 : r149.toInt = r129.toInt := by rw [u149_0 q41 hq41 (4 * y105_2.toInt + 3).toNat (by omega), u129_0 q41 hq41 (4 * y105_2.toInt + 3).toNat (by omega)]) | skip
                  refine lv_iload_n hx hb dX7_danceOn_152 rfl (lv_at hl 0 rfl) ?_
                  refine cl_Si (rest := [.int r149, .int x145, .int y105_2, .ref h0]) hC hK hSK (c_X7_flag l z gk x137 (by omega)) k_X7_flag mw_5_4 ⟨rfl, rfl, Nat.le_of_ble_eq_true rfl, Nat.le_of_ble_eq_true rfl⟩ hT rfl hl.1 rfl (Nat.le_of_ble_eq_true rfl) dX7_danceOn_153 ⟨Nat.zero_le _, Nat.zero_le _⟩ hS (fun _ h => h) (fun _ _ h => h) (fun r153 H locs hpo hS => ?_)
                  obtain ⟨hT, u153_0⟩ := hpo
                  refine r_iadd hx hb dX7_danceOn_156 (by omega) (by omega) (fun x156 e156 => ?_)
                  refine cl_Vv (rest := []) hC hK hSK (c_X7_becomesOf l z gk h0 (o0) g0 y105_2 x145 x156 (by omega) (by omega) (by omega)) k_X7_becomesOf mw_5_100 ⟨rfl, rfl, Nat.le_of_ble_eq_true rfl, Nat.le_of_ble_eq_true rfl⟩ (rv_Model hK hT g0) hT rfl hl.1 rfl (Nat.le_of_ble_eq_true rfl) dX7_danceOn_157 ⟨Nat.zero_le _, Nat.zero_le _⟩ hS (fun _ h => h) (fun _ _ h => h) (fun H locs hpo hS => ?_)
                  obtain ⟨gk157, hz157, hT⟩ := hpo
                  have hg1 := deq_tr hz157 hg1
                  refine r_iinc (lv' := fun v__ => [(2, .int v__), (3, .int x137), (0, .ref h0), (1, .int p1)]) hx hb dX7_danceOn_160 hl (k := 3) rfl (by decide) (fun _ => rfl) ⟨by decide, by decide⟩ (by omega) (by omega) (fun x160 ls e160 hl => ?_)
                  refine lv_goto (tgt := 105) hx hb dX7_danceOn_163 (by decide) ?_
                  exact ih105 ls _ _ x160 _ (by omega) (by omega) hg1 hT hS (lv_sub hl [2, 3, 0] rfl)
        exact J105 (((5 - x103.toInt)).toNat + 1) ls _ _ x103 _ (by omega) (by omega) hg1 hT hS (lv_sub hl [1, 2, 0] rfl)
      · refine lv_aload_n hx hb dX7_danceOn_15 rfl (lv_at hl 0 rfl) ?_
        refine lv_iload_n hx hb dX7_danceOn_16 rfl (lv_at hl 2 rfl) ?_
        refine r_iconst hx hb dX7_danceOn_17 (by decide) (by decide) (fun x17 e17 => ?_)
        refine cl_Vi (rest := []) hC hK hSK (c_X7_of l z gk h0 (o0) g0 y7_2 x17 (by omega) (by omega) pr0) k_X7_of mw_5_15 ⟨rfl, rfl, Nat.le_of_ble_eq_true rfl, Nat.le_of_ble_eq_true rfl⟩ (rv_Model hK hT g0) hT rfl hl.1 rfl (Nat.le_of_ble_eq_true rfl) dX7_danceOn_18 ⟨Nat.zero_le _, Nat.zero_le _⟩ hS (fun _ h => h) (fun _ _ h => h) (fun r18 H locs hpo hS => ?_)
        obtain ⟨hT, u18_0, u18_1⟩ := hpo
        refine lv_istore_n (lv' := [(3, .int r18), (0, .ref h0), (1, .int p1), (2, .int y7_2)]) hx hb dX7_danceOn_21 rfl hl (by decide) rfl (fun ls hl => ?_)
        refine lv_iload_n hx hb dX7_danceOn_22 rfl (lv_at hl 0 rfl) ?_
        refine r_iconst hx hb dX7_danceOn_23 (by decide) (by decide) (fun x23 e23 => ?_)
        have J58 : ∀ (ls : Array Slot) (H : Heap) (locs : List Loc) (t58_0 : Int32) (gk : Gh), (0 ≤ t58_0.toInt ∧ t58_0.toInt ≤ 1) → (5 - y7_2.toInt) < ((n7 + 1 : Nat) : Int) → deq z gk gh → TY z (zA z) gk H → va_S (zA z) s.heap H locs → lv_has ls 5 [(0, .ref h0), (1, .int p1), (2, .int y7_2), (3, .int r18)] → W p l e (rmF 7 198) s m ([.ref h0, .int p1] : List Value).toArray below meth c H locs 0 0 (MQ below (QcV z (fun H => ∃ gk : Gh, deq z gk gh ∧ TY z (zA z) gk H)) ([.ref h0, .int p1] : List Value).toArray s 0 0 (zA z)) (F0 m 58 ls [.int t58_0]) := by
          intro ls H locs t58_0 gk j58_t58_0 mf58_7 hg1 hT hS hl
          refine lv_istore (lv' := [(4, .int t58_0), (0, .ref h0), (1, .int p1), (2, .int y7_2), (3, .int r18)]) hx hb dX7_danceOn_58 hl (by decide) rfl (fun ls hl => ?_)
          refine lv_aload_n hx hb dX7_danceOn_60 rfl (lv_at hl 1 rfl) ?_
          refine lv_iload_n hx hb dX7_danceOn_61 rfl (lv_at hl 3 rfl) ?_
          refine r_iconst hx hb dX7_danceOn_62 (by decide) (by decide) (fun x62 e62 => ?_)
          refine lv_iload hx hb dX7_danceOn_63 (lv_at hl 0 rfl) ?_
          have J94 : ∀ (ls : Array Slot) (H : Heap) (locs : List Loc) (t94_3 : Int32) (gk : Gh), (0 ≤ t94_3.toInt ∧ t94_3.toInt ≤ 9) → (5 - y7_2.toInt) < ((n7 + 1 : Nat) : Int) → deq z gk gh → TY z (zA z) gk H → va_S (zA z) s.heap H locs → lv_has ls 5 [(0, .ref h0), (1, .int p1), (2, .int y7_2), (3, .int r18), (4, .int t58_0)] → W p l e (rmF 7 198) s m ([.ref h0, .int p1] : List Value).toArray below meth c H locs 0 0 (MQ below (QcV z (fun H => ∃ gk : Gh, deq z gk gh ∧ TY z (zA z) gk H)) ([.ref h0, .int p1] : List Value).toArray s 0 0 (zA z)) (F0 m 94 ls [.int t94_3, .int x62, .int y7_2, .ref h0]) := by
            intro ls H locs t94_3 gk j94_t94_3 mf94_7 hg1 hT hS hl
            refine cl_Vv (rest := []) hC hK hSK (c_X7_becomesOf l z gk h0 (o0) g0 y7_2 x62 t94_3 (by omega) (by omega) (by omega)) k_X7_becomesOf mw_5_100 ⟨rfl, rfl, Nat.le_of_ble_eq_true rfl, Nat.le_of_ble_eq_true rfl⟩ (rv_Model hK hT g0) hT rfl hl.1 rfl (Nat.le_of_ble_eq_true rfl) dX7_danceOn_94 ⟨Nat.zero_le _, Nat.zero_le _⟩ hS (fun _ h => h) (fun _ _ h => h) (fun H locs hpo hS => ?_)
            obtain ⟨gk94, hz94, hT⟩ := hpo
            have hg1 := deq_tr hz94 hg1
            refine r_iinc (lv' := fun v__ => [(2, .int v__), (0, .ref h0), (1, .int p1), (3, .int r18), (4, .int t58_0)]) hx hb dX7_danceOn_97 hl (k := 2) rfl (by decide) (fun _ => rfl) ⟨by decide, by decide⟩ (by omega) (by omega) (fun x97 ls e97 hl => ?_)
            refine lv_goto (tgt := 7) hx hb dX7_danceOn_100 (by decide) ?_
            exact ih7 ls _ _ x97 _ (by omega) (by omega) hg1 hT hS (lv_sub hl [1, 2, 0] rfl)
          have J88 : ∀ (ls : Array Slot) (H : Heap) (locs : List Loc) (gk : Gh), (5 - y7_2.toInt) < ((n7 + 1 : Nat) : Int) → deq z gk gh → TY z (zA z) gk H → va_S (zA z) s.heap H locs → lv_has ls 5 [(0, .ref h0), (1, .int p1), (2, .int y7_2), (3, .int r18), (4, .int t58_0)] → W p l e (rmF 7 198) s m ([.ref h0, .int p1] : List Value).toArray below meth c H locs 0 0 (MQ below (QcV z (fun H => ∃ gk : Gh, deq z gk gh ∧ TY z (zA z) gk H)) ([.ref h0, .int p1] : List Value).toArray s 0 0 (zA z)) (F0 m 88 ls [.int x62, .int y7_2, .ref h0]) := by
            intro ls H locs gk mf88_7 hg1 hT hS hl
            refine lv_aload_n hx hb dX7_danceOn_88 rfl (lv_at hl 0 rfl) ?_
            refine lv_iload_n hx hb dX7_danceOn_89 rfl (lv_at hl 2 rfl) ?_
            refine r_iconst hx hb dX7_danceOn_90 (by decide) (by decide) (fun x90 e90 => ?_)
            refine cl_Vi (rest := [.int x62, .int y7_2, .ref h0]) hC hK hSK (c_X7_of l z gk h0 (o0) g0 y7_2 x90 (by omega) (by omega) pr0) k_X7_of mw_5_15 ⟨rfl, rfl, Nat.le_of_ble_eq_true rfl, Nat.le_of_ble_eq_true rfl⟩ (rv_Model hK hT g0) hT rfl hl.1 rfl (Nat.le_of_ble_eq_true rfl) dX7_danceOn_91 ⟨Nat.zero_le _, Nat.zero_le _⟩ hS (fun _ h => h) (fun _ _ h => h) (fun r91 H locs hpo hS => ?_)
            obtain ⟨hT, u91_0, u91_1⟩ := hpo
            exact J94 ls _ _ r91 _ (by omega) (by omega) hg1 hT hS (lv_sub hl [0, 1, 2, 3, 4] rfl)
          refine r_if_eq (tgt := 88) hx hb dX7_danceOn_65 (by decide) (fun c65 => ?_) (fun c65 => ?_)
          · exact J88 ls _ _ _ (by omega) hg1 hT hS (lv_sub hl [1, 2, 3, 4, 0] rfl)
          · refine lv_aload_n hx hb dX7_danceOn_68 rfl (lv_at hl 1 rfl) ?_
            refine lv_iload_n hx hb dX7_danceOn_69 rfl (lv_at hl 3 rfl) ?_
            refine r_iconst hx hb dX7_danceOn_70 (by decide) (by decide) (fun x70 e70 => ?_)
            refine cl_Vi (rest := [.int x62, .int y7_2, .ref h0]) hC hK hSK (c_X7_of l z gk h0 (o0) g0 y7_2 x70 (by omega) (by omega) pr0) k_X7_of mw_5_15 ⟨rfl, rfl, Nat.le_of_ble_eq_true rfl, Nat.le_of_ble_eq_true rfl⟩ (rv_Model hK hT g0) hT rfl hl.1 rfl (Nat.le_of_ble_eq_true rfl) dX7_danceOn_71 ⟨Nat.zero_le _, Nat.zero_le _⟩ hS (fun _ h => h) (fun _ _ h => h) (fun r71 H locs hpo hS => ?_)
            obtain ⟨hT, u71_0, u71_1⟩ := hpo
            refine r_if_le (tgt := 88) hx hb dX7_danceOn_74 (by decide) (fun c74 => ?_) (fun c74 => ?_)
            · exact J88 ls _ _ _ (by omega) hg1 hT hS (lv_sub hl [1, 2, 3, 4, 0] rfl)
            · refine lv_aload_n hx hb dX7_danceOn_77 rfl (lv_at hl 1 rfl) ?_
              refine lv_iload_n hx hb dX7_danceOn_78 rfl (lv_at hl 3 rfl) ?_
              refine r_iconst hx hb dX7_danceOn_79 (by decide) (by decide) (fun x79 e79 => ?_)
              refine cl_Vi (rest := [.int x62, .int y7_2, .ref h0]) hC hK hSK (c_X7_of l z gk h0 (o0) g0 y7_2 x79 (by omega) (by omega) pr0) k_X7_of mw_5_15 ⟨rfl, rfl, Nat.le_of_ble_eq_true rfl, Nat.le_of_ble_eq_true rfl⟩ (rv_Model hK hT g0) hT rfl hl.1 rfl (Nat.le_of_ble_eq_true rfl) dX7_danceOn_80 ⟨Nat.zero_le _, Nat.zero_le _⟩ hS (fun _ h => h) (fun _ _ h => h) (fun r80 H locs hpo hS => ?_)
              obtain ⟨hT, u80_0, u80_1⟩ := hpo
              first | (have e80 : r80.toInt = r71.toInt := by rw [u80_0 q41 hq41 (4 * y7_2.toInt + 2).toNat (by omega), u71_0 q41 hq41 (4 * y7_2.toInt + 2).toNat (by omega)]) | skip
              refine r_iconst hx hb dX7_danceOn_83 (by decide) (by decide) (fun x83 e83 => ?_)
              refine r_isub hx hb dX7_danceOn_84 (by omega) (by omega) (fun x84 e84 => ?_)
              refine lv_goto (tgt := 94) hx hb dX7_danceOn_85 (by decide) ?_
              exact J94 ls _ _ x84 _ (by omega) (by omega) hg1 hT hS (lv_sub hl [1, 2, 3, 4, 0] rfl)
        refine r_icmp_ne (tgt := 48) hx hb dX7_danceOn_24 (by decide) (fun c24 => ?_) (fun c24 => ?_)
        · refine lv_iload_n hx hb dX7_danceOn_48 rfl (lv_at hl 0 rfl) ?_
          refine r_iconst hx hb dX7_danceOn_49 (by decide) (by decide) (fun x49 e49 => ?_)
          refine r_icmp_eq (tgt := 57) hx hb dX7_danceOn_50 (by decide) (fun c50 => ?_) (fun c50 => ?_)
          · refine r_iconst hx hb dX7_danceOn_57 (by decide) (by decide) (fun x57 e57 => ?_)
            exact J58 ls _ _ x57 _ (by omega) (by omega) hg1 hT hS (lv_sub hl [1, 2, 3, 0] rfl)
          · refine r_iconst hx hb dX7_danceOn_53 (by decide) (by decide) (fun x53 e53 => ?_)
            refine lv_goto (tgt := 58) hx hb dX7_danceOn_54 (by decide) ?_
            exact J58 ls _ _ x53 _ (by omega) (by omega) hg1 hT hS (lv_sub hl [1, 2, 3, 0] rfl)
        · refine lv_aload_n hx hb dX7_danceOn_27 rfl (lv_at hl 1 rfl) ?_
          refine gt_Model_now hx hb hts ic_Model hown hK hT g0 (hts _ mw_4_71) dX7_danceOn_28 (fun q28 hq28 => ?_)
          refine r_bipush hx hb dX7_danceOn_31 rfl (fun x31 e31 => ?_)
          refine al_41 hx hb hK hT hq28 (by omega) (by omega) dX7_danceOn_33 (fun x33 i33 e33 => ?_)
          have n33 := ix_nat (i := x31) (by omega)
          refine r_iconst hx hb dX7_danceOn_34 (by decide) (by decide) (fun x34 e34 => ?_)
          refine w_irem hx hb dX7_danceOn_35 (by omega) (fun x35 => ?_)
          refine r_iconst hx hb dX7_danceOn_36 (by decide) (by decide) (fun x36 e36 => ?_)
          refine r_icmp_ne (tgt := 44) hx hb dX7_danceOn_37 (by decide) (fun c37 => ?_) (fun c37 => ?_)
          · refine r_iconst hx hb dX7_danceOn_44 (by decide) (by decide) (fun x44 e44 => ?_)
            refine lv_goto (tgt := 58) hx hb dX7_danceOn_45 (by decide) ?_
            exact J58 ls _ _ x44 _ (by omega) (by omega) hg1 hT hS (lv_sub hl [1, 2, 3, 0] rfl)
          · refine r_iconst hx hb dX7_danceOn_40 (by decide) (by decide) (fun x40 e40 => ?_)
            refine lv_goto (tgt := 58) hx hb dX7_danceOn_41 (by decide) ?_
            exact J58 ls _ _ x40 _ (by omega) (by omega) hg1 hT hS (lv_sub hl [1, 2, 3, 0] rfl)
  exact J7 (((5 - x5.toInt)).toNat + 1) ls _ _ x5 _ (by omega) (by omega) hg1 hT hS (lv_sub hl [1, 2, 0] rfl)
theorem k_X7_bitsOf : cBS yX7_bitsOf cX7_bitsOf 3 (some .int) 1 := ⟨mw_4_238, mw_1_8, mw_4_239, ⟨by decide, by decide, by decide⟩⟩
set_option maxHeartbeats 4000000 in
set_option maxRecDepth 100000 in
theorem c_X7_bitsOf (l : Launch) (z : Zt) (gh : Gh) (p1 : Int32) : Met l yX7_bitsOf (uw yX7_bitsOf cX7_bitsOf 3 (some .int)) (rmF 1 64) (PcW z [.int p1] (fun H => TY z (zA z) gh H)) (QcI z (fun r H => TY z (zA z) gh H)) 0 0 (zA z) := by
  refine Met.ofW (cc := cX7_bitsOf) (maxL := 3) (ret := (some .int)) (by decide) rfl ?_
  intro p e s m args below meth c s₁ B hml hv
  obtain ⟨rfl, hW, hK, hSK⟩ := hv
  have hx := B.exec
  have hb := B.bytes
  have hr := B.returns
  have hts : ∀ w ∈ lw_ok, w.before ([.int p1] : List Value).toArray s = true := fun w hw => atoms_spec (ws := uw yX7_bitsOf cX7_bitsOf 3 (some .int)) B.pre w (List.mem_cons_of_mem _ hw)
  have hown : s.vm.findClass RX7 = some m.cls := findClass_of_methodNamed B.named
  have hlk := B.notSynchronized
  have hC : CallFix p m c cX7_bitsOf 3 s ([.int p1] : List Value).toArray lw_ok RX7 := ⟨hx, hb, hml, hown, hts⟩
  have hS : va_S (zA z) s.heap s.heap [] := va_S.rf
  have hl := lv_entry ([.int p1]) (n := 3) (Nat.le_of_ble_eq_true rfl)
  rw [lg_entry_eq]
  generalize (lg_sl ([.int p1]) ++ List.replicate (3 - (lg_sl ([.int p1])).length) Slot.unset).toArray = ls at hl ⊢
  have hl : lv_has ls 3 [(0, .int p1)] := hl
  show W p l e (rmF 1 64) s m ([.int p1] : List Value).toArray below meth c s.heap [] 0 0 (MQ below (QcI z (fun r H => TY z (zA z) gh H)) ([.int p1] : List Value).toArray s 0 0 (zA z)) (F0 m 0 ls [])
  have hT : TY z (zA z) gh s.heap := hW
  have mx_p1 := i_mx p1
  refine r_iconst hx hb dX7_bitsOf_0 (by decide) (by decide) (fun x0 e0 => ?_)
  refine lv_istore_n (lv' := [(1, .int x0), (0, .int p1)]) hx hb dX7_bitsOf_1 rfl hl (by decide) rfl (fun ls hl => ?_)
  refine r_iconst hx hb dX7_bitsOf_2 (by decide) (by decide) (fun x2 e2 => ?_)
  refine lv_istore_n (lv' := [(2, .int x2), (1, .int x0), (0, .int p1)]) hx hb dX7_bitsOf_3 rfl hl (by decide) rfl (fun ls hl => ?_)
  have J4 : ∀ (n4 : Nat) (ls : Array Slot) (H : Heap) (locs : List Loc) (y4_1 : Int32) (y4_2 : Int32), (0 ≤ y4_2.toInt ∧ y4_2.toInt ≤ 8) → (8 - y4_2.toInt) < (n4 : Int) → TY z (zA z) gh H → va_S (zA z) s.heap H locs → lv_has ls 3 [(0, .int p1), (1, .int y4_1), (2, .int y4_2)] → W p l e (rmF 1 64) s m ([.int p1] : List Value).toArray below meth c H locs 0 0 (MQ below (QcI z (fun r H => TY z (zA z) gh H)) ([.int p1] : List Value).toArray s 0 0 (zA z)) (F0 m 4 ls []) := by
    intro n4
    induction n4 with
    | zero => intro ls H locs y4_1 y4_2 j4_y4_2 mm4 hT hS hl; exfalso; omega
    | succ n4 ih4 =>
      intro ls H locs y4_1 y4_2 j4_y4_2 mm4 hT hS hl
      refine lv_iload_n hx hb dX7_bitsOf_4 rfl (lv_at hl 2 rfl) ?_
      refine r_bipush hx hb dX7_bitsOf_5 rfl (fun x5 e5 => ?_)
      refine r_icmp_ge (tgt := 24) hx hb dX7_bitsOf_7 (by decide) (fun c7 => ?_) (fun c7 => ?_)
      · refine lv_iload_n hx hb dX7_bitsOf_24 rfl (lv_at hl 1 rfl) ?_
        exact rt_i hx hb hr hlk hS hT dX7_bitsOf_25
      · refine lv_iload_n hx hb dX7_bitsOf_10 rfl (lv_at hl 1 rfl) ?_
        refine lv_iload_n hx hb dX7_bitsOf_11 rfl (lv_at hl 0 rfl) ?_
        refine lv_iload_n hx hb dX7_bitsOf_12 rfl (lv_at hl 2 rfl) ?_
        refine w_ishr hx hb dX7_bitsOf_13 (fun x13 => ?_)
        refine r_iconst hx hb dX7_bitsOf_14 (by decide) (by decide) (fun x14 e14 => ?_)
        refine w_iand hx hb dX7_bitsOf_15 (fun x15 => ?_)
        refine w_iadd hx hb dX7_bitsOf_16 (fun x16 => ?_)
        refine lv_istore_n (lv' := [(1, .int x16), (0, .int p1), (2, .int y4_2)]) hx hb dX7_bitsOf_17 rfl hl (by decide) rfl (fun ls hl => ?_)
        refine r_iinc (lv' := fun v__ => [(2, .int v__), (1, .int x16), (0, .int p1)]) hx hb dX7_bitsOf_18 hl (k := 2) rfl (by decide) (fun _ => rfl) ⟨by decide, by decide⟩ (by omega) (by omega) (fun x18 ls e18 hl => ?_)
        refine lv_goto (tgt := 4) hx hb dX7_bitsOf_21 (by decide) ?_
        exact ih4 ls _ _ x16 x18 (by omega) (by omega) hT hS (lv_sub hl [2, 1, 0] rfl)
  exact J4 (((8 - x2.toInt)).toNat + 1) ls _ _ x0 x2 (by omega) (by omega) hT hS (lv_sub hl [2, 1, 0] rfl)
theorem k_X7_round : cBV yX7_round cX7_round 3 (some .int) 0 := ⟨mw_5_2, ms_2_13, mw_1_8, mw_5_3, ⟨by decide, by decide, by decide⟩⟩
set_option maxHeartbeats 4000000 in
set_option maxRecDepth 100000 in
theorem c_X7_round (l : Launch) (z : Zt) (gh : Gh) (h0 o0 : Nat) (g0 : zG z h0 = (17, o0)) : Met l yX7_round (uw yX7_round cX7_round 3 (some .int)) (rmF 2 84) (PcW z [.ref h0] (fun H => TY z (zA z) gh H)) (QcI z (fun r H => TY z (zA z) gh H)) 0 0 (zA z) := by
  refine Met.ofW (cc := cX7_round) (maxL := 3) (ret := (some .int)) (by decide) rfl ?_
  intro p e s m args below meth c s₁ B hml hv
  obtain ⟨rfl, hW, hK, hSK⟩ := hv
  have hx := B.exec
  have hb := B.bytes
  have hr := B.returns
  have hts : ∀ w ∈ lw_ok, w.before ([.ref h0] : List Value).toArray s = true := fun w hw => atoms_spec (ws := uw yX7_round cX7_round 3 (some .int)) B.pre w (List.mem_cons_of_mem _ hw)
  have hown : s.vm.findClass RX7 = some m.cls := findClass_of_methodNamed B.named
  have hlk := B.notSynchronized
  have hC : CallFix p m c cX7_round 3 s ([.ref h0] : List Value).toArray lw_ok RX7 := ⟨hx, hb, hml, hown, hts⟩
  have hS : va_S (zA z) s.heap s.heap [] := va_S.rf
  have hl := lv_entry ([.ref h0]) (n := 3) (Nat.le_of_ble_eq_true rfl)
  rw [lg_entry_eq]
  generalize (lg_sl ([.ref h0]) ++ List.replicate (3 - (lg_sl ([.ref h0])).length) Slot.unset).toArray = ls at hl ⊢
  have hl : lv_has ls 3 [(0, .ref h0)] := hl
  show W p l e (rmF 2 84) s m ([.ref h0] : List Value).toArray below meth c s.heap [] 0 0 (MQ below (QcI z (fun r H => TY z (zA z) gh H)) ([.ref h0] : List Value).toArray s 0 0 (zA z)) (F0 m 0 ls [])
  have hT : TY z (zA z) gh s.heap := hW
  refine r_iconst hx hb dX7_round_0 (by decide) (by decide) (fun x0 e0 => ?_)
  refine lv_istore_n (lv' := [(1, .int x0), (0, .ref h0)]) hx hb dX7_round_1 rfl hl (by decide) rfl (fun ls hl => ?_)
  refine r_iconst hx hb dX7_round_2 (by decide) (by decide) (fun x2 e2 => ?_)
  refine lv_istore_n (lv' := [(2, .int x2), (1, .int x0), (0, .ref h0)]) hx hb dX7_round_3 rfl hl (by decide) rfl (fun ls hl => ?_)
  have J4 : ∀ (n4 : Nat) (ls : Array Slot) (H : Heap) (locs : List Loc) (y4_1 : Int32) (y4_2 : Int32), (0 ≤ y4_2.toInt ∧ y4_2.toInt ≤ 5) → (5 - y4_2.toInt) < (n4 : Int) → TY z (zA z) gh H → va_S (zA z) s.heap H locs → lv_has ls 3 [(0, .ref h0), (1, .int y4_1), (2, .int y4_2)] → W p l e (rmF 2 84) s m ([.ref h0] : List Value).toArray below meth c H locs 0 0 (MQ below (QcI z (fun r H => TY z (zA z) gh H)) ([.ref h0] : List Value).toArray s 0 0 (zA z)) (F0 m 4 ls []) := by
    intro n4
    induction n4 with
    | zero => intro ls H locs y4_1 y4_2 j4_y4_2 mm4 hT hS hl; exfalso; omega
    | succ n4 ih4 =>
      intro ls H locs y4_1 y4_2 j4_y4_2 mm4 hT hS hl
      refine lv_iload_n hx hb dX7_round_4 rfl (lv_at hl 2 rfl) ?_
      refine lv_aload_n hx hb dX7_round_5 rfl (lv_at hl 0 rfl) ?_
      refine gt_Model_men hx hb hts ic_Model hown hK hT g0 (hts _ mw_4_73) dX7_round_6 (fun x6 i6 e6 g6 => ?_)
      refine r_icmp_ge (tgt := 44) hx hb dX7_round_9 (by decide) (fun c9 => ?_) (fun c9 => ?_)
      · refine lv_iload_n hx hb dX7_round_44 rfl (lv_at hl 1 rfl) ?_
        exact rt_i hx hb hr hlk hS hT dX7_round_45
      · refine lv_iload_n hx hb dX7_round_12 rfl (lv_at hl 1 rfl) ?_
        refine lv_aload_n hx hb dX7_round_13 rfl (lv_at hl 0 rfl) ?_
        refine gt_Model_now hx hb hts ic_Model hown hK hT g0 (hts _ mw_4_71) dX7_round_14 (fun q14 hq14 => ?_)
        refine r_bipush hx hb dX7_round_17 rfl (fun x17 e17 => ?_)
        refine lv_iload_n hx hb dX7_round_19 rfl (lv_at hl 2 rfl) ?_
        refine r_iadd hx hb dX7_round_20 (by omega) (by omega) (fun x20 e20 => ?_)
        refine al_41 hx hb hK hT hq14 (by omega) (by omega) dX7_round_21 (fun x21 i21 e21 => ?_)
        have n21 := ix_nat (i := x20) (by omega)
        have f21 := b59_r20 (p41_e e21) (by omega) (by omega)
        refine lv_iload_n hx hb dX7_round_22 rfl (lv_at hl 2 rfl) ?_
        have J31 : ∀ (ls : Array Slot) (H : Heap) (locs : List Loc) (t31_1 : Int32), (0 ≤ t31_1.toInt ∧ t31_1.toInt ≤ 1) → (5 - y4_2.toInt) < ((n4 + 1 : Nat) : Int) → TY z (zA z) gh H → va_S (zA z) s.heap H locs → lv_has ls 3 [(0, .ref h0), (1, .int y4_1), (2, .int y4_2)] → W p l e (rmF 2 84) s m ([.ref h0] : List Value).toArray below meth c H locs 0 0 (MQ below (QcI z (fun r H => TY z (zA z) gh H)) ([.ref h0] : List Value).toArray s 0 0 (zA z)) (F0 m 31 ls [.int t31_1, .int y4_1]) := by
          intro ls H locs t31_1 j31_t31_1 mf31_4 hT hS hl
          refine cl_Si (rest := [.int y4_1]) hC hK hSK (c_X7_flag l z gh t31_1 (by omega)) k_X7_flag mw_5_4 ⟨rfl, rfl, Nat.le_of_ble_eq_true rfl, Nat.le_of_ble_eq_true rfl⟩ hT rfl hl.1 rfl (Nat.le_of_ble_eq_true rfl) dX7_round_31 ⟨Nat.zero_le _, Nat.zero_le _⟩ hS (fun _ h => h) (fun _ _ h => h) (fun r31 H locs hpo hS => ?_)
          obtain ⟨hT, u31_0⟩ := hpo
          refine lv_iload_n hx hb dX7_round_34 rfl (lv_at hl 2 rfl) ?_
          refine w_ishl hx hb dX7_round_35 (fun x35 => ?_)
          refine w_ior hx hb dX7_round_36 (fun x36 => ?_)
          refine lv_istore_n (lv' := [(1, .int x36), (0, .ref h0), (2, .int y4_2)]) hx hb dX7_round_37 rfl hl (by decide) rfl (fun ls hl => ?_)
          refine r_iinc (lv' := fun v__ => [(2, .int v__), (1, .int x36), (0, .ref h0)]) hx hb dX7_round_38 hl (k := 2) rfl (by decide) (fun _ => rfl) ⟨by decide, by decide⟩ (by omega) (by omega) (fun x38 ls e38 hl => ?_)
          refine lv_goto (tgt := 4) hx hb dX7_round_41 (by decide) ?_
          exact ih4 ls _ _ x36 x38 (by omega) (by omega) hT hS (lv_sub hl [2, 1, 0] rfl)
        refine r_icmp_ne (tgt := 30) hx hb dX7_round_23 (by decide) (fun c23 => ?_) (fun c23 => ?_)
        · refine r_iconst hx hb dX7_round_30 (by decide) (by decide) (fun x30 e30 => ?_)
          exact J31 ls _ _ x30 (by omega) (by omega) hT hS (lv_sub hl [0, 1, 2] rfl)
        · refine r_iconst hx hb dX7_round_26 (by decide) (by decide) (fun x26 e26 => ?_)
          refine lv_goto (tgt := 31) hx hb dX7_round_27 (by decide) ?_
          exact J31 ls _ _ x26 (by omega) (by omega) hT hS (lv_sub hl [0, 1, 2] rfl)
  exact J4 (((5 - x2.toInt)).toNat + 1) ls _ _ x0 x2 (by omega) (by omega) hT hS (lv_sub hl [2, 1, 0] rfl)
theorem k_X7_meetings : cBV yX7_meetings cX7_meetings 3 (some .int) 0 := ⟨mw_5_115, ms_3_11, mw_1_8, mw_5_116, ⟨by decide, by decide, by decide⟩⟩
set_option maxHeartbeats 4000000 in
set_option maxRecDepth 100000 in
theorem c_X7_meetings (l : Launch) (z : Zt) (gh : Gh) (h0 o0 : Nat) (g0 : zG z h0 = (17, o0)) : Met l yX7_meetings (uw yX7_meetings cX7_meetings 3 (some .int)) (rmF 1 64) (PcW z [.ref h0] (fun H => TY z (zA z) gh H)) (QcI z (fun r H => TY z (zA z) gh H)) 0 0 (zA z) := by
  refine Met.ofW (cc := cX7_meetings) (maxL := 3) (ret := (some .int)) (by decide) rfl ?_
  intro p e s m args below meth c s₁ B hml hv
  obtain ⟨rfl, hW, hK, hSK⟩ := hv
  have hx := B.exec
  have hb := B.bytes
  have hr := B.returns
  have hts : ∀ w ∈ lw_ok, w.before ([.ref h0] : List Value).toArray s = true := fun w hw => atoms_spec (ws := uw yX7_meetings cX7_meetings 3 (some .int)) B.pre w (List.mem_cons_of_mem _ hw)
  have hown : s.vm.findClass RX7 = some m.cls := findClass_of_methodNamed B.named
  have hlk := B.notSynchronized
  have hC : CallFix p m c cX7_meetings 3 s ([.ref h0] : List Value).toArray lw_ok RX7 := ⟨hx, hb, hml, hown, hts⟩
  have hS : va_S (zA z) s.heap s.heap [] := va_S.rf
  have hl := lv_entry ([.ref h0]) (n := 3) (Nat.le_of_ble_eq_true rfl)
  rw [lg_entry_eq]
  generalize (lg_sl ([.ref h0]) ++ List.replicate (3 - (lg_sl ([.ref h0])).length) Slot.unset).toArray = ls at hl ⊢
  have hl : lv_has ls 3 [(0, .ref h0)] := hl
  show W p l e (rmF 1 64) s m ([.ref h0] : List Value).toArray below meth c s.heap [] 0 0 (MQ below (QcI z (fun r H => TY z (zA z) gh H)) ([.ref h0] : List Value).toArray s 0 0 (zA z)) (F0 m 0 ls [])
  have hT : TY z (zA z) gh s.heap := hW
  refine r_iconst hx hb dX7_meetings_0 (by decide) (by decide) (fun x0 e0 => ?_)
  refine lv_istore_n (lv' := [(1, .int x0), (0, .ref h0)]) hx hb dX7_meetings_1 rfl hl (by decide) rfl (fun ls hl => ?_)
  refine r_iconst hx hb dX7_meetings_2 (by decide) (by decide) (fun x2 e2 => ?_)
  refine lv_istore_n (lv' := [(2, .int x2), (1, .int x0), (0, .ref h0)]) hx hb dX7_meetings_3 rfl hl (by decide) rfl (fun ls hl => ?_)
  have J4 : ∀ (n4 : Nat) (ls : Array Slot) (H : Heap) (locs : List Loc) (y4_1 : Int32) (y4_2 : Int32), (0 ≤ y4_2.toInt ∧ y4_2.toInt ≤ 5) → (5 - y4_2.toInt) < (n4 : Int) → TY z (zA z) gh H → va_S (zA z) s.heap H locs → lv_has ls 3 [(0, .ref h0), (1, .int y4_1), (2, .int y4_2)] → W p l e (rmF 1 64) s m ([.ref h0] : List Value).toArray below meth c H locs 0 0 (MQ below (QcI z (fun r H => TY z (zA z) gh H)) ([.ref h0] : List Value).toArray s 0 0 (zA z)) (F0 m 4 ls []) := by
    intro n4
    induction n4 with
    | zero => intro ls H locs y4_1 y4_2 j4_y4_2 mm4 hT hS hl; exfalso; omega
    | succ n4 ih4 =>
      intro ls H locs y4_1 y4_2 j4_y4_2 mm4 hT hS hl
      refine lv_iload_n hx hb dX7_meetings_4 rfl (lv_at hl 2 rfl) ?_
      refine lv_aload_n hx hb dX7_meetings_5 rfl (lv_at hl 0 rfl) ?_
      refine gt_Model_men hx hb hts ic_Model hown hK hT g0 (hts _ mw_4_73) dX7_meetings_6 (fun x6 i6 e6 g6 => ?_)
      refine r_icmp_ge (tgt := 42) hx hb dX7_meetings_9 (by decide) (fun c9 => ?_) (fun c9 => ?_)
      · refine lv_iload_n hx hb dX7_meetings_42 rfl (lv_at hl 1 rfl) ?_
        exact rt_i hx hb hr hlk hS hT dX7_meetings_43
      · refine lv_iload_n hx hb dX7_meetings_12 rfl (lv_at hl 1 rfl) ?_
        refine lv_aload_n hx hb dX7_meetings_13 rfl (lv_at hl 0 rfl) ?_
        refine gt_Model_now hx hb hts ic_Model hown hK hT g0 (hts _ mw_4_71) dX7_meetings_14 (fun q14 hq14 => ?_)
        refine r_bipush hx hb dX7_meetings_17 rfl (fun x17 e17 => ?_)
        refine lv_iload_n hx hb dX7_meetings_19 rfl (lv_at hl 2 rfl) ?_
        refine r_iadd hx hb dX7_meetings_20 (by omega) (by omega) (fun x20 e20 => ?_)
        refine al_41 hx hb hK hT hq14 (by omega) (by omega) dX7_meetings_21 (fun x21 i21 e21 => ?_)
        have n21 := ix_nat (i := x20) (by omega)
        refine lv_aload_n hx hb dX7_meetings_22 rfl (lv_at hl 0 rfl) ?_
        refine gt_Model_now hx hb hts ic_Model hown hK hT g0 (hts _ mw_4_71) dX7_meetings_23 (fun q23 hq23 => ?_)
        refine r_bipush hx hb dX7_meetings_26 rfl (fun x26 e26 => ?_)
        refine lv_iload_n hx hb dX7_meetings_28 rfl (lv_at hl 2 rfl) ?_
        refine r_iadd hx hb dX7_meetings_29 (by omega) (by omega) (fun x29 e29 => ?_)
        refine al_41 hx hb hK hT hq23 (by omega) (by omega) dX7_meetings_30 (fun x30 i30 e30 => ?_)
        have n30 := ix_nat (i := x29) (by omega)
        have f30 := b59_r20 (p41_e e30) (by omega) (by omega)
        refine w_ishr hx hb dX7_meetings_31 (fun x31 => ?_)
        refine r_iconst hx hb dX7_meetings_32 (by decide) (by decide) (fun x32 e32 => ?_)
        refine w_iand hx hb dX7_meetings_33 (fun x33 => ?_)
        refine w_iadd hx hb dX7_meetings_34 (fun x34 => ?_)
        refine lv_istore_n (lv' := [(1, .int x34), (0, .ref h0), (2, .int y4_2)]) hx hb dX7_meetings_35 rfl hl (by decide) rfl (fun ls hl => ?_)
        refine r_iinc (lv' := fun v__ => [(2, .int v__), (1, .int x34), (0, .ref h0)]) hx hb dX7_meetings_36 hl (k := 2) rfl (by decide) (fun _ => rfl) ⟨by decide, by decide⟩ (by omega) (by omega) (fun x36 ls e36 hl => ?_)
        refine lv_goto (tgt := 4) hx hb dX7_meetings_39 (by decide) ?_
        exact ih4 ls _ _ x34 x36 (by omega) (by omega) hT hS (lv_sub hl [2, 1, 0] rfl)
  exact J4 (((5 - x2.toInt)).toNat + 1) ls _ _ x0 x2 (by omega) (by omega) hT hS (lv_sub hl [2, 1, 0] rfl)
theorem k_X7_allOf : cBV yX7_allOf cX7_allOf 4 (some .int) 1 := ⟨mw_5_119, ms_3_12, mw_1_8, mw_5_120, ⟨by decide, by decide, by decide⟩⟩
set_option maxHeartbeats 4000000 in
set_option maxRecDepth 100000 in
theorem c_X7_allOf (l : Launch) (z : Zt) (gh : Gh) (h0 o0 : Nat) (g0 : zG z h0 = (17, o0)) (p1 : Int32) (bp1 : 0 ≤ p1.toInt ∧ p1.toInt ≤ 3) (pr0 : zu z) : Met l yX7_allOf (uw yX7_allOf cX7_allOf 4 (some .int)) (rmF 2 86) (PcW z [.ref h0, .int p1] (fun H => TY z (zA z) gh H)) (QcI z (fun r H => TY z (zA z) gh H)) 0 0 (zA z) := by
  refine Met.ofW (cc := cX7_allOf) (maxL := 4) (ret := (some .int)) (by decide) rfl ?_
  intro p e s m args below meth c s₁ B hml hv
  obtain ⟨rfl, hW, hK, hSK⟩ := hv
  have hx := B.exec
  have hb := B.bytes
  have hr := B.returns
  have hts : ∀ w ∈ lw_ok, w.before ([.ref h0, .int p1] : List Value).toArray s = true := fun w hw => atoms_spec (ws := uw yX7_allOf cX7_allOf 4 (some .int)) B.pre w (List.mem_cons_of_mem _ hw)
  have hown : s.vm.findClass RX7 = some m.cls := findClass_of_methodNamed B.named
  have hlk := B.notSynchronized
  have hC : CallFix p m c cX7_allOf 4 s ([.ref h0, .int p1] : List Value).toArray lw_ok RX7 := ⟨hx, hb, hml, hown, hts⟩
  have hS : va_S (zA z) s.heap s.heap [] := va_S.rf
  have hl := lv_entry ([.ref h0, .int p1]) (n := 4) (Nat.le_of_ble_eq_true rfl)
  rw [lg_entry_eq]
  generalize (lg_sl ([.ref h0, .int p1]) ++ List.replicate (4 - (lg_sl ([.ref h0, .int p1])).length) Slot.unset).toArray = ls at hl ⊢
  have hl : lv_has ls 4 [(0, .ref h0), (1, .int p1)] := hl
  show W p l e (rmF 2 86) s m ([.ref h0, .int p1] : List Value).toArray below meth c s.heap [] 0 0 (MQ below (QcI z (fun r H => TY z (zA z) gh H)) ([.ref h0, .int p1] : List Value).toArray s 0 0 (zA z)) (F0 m 0 ls [])
  have hT : TY z (zA z) gh s.heap := hW
  refine r_iconst hx hb dX7_allOf_0 (by decide) (by decide) (fun x0 e0 => ?_)
  refine lv_istore_n (lv' := [(2, .int x0), (0, .ref h0), (1, .int p1)]) hx hb dX7_allOf_1 rfl hl (by decide) rfl (fun ls hl => ?_)
  refine r_iconst hx hb dX7_allOf_2 (by decide) (by decide) (fun x2 e2 => ?_)
  refine lv_istore_n (lv' := [(3, .int x2), (2, .int x0), (0, .ref h0), (1, .int p1)]) hx hb dX7_allOf_3 rfl hl (by decide) rfl (fun ls hl => ?_)
  have J4 : ∀ (n4 : Nat) (ls : Array Slot) (H : Heap) (locs : List Loc) (y4_2 : Int32) (y4_3 : Int32), (0 ≤ y4_3.toInt ∧ y4_3.toInt ≤ 5) → (5 - y4_3.toInt) < (n4 : Int) → TY z (zA z) gh H → va_S (zA z) s.heap H locs → lv_has ls 4 [(0, .ref h0), (1, .int p1), (2, .int y4_2), (3, .int y4_3)] → W p l e (rmF 2 86) s m ([.ref h0, .int p1] : List Value).toArray below meth c H locs 0 0 (MQ below (QcI z (fun r H => TY z (zA z) gh H)) ([.ref h0, .int p1] : List Value).toArray s 0 0 (zA z)) (F0 m 4 ls []) := by
    intro n4
    induction n4 with
    | zero => intro ls H locs y4_2 y4_3 j4_y4_3 mm4 hT hS hl; exfalso; omega
    | succ n4 ih4 =>
      intro ls H locs y4_2 y4_3 j4_y4_3 mm4 hT hS hl
      refine lv_iload_n hx hb dX7_allOf_4 rfl (lv_at hl 3 rfl) ?_
      refine lv_aload_n hx hb dX7_allOf_5 rfl (lv_at hl 0 rfl) ?_
      refine gt_Model_men hx hb hts ic_Model hown hK hT g0 (hts _ mw_4_73) dX7_allOf_6 (fun x6 i6 e6 g6 => ?_)
      refine r_icmp_ge (tgt := 27) hx hb dX7_allOf_9 (by decide) (fun c9 => ?_) (fun c9 => ?_)
      · refine lv_iload_n hx hb dX7_allOf_27 rfl (lv_at hl 2 rfl) ?_
        exact rt_i hx hb hr hlk hS hT dX7_allOf_28
      · refine lv_iload_n hx hb dX7_allOf_12 rfl (lv_at hl 2 rfl) ?_
        refine lv_aload_n hx hb dX7_allOf_13 rfl (lv_at hl 0 rfl) ?_
        refine lv_iload_n hx hb dX7_allOf_14 rfl (lv_at hl 3 rfl) ?_
        refine lv_iload_n hx hb dX7_allOf_15 rfl (lv_at hl 1 rfl) ?_
        refine cl_Vi (rest := [.int y4_2]) hC hK hSK (c_X7_of l z gh h0 (o0) g0 y4_3 p1 (by omega) (by omega) pr0) k_X7_of mw_5_15 ⟨rfl, rfl, Nat.le_of_ble_eq_true rfl, Nat.le_of_ble_eq_true rfl⟩ (rv_Model hK hT g0) hT rfl hl.1 rfl (Nat.le_of_ble_eq_true rfl) dX7_allOf_16 ⟨Nat.zero_le _, Nat.zero_le _⟩ hS (fun _ h => h) (fun _ _ h => h) (fun r16 H locs hpo hS => ?_)
        obtain ⟨hT, u16_0, u16_1⟩ := hpo
        refine w_iadd hx hb dX7_allOf_19 (fun x19 => ?_)
        refine lv_istore_n (lv' := [(2, .int x19), (0, .ref h0), (1, .int p1), (3, .int y4_3)]) hx hb dX7_allOf_20 rfl hl (by decide) rfl (fun ls hl => ?_)
        refine r_iinc (lv' := fun v__ => [(3, .int v__), (2, .int x19), (0, .ref h0), (1, .int p1)]) hx hb dX7_allOf_21 hl (k := 3) rfl (by decide) (fun _ => rfl) ⟨by decide, by decide⟩ (by omega) (by omega) (fun x21 ls e21 hl => ?_)
        refine lv_goto (tgt := 4) hx hb dX7_allOf_24 (by decide) ?_
        exact ih4 ls _ _ x19 x21 (by omega) (by omega) hT hS (lv_sub hl [2, 3, 1, 0] rfl)
  exact J4 (((5 - x2.toInt)).toNat + 1) ls _ _ x0 x2 (by omega) (by omega) hT hS (lv_sub hl [2, 3, 1, 0] rfl)
theorem k_X7_programGoes : cBV yX7_programGoes cX7_programGoes 2 none 0 := ⟨mw_5_184, ms_4_0, mw_1_8, mw_5_185, ⟨by decide, by decide, by decide⟩⟩
set_option maxHeartbeats 4000000 in
set_option maxRecDepth 100000 in
theorem c_X7_programGoes (l : Launch) (z : Zt) (gh : Gh) (h0 o0 : Nat) (g0 : zG z h0 = (17, o0)) (pr0 : zu z) (pr1 : nowOK (gh.1 h0)) : Met l yX7_programGoes (uw yX7_programGoes cX7_programGoes 2 none) (rmF 8 222) (PcW z [.ref h0] (fun H => TY z (zA z) gh H)) (QcV z (fun H => ∃ gk : Gh, deq z gk gh ∧ TY z (zA z) gk H)) 0 0 (zA z) := by
  refine Met.ofW (cc := cX7_programGoes) (maxL := 2) (ret := none) (by decide) rfl ?_
  intro p e s m args below meth c s₁ B hml hv
  obtain ⟨rfl, hW, hK, hSK⟩ := hv
  have hx := B.exec
  have hb := B.bytes
  have hr := B.returns
  have hts : ∀ w ∈ lw_ok, w.before ([.ref h0] : List Value).toArray s = true := fun w hw => atoms_spec (ws := uw yX7_programGoes cX7_programGoes 2 none) B.pre w (List.mem_cons_of_mem _ hw)
  have hown : s.vm.findClass RX7 = some m.cls := findClass_of_methodNamed B.named
  have hlk := B.notSynchronized
  have hC : CallFix p m c cX7_programGoes 2 s ([.ref h0] : List Value).toArray lw_ok RX7 := ⟨hx, hb, hml, hown, hts⟩
  have hS : va_S (zA z) s.heap s.heap [] := va_S.rf
  have hl := lv_entry ([.ref h0]) (n := 2) (Nat.le_of_ble_eq_true rfl)
  rw [lg_entry_eq]
  generalize (lg_sl ([.ref h0]) ++ List.replicate (2 - (lg_sl ([.ref h0])).length) Slot.unset).toArray = ls at hl ⊢
  have hl : lv_has ls 2 [(0, .ref h0)] := hl
  show W p l e (rmF 8 222) s m ([.ref h0] : List Value).toArray below meth c s.heap [] 0 0 (MQ below (QcV z (fun H => ∃ gk : Gh, deq z gk gh ∧ TY z (zA z) gk H)) ([.ref h0] : List Value).toArray s 0 0 (zA z)) (F0 m 0 ls [])
  have hT : TY z (zA z) gh s.heap := hW
  have hg1 : deq z gh gh := deq_rf z gh
  refine r_iconst hx hb dX7_programGoes_0 (by decide) (by decide) (fun x0 e0 => ?_)
  refine lv_istore_n (lv' := [(1, .int x0), (0, .ref h0)]) hx hb dX7_programGoes_1 rfl hl (by decide) rfl (fun ls hl => ?_)
  have J2 : ∀ (n2 : Nat) (ls : Array Slot) (H : Heap) (locs : List Loc) (y2_1 : Int32) (gk : Gh), (0 ≤ y2_1.toInt ∧ y2_1.toInt ≤ 8) → (8 - y2_1.toInt) < (n2 : Int) → deq z gk gh → TY z (zA z) gk H → va_S (zA z) s.heap H locs → lv_has ls 2 [(0, .ref h0), (1, .int y2_1)] → W p l e (rmF 8 222) s m ([.ref h0] : List Value).toArray below meth c H locs 0 0 (MQ below (QcV z (fun H => ∃ gk : Gh, deq z gk gh ∧ TY z (zA z) gk H)) ([.ref h0] : List Value).toArray s 0 0 (zA z)) (F0 m 2 ls []) := by
    intro n2
    induction n2 with
    | zero => intro ls H locs y2_1 gk j2_y2_1 mm2 hg1 hT hS hl; exfalso; omega
    | succ n2 ih2 =>
      intro ls H locs y2_1 gk j2_y2_1 mm2 hg1 hT hS hl
      refine lv_iload_n hx hb dX7_programGoes_2 rfl (lv_at hl 1 rfl) ?_
      refine lv_aload_n hx hb dX7_programGoes_3 rfl (lv_at hl 0 rfl) ?_
      refine gt_Model_now hx hb hts ic_Model hown hK hT g0 (hts _ mw_4_71) dX7_programGoes_4 (fun q4 hq4 => ?_)
      refine r_bipush hx hb dX7_programGoes_7 rfl (fun x7 e7 => ?_)
      refine al_41 hx hb hK hT hq4 (by omega) (by omega) dX7_programGoes_9 (fun x9 i9 e9 => ?_)
      have n9 := ix_nat (i := x7) (by omega)
      have f9 := b59_r31 (p41_e e9) (by omega)
      refine r_icmp_ge (tgt := 32) hx hb dX7_programGoes_10 (by decide) (fun c10 => ?_) (fun c10 => ?_)
      · exact rt_v hx hb hr hlk hS ⟨_, hg1, hT⟩ dX7_programGoes_32
      · refine lv_aload_n hx hb dX7_programGoes_13 rfl (lv_at hl 0 rfl) ?_
        refine lv_aload_n hx hb dX7_programGoes_14 rfl (lv_at hl 0 rfl) ?_
        refine gt_Model_now hx hb hts ic_Model hown hK hT g0 (hts _ mw_4_71) dX7_programGoes_15 (fun q15 hq15 => ?_)
        refine r_bipush hx hb dX7_programGoes_18 rfl (fun x18 e18 => ?_)
        refine lv_iload_n hx hb dX7_programGoes_20 rfl (lv_at hl 1 rfl) ?_
        refine r_iadd hx hb dX7_programGoes_21 (by omega) (by omega) (fun x21 e21 => ?_)
        refine al_41 hx hb hK hT hq15 (by omega) (by omega) dX7_programGoes_22 (fun x22 i22 e22 => ?_)
        have n22 := ix_nat (i := x21) (by omega)
        refine cl_Vv (rest := []) hC hK hSK (c_X7_danceOn l z gk h0 (o0) g0 x22 pr0 (by rw [hg1.1]; exact pr1)) k_X7_danceOn mw_5_88 ⟨rfl, rfl, Nat.le_of_ble_eq_true rfl, Nat.le_of_ble_eq_true rfl⟩ (rv_Model hK hT g0) hT rfl hl.1 rfl (Nat.le_of_ble_eq_true rfl) dX7_programGoes_23 ⟨Nat.zero_le _, Nat.zero_le _⟩ hS (fun _ h => h) (fun _ _ h => h) (fun H locs hpo hS => ?_)
        obtain ⟨gk23, hz23, hT⟩ := hpo
        have hg1 := deq_tr hz23 hg1
        refine r_iinc (lv' := fun v__ => [(1, .int v__), (0, .ref h0)]) hx hb dX7_programGoes_26 hl (k := 1) rfl (by decide) (fun _ => rfl) ⟨by decide, by decide⟩ (by omega) (by omega) (fun x26 ls e26 hl => ?_)
        refine lv_goto (tgt := 2) hx hb dX7_programGoes_29 (by decide) ?_
        exact ih2 ls _ _ x26 _ (by omega) (by omega) hg1 hT hS (lv_sub hl [1, 0] rfl)
  exact J2 (((8 - x0.toInt)).toNat + 1) ls _ _ x0 _ (by omega) (by omega) hg1 hT hS (lv_sub hl [1, 0] rfl)
theorem k_X7_kinMany : cBV yX7_kinMany cX7_kinMany 3 (some .int) 0 := ⟨mw_4_235, ms_2_12, mw_1_8, mw_4_236, ⟨by decide, by decide, by decide⟩⟩
set_option maxHeartbeats 4000000 in
set_option maxRecDepth 100000 in
theorem c_X7_kinMany (l : Launch) (z : Zt) (gh : Gh) (h0 o0 : Nat) (g0 : zG z h0 = (17, o0)) : Met l yX7_kinMany (uw yX7_kinMany cX7_kinMany 3 (some .int)) (rmF 2 86) (PcW z [.ref h0] (fun H => TY z (zA z) gh H)) (QcI z (fun r H => TY z (zA z) gh H)) 0 0 (zA z) := by
  refine Met.ofW (cc := cX7_kinMany) (maxL := 3) (ret := (some .int)) (by decide) rfl ?_
  intro p e s m args below meth c s₁ B hml hv
  obtain ⟨rfl, hW, hK, hSK⟩ := hv
  have hx := B.exec
  have hb := B.bytes
  have hr := B.returns
  have hts : ∀ w ∈ lw_ok, w.before ([.ref h0] : List Value).toArray s = true := fun w hw => atoms_spec (ws := uw yX7_kinMany cX7_kinMany 3 (some .int)) B.pre w (List.mem_cons_of_mem _ hw)
  have hown : s.vm.findClass RX7 = some m.cls := findClass_of_methodNamed B.named
  have hlk := B.notSynchronized
  have hC : CallFix p m c cX7_kinMany 3 s ([.ref h0] : List Value).toArray lw_ok RX7 := ⟨hx, hb, hml, hown, hts⟩
  have hS : va_S (zA z) s.heap s.heap [] := va_S.rf
  have hl := lv_entry ([.ref h0]) (n := 3) (Nat.le_of_ble_eq_true rfl)
  rw [lg_entry_eq]
  generalize (lg_sl ([.ref h0]) ++ List.replicate (3 - (lg_sl ([.ref h0])).length) Slot.unset).toArray = ls at hl ⊢
  have hl : lv_has ls 3 [(0, .ref h0)] := hl
  show W p l e (rmF 2 86) s m ([.ref h0] : List Value).toArray below meth c s.heap [] 0 0 (MQ below (QcI z (fun r H => TY z (zA z) gh H)) ([.ref h0] : List Value).toArray s 0 0 (zA z)) (F0 m 0 ls [])
  have hT : TY z (zA z) gh s.heap := hW
  refine r_iconst hx hb dX7_kinMany_0 (by decide) (by decide) (fun x0 e0 => ?_)
  refine lv_istore_n (lv' := [(1, .int x0), (0, .ref h0)]) hx hb dX7_kinMany_1 rfl hl (by decide) rfl (fun ls hl => ?_)
  refine r_iconst hx hb dX7_kinMany_2 (by decide) (by decide) (fun x2 e2 => ?_)
  refine lv_istore_n (lv' := [(2, .int x2), (1, .int x0), (0, .ref h0)]) hx hb dX7_kinMany_3 rfl hl (by decide) rfl (fun ls hl => ?_)
  have J4 : ∀ (n4 : Nat) (ls : Array Slot) (H : Heap) (locs : List Loc) (y4_1 : Int32) (y4_2 : Int32), (0 ≤ y4_2.toInt ∧ y4_2.toInt ≤ 5) → (5 - y4_2.toInt) < (n4 : Int) → TY z (zA z) gh H → va_S (zA z) s.heap H locs → lv_has ls 3 [(0, .ref h0), (1, .int y4_1), (2, .int y4_2)] → W p l e (rmF 2 86) s m ([.ref h0] : List Value).toArray below meth c H locs 0 0 (MQ below (QcI z (fun r H => TY z (zA z) gh H)) ([.ref h0] : List Value).toArray s 0 0 (zA z)) (F0 m 4 ls []) := by
    intro n4
    induction n4 with
    | zero => intro ls H locs y4_1 y4_2 j4_y4_2 mm4 hT hS hl; exfalso; omega
    | succ n4 ih4 =>
      intro ls H locs y4_1 y4_2 j4_y4_2 mm4 hT hS hl
      refine lv_iload_n hx hb dX7_kinMany_4 rfl (lv_at hl 2 rfl) ?_
      refine r_iconst hx hb dX7_kinMany_5 (by decide) (by decide) (fun x5 e5 => ?_)
      refine r_icmp_ge (tgt := 30) hx hb dX7_kinMany_6 (by decide) (fun c6 => ?_) (fun c6 => ?_)
      · refine lv_iload_n hx hb dX7_kinMany_30 rfl (lv_at hl 1 rfl) ?_
        exact rt_i hx hb hr hlk hS hT dX7_kinMany_31
      · refine lv_iload_n hx hb dX7_kinMany_9 rfl (lv_at hl 1 rfl) ?_
        refine lv_aload_n hx hb dX7_kinMany_10 rfl (lv_at hl 0 rfl) ?_
        refine gt_Model_st hx hb hts ic_Model hown hK hT g0 (hts _ mw_4_70) dX7_kinMany_11 (fun q11 hq11 => ?_)
        refine r_bipush hx hb dX7_kinMany_14 rfl (fun x14 e14 => ?_)
        refine lv_iload_n hx hb dX7_kinMany_16 rfl (lv_at hl 2 rfl) ?_
        refine r_iadd hx hb dX7_kinMany_17 (by omega) (by omega) (fun x17 e17 => ?_)
        refine al_40 hx hb hK hT hq11 (by omega) (by omega) dX7_kinMany_18 (fun x18 i18 e18 => ?_)
        have n18 := ix_nat (i := x17) (by omega)
        refine cl_Si (rest := [.int y4_1]) hC hK hSK (c_X7_bitsOf l z gh x18) k_X7_bitsOf mw_4_237 ⟨rfl, rfl, Nat.le_of_ble_eq_true rfl, Nat.le_of_ble_eq_true rfl⟩ hT rfl hl.1 rfl (Nat.le_of_ble_eq_true rfl) dX7_kinMany_19 ⟨Nat.zero_le _, Nat.zero_le _⟩ hS (fun _ h => h) (fun _ _ h => h) (fun r19 H locs hpo hS => ?_)
        have hT := hpo
        refine w_iadd hx hb dX7_kinMany_22 (fun x22 => ?_)
        refine lv_istore_n (lv' := [(1, .int x22), (0, .ref h0), (2, .int y4_2)]) hx hb dX7_kinMany_23 rfl hl (by decide) rfl (fun ls hl => ?_)
        refine r_iinc (lv' := fun v__ => [(2, .int v__), (1, .int x22), (0, .ref h0)]) hx hb dX7_kinMany_24 hl (k := 2) rfl (by decide) (fun _ => rfl) ⟨by decide, by decide⟩ (by omega) (by omega) (fun x24 ls e24 hl => ?_)
        refine lv_goto (tgt := 4) hx hb dX7_kinMany_27 (by decide) ?_
        exact ih4 ls _ _ x22 x24 (by omega) (by omega) hT hS (lv_sub hl [2, 1, 0] rfl)
  exact J4 (((5 - x2.toInt)).toNat + 1) ls _ _ x0 x2 (by omega) (by omega) hT hS (lv_sub hl [2, 1, 0] rfl)
theorem k_X7_partnerOf : cBV yX7_partnerOf cX7_partnerOf 4 (some .int) 1 := ⟨mw_5_33, ms_3_3, mw_1_8, mw_5_34, ⟨by decide, by decide, by decide⟩⟩
set_option maxHeartbeats 4000000 in
set_option maxRecDepth 100000 in
theorem c_X7_partnerOf (l : Launch) (z : Zt) (gh : Gh) (h0 o0 : Nat) (g0 : zG z h0 = (17, o0)) (p1 : Int32) : Met l yX7_partnerOf (uw yX7_partnerOf cX7_partnerOf 4 (some .int)) (rmF 1 64) (PcW z [.ref h0, .int p1] (fun H => TY z (zA z) gh H)) (QcI z (fun r H => TY z (zA z) gh H)) 0 0 (zA z) := by
  refine Met.ofW (cc := cX7_partnerOf) (maxL := 4) (ret := (some .int)) (by decide) rfl ?_
  intro p e s m args below meth c s₁ B hml hv
  obtain ⟨rfl, hW, hK, hSK⟩ := hv
  have hx := B.exec
  have hb := B.bytes
  have hr := B.returns
  have hts : ∀ w ∈ lw_ok, w.before ([.ref h0, .int p1] : List Value).toArray s = true := fun w hw => atoms_spec (ws := uw yX7_partnerOf cX7_partnerOf 4 (some .int)) B.pre w (List.mem_cons_of_mem _ hw)
  have hown : s.vm.findClass RX7 = some m.cls := findClass_of_methodNamed B.named
  have hlk := B.notSynchronized
  have hC : CallFix p m c cX7_partnerOf 4 s ([.ref h0, .int p1] : List Value).toArray lw_ok RX7 := ⟨hx, hb, hml, hown, hts⟩
  have hS : va_S (zA z) s.heap s.heap [] := va_S.rf
  have hl := lv_entry ([.ref h0, .int p1]) (n := 4) (Nat.le_of_ble_eq_true rfl)
  rw [lg_entry_eq]
  generalize (lg_sl ([.ref h0, .int p1]) ++ List.replicate (4 - (lg_sl ([.ref h0, .int p1])).length) Slot.unset).toArray = ls at hl ⊢
  have hl : lv_has ls 4 [(0, .ref h0), (1, .int p1)] := hl
  show W p l e (rmF 1 64) s m ([.ref h0, .int p1] : List Value).toArray below meth c s.heap [] 0 0 (MQ below (QcI z (fun r H => TY z (zA z) gh H)) ([.ref h0, .int p1] : List Value).toArray s 0 0 (zA z)) (F0 m 0 ls [])
  have hT : TY z (zA z) gh s.heap := hW
  have mx_p1 := i_mx p1
  refine r_bipush hx hb dX7_partnerOf_0 rfl (fun x0 e0 => ?_)
  refine lv_istore_n (lv' := [(2, .int x0), (0, .ref h0), (1, .int p1)]) hx hb dX7_partnerOf_2 rfl hl (by decide) rfl (fun ls hl => ?_)
  refine r_iconst hx hb dX7_partnerOf_3 (by decide) (by decide) (fun x3 e3 => ?_)
  refine lv_istore_n (lv' := [(3, .int x3), (2, .int x0), (0, .ref h0), (1, .int p1)]) hx hb dX7_partnerOf_4 rfl hl (by decide) rfl (fun ls hl => ?_)
  have J5 : ∀ (n5 : Nat) (ls : Array Slot) (H : Heap) (locs : List Loc) (y5_2 : Int32) (y5_3 : Int32), (-4 ≤ y5_2.toInt ∧ y5_2.toInt ≤ 4) → (0 ≤ y5_3.toInt ∧ y5_3.toInt ≤ 5) → (5 - y5_3.toInt) < (n5 : Int) → TY z (zA z) gh H → va_S (zA z) s.heap H locs → lv_has ls 4 [(0, .ref h0), (1, .int p1), (2, .int y5_2), (3, .int y5_3)] → W p l e (rmF 1 64) s m ([.ref h0, .int p1] : List Value).toArray below meth c H locs 0 0 (MQ below (QcI z (fun r H => TY z (zA z) gh H)) ([.ref h0, .int p1] : List Value).toArray s 0 0 (zA z)) (F0 m 5 ls []) := by
    intro n5
    induction n5 with
    | zero => intro ls H locs y5_2 y5_3 j5_y5_2 j5_y5_3 mm5 hT hS hl; exfalso; omega
    | succ n5 ih5 =>
      intro ls H locs y5_2 y5_3 j5_y5_2 j5_y5_3 mm5 hT hS hl
      refine lv_iload_n hx hb dX7_partnerOf_5 rfl (lv_at hl 3 rfl) ?_
      refine lv_aload_n hx hb dX7_partnerOf_6 rfl (lv_at hl 0 rfl) ?_
      refine gt_Model_men hx hb hts ic_Model hown hK hT g0 (hts _ mw_4_73) dX7_partnerOf_7 (fun x7 i7 e7 g7 => ?_)
      refine r_icmp_ge (tgt := 38) hx hb dX7_partnerOf_10 (by decide) (fun c10 => ?_) (fun c10 => ?_)
      · refine lv_iload_n hx hb dX7_partnerOf_38 rfl (lv_at hl 2 rfl) ?_
        exact rt_i hx hb hr hlk hS hT dX7_partnerOf_39
      · refine lv_aload_n hx hb dX7_partnerOf_13 rfl (lv_at hl 0 rfl) ?_
        refine gt_Model_now hx hb hts ic_Model hown hK hT g0 (hts _ mw_4_71) dX7_partnerOf_14 (fun q14 hq14 => ?_)
        refine r_bipush hx hb dX7_partnerOf_17 rfl (fun x17 e17 => ?_)
        refine lv_iload_n hx hb dX7_partnerOf_19 rfl (lv_at hl 3 rfl) ?_
        refine r_iadd hx hb dX7_partnerOf_20 (by omega) (by omega) (fun x20 e20 => ?_)
        refine al_41 hx hb hK hT hq14 (by omega) (by omega) dX7_partnerOf_21 (fun x21 i21 e21 => ?_)
        have n21 := ix_nat (i := x20) (by omega)
        have f21 := b59_r20 (p41_e e21) (by omega) (by omega)
        refine lv_iload_n hx hb dX7_partnerOf_22 rfl (lv_at hl 1 rfl) ?_
        have J31 : ∀ (ls : Array Slot) (H : Heap) (locs : List Loc) (t31_0 : Int32), (-4 ≤ t31_0.toInt ∧ t31_0.toInt ≤ 4) → (5 - y5_3.toInt) < ((n5 + 1 : Nat) : Int) → TY z (zA z) gh H → va_S (zA z) s.heap H locs → lv_has ls 4 [(0, .ref h0), (1, .int p1), (2, .int y5_2), (3, .int y5_3)] → W p l e (rmF 1 64) s m ([.ref h0, .int p1] : List Value).toArray below meth c H locs 0 0 (MQ below (QcI z (fun r H => TY z (zA z) gh H)) ([.ref h0, .int p1] : List Value).toArray s 0 0 (zA z)) (F0 m 31 ls [.int t31_0]) := by
          intro ls H locs t31_0 j31_t31_0 mf31_5 hT hS hl
          refine lv_istore_n (lv' := [(2, .int t31_0), (0, .ref h0), (1, .int p1), (3, .int y5_3)]) hx hb dX7_partnerOf_31 rfl hl (by decide) rfl (fun ls hl => ?_)
          refine r_iinc (lv' := fun v__ => [(3, .int v__), (2, .int t31_0), (0, .ref h0), (1, .int p1)]) hx hb dX7_partnerOf_32 hl (k := 3) rfl (by decide) (fun _ => rfl) ⟨by decide, by decide⟩ (by omega) (by omega) (fun x32 ls e32 hl => ?_)
          refine lv_goto (tgt := 5) hx hb dX7_partnerOf_35 (by decide) ?_
          exact ih5 ls _ _ t31_0 x32 (by omega) (by omega) (by omega) hT hS (lv_sub hl [2, 3, 1, 0] rfl)
        refine r_icmp_ne (tgt := 30) hx hb dX7_partnerOf_23 (by decide) (fun c23 => ?_) (fun c23 => ?_)
        · refine lv_iload_n hx hb dX7_partnerOf_30 rfl (lv_at hl 2 rfl) ?_
          exact J31 ls _ _ y5_2 (by omega) (by omega) hT hS (lv_sub hl [0, 1, 2, 3] rfl)
        · refine lv_iload_n hx hb dX7_partnerOf_26 rfl (lv_at hl 3 rfl) ?_
          refine lv_goto (tgt := 31) hx hb dX7_partnerOf_27 (by decide) ?_
          exact J31 ls _ _ y5_3 (by omega) (by omega) hT hS (lv_sub hl [0, 1, 2, 3] rfl)
  exact J5 (((5 - x3.toInt)).toNat + 1) ls _ _ x0 x3 (by omega) (by omega) (by omega) hT hS (lv_sub hl [2, 3, 1, 0] rfl)
