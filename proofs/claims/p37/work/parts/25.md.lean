theorem k_X7_bitsOf : cBS yX7_bitsOf cX7_bitsOf 3 (some .int) 1 := ⟨mw_4_238, mw_1_8, mw_4_239, ⟨by decide, by decide, by decide⟩⟩
set_option maxHeartbeats 4000000 in
set_option maxRecDepth 100000 in
theorem c_X7_bitsOf (l : Launch) (z : Zt) (σ : Sg) (p1 : Int32) (out : Int) (hF : D_X7_bitsOf p1.toInt = some out) : Met l yX7_bitsOf (uw yX7_bitsOf cX7_bitsOf 3 (some .int)) (rmF 1 64) (PcW z [.int p1] (fun H => TY z (zA z) σ H)) (QcI z (fun r H => some r.toInt = some out ∧ TY z (zA z) σ H)) 0 0 (zA z) := by
  refine Met.ofW (cc := cX7_bitsOf) (maxL := 3) (ret := (some .int)) (by decide) rfl ?_
  intro p e s m args below meth c s₁ B hml hv
  obtain ⟨rfl, hT, hK, hSK⟩ := hv
  have hx := B.exec
  have hb := B.bytes
  have hr := B.returns
  have hts : ∀ w ∈ lw_ok, w.before ([.int p1] : List Value).toArray s = true := fun w hw => atoms_spec (ws := uw yX7_bitsOf cX7_bitsOf 3 (some .int)) B.pre w (List.mem_cons_of_mem _ hw)
  have hown : s.vm.findClass RX7 = some m.cls := findClass_of_methodNamed B.named
  have hlk := B.notSynchronized
  have hC : CallFix p m c cX7_bitsOf 3 s ([.int p1] : List Value).toArray lw_ok RX7 := ⟨hx, hb, hml, hown, hts⟩
  have hS : va_S (zA z) s.heap s.heap [] := va_S.rf
  have hl := lv_entry ([.int p1]) (n := 3) (Nat.le_of_ble_eq_true rfl)
  rw [lg_entry_eq]
  generalize (lg_sl ([.int p1]) ++ List.replicate (3 - (lg_sl ([.int p1])).length) Slot.unset).toArray = ls at hl ⊢
  have hl : lv_has ls 3 [(0, .int p1)] := hl
  show W p l e (rmF 1 64) s m ([.int p1] : List Value).toArray below meth c s.heap [] 0 0 (MQ below (QcI z (fun r H => some r.toInt = some out ∧ TY z (zA z) σ H)) ([.int p1] : List Value).toArray s 0 0 (zA z)) (F0 m 0 ls [])
  unfold D_X7_bitsOf at hF
  have mx_p1 := i_mx p1
  refine r_iconst hx hb dX7_bitsOf_0 (by decide) (by decide) (fun x0 e0 => ?_)
  have hF := bn hF e0
  refine lv_istore_n (lv' := [(1, .int x0), (0, .int p1)]) hx hb dX7_bitsOf_1 rfl hl (by decide) rfl (fun ls hl => ?_)
  refine r_iconst hx hb dX7_bitsOf_2 (by decide) (by decide) (fun x2 e2 => ?_)
  have hF := bn hF e2
  refine lv_istore_n (lv' := [(2, .int x2), (1, .int x0), (0, .int p1)]) hx hb dX7_bitsOf_3 rfl hl (by decide) rfl (fun ls hl => ?_)
  have J4 : ∀ (n4 : Nat) (ls : Array Slot) (H : Heap) (locs : List Loc) (y4_1 : Int32) (y4_2 : Int32), (0 ≤ y4_2.toInt ∧ y4_2.toInt ≤ 8) → D_X7_bitsOf_4 p1.toInt n4 y4_1.toInt y4_2.toInt = some out → TY z (zA z) σ H → va_S (zA z) s.heap H locs → lv_has ls 3 [(0, .int p1), (1, .int y4_1), (2, .int y4_2)] → W p l e (rmF 1 64) s m ([.int p1] : List Value).toArray below meth c H locs 0 0 (MQ below (QcI z (fun r H => some r.toInt = some out ∧ TY z (zA z) σ H)) ([.int p1] : List Value).toArray s 0 0 (zA z)) (F0 m 4 ls []) := by
    intro n4
    induction n4 with
    | zero => intro ls H locs y4_1 y4_2 j4_y4_2 hF hT hS hl; exact (no_s hF).elim
    | succ n4 ih4 =>
      intro ls H locs y4_1 y4_2 j4_y4_2 hF hT hS hl
      rw [D_X7_bitsOf_4.eq_2] at hF
      refine lv_iload_n hx hb dX7_bitsOf_4 rfl (lv_at hl 2 rfl) ?_
      refine r_bipush hx hb dX7_bitsOf_5 rfl (fun x5 e5 => ?_)
      have hF := bn hF e5
      refine r_icmp_ge (tgt := 24) hx hb dX7_bitsOf_7 (by decide) (fun c7 => ?_) (fun c7 => ?_)
      · have hF := ifn hF (Int.not_lt.mpr c7)
        refine lv_iload_n hx hb dX7_bitsOf_24 rfl (lv_at hl 1 rfl) ?_
        exact rt_i hx hb hr hlk hS ⟨hF, hT⟩ dX7_bitsOf_25
      · have hF := ifp hF c7
        refine lv_iload_n hx hb dX7_bitsOf_10 rfl (lv_at hl 1 rfl) ?_
        refine lv_iload_n hx hb dX7_bitsOf_11 rfl (lv_at hl 0 rfl) ?_
        refine lv_iload_n hx hb dX7_bitsOf_12 rfl (lv_at hl 2 rfl) ?_
        refine x_ishr hx hb dX7_bitsOf_13 (fun x13 e13 => ?_)
        have hF := bn hF e13
        refine r_iconst hx hb dX7_bitsOf_14 (by decide) (by decide) (fun x14 e14 => ?_)
        have hF := bn hF e14
        refine x_iandr hx hb dX7_bitsOf_15 (by omega) (fun x15 e15 g15 h15 => ?_)
        have hF := bn hF e15
        refine x_iadd hx hb dX7_bitsOf_16 (fun x16 e16 => ?_)
        have hF := bn hF e16
        refine lv_istore_n (lv' := [(1, .int x16), (0, .int p1), (2, .int y4_2)]) hx hb dX7_bitsOf_17 rfl hl (by decide) rfl (fun ls hl => ?_)
        refine r_iinc (lv' := fun v__ => [(2, .int v__), (1, .int x16), (0, .int p1)]) hx hb dX7_bitsOf_18 hl (k := 2) rfl (by decide) (fun _ => rfl) ⟨by decide, by decide⟩ (by omega) (by omega) (fun x18 ls e18 hl => ?_)
        have hF := bn hF e18
        refine lv_goto (tgt := 4) hx hb dX7_bitsOf_21 (by decide) ?_
        exact ih4 ls _ _ x16 x18 (by omega) hF hT hS (lv_sub hl [2, 1, 0] rfl)
  exact J4 5000 ls _ _ x0 x2 (by omega) hF hT hS (lv_sub hl [2, 1, 0] rfl)
theorem k_X7_power : cBS yX7_power cX7_power 4 (some .int) 2 := ⟨mw_5_143, mw_1_8, mw_5_144, ⟨by decide, by decide, by decide⟩⟩
set_option maxHeartbeats 4000000 in
set_option maxRecDepth 100000 in
theorem c_X7_power (l : Launch) (z : Zt) (σ : Sg) (p1 : Int32) (p2 : Int32) (out : Int) (hF : D_X7_power p1.toInt p2.toInt = some out) : Met l yX7_power (uw yX7_power cX7_power 4 (some .int)) (rmF 1 64) (PcW z [.int p1, .int p2] (fun H => TY z (zA z) σ H)) (QcI z (fun r H => some r.toInt = some out ∧ TY z (zA z) σ H)) 0 0 (zA z) := by
  refine Met.ofW (cc := cX7_power) (maxL := 4) (ret := (some .int)) (by decide) rfl ?_
  intro p e s m args below meth c s₁ B hml hv
  obtain ⟨rfl, hT, hK, hSK⟩ := hv
  have hx := B.exec
  have hb := B.bytes
  have hr := B.returns
  have hts : ∀ w ∈ lw_ok, w.before ([.int p1, .int p2] : List Value).toArray s = true := fun w hw => atoms_spec (ws := uw yX7_power cX7_power 4 (some .int)) B.pre w (List.mem_cons_of_mem _ hw)
  have hown : s.vm.findClass RX7 = some m.cls := findClass_of_methodNamed B.named
  have hlk := B.notSynchronized
  have hC : CallFix p m c cX7_power 4 s ([.int p1, .int p2] : List Value).toArray lw_ok RX7 := ⟨hx, hb, hml, hown, hts⟩
  have hS : va_S (zA z) s.heap s.heap [] := va_S.rf
  have hl := lv_entry ([.int p1, .int p2]) (n := 4) (Nat.le_of_ble_eq_true rfl)
  rw [lg_entry_eq]
  generalize (lg_sl ([.int p1, .int p2]) ++ List.replicate (4 - (lg_sl ([.int p1, .int p2])).length) Slot.unset).toArray = ls at hl ⊢
  have hl : lv_has ls 4 [(0, .int p1), (1, .int p2)] := hl
  show W p l e (rmF 1 64) s m ([.int p1, .int p2] : List Value).toArray below meth c s.heap [] 0 0 (MQ below (QcI z (fun r H => some r.toInt = some out ∧ TY z (zA z) σ H)) ([.int p1, .int p2] : List Value).toArray s 0 0 (zA z)) (F0 m 0 ls [])
  unfold D_X7_power at hF
  have mx_p1 := i_mx p1
  have mx_p2 := i_mx p2
  refine r_iconst hx hb dX7_power_0 (by decide) (by decide) (fun x0 e0 => ?_)
  have hF := bn hF e0
  refine lv_istore_n (lv' := [(2, .int x0), (0, .int p1), (1, .int p2)]) hx hb dX7_power_1 rfl hl (by decide) rfl (fun ls hl => ?_)
  refine r_iconst hx hb dX7_power_2 (by decide) (by decide) (fun x2 e2 => ?_)
  have hF := bn hF e2
  refine lv_istore_n (lv' := [(3, .int x2), (2, .int x0), (0, .int p1), (1, .int p2)]) hx hb dX7_power_3 rfl hl (by decide) rfl (fun ls hl => ?_)
  have J4 : ∀ (n4 : Nat) (ls : Array Slot) (H : Heap) (locs : List Loc) (y4_2 : Int32) (y4_3 : Int32), (0 ≤ y4_3.toInt) → D_X7_power_4 p1.toInt p2.toInt n4 y4_2.toInt y4_3.toInt = some out → TY z (zA z) σ H → va_S (zA z) s.heap H locs → lv_has ls 4 [(0, .int p1), (1, .int p2), (2, .int y4_2), (3, .int y4_3)] → W p l e (rmF 1 64) s m ([.int p1, .int p2] : List Value).toArray below meth c H locs 0 0 (MQ below (QcI z (fun r H => some r.toInt = some out ∧ TY z (zA z) σ H)) ([.int p1, .int p2] : List Value).toArray s 0 0 (zA z)) (F0 m 4 ls []) := by
    intro n4
    induction n4 with
    | zero => intro ls H locs y4_2 y4_3 j4_y4_3 hF hT hS hl; exact (no_s hF).elim
    | succ n4 ih4 =>
      intro ls H locs y4_2 y4_3 j4_y4_3 hF hT hS hl
      rw [D_X7_power_4.eq_2] at hF
      refine lv_iload_n hx hb dX7_power_4 rfl (lv_at hl 3 rfl) ?_
      refine lv_iload_n hx hb dX7_power_5 rfl (lv_at hl 1 rfl) ?_
      refine r_icmp_ge (tgt := 19) hx hb dX7_power_6 (by decide) (fun c6 => ?_) (fun c6 => ?_)
      · have hF := ifn hF (Int.not_lt.mpr c6)
        refine lv_iload_n hx hb dX7_power_19 rfl (lv_at hl 2 rfl) ?_
        exact rt_i hx hb hr hlk hS ⟨hF, hT⟩ dX7_power_20
      · have hF := ifp hF c6
        refine lv_iload_n hx hb dX7_power_9 rfl (lv_at hl 2 rfl) ?_
        refine lv_iload_n hx hb dX7_power_10 rfl (lv_at hl 0 rfl) ?_
        refine x_imul hx hb dX7_power_11 (fun x11 e11 => ?_)
        have hF := bn hF e11
        refine lv_istore_n (lv' := [(2, .int x11), (0, .int p1), (1, .int p2), (3, .int y4_3)]) hx hb dX7_power_12 rfl hl (by decide) rfl (fun ls hl => ?_)
        refine r_iinc (lv' := fun v__ => [(3, .int v__), (2, .int x11), (0, .int p1), (1, .int p2)]) hx hb dX7_power_13 hl (k := 3) rfl (by decide) (fun _ => rfl) ⟨by decide, by decide⟩ (by omega) (by omega) (fun x13 ls e13 hl => ?_)
        have hF := bn hF e13
        refine lv_goto (tgt := 4) hx hb dX7_power_16 (by decide) ?_
        exact ih4 ls _ _ x11 x13 (by omega) hF hT hS (lv_sub hl [2, 3, 1, 0] rfl)
  exact J4 5000 ls _ _ x0 x2 (by omega) hF hT hS (lv_sub hl [2, 3, 1, 0] rfl)
theorem k_X7_figureIn : cBS yX7_figureIn cX7_figureIn 3 (some .int) 3 := ⟨mw_5_146, mw_1_8, mw_5_147, ⟨by decide, by decide, by decide⟩⟩
set_option maxHeartbeats 4000000 in
set_option maxRecDepth 100000 in
theorem c_X7_figureIn (l : Launch) (z : Zt) (σ : Sg) (p1 : Int32) (p2 : Int32) (p3 : Int32) (out : Int) (hF : D_X7_figureIn p1.toInt p2.toInt p3.toInt = some out) : Met l yX7_figureIn (uw yX7_figureIn cX7_figureIn 3 (some .int)) (rmF 2 87) (PcW z [.int p1, .int p2, .int p3] (fun H => TY z (zA z) σ H)) (QcI z (fun r H => some r.toInt = some out ∧ TY z (zA z) σ H ∧ (0 ≤ r.toInt ∧ r.toInt ≤ 3))) 0 0 (zA z) := by
  refine Met.ofW (cc := cX7_figureIn) (maxL := 3) (ret := (some .int)) (by decide) rfl ?_
  intro p e s m args below meth c s₁ B hml hv
  obtain ⟨rfl, hT, hK, hSK⟩ := hv
  have hx := B.exec
  have hb := B.bytes
  have hr := B.returns
  have hts : ∀ w ∈ lw_ok, w.before ([.int p1, .int p2, .int p3] : List Value).toArray s = true := fun w hw => atoms_spec (ws := uw yX7_figureIn cX7_figureIn 3 (some .int)) B.pre w (List.mem_cons_of_mem _ hw)
  have hown : s.vm.findClass RX7 = some m.cls := findClass_of_methodNamed B.named
  have hlk := B.notSynchronized
  have hC : CallFix p m c cX7_figureIn 3 s ([.int p1, .int p2, .int p3] : List Value).toArray lw_ok RX7 := ⟨hx, hb, hml, hown, hts⟩
  have hS : va_S (zA z) s.heap s.heap [] := va_S.rf
  have hl := lv_entry ([.int p1, .int p2, .int p3]) (n := 3) (Nat.le_of_ble_eq_true rfl)
  rw [lg_entry_eq]
  generalize (lg_sl ([.int p1, .int p2, .int p3]) ++ List.replicate (3 - (lg_sl ([.int p1, .int p2, .int p3])).length) Slot.unset).toArray = ls at hl ⊢
  have hl : lv_has ls 3 [(0, .int p1), (1, .int p2), (2, .int p3)] := hl
  show W p l e (rmF 2 87) s m ([.int p1, .int p2, .int p3] : List Value).toArray below meth c s.heap [] 0 0 (MQ below (QcI z (fun r H => some r.toInt = some out ∧ TY z (zA z) σ H ∧ (0 ≤ r.toInt ∧ r.toInt ≤ 3))) ([.int p1, .int p2, .int p3] : List Value).toArray s 0 0 (zA z)) (F0 m 0 ls [])
  unfold D_X7_figureIn at hF
  have mx_p1 := i_mx p1
  have mx_p2 := i_mx p2
  have mx_p3 := i_mx p3
  refine lv_iload_n hx hb dX7_figureIn_0 rfl (lv_at hl 0 rfl) ?_
  refine r_iconst hx hb dX7_figureIn_1 (by decide) (by decide) (fun x1 e1 => ?_)
  have hF := bn hF e1
  refine lv_iload_n hx hb dX7_figureIn_2 rfl (lv_at hl 1 rfl) ?_
  refine r_iconst hx hb dX7_figureIn_3 (by decide) (by decide) (fun x3 e3 => ?_)
  have hF := bn hF e3
  refine x_isub hx hb dX7_figureIn_4 (fun x4 e4 => ?_)
  have hF := bn hF e4
  refine lv_iload_n hx hb dX7_figureIn_5 rfl (lv_at hl 2 rfl) ?_
  refine x_isub hx hb dX7_figureIn_6 (fun x6 e6 => ?_)
  have hF := bn hF e6
  obtain ⟨v7, hd7, -⟩ := bd0_s hF
  refine cl_Si (rest := [.int p1]) hC hK hSK (c_X7_power l z σ x1 x6 v7 hd7) k_X7_power mw_5_142 ⟨rfl, rfl, Nat.le_of_ble_eq_true rfl, Nat.le_of_ble_eq_true rfl⟩ hT rfl hl.1 rfl (Nat.le_of_ble_eq_true rfl) dX7_figureIn_7 ⟨Nat.zero_le _, Nat.zero_le _⟩ hS (fun _ h => h) (fun _ _ h => h) (fun r7 H locs hpo hS => ?_)
  obtain ⟨he7, hT⟩ := hpo
  have hF := bd0_r hF hd7 he7
  obtain ⟨kx10, hF⟩ := ck hF
  obtain ⟨ky10, hF⟩ := ck hF
  refine r_idiv hx hb dX7_figureIn_10 (by omega) (by omega) (fun x10 e10 g10 h10 => ?_)
  have hF := bn hF e10
  refine r_iconst hx hb dX7_figureIn_11 (by decide) (by decide) (fun x11 e11 => ?_)
  have hF := bn hF e11
  refine r_irem hx hb dX7_figureIn_12 (by omega) (by omega) (fun x12 e12 g12 h12 => ?_)
  have hF := bn hF e12
  exact rt_i hx hb hr hlk hS ⟨hF, hT, (by omega)⟩ dX7_figureIn_13
theorem k_X7_common : cBS yX7_common cX7_common 10 (some .long) 2 := ⟨mw_5_190, mw_1_8, mw_5_191, ⟨by decide, by decide, by decide⟩⟩
set_option maxHeartbeats 4000000 in
set_option maxRecDepth 100000 in
theorem c_X7_common (l : Launch) (z : Zt) (σ : Sg) (p1 : Int64) (p2 : Int64) (out : Int) (hF : D_X7_common p1.toInt p2.toInt = some out) : Met l yX7_common (uw yX7_common cX7_common 10 (some .long)) (rmF 1 64) (PcW z [.long p1, .long p2] (fun H => TY z (zA z) σ H)) (QcL z (fun r H => some r.toInt = some out ∧ TY z (zA z) σ H)) 0 0 (zA z) := by
  refine Met.ofW (cc := cX7_common) (maxL := 10) (ret := (some .long)) (by decide) rfl ?_
  intro p e s m args below meth c s₁ B hml hv
  obtain ⟨rfl, hT, hK, hSK⟩ := hv
  have hx := B.exec
  have hb := B.bytes
  have hr := B.returns
  have hts : ∀ w ∈ lw_ok, w.before ([.long p1, .long p2] : List Value).toArray s = true := fun w hw => atoms_spec (ws := uw yX7_common cX7_common 10 (some .long)) B.pre w (List.mem_cons_of_mem _ hw)
  have hown : s.vm.findClass RX7 = some m.cls := findClass_of_methodNamed B.named
  have hlk := B.notSynchronized
  have hC : CallFix p m c cX7_common 10 s ([.long p1, .long p2] : List Value).toArray lw_ok RX7 := ⟨hx, hb, hml, hown, hts⟩
  have hS : va_S (zA z) s.heap s.heap [] := va_S.rf
  have hl := lv_entry ([.long p1, .long p2]) (n := 10) (Nat.le_of_ble_eq_true rfl)
  rw [lg_entry_eq]
  generalize (lg_sl ([.long p1, .long p2]) ++ List.replicate (10 - (lg_sl ([.long p1, .long p2])).length) Slot.unset).toArray = ls at hl ⊢
  have hl : lv_has ls 10 [(0, .long p1), (2, .long p2)] := hl
  show W p l e (rmF 1 64) s m ([.long p1, .long p2] : List Value).toArray below meth c s.heap [] 0 0 (MQ below (QcL z (fun r H => some r.toInt = some out ∧ TY z (zA z) σ H)) ([.long p1, .long p2] : List Value).toArray s 0 0 (zA z)) (F0 m 0 ls [])
  unfold D_X7_common at hF
  refine lv_lload_n hx hb dX7_common_0 rfl (lv_at hl 0 rfl) ?_
  refine lv_lstore (lv' := [(4, .long p1), (0, .long p1), (2, .long p2)]) hx hb dX7_common_1 hl (by decide) rfl (fun ls hl => ?_)
  refine lv_lload_n hx hb dX7_common_3 rfl (lv_at hl 2 rfl) ?_
  refine lv_lstore (lv' := [(6, .long p2), (4, .long p1), (0, .long p1), (2, .long p2)]) hx hb dX7_common_4 hl (by decide) rfl (fun ls hl => ?_)
  have J6 : ∀ (n6 : Nat) (ls : Array Slot) (H : Heap) (locs : List Loc) (y6_4 : Int64) (y6_6 : Int64), D_X7_common_6 n6 y6_4.toInt y6_6.toInt = some out → TY z (zA z) σ H → va_S (zA z) s.heap H locs → lv_has ls 10 [(0, .long p1), (2, .long p2), (4, .long y6_4), (6, .long y6_6)] → W p l e (rmF 1 64) s m ([.long p1, .long p2] : List Value).toArray below meth c H locs 0 0 (MQ below (QcL z (fun r H => some r.toInt = some out ∧ TY z (zA z) σ H)) ([.long p1, .long p2] : List Value).toArray s 0 0 (zA z)) (F0 m 6 ls []) := by
    intro n6
    induction n6 with
    | zero => intro ls H locs y6_4 y6_6 hF hT hS hl; exact (no_s hF).elim
    | succ n6 ih6 =>
      intro ls H locs y6_4 y6_6 hF hT hS hl
      rw [D_X7_common_6.eq_2] at hF
      refine lv_lload hx hb dX7_common_6 (lv_at hl 3 rfl) ?_
      refine r_lconst0 hx hb dX7_common_8 (fun x8 e8 => ?_)
      have hF := bn hF e8
      refine x_lcmp hx hb dX7_common_9 (fun x9 e9 f9 g9 h9 => ?_)
      have hF := bn hF e9
      have v9 : -1 ≤ x9.toInt ∧ x9.toInt ≤ 1 := by omega
      refine r_if_eq (tgt := 31) hx hb dX7_common_10 (by decide) (fun c10 => ?_) (fun c10 => ?_)
      · have hF := ifp hF c10
        refine lv_lload hx hb dX7_common_31 (lv_at hl 2 rfl) ?_
        exact rt_l hx hb hr hlk hS ⟨hF, hT⟩ dX7_common_33
      · have hF := ifn hF c10
        refine lv_lload hx hb dX7_common_13 (lv_at hl 2 rfl) ?_
        refine lv_lload hx hb dX7_common_15 (lv_at hl 3 rfl) ?_
        obtain ⟨kz17, hF⟩ := ck hF
        refine x_lrem hx hb dX7_common_17 kz17 (fun x17 e17 => ?_)
        have hF := bn hF e17
        refine lv_lstore (lv' := [(8, .long x17), (0, .long p1), (2, .long p2), (4, .long y6_4), (6, .long y6_6)]) hx hb dX7_common_18 hl (by decide) rfl (fun ls hl => ?_)
        refine lv_lload hx hb dX7_common_20 (lv_at hl 4 rfl) ?_
        refine lv_lstore (lv' := [(4, .long y6_6), (8, .long x17), (0, .long p1), (2, .long p2), (6, .long y6_6)]) hx hb dX7_common_22 hl (by decide) rfl (fun ls hl => ?_)
        refine lv_lload hx hb dX7_common_24 (lv_at hl 1 rfl) ?_
        refine lv_lstore (lv' := [(6, .long x17), (4, .long y6_6), (8, .long x17), (0, .long p1), (2, .long p2)]) hx hb dX7_common_26 hl (by decide) rfl (fun ls hl => ?_)
        refine lv_goto (tgt := 6) hx hb dX7_common_28 (by decide) ?_
        exact ih6 ls _ _ y6_6 x17 hF hT hS (lv_sub hl [3, 4, 1, 0] rfl)
  exact J6 5000 ls _ _ p1 p2 hF hT hS (lv_sub hl [2, 3, 1, 0] rfl)
theorem k_X7_told : cBS yX7_told cX7_told 7 (some .long) 3 := ⟨mw_5_187, mw_1_8, mw_5_188, ⟨by decide, by decide, by decide⟩⟩
set_option maxHeartbeats 4000000 in
set_option maxRecDepth 100000 in
theorem c_X7_told (l : Launch) (z : Zt) (σ : Sg) (p1 : Int64) (p2 : Int64) (p3 : Int32) (out : Int) (hF : D_X7_told p1.toInt p2.toInt p3.toInt = some out) : Met l yX7_told (uw yX7_told cX7_told 7 (some .long)) (rmF 2 93) (PcW z [.long p1, .long p2, .int p3] (fun H => TY z (zA z) σ H)) (QcL z (fun r H => some r.toInt = some out ∧ TY z (zA z) σ H)) 0 0 (zA z) := by
  refine Met.ofW (cc := cX7_told) (maxL := 7) (ret := (some .long)) (by decide) rfl ?_
  intro p e s m args below meth c s₁ B hml hv
  obtain ⟨rfl, hT, hK, hSK⟩ := hv
  have hx := B.exec
  have hb := B.bytes
  have hr := B.returns
  have hts : ∀ w ∈ lw_ok, w.before ([.long p1, .long p2, .int p3] : List Value).toArray s = true := fun w hw => atoms_spec (ws := uw yX7_told cX7_told 7 (some .long)) B.pre w (List.mem_cons_of_mem _ hw)
  have hown : s.vm.findClass RX7 = some m.cls := findClass_of_methodNamed B.named
  have hlk := B.notSynchronized
  have hC : CallFix p m c cX7_told 7 s ([.long p1, .long p2, .int p3] : List Value).toArray lw_ok RX7 := ⟨hx, hb, hml, hown, hts⟩
  have hS : va_S (zA z) s.heap s.heap [] := va_S.rf
  have hl := lv_entry ([.long p1, .long p2, .int p3]) (n := 7) (Nat.le_of_ble_eq_true rfl)
  rw [lg_entry_eq]
  generalize (lg_sl ([.long p1, .long p2, .int p3]) ++ List.replicate (7 - (lg_sl ([.long p1, .long p2, .int p3])).length) Slot.unset).toArray = ls at hl ⊢
  have hl : lv_has ls 7 [(0, .long p1), (2, .long p2), (4, .int p3)] := hl
  show W p l e (rmF 2 93) s m ([.long p1, .long p2, .int p3] : List Value).toArray below meth c s.heap [] 0 0 (MQ below (QcL z (fun r H => some r.toInt = some out ∧ TY z (zA z) σ H)) ([.long p1, .long p2, .int p3] : List Value).toArray s 0 0 (zA z)) (F0 m 0 ls [])
  unfold D_X7_told at hF
  have mx_p3 := i_mx p3
  refine lv_lload_n hx hb dX7_told_0 rfl (lv_at hl 1 rfl) ?_
  refine lv_lload_n hx hb dX7_told_1 rfl (lv_at hl 0 rfl) ?_
  obtain ⟨v2, hd2, -⟩ := bd0_s hF
  refine cl_Sl (rest := []) hC hK hSK (c_X7_common l z σ p2 p1 v2 hd2) k_X7_common mw_5_189 ⟨rfl, rfl, Nat.le_of_ble_eq_true rfl, Nat.le_of_ble_eq_true rfl⟩ hT rfl hl.1 rfl (Nat.le_of_ble_eq_true rfl) dX7_told_2 ⟨Nat.zero_le _, Nat.zero_le _⟩ hS (fun _ h => h) (fun _ _ h => h) (fun r2 H locs hpo hS => ?_)
  obtain ⟨he2, hT⟩ := hpo
  have hF := bd0_r hF hd2 he2
  refine lv_lstore (lv' := [(5, .long r2), (0, .long p1), (2, .long p2), (4, .int p3)]) hx hb dX7_told_5 hl (by decide) rfl (fun ls hl => ?_)
  refine lv_iload hx hb dX7_told_7 (lv_at hl 3 rfl) ?_
  refine r_if_ne (tgt := 19) hx hb dX7_told_9 (by decide) (fun c9 => ?_) (fun c9 => ?_)
  · have hF := ifn hF c9
    refine lv_lload_n hx hb dX7_told_19 rfl (lv_at hl 2 rfl) ?_
    refine lv_lload hx hb dX7_told_20 (lv_at hl 0 rfl) ?_
    obtain ⟨kz22, hF⟩ := ck hF
    refine x_ldiv hx hb dX7_told_22 kz22 (fun x22 e22 => ?_)
    have hF := bn hF e22
    exact rt_l hx hb hr hlk hS ⟨hF, hT⟩ dX7_told_23
  · have hF := ifp hF c9
    refine lv_lload_n hx hb dX7_told_12 rfl (lv_at hl 1 rfl) ?_
    refine lv_lload hx hb dX7_told_13 (lv_at hl 0 rfl) ?_
    obtain ⟨kz15, hF⟩ := ck hF
    refine x_ldiv hx hb dX7_told_15 kz15 (fun x15 e15 => ?_)
    have hF := bn hF e15
    refine lv_goto (tgt := 23) hx hb dX7_told_16 (by decide) ?_
    exact rt_l hx hb hr hlk hS ⟨hF, hT⟩ dX7_told_23
theorem k_X7_round : cBV yX7_round cX7_round 3 (some .int) 0 := ⟨mw_5_2, ms_2_13, mw_1_8, mw_5_3, ⟨by decide, by decide, by decide⟩⟩
set_option maxHeartbeats 4000000 in
set_option maxRecDepth 100000 in
theorem c_X7_round (l : Launch) (z : Zt) (σ : Sg) (h0 o0 : Nat) (g0 : zG z h0 = (17, o0)) (out : Int) (hF : D_X7_round (σ o0) = some out) : Met l yX7_round (uw yX7_round cX7_round 3 (some .int)) (rmF 2 84) (PcW z [.ref h0] (fun H => TY z (zA z) σ H)) (QcI z (fun r H => some r.toInt = some out ∧ TY z (zA z) σ H)) 0 0 (zA z) := by
  refine Met.ofW (cc := cX7_round) (maxL := 3) (ret := (some .int)) (by decide) rfl ?_
  intro p e s m args below meth c s₁ B hml hv
  obtain ⟨rfl, hT, hK, hSK⟩ := hv
  have hx := B.exec
  have hb := B.bytes
  have hr := B.returns
  have hts : ∀ w ∈ lw_ok, w.before ([.ref h0] : List Value).toArray s = true := fun w hw => atoms_spec (ws := uw yX7_round cX7_round 3 (some .int)) B.pre w (List.mem_cons_of_mem _ hw)
  have hown : s.vm.findClass RX7 = some m.cls := findClass_of_methodNamed B.named
  have hlk := B.notSynchronized
  have hC : CallFix p m c cX7_round 3 s ([.ref h0] : List Value).toArray lw_ok RX7 := ⟨hx, hb, hml, hown, hts⟩
  have hS : va_S (zA z) s.heap s.heap [] := va_S.rf
  have hl := lv_entry ([.ref h0]) (n := 3) (Nat.le_of_ble_eq_true rfl)
  rw [lg_entry_eq]
  generalize (lg_sl ([.ref h0]) ++ List.replicate (3 - (lg_sl ([.ref h0])).length) Slot.unset).toArray = ls at hl ⊢
  have hl : lv_has ls 3 [(0, .ref h0)] := hl
  show W p l e (rmF 2 84) s m ([.ref h0] : List Value).toArray below meth c s.heap [] 0 0 (MQ below (QcI z (fun r H => some r.toInt = some out ∧ TY z (zA z) σ H)) ([.ref h0] : List Value).toArray s 0 0 (zA z)) (F0 m 0 ls [])
  unfold D_X7_round at hF
  refine r_iconst hx hb dX7_round_0 (by decide) (by decide) (fun x0 e0 => ?_)
  have hF := bn hF e0
  refine lv_istore_n (lv' := [(1, .int x0), (0, .ref h0)]) hx hb dX7_round_1 rfl hl (by decide) rfl (fun ls hl => ?_)
  refine r_iconst hx hb dX7_round_2 (by decide) (by decide) (fun x2 e2 => ?_)
  have hF := bn hF e2
  refine lv_istore_n (lv' := [(2, .int x2), (1, .int x0), (0, .ref h0)]) hx hb dX7_round_3 rfl hl (by decide) rfl (fun ls hl => ?_)
  have J4 : ∀ (n4 : Nat) (ls : Array Slot) (H : Heap) (locs : List Loc) (y4_1 : Int32) (y4_2 : Int32), (0 ≤ y4_2.toInt ∧ y4_2.toInt ≤ 5) → D_X7_round_4 (σ o0) n4 y4_1.toInt y4_2.toInt = some out → TY z (zA z) σ H → va_S (zA z) s.heap H locs → lv_has ls 3 [(0, .ref h0), (1, .int y4_1), (2, .int y4_2)] → W p l e (rmF 2 84) s m ([.ref h0] : List Value).toArray below meth c H locs 0 0 (MQ below (QcI z (fun r H => some r.toInt = some out ∧ TY z (zA z) σ H)) ([.ref h0] : List Value).toArray s 0 0 (zA z)) (F0 m 4 ls []) := by
    intro n4
    induction n4 with
    | zero => intro ls H locs y4_1 y4_2 j4_y4_2 hF hT hS hl; exact (no_s hF).elim
    | succ n4 ih4 =>
      intro ls H locs y4_1 y4_2 j4_y4_2 hF hT hS hl
      rw [D_X7_round_4.eq_2] at hF
      refine lv_iload_n hx hb dX7_round_4 rfl (lv_at hl 2 rfl) ?_
      refine lv_aload_n hx hb dX7_round_5 rfl (lv_at hl 0 rfl) ?_
      refine gt_Model_men hx hb hts ic_Model hown hK hT g0 (hts _ mw_4_73) dX7_round_6 (fun x6 e6 f6 g6 => ?_)
      have hF := bn hF e6
      refine r_icmp_ge (tgt := 44) hx hb dX7_round_9 (by decide) (fun c9 => ?_) (fun c9 => ?_)
      · have hF := ifn hF (Int.not_lt.mpr c9)
        refine lv_iload_n hx hb dX7_round_44 rfl (lv_at hl 1 rfl) ?_
        exact rt_i hx hb hr hlk hS ⟨hF, hT⟩ dX7_round_45
      · have hF := ifp hF c9
        refine lv_iload_n hx hb dX7_round_12 rfl (lv_at hl 1 rfl) ?_
        refine lv_aload_n hx hb dX7_round_13 rfl (lv_at hl 0 rfl) ?_
        refine gt_Model_now hx hb hts ic_Model hown hK hT g0 (hts _ mw_4_71) dX7_round_14 (fun q14 hq14 => ?_)
        refine r_bipush hx hb dX7_round_17 rfl (fun x17 e17 => ?_)
        have hF := bn hF e17
        refine lv_iload_n hx hb dX7_round_19 rfl (lv_at hl 2 rfl) ?_
        refine r_iadd hx hb dX7_round_20 (by omega) (by omega) (fun x20 e20 => ?_)
        have hF := bn hF e20
        refine al_41 hx hb hK hT hq14 (by omega) (by omega) dX7_round_21 (fun x21 e21 g21 => ?_)
        have hF := bn hF e21
        have f21 := gd59_20 g21 (by omega) (by omega)
        refine lv_iload_n hx hb dX7_round_22 rfl (lv_at hl 2 rfl) ?_
        have J31 : ∀ (ls : Array Slot) (H : Heap) (locs : List Loc) (t31_1 : Int32), (0 ≤ t31_1.toInt ∧ t31_1.toInt ≤ 1) → D_X7_round_31 (D_X7_round_4 (σ o0) n4) y4_1.toInt y4_2.toInt t31_1.toInt = some out → TY z (zA z) σ H → va_S (zA z) s.heap H locs → lv_has ls 3 [(0, .ref h0), (1, .int y4_1), (2, .int y4_2)] → W p l e (rmF 2 84) s m ([.ref h0] : List Value).toArray below meth c H locs 0 0 (MQ below (QcI z (fun r H => some r.toInt = some out ∧ TY z (zA z) σ H)) ([.ref h0] : List Value).toArray s 0 0 (zA z)) (F0 m 31 ls [.int t31_1, .int y4_1]) := by
          intro ls H locs t31_1 j31_t31_1 hF hT hS hl
          unfold D_X7_round_31 at hF
          obtain ⟨v31, hd31, -⟩ := bd0_s hF
          refine cl_Si (rest := [.int y4_1]) hC hK hSK (c_X7_flag l z σ t31_1 v31 hd31 (by omega)) k_X7_flag mw_5_4 ⟨rfl, rfl, Nat.le_of_ble_eq_true rfl, Nat.le_of_ble_eq_true rfl⟩ hT rfl hl.1 rfl (Nat.le_of_ble_eq_true rfl) dX7_round_31 ⟨Nat.zero_le _, Nat.zero_le _⟩ hS (fun _ h => h) (fun _ _ h => h) (fun r31 H locs hpo hS => ?_)
          obtain ⟨he31, hT, u31_0⟩ := hpo
          have hF := bd0_r hF hd31 he31
          refine lv_iload_n hx hb dX7_round_34 rfl (lv_at hl 2 rfl) ?_
          refine x_ishl hx hb dX7_round_35 (fun x35 e35 => ?_)
          have hF := bn hF e35
          refine x_ior hx hb dX7_round_36 (fun x36 e36 => ?_)
          have hF := bn hF e36
          refine lv_istore_n (lv' := [(1, .int x36), (0, .ref h0), (2, .int y4_2)]) hx hb dX7_round_37 rfl hl (by decide) rfl (fun ls hl => ?_)
          refine r_iinc (lv' := fun v__ => [(2, .int v__), (1, .int x36), (0, .ref h0)]) hx hb dX7_round_38 hl (k := 2) rfl (by decide) (fun _ => rfl) ⟨by decide, by decide⟩ (by omega) (by omega) (fun x38 ls e38 hl => ?_)
          have hF := bn hF e38
          refine lv_goto (tgt := 4) hx hb dX7_round_41 (by decide) ?_
          exact ih4 ls _ _ x36 x38 (by omega) hF hT hS (lv_sub hl [2, 1, 0] rfl)
        refine r_icmp_ne (tgt := 30) hx hb dX7_round_23 (by decide) (fun c23 => ?_) (fun c23 => ?_)
        · have hF := ifn hF c23
          refine r_iconst hx hb dX7_round_30 (by decide) (by decide) (fun x30 e30 => ?_)
          have hF := bn hF e30
          exact J31 ls _ _ x30 (by omega) hF hT hS (lv_sub hl [0, 1, 2] rfl)
        · have hF := ifp hF c23
          refine r_iconst hx hb dX7_round_26 (by decide) (by decide) (fun x26 e26 => ?_)
          have hF := bn hF e26
          refine lv_goto (tgt := 31) hx hb dX7_round_27 (by decide) ?_
          exact J31 ls _ _ x26 (by omega) hF hT hS (lv_sub hl [0, 1, 2] rfl)
  exact J4 5000 ls _ _ x0 x2 (by omega) hF hT hS (lv_sub hl [2, 1, 0] rfl)
theorem k_X7_meetings : cBV yX7_meetings cX7_meetings 3 (some .int) 0 := ⟨mw_5_115, ms_3_11, mw_1_8, mw_5_116, ⟨by decide, by decide, by decide⟩⟩
set_option maxHeartbeats 4000000 in
set_option maxRecDepth 100000 in
theorem c_X7_meetings (l : Launch) (z : Zt) (σ : Sg) (h0 o0 : Nat) (g0 : zG z h0 = (17, o0)) (out : Int) (hF : D_X7_meetings (σ o0) = some out) : Met l yX7_meetings (uw yX7_meetings cX7_meetings 3 (some .int)) (rmF 1 64) (PcW z [.ref h0] (fun H => TY z (zA z) σ H)) (QcI z (fun r H => some r.toInt = some out ∧ TY z (zA z) σ H)) 0 0 (zA z) := by
  refine Met.ofW (cc := cX7_meetings) (maxL := 3) (ret := (some .int)) (by decide) rfl ?_
  intro p e s m args below meth c s₁ B hml hv
  obtain ⟨rfl, hT, hK, hSK⟩ := hv
  have hx := B.exec
  have hb := B.bytes
  have hr := B.returns
  have hts : ∀ w ∈ lw_ok, w.before ([.ref h0] : List Value).toArray s = true := fun w hw => atoms_spec (ws := uw yX7_meetings cX7_meetings 3 (some .int)) B.pre w (List.mem_cons_of_mem _ hw)
  have hown : s.vm.findClass RX7 = some m.cls := findClass_of_methodNamed B.named
  have hlk := B.notSynchronized
  have hC : CallFix p m c cX7_meetings 3 s ([.ref h0] : List Value).toArray lw_ok RX7 := ⟨hx, hb, hml, hown, hts⟩
  have hS : va_S (zA z) s.heap s.heap [] := va_S.rf
  have hl := lv_entry ([.ref h0]) (n := 3) (Nat.le_of_ble_eq_true rfl)
  rw [lg_entry_eq]
  generalize (lg_sl ([.ref h0]) ++ List.replicate (3 - (lg_sl ([.ref h0])).length) Slot.unset).toArray = ls at hl ⊢
  have hl : lv_has ls 3 [(0, .ref h0)] := hl
  show W p l e (rmF 1 64) s m ([.ref h0] : List Value).toArray below meth c s.heap [] 0 0 (MQ below (QcI z (fun r H => some r.toInt = some out ∧ TY z (zA z) σ H)) ([.ref h0] : List Value).toArray s 0 0 (zA z)) (F0 m 0 ls [])
  unfold D_X7_meetings at hF
  refine r_iconst hx hb dX7_meetings_0 (by decide) (by decide) (fun x0 e0 => ?_)
  have hF := bn hF e0
  refine lv_istore_n (lv' := [(1, .int x0), (0, .ref h0)]) hx hb dX7_meetings_1 rfl hl (by decide) rfl (fun ls hl => ?_)
  refine r_iconst hx hb dX7_meetings_2 (by decide) (by decide) (fun x2 e2 => ?_)
  have hF := bn hF e2
  refine lv_istore_n (lv' := [(2, .int x2), (1, .int x0), (0, .ref h0)]) hx hb dX7_meetings_3 rfl hl (by decide) rfl (fun ls hl => ?_)
  have J4 : ∀ (n4 : Nat) (ls : Array Slot) (H : Heap) (locs : List Loc) (y4_1 : Int32) (y4_2 : Int32), (0 ≤ y4_2.toInt ∧ y4_2.toInt ≤ 5) → D_X7_meetings_4 (σ o0) n4 y4_1.toInt y4_2.toInt = some out → TY z (zA z) σ H → va_S (zA z) s.heap H locs → lv_has ls 3 [(0, .ref h0), (1, .int y4_1), (2, .int y4_2)] → W p l e (rmF 1 64) s m ([.ref h0] : List Value).toArray below meth c H locs 0 0 (MQ below (QcI z (fun r H => some r.toInt = some out ∧ TY z (zA z) σ H)) ([.ref h0] : List Value).toArray s 0 0 (zA z)) (F0 m 4 ls []) := by
    intro n4
    induction n4 with
    | zero => intro ls H locs y4_1 y4_2 j4_y4_2 hF hT hS hl; exact (no_s hF).elim
    | succ n4 ih4 =>
      intro ls H locs y4_1 y4_2 j4_y4_2 hF hT hS hl
      rw [D_X7_meetings_4.eq_2] at hF
      refine lv_iload_n hx hb dX7_meetings_4 rfl (lv_at hl 2 rfl) ?_
      refine lv_aload_n hx hb dX7_meetings_5 rfl (lv_at hl 0 rfl) ?_
      refine gt_Model_men hx hb hts ic_Model hown hK hT g0 (hts _ mw_4_73) dX7_meetings_6 (fun x6 e6 f6 g6 => ?_)
      have hF := bn hF e6
      refine r_icmp_ge (tgt := 42) hx hb dX7_meetings_9 (by decide) (fun c9 => ?_) (fun c9 => ?_)
      · have hF := ifn hF (Int.not_lt.mpr c9)
        refine lv_iload_n hx hb dX7_meetings_42 rfl (lv_at hl 1 rfl) ?_
        exact rt_i hx hb hr hlk hS ⟨hF, hT⟩ dX7_meetings_43
      · have hF := ifp hF c9
        refine lv_iload_n hx hb dX7_meetings_12 rfl (lv_at hl 1 rfl) ?_
        refine lv_aload_n hx hb dX7_meetings_13 rfl (lv_at hl 0 rfl) ?_
        refine gt_Model_now hx hb hts ic_Model hown hK hT g0 (hts _ mw_4_71) dX7_meetings_14 (fun q14 hq14 => ?_)
        refine r_bipush hx hb dX7_meetings_17 rfl (fun x17 e17 => ?_)
        have hF := bn hF e17
        refine lv_iload_n hx hb dX7_meetings_19 rfl (lv_at hl 2 rfl) ?_
        refine r_iadd hx hb dX7_meetings_20 (by omega) (by omega) (fun x20 e20 => ?_)
        have hF := bn hF e20
        refine al_41 hx hb hK hT hq14 (by omega) (by omega) dX7_meetings_21 (fun x21 e21 g21 => ?_)
        have hF := bn hF e21
        refine lv_aload_n hx hb dX7_meetings_22 rfl (lv_at hl 0 rfl) ?_
        refine gt_Model_now hx hb hts ic_Model hown hK hT g0 (hts _ mw_4_71) dX7_meetings_23 (fun q23 hq23 => ?_)
        refine r_bipush hx hb dX7_meetings_26 rfl (fun x26 e26 => ?_)
        have hF := bn hF e26
        refine lv_iload_n hx hb dX7_meetings_28 rfl (lv_at hl 2 rfl) ?_
        refine r_iadd hx hb dX7_meetings_29 (by omega) (by omega) (fun x29 e29 => ?_)
        have hF := bn hF e29
        refine al_41 hx hb hK hT hq23 (by omega) (by omega) dX7_meetings_30 (fun x30 e30 g30 => ?_)
        have hF := bn hF e30
        have f30 := gd59_20 g30 (by omega) (by omega)
        refine x_ishr hx hb dX7_meetings_31 (fun x31 e31 => ?_)
        have hF := bn hF e31
        refine r_iconst hx hb dX7_meetings_32 (by decide) (by decide) (fun x32 e32 => ?_)
        have hF := bn hF e32
        refine x_iandr hx hb dX7_meetings_33 (by omega) (fun x33 e33 g33 h33 => ?_)
        have hF := bn hF e33
        refine x_iadd hx hb dX7_meetings_34 (fun x34 e34 => ?_)
        have hF := bn hF e34
        refine lv_istore_n (lv' := [(1, .int x34), (0, .ref h0), (2, .int y4_2)]) hx hb dX7_meetings_35 rfl hl (by decide) rfl (fun ls hl => ?_)
        refine r_iinc (lv' := fun v__ => [(2, .int v__), (1, .int x34), (0, .ref h0)]) hx hb dX7_meetings_36 hl (k := 2) rfl (by decide) (fun _ => rfl) ⟨by decide, by decide⟩ (by omega) (by omega) (fun x36 ls e36 hl => ?_)
        have hF := bn hF e36
        refine lv_goto (tgt := 4) hx hb dX7_meetings_39 (by decide) ?_
        exact ih4 ls _ _ x34 x36 (by omega) hF hT hS (lv_sub hl [2, 1, 0] rfl)
  exact J4 5000 ls _ _ x0 x2 (by omega) hF hT hS (lv_sub hl [2, 1, 0] rfl)
theorem k_X7_programGoes : cBV yX7_programGoes cX7_programGoes 2 none 0 := ⟨mw_5_184, ms_4_0, mw_1_8, mw_5_185, ⟨by decide, by decide, by decide⟩⟩
set_option maxHeartbeats 4000000 in
set_option maxRecDepth 100000 in
theorem c_X7_programGoes (l : Launch) (z : Zt) (σ : Sg) (h0 o0 : Nat) (g0 : zG z h0 = (17, o0)) (out : Lo) (hF : D_X7_programGoes (σ o0) = some out) : Met l yX7_programGoes (uw yX7_programGoes cX7_programGoes 2 none) (rmF 8 222) (PcW z [.ref h0] (fun H => TY z (zA z) σ H)) (QcV z (fun H => ∃ σ' : Sg, some (σ' o0) = some out ∧ FR σ σ' o0 ∧ TY z (zA z) σ' H)) 0 0 (zA z) := by
  refine Met.ofW (cc := cX7_programGoes) (maxL := 2) (ret := none) (by decide) rfl ?_
  intro p e s m args below meth c s₁ B hml hv
  obtain ⟨rfl, hT, hK, hSK⟩ := hv
  have hx := B.exec
  have hb := B.bytes
  have hr := B.returns
  have hts : ∀ w ∈ lw_ok, w.before ([.ref h0] : List Value).toArray s = true := fun w hw => atoms_spec (ws := uw yX7_programGoes cX7_programGoes 2 none) B.pre w (List.mem_cons_of_mem _ hw)
  have hown : s.vm.findClass RX7 = some m.cls := findClass_of_methodNamed B.named
  have hlk := B.notSynchronized
  have hC : CallFix p m c cX7_programGoes 2 s ([.ref h0] : List Value).toArray lw_ok RX7 := ⟨hx, hb, hml, hown, hts⟩
  have hS : va_S (zA z) s.heap s.heap [] := va_S.rf
  have hl := lv_entry ([.ref h0]) (n := 2) (Nat.le_of_ble_eq_true rfl)
  rw [lg_entry_eq]
  generalize (lg_sl ([.ref h0]) ++ List.replicate (2 - (lg_sl ([.ref h0])).length) Slot.unset).toArray = ls at hl ⊢
  have hl : lv_has ls 2 [(0, .ref h0)] := hl
  show W p l e (rmF 8 222) s m ([.ref h0] : List Value).toArray below meth c s.heap [] 0 0 (MQ below (QcV z (fun H => ∃ σ' : Sg, some (σ' o0) = some out ∧ FR σ σ' o0 ∧ TY z (zA z) σ' H)) ([.ref h0] : List Value).toArray s 0 0 (zA z)) (F0 m 0 ls [])
  have hfr : FR σ σ o0 := FR_rf σ o0
  unfold D_X7_programGoes at hF
  refine r_iconst hx hb dX7_programGoes_0 (by decide) (by decide) (fun x0 e0 => ?_)
  have hF := bn hF e0
  refine lv_istore_n (lv' := [(1, .int x0), (0, .ref h0)]) hx hb dX7_programGoes_1 rfl hl (by decide) rfl (fun ls hl => ?_)
  have J2 : ∀ (n2 : Nat) (ls : Array Slot) (H : Heap) (locs : List Loc) (y2_1 : Int32) (σj2 : Sg), (0 ≤ y2_1.toInt ∧ y2_1.toInt ≤ 8) → D_X7_programGoes_2 n2 (σj2 o0) y2_1.toInt = some out → FR σ σj2 o0 → TY z (zA z) σj2 H → va_S (zA z) s.heap H locs → lv_has ls 2 [(0, .ref h0), (1, .int y2_1)] → W p l e (rmF 8 222) s m ([.ref h0] : List Value).toArray below meth c H locs 0 0 (MQ below (QcV z (fun H => ∃ σ' : Sg, some (σ' o0) = some out ∧ FR σ σ' o0 ∧ TY z (zA z) σ' H)) ([.ref h0] : List Value).toArray s 0 0 (zA z)) (F0 m 2 ls []) := by
    intro n2
    induction n2 with
    | zero => intro ls H locs y2_1 σj2 j2_y2_1 hF hfr hT hS hl; exact (no_s hF).elim
    | succ n2 ih2 =>
      intro ls H locs y2_1 σj2 j2_y2_1 hF hfr hT hS hl
      rw [D_X7_programGoes_2.eq_2] at hF
      refine lv_iload_n hx hb dX7_programGoes_2 rfl (lv_at hl 1 rfl) ?_
      refine lv_aload_n hx hb dX7_programGoes_3 rfl (lv_at hl 0 rfl) ?_
      refine gt_Model_now hx hb hts ic_Model hown hK hT g0 (hts _ mw_4_71) dX7_programGoes_4 (fun q4 hq4 => ?_)
      refine r_bipush hx hb dX7_programGoes_7 rfl (fun x7 e7 => ?_)
      have hF := bn hF e7
      refine al_41 hx hb hK hT hq4 (by omega) (by omega) dX7_programGoes_9 (fun x9 e9 g9 => ?_)
      have hF := bn hF e9
      have f9 := gd59_31 g9 (by omega)
      refine r_icmp_ge (tgt := 32) hx hb dX7_programGoes_10 (by decide) (fun c10 => ?_) (fun c10 => ?_)
      · have hF := ifn hF (Int.not_lt.mpr c10)
        exact rt_v hx hb hr hlk hS ⟨σj2, hF, hfr, hT⟩ dX7_programGoes_32
      · have hF := ifp hF c10
        refine lv_aload_n hx hb dX7_programGoes_13 rfl (lv_at hl 0 rfl) ?_
        refine lv_aload_n hx hb dX7_programGoes_14 rfl (lv_at hl 0 rfl) ?_
        refine gt_Model_now hx hb hts ic_Model hown hK hT g0 (hts _ mw_4_71) dX7_programGoes_15 (fun q15 hq15 => ?_)
        refine r_bipush hx hb dX7_programGoes_18 rfl (fun x18 e18 => ?_)
        have hF := bn hF e18
        refine lv_iload_n hx hb dX7_programGoes_20 rfl (lv_at hl 1 rfl) ?_
        refine r_iadd hx hb dX7_programGoes_21 (by omega) (by omega) (fun x21 e21 => ?_)
        have hF := bn hF e21
        refine al_41 hx hb hK hT hq15 (by omega) (by omega) dX7_programGoes_22 (fun x22 e22 g22 => ?_)
        have hF := bn hF e22
        obtain ⟨s23, hd23, -⟩ := bd1_s hF
        refine cl_Vv (rest := []) hC hK hSK (c_X7_danceOn l z σj2 h0 (o0) g0 x22 s23 hd23) k_X7_danceOn mw_5_88 ⟨rfl, rfl, Nat.le_of_ble_eq_true rfl, Nat.le_of_ble_eq_true rfl⟩ (rv_Model hK hT g0) hT rfl hl.1 rfl (Nat.le_of_ble_eq_true rfl) dX7_programGoes_23 ⟨Nat.zero_le _, Nat.zero_le _⟩ hS (fun _ h => h) (fun _ _ h => h) (fun H locs hpo hS => ?_)
        obtain ⟨σ23, he23, hf23, hT⟩ := hpo
        have hF := bd1_r hF hd23 he23
        have hfr := FR_tr hf23 hfr
        refine r_iinc (lv' := fun v__ => [(1, .int v__), (0, .ref h0)]) hx hb dX7_programGoes_26 hl (k := 1) rfl (by decide) (fun _ => rfl) ⟨by decide, by decide⟩ (by omega) (by omega) (fun x26 ls e26 hl => ?_)
        have hF := bn hF e26
        refine lv_goto (tgt := 2) hx hb dX7_programGoes_29 (by decide) ?_
        exact ih2 ls _ _ x26 σ23 (by omega) hF hfr hT hS (lv_sub hl [1, 0] rfl)
  exact J2 5000 ls _ _ x0 σ (by omega) hF hfr hT hS (lv_sub hl [1, 0] rfl)
theorem k_X7_kinMany : cBV yX7_kinMany cX7_kinMany 3 (some .int) 0 := ⟨mw_4_235, ms_2_12, mw_1_8, mw_4_236, ⟨by decide, by decide, by decide⟩⟩
set_option maxHeartbeats 4000000 in
set_option maxRecDepth 100000 in
theorem c_X7_kinMany (l : Launch) (z : Zt) (σ : Sg) (h0 o0 : Nat) (g0 : zG z h0 = (17, o0)) (out : Int) (hF : D_X7_kinMany (σ o0) = some out) : Met l yX7_kinMany (uw yX7_kinMany cX7_kinMany 3 (some .int)) (rmF 2 86) (PcW z [.ref h0] (fun H => TY z (zA z) σ H)) (QcI z (fun r H => some r.toInt = some out ∧ TY z (zA z) σ H)) 0 0 (zA z) := by
  refine Met.ofW (cc := cX7_kinMany) (maxL := 3) (ret := (some .int)) (by decide) rfl ?_
  intro p e s m args below meth c s₁ B hml hv
  obtain ⟨rfl, hT, hK, hSK⟩ := hv
  have hx := B.exec
  have hb := B.bytes
  have hr := B.returns
  have hts : ∀ w ∈ lw_ok, w.before ([.ref h0] : List Value).toArray s = true := fun w hw => atoms_spec (ws := uw yX7_kinMany cX7_kinMany 3 (some .int)) B.pre w (List.mem_cons_of_mem _ hw)
  have hown : s.vm.findClass RX7 = some m.cls := findClass_of_methodNamed B.named
  have hlk := B.notSynchronized
  have hC : CallFix p m c cX7_kinMany 3 s ([.ref h0] : List Value).toArray lw_ok RX7 := ⟨hx, hb, hml, hown, hts⟩
  have hS : va_S (zA z) s.heap s.heap [] := va_S.rf
  have hl := lv_entry ([.ref h0]) (n := 3) (Nat.le_of_ble_eq_true rfl)
  rw [lg_entry_eq]
  generalize (lg_sl ([.ref h0]) ++ List.replicate (3 - (lg_sl ([.ref h0])).length) Slot.unset).toArray = ls at hl ⊢
  have hl : lv_has ls 3 [(0, .ref h0)] := hl
  show W p l e (rmF 2 86) s m ([.ref h0] : List Value).toArray below meth c s.heap [] 0 0 (MQ below (QcI z (fun r H => some r.toInt = some out ∧ TY z (zA z) σ H)) ([.ref h0] : List Value).toArray s 0 0 (zA z)) (F0 m 0 ls [])
  unfold D_X7_kinMany at hF
  refine r_iconst hx hb dX7_kinMany_0 (by decide) (by decide) (fun x0 e0 => ?_)
  have hF := bn hF e0
  refine lv_istore_n (lv' := [(1, .int x0), (0, .ref h0)]) hx hb dX7_kinMany_1 rfl hl (by decide) rfl (fun ls hl => ?_)
  refine r_iconst hx hb dX7_kinMany_2 (by decide) (by decide) (fun x2 e2 => ?_)
  have hF := bn hF e2
  refine lv_istore_n (lv' := [(2, .int x2), (1, .int x0), (0, .ref h0)]) hx hb dX7_kinMany_3 rfl hl (by decide) rfl (fun ls hl => ?_)
  have J4 : ∀ (n4 : Nat) (ls : Array Slot) (H : Heap) (locs : List Loc) (y4_1 : Int32) (y4_2 : Int32), (0 ≤ y4_2.toInt ∧ y4_2.toInt ≤ 5) → D_X7_kinMany_4 (σ o0) n4 y4_1.toInt y4_2.toInt = some out → TY z (zA z) σ H → va_S (zA z) s.heap H locs → lv_has ls 3 [(0, .ref h0), (1, .int y4_1), (2, .int y4_2)] → W p l e (rmF 2 86) s m ([.ref h0] : List Value).toArray below meth c H locs 0 0 (MQ below (QcI z (fun r H => some r.toInt = some out ∧ TY z (zA z) σ H)) ([.ref h0] : List Value).toArray s 0 0 (zA z)) (F0 m 4 ls []) := by
    intro n4
    induction n4 with
    | zero => intro ls H locs y4_1 y4_2 j4_y4_2 hF hT hS hl; exact (no_s hF).elim
    | succ n4 ih4 =>
      intro ls H locs y4_1 y4_2 j4_y4_2 hF hT hS hl
      rw [D_X7_kinMany_4.eq_2] at hF
      refine lv_iload_n hx hb dX7_kinMany_4 rfl (lv_at hl 2 rfl) ?_
      refine r_iconst hx hb dX7_kinMany_5 (by decide) (by decide) (fun x5 e5 => ?_)
      have hF := bn hF e5
      refine r_icmp_ge (tgt := 30) hx hb dX7_kinMany_6 (by decide) (fun c6 => ?_) (fun c6 => ?_)
      · have hF := ifn hF (Int.not_lt.mpr c6)
        refine lv_iload_n hx hb dX7_kinMany_30 rfl (lv_at hl 1 rfl) ?_
        exact rt_i hx hb hr hlk hS ⟨hF, hT⟩ dX7_kinMany_31
      · have hF := ifp hF c6
        refine lv_iload_n hx hb dX7_kinMany_9 rfl (lv_at hl 1 rfl) ?_
        refine lv_aload_n hx hb dX7_kinMany_10 rfl (lv_at hl 0 rfl) ?_
        refine gt_Model_st hx hb hts ic_Model hown hK hT g0 (hts _ mw_4_70) dX7_kinMany_11 (fun q11 hq11 => ?_)
        refine r_bipush hx hb dX7_kinMany_14 rfl (fun x14 e14 => ?_)
        have hF := bn hF e14
        refine lv_iload_n hx hb dX7_kinMany_16 rfl (lv_at hl 2 rfl) ?_
        refine r_iadd hx hb dX7_kinMany_17 (by omega) (by omega) (fun x17 e17 => ?_)
        have hF := bn hF e17
        refine al_40 hx hb hK hT hq11 (by omega) (by omega) dX7_kinMany_18 (fun x18 e18 g18 => ?_)
        have hF := bn hF e18
        obtain ⟨v19, hd19, -⟩ := bd0_s hF
        refine cl_Si (rest := [.int y4_1]) hC hK hSK (c_X7_bitsOf l z σ x18 v19 hd19) k_X7_bitsOf mw_4_237 ⟨rfl, rfl, Nat.le_of_ble_eq_true rfl, Nat.le_of_ble_eq_true rfl⟩ hT rfl hl.1 rfl (Nat.le_of_ble_eq_true rfl) dX7_kinMany_19 ⟨Nat.zero_le _, Nat.zero_le _⟩ hS (fun _ h => h) (fun _ _ h => h) (fun r19 H locs hpo hS => ?_)
        obtain ⟨he19, hT⟩ := hpo
        have hF := bd0_r hF hd19 he19
        refine x_iadd hx hb dX7_kinMany_22 (fun x22 e22 => ?_)
        have hF := bn hF e22
        refine lv_istore_n (lv' := [(1, .int x22), (0, .ref h0), (2, .int y4_2)]) hx hb dX7_kinMany_23 rfl hl (by decide) rfl (fun ls hl => ?_)
        refine r_iinc (lv' := fun v__ => [(2, .int v__), (1, .int x22), (0, .ref h0)]) hx hb dX7_kinMany_24 hl (k := 2) rfl (by decide) (fun _ => rfl) ⟨by decide, by decide⟩ (by omega) (by omega) (fun x24 ls e24 hl => ?_)
        have hF := bn hF e24
        refine lv_goto (tgt := 4) hx hb dX7_kinMany_27 (by decide) ?_
        exact ih4 ls _ _ x22 x24 (by omega) hF hT hS (lv_sub hl [2, 1, 0] rfl)
  exact J4 5000 ls _ _ x0 x2 (by omega) hF hT hS (lv_sub hl [2, 1, 0] rfl)
theorem k_X7_partnerOf : cBV yX7_partnerOf cX7_partnerOf 4 (some .int) 1 := ⟨mw_5_33, ms_3_3, mw_1_8, mw_5_34, ⟨by decide, by decide, by decide⟩⟩
set_option maxHeartbeats 4000000 in
set_option maxRecDepth 100000 in
theorem c_X7_partnerOf (l : Launch) (z : Zt) (σ : Sg) (h0 o0 : Nat) (g0 : zG z h0 = (17, o0)) (p1 : Int32) (out : Int) (hF : D_X7_partnerOf (σ o0) p1.toInt = some out) : Met l yX7_partnerOf (uw yX7_partnerOf cX7_partnerOf 4 (some .int)) (rmF 1 64) (PcW z [.ref h0, .int p1] (fun H => TY z (zA z) σ H)) (QcI z (fun r H => some r.toInt = some out ∧ TY z (zA z) σ H)) 0 0 (zA z) := by
  refine Met.ofW (cc := cX7_partnerOf) (maxL := 4) (ret := (some .int)) (by decide) rfl ?_
  intro p e s m args below meth c s₁ B hml hv
  obtain ⟨rfl, hT, hK, hSK⟩ := hv
  have hx := B.exec
  have hb := B.bytes
  have hr := B.returns
  have hts : ∀ w ∈ lw_ok, w.before ([.ref h0, .int p1] : List Value).toArray s = true := fun w hw => atoms_spec (ws := uw yX7_partnerOf cX7_partnerOf 4 (some .int)) B.pre w (List.mem_cons_of_mem _ hw)
  have hown : s.vm.findClass RX7 = some m.cls := findClass_of_methodNamed B.named
  have hlk := B.notSynchronized
  have hC : CallFix p m c cX7_partnerOf 4 s ([.ref h0, .int p1] : List Value).toArray lw_ok RX7 := ⟨hx, hb, hml, hown, hts⟩
  have hS : va_S (zA z) s.heap s.heap [] := va_S.rf
  have hl := lv_entry ([.ref h0, .int p1]) (n := 4) (Nat.le_of_ble_eq_true rfl)
  rw [lg_entry_eq]
  generalize (lg_sl ([.ref h0, .int p1]) ++ List.replicate (4 - (lg_sl ([.ref h0, .int p1])).length) Slot.unset).toArray = ls at hl ⊢
  have hl : lv_has ls 4 [(0, .ref h0), (1, .int p1)] := hl
  show W p l e (rmF 1 64) s m ([.ref h0, .int p1] : List Value).toArray below meth c s.heap [] 0 0 (MQ below (QcI z (fun r H => some r.toInt = some out ∧ TY z (zA z) σ H)) ([.ref h0, .int p1] : List Value).toArray s 0 0 (zA z)) (F0 m 0 ls [])
  unfold D_X7_partnerOf at hF
  have mx_p1 := i_mx p1
  refine r_bipush hx hb dX7_partnerOf_0 rfl (fun x0 e0 => ?_)
  have hF := bn hF e0
  refine lv_istore_n (lv' := [(2, .int x0), (0, .ref h0), (1, .int p1)]) hx hb dX7_partnerOf_2 rfl hl (by decide) rfl (fun ls hl => ?_)
  refine r_iconst hx hb dX7_partnerOf_3 (by decide) (by decide) (fun x3 e3 => ?_)
  have hF := bn hF e3
  refine lv_istore_n (lv' := [(3, .int x3), (2, .int x0), (0, .ref h0), (1, .int p1)]) hx hb dX7_partnerOf_4 rfl hl (by decide) rfl (fun ls hl => ?_)
  have J5 : ∀ (n5 : Nat) (ls : Array Slot) (H : Heap) (locs : List Loc) (y5_2 : Int32) (y5_3 : Int32), (-4 ≤ y5_2.toInt ∧ y5_2.toInt ≤ 4) → (0 ≤ y5_3.toInt ∧ y5_3.toInt ≤ 5) → D_X7_partnerOf_5 p1.toInt (σ o0) n5 y5_2.toInt y5_3.toInt = some out → TY z (zA z) σ H → va_S (zA z) s.heap H locs → lv_has ls 4 [(0, .ref h0), (1, .int p1), (2, .int y5_2), (3, .int y5_3)] → W p l e (rmF 1 64) s m ([.ref h0, .int p1] : List Value).toArray below meth c H locs 0 0 (MQ below (QcI z (fun r H => some r.toInt = some out ∧ TY z (zA z) σ H)) ([.ref h0, .int p1] : List Value).toArray s 0 0 (zA z)) (F0 m 5 ls []) := by
    intro n5
    induction n5 with
    | zero => intro ls H locs y5_2 y5_3 j5_y5_2 j5_y5_3 hF hT hS hl; exact (no_s hF).elim
    | succ n5 ih5 =>
      intro ls H locs y5_2 y5_3 j5_y5_2 j5_y5_3 hF hT hS hl
      rw [D_X7_partnerOf_5.eq_2] at hF
      refine lv_iload_n hx hb dX7_partnerOf_5 rfl (lv_at hl 3 rfl) ?_
      refine lv_aload_n hx hb dX7_partnerOf_6 rfl (lv_at hl 0 rfl) ?_
      refine gt_Model_men hx hb hts ic_Model hown hK hT g0 (hts _ mw_4_73) dX7_partnerOf_7 (fun x7 e7 f7 g7 => ?_)
      have hF := bn hF e7
      refine r_icmp_ge (tgt := 38) hx hb dX7_partnerOf_10 (by decide) (fun c10 => ?_) (fun c10 => ?_)
      · have hF := ifn hF (Int.not_lt.mpr c10)
        refine lv_iload_n hx hb dX7_partnerOf_38 rfl (lv_at hl 2 rfl) ?_
        exact rt_i hx hb hr hlk hS ⟨hF, hT⟩ dX7_partnerOf_39
      · have hF := ifp hF c10
        refine lv_aload_n hx hb dX7_partnerOf_13 rfl (lv_at hl 0 rfl) ?_
        refine gt_Model_now hx hb hts ic_Model hown hK hT g0 (hts _ mw_4_71) dX7_partnerOf_14 (fun q14 hq14 => ?_)
        refine r_bipush hx hb dX7_partnerOf_17 rfl (fun x17 e17 => ?_)
        have hF := bn hF e17
        refine lv_iload_n hx hb dX7_partnerOf_19 rfl (lv_at hl 3 rfl) ?_
        refine r_iadd hx hb dX7_partnerOf_20 (by omega) (by omega) (fun x20 e20 => ?_)
        have hF := bn hF e20
        refine al_41 hx hb hK hT hq14 (by omega) (by omega) dX7_partnerOf_21 (fun x21 e21 g21 => ?_)
        have hF := bn hF e21
        have f21 := gd59_20 g21 (by omega) (by omega)
        refine lv_iload_n hx hb dX7_partnerOf_22 rfl (lv_at hl 1 rfl) ?_
        have J31 : ∀ (ls : Array Slot) (H : Heap) (locs : List Loc) (t31_0 : Int32), (-4 ≤ t31_0.toInt ∧ t31_0.toInt ≤ 4) → D_X7_partnerOf_31 (D_X7_partnerOf_5 p1.toInt (σ o0) n5) y5_3.toInt t31_0.toInt = some out → TY z (zA z) σ H → va_S (zA z) s.heap H locs → lv_has ls 4 [(0, .ref h0), (1, .int p1), (2, .int y5_2), (3, .int y5_3)] → W p l e (rmF 1 64) s m ([.ref h0, .int p1] : List Value).toArray below meth c H locs 0 0 (MQ below (QcI z (fun r H => some r.toInt = some out ∧ TY z (zA z) σ H)) ([.ref h0, .int p1] : List Value).toArray s 0 0 (zA z)) (F0 m 31 ls [.int t31_0]) := by
          intro ls H locs t31_0 j31_t31_0 hF hT hS hl
          unfold D_X7_partnerOf_31 at hF
          refine lv_istore_n (lv' := [(2, .int t31_0), (0, .ref h0), (1, .int p1), (3, .int y5_3)]) hx hb dX7_partnerOf_31 rfl hl (by decide) rfl (fun ls hl => ?_)
          refine r_iinc (lv' := fun v__ => [(3, .int v__), (2, .int t31_0), (0, .ref h0), (1, .int p1)]) hx hb dX7_partnerOf_32 hl (k := 3) rfl (by decide) (fun _ => rfl) ⟨by decide, by decide⟩ (by omega) (by omega) (fun x32 ls e32 hl => ?_)
          have hF := bn hF e32
          refine lv_goto (tgt := 5) hx hb dX7_partnerOf_35 (by decide) ?_
          exact ih5 ls _ _ t31_0 x32 (by omega) (by omega) hF hT hS (lv_sub hl [2, 3, 1, 0] rfl)
        refine r_icmp_ne (tgt := 30) hx hb dX7_partnerOf_23 (by decide) (fun c23 => ?_) (fun c23 => ?_)
        · have hF := ifn hF c23
          refine lv_iload_n hx hb dX7_partnerOf_30 rfl (lv_at hl 2 rfl) ?_
          exact J31 ls _ _ y5_2 (by omega) hF hT hS (lv_sub hl [0, 1, 2, 3] rfl)
        · have hF := ifp hF c23
          refine lv_iload_n hx hb dX7_partnerOf_26 rfl (lv_at hl 3 rfl) ?_
          refine lv_goto (tgt := 31) hx hb dX7_partnerOf_27 (by decide) ?_
          exact J31 ls _ _ y5_3 (by omega) hF hT hS (lv_sub hl [0, 1, 2, 3] rfl)
  exact J5 5000 ls _ _ x0 x3 (by omega) (by omega) hF hT hS (lv_sub hl [2, 3, 1, 0] rfl)
theorem k_X7_starts : cBV yX7_starts cX7_starts 2 none 0 := ⟨mw_4_231, ms_2_11, mw_1_8, mw_4_232, ⟨by decide, by decide, by decide⟩⟩
set_option maxHeartbeats 4000000 in
set_option maxRecDepth 100000 in
theorem c_X7_starts (l : Launch) (z : Zt) (σ : Sg) (h0 o0 : Nat) (g0 : zG z h0 = (17, o0)) (out : Lo) (hF : D_X7_starts (σ o0) = some out) : Met l yX7_starts (uw yX7_starts cX7_starts 2 none) (rmF 1 64) (PcW z [.ref h0] (fun H => TY z (zA z) σ H)) (QcV z (fun H => ∃ σ' : Sg, some (σ' o0) = some out ∧ FR σ σ' o0 ∧ TY z (zA z) σ' H)) 0 0 (zA z) := by
  refine Met.ofW (cc := cX7_starts) (maxL := 2) (ret := none) (by decide) rfl ?_
  intro p e s m args below meth c s₁ B hml hv
  obtain ⟨rfl, hT, hK, hSK⟩ := hv
  have hx := B.exec
  have hb := B.bytes
  have hr := B.returns
  have hts : ∀ w ∈ lw_ok, w.before ([.ref h0] : List Value).toArray s = true := fun w hw => atoms_spec (ws := uw yX7_starts cX7_starts 2 none) B.pre w (List.mem_cons_of_mem _ hw)
  have hown : s.vm.findClass RX7 = some m.cls := findClass_of_methodNamed B.named
  have hlk := B.notSynchronized
  have hC : CallFix p m c cX7_starts 2 s ([.ref h0] : List Value).toArray lw_ok RX7 := ⟨hx, hb, hml, hown, hts⟩
  have hS : va_S (zA z) s.heap s.heap [] := va_S.rf
  have hl := lv_entry ([.ref h0]) (n := 2) (Nat.le_of_ble_eq_true rfl)
  rw [lg_entry_eq]
  generalize (lg_sl ([.ref h0]) ++ List.replicate (2 - (lg_sl ([.ref h0])).length) Slot.unset).toArray = ls at hl ⊢
  have hl : lv_has ls 2 [(0, .ref h0)] := hl
  show W p l e (rmF 1 64) s m ([.ref h0] : List Value).toArray below meth c s.heap [] 0 0 (MQ below (QcV z (fun H => ∃ σ' : Sg, some (σ' o0) = some out ∧ FR σ σ' o0 ∧ TY z (zA z) σ' H)) ([.ref h0] : List Value).toArray s 0 0 (zA z)) (F0 m 0 ls [])
  have hfr : FR σ σ o0 := FR_rf σ o0
  unfold D_X7_starts at hF
  refine r_iconst hx hb dX7_starts_0 (by decide) (by decide) (fun x0 e0 => ?_)
  have hF := bn hF e0
  refine lv_istore_n (lv' := [(1, .int x0), (0, .ref h0)]) hx hb dX7_starts_1 rfl hl (by decide) rfl (fun ls hl => ?_)
  have J2 : ∀ (n2 : Nat) (ls : Array Slot) (H : Heap) (locs : List Loc) (y2_1 : Int32) (σj2 : Sg), (0 ≤ y2_1.toInt ∧ y2_1.toInt ≤ 59) → D_X7_starts_2 n2 (σj2 o0) y2_1.toInt = some out → FR σ σj2 o0 → TY z (zA z) σj2 H → va_S (zA z) s.heap H locs → lv_has ls 2 [(0, .ref h0), (1, .int y2_1)] → W p l e (rmF 1 64) s m ([.ref h0] : List Value).toArray below meth c H locs 0 0 (MQ below (QcV z (fun H => ∃ σ' : Sg, some (σ' o0) = some out ∧ FR σ σ' o0 ∧ TY z (zA z) σ' H)) ([.ref h0] : List Value).toArray s 0 0 (zA z)) (F0 m 2 ls []) := by
    intro n2
    induction n2 with
    | zero => intro ls H locs y2_1 σj2 j2_y2_1 hF hfr hT hS hl; exact (no_s hF).elim
    | succ n2 ih2 =>
      intro ls H locs y2_1 σj2 j2_y2_1 hF hfr hT hS hl
      rw [D_X7_starts_2.eq_2] at hF
      refine lv_iload_n hx hb dX7_starts_2 rfl (lv_at hl 1 rfl) ?_
      refine r_bipush hx hb dX7_starts_3 rfl (fun x3 e3 => ?_)
      have hF := bn hF e3
      refine r_icmp_ge (tgt := 26) hx hb dX7_starts_5 (by decide) (fun c5 => ?_) (fun c5 => ?_)
      · have hF := ifn hF (Int.not_lt.mpr c5)
        exact rt_v hx hb hr hlk hS ⟨σj2, hF, hfr, hT⟩ dX7_starts_26
      · have hF := ifp hF c5
        refine lv_aload_n hx hb dX7_starts_8 rfl (lv_at hl 0 rfl) ?_
        refine gt_Model_now hx hb hts ic_Model hown hK hT g0 (hts _ mw_4_71) dX7_starts_9 (fun q9 hq9 => ?_)
        refine lv_iload_n hx hb dX7_starts_12 rfl (lv_at hl 1 rfl) ?_
        refine lv_aload_n hx hb dX7_starts_13 rfl (lv_at hl 0 rfl) ?_
        refine gt_Model_st hx hb hts ic_Model hown hK hT g0 (hts _ mw_4_70) dX7_starts_14 (fun q14 hq14 => ?_)
        refine lv_iload_n hx hb dX7_starts_17 rfl (lv_at hl 1 rfl) ?_
        refine al_40 hx hb hK hT hq14 (by omega) (by omega) dX7_starts_18 (fun x18 e18 g18 => ?_)
        have hF := bn hF e18
        refine as_41 hx hb hK hT hS hq9 (by omega) (by omega) (gd177_e g18 (by omega)) dX7_starts_19 (fun H locs hT hS => ?_)
        obtain ⟨σ19, hF, hfr, hT⟩ := wrL hF hfr hT
        refine r_iinc (lv' := fun v__ => [(1, .int v__), (0, .ref h0)]) hx hb dX7_starts_20 hl (k := 1) rfl (by decide) (fun _ => rfl) ⟨by decide, by decide⟩ (by omega) (by omega) (fun x20 ls e20 hl => ?_)
        have hF := bn hF e20
        refine lv_goto (tgt := 2) hx hb dX7_starts_23 (by decide) ?_
        exact ih2 ls _ _ x20 σ19 (by omega) hF hfr hT hS (lv_sub hl [1, 0] rfl)
  exact J2 5000 ls _ _ x0 σ (by omega) hF hfr hT hS (lv_sub hl [1, 0] rfl)
theorem k_X7_settles : cBV yX7_settles cX7_settles 2 none 0 := ⟨mw_5_106, ms_3_10, mw_1_8, mw_5_107, ⟨by decide, by decide, by decide⟩⟩
set_option maxHeartbeats 4000000 in
set_option maxRecDepth 100000 in
theorem c_X7_settles (l : Launch) (z : Zt) (σ : Sg) (h0 o0 : Nat) (g0 : zG z h0 = (17, o0)) (out : Lo) (hF : D_X7_settles (σ o0) = some out) : Met l yX7_settles (uw yX7_settles cX7_settles 2 none) (rmF 1 64) (PcW z [.ref h0] (fun H => TY z (zA z) σ H)) (QcV z (fun H => ∃ σ' : Sg, some (σ' o0) = some out ∧ FR σ σ' o0 ∧ TY z (zA z) σ' H)) 0 0 (zA z) := by
  refine Met.ofW (cc := cX7_settles) (maxL := 2) (ret := none) (by decide) rfl ?_
  intro p e s m args below meth c s₁ B hml hv
  obtain ⟨rfl, hT, hK, hSK⟩ := hv
  have hx := B.exec
  have hb := B.bytes
  have hr := B.returns
  have hts : ∀ w ∈ lw_ok, w.before ([.ref h0] : List Value).toArray s = true := fun w hw => atoms_spec (ws := uw yX7_settles cX7_settles 2 none) B.pre w (List.mem_cons_of_mem _ hw)
  have hown : s.vm.findClass RX7 = some m.cls := findClass_of_methodNamed B.named
  have hlk := B.notSynchronized
  have hC : CallFix p m c cX7_settles 2 s ([.ref h0] : List Value).toArray lw_ok RX7 := ⟨hx, hb, hml, hown, hts⟩
  have hS : va_S (zA z) s.heap s.heap [] := va_S.rf
  have hl := lv_entry ([.ref h0]) (n := 2) (Nat.le_of_ble_eq_true rfl)
  rw [lg_entry_eq]
  generalize (lg_sl ([.ref h0]) ++ List.replicate (2 - (lg_sl ([.ref h0])).length) Slot.unset).toArray = ls at hl ⊢
  have hl : lv_has ls 2 [(0, .ref h0)] := hl
  show W p l e (rmF 1 64) s m ([.ref h0] : List Value).toArray below meth c s.heap [] 0 0 (MQ below (QcV z (fun H => ∃ σ' : Sg, some (σ' o0) = some out ∧ FR σ σ' o0 ∧ TY z (zA z) σ' H)) ([.ref h0] : List Value).toArray s 0 0 (zA z)) (F0 m 0 ls [])
  have hfr : FR σ σ o0 := FR_rf σ o0
  unfold D_X7_settles at hF
  refine r_iconst hx hb dX7_settles_0 (by decide) (by decide) (fun x0 e0 => ?_)
  have hF := bn hF e0
  refine lv_istore_n (lv' := [(1, .int x0), (0, .ref h0)]) hx hb dX7_settles_1 rfl hl (by decide) rfl (fun ls hl => ?_)
  have J2 : ∀ (n2 : Nat) (ls : Array Slot) (H : Heap) (locs : List Loc) (y2_1 : Int32) (σj2 : Sg), (0 ≤ y2_1.toInt ∧ y2_1.toInt ≤ 59) → D_X7_settles_2 n2 (σj2 o0) y2_1.toInt = some out → FR σ σj2 o0 → TY z (zA z) σj2 H → va_S (zA z) s.heap H locs → lv_has ls 2 [(0, .ref h0), (1, .int y2_1)] → W p l e (rmF 1 64) s m ([.ref h0] : List Value).toArray below meth c H locs 0 0 (MQ below (QcV z (fun H => ∃ σ' : Sg, some (σ' o0) = some out ∧ FR σ σ' o0 ∧ TY z (zA z) σ' H)) ([.ref h0] : List Value).toArray s 0 0 (zA z)) (F0 m 2 ls []) := by
    intro n2
    induction n2 with
    | zero => intro ls H locs y2_1 σj2 j2_y2_1 hF hfr hT hS hl; exact (no_s hF).elim
    | succ n2 ih2 =>
      intro ls H locs y2_1 σj2 j2_y2_1 hF hfr hT hS hl
      rw [D_X7_settles_2.eq_2] at hF
      refine lv_iload_n hx hb dX7_settles_2 rfl (lv_at hl 1 rfl) ?_
      refine r_bipush hx hb dX7_settles_3 rfl (fun x3 e3 => ?_)
      have hF := bn hF e3
      refine r_icmp_ge (tgt := 26) hx hb dX7_settles_5 (by decide) (fun c5 => ?_) (fun c5 => ?_)
      · have hF := ifn hF (Int.not_lt.mpr c5)
        exact rt_v hx hb hr hlk hS ⟨σj2, hF, hfr, hT⟩ dX7_settles_26
      · have hF := ifp hF c5
        refine lv_aload_n hx hb dX7_settles_8 rfl (lv_at hl 0 rfl) ?_
        refine gt_Model_st hx hb hts ic_Model hown hK hT g0 (hts _ mw_4_70) dX7_settles_9 (fun q9 hq9 => ?_)
        refine lv_iload_n hx hb dX7_settles_12 rfl (lv_at hl 1 rfl) ?_
        refine lv_aload_n hx hb dX7_settles_13 rfl (lv_at hl 0 rfl) ?_
        refine gt_Model_now hx hb hts ic_Model hown hK hT g0 (hts _ mw_4_71) dX7_settles_14 (fun q14 hq14 => ?_)
        refine lv_iload_n hx hb dX7_settles_17 rfl (lv_at hl 1 rfl) ?_
        refine al_41 hx hb hK hT hq14 (by omega) (by omega) dX7_settles_18 (fun x18 e18 g18 => ?_)
        have hF := bn hF e18
        refine as_40 hx hb hK hT hS hq9 (by omega) (by omega) (gd177_m (by omega) g18) dX7_settles_19 (fun H locs hT hS => ?_)
        obtain ⟨σ19, hF, hfr, hT⟩ := wrL hF hfr hT
        refine r_iinc (lv' := fun v__ => [(1, .int v__), (0, .ref h0)]) hx hb dX7_settles_20 hl (k := 1) rfl (by decide) (fun _ => rfl) ⟨by decide, by decide⟩ (by omega) (by omega) (fun x20 ls e20 hl => ?_)
        have hF := bn hF e20
        refine lv_goto (tgt := 2) hx hb dX7_settles_23 (by decide) ?_
        exact ih2 ls _ _ x20 σ19 (by omega) hF hfr hT hS (lv_sub hl [1, 0] rfl)
  exact J2 5000 ls _ _ x0 σ (by omega) hF hfr hT hS (lv_sub hl [1, 0] rfl)
theorem k_X7_programTwice : cBV yX7_programTwice cX7_programTwice 3 none 1 := ⟨mw_5_165, ms_3_14, mw_1_8, mw_5_166, ⟨by decide, by decide, by decide⟩⟩
set_option maxHeartbeats 4000000 in
set_option maxRecDepth 100000 in
theorem c_X7_programTwice (l : Launch) (z : Zt) (σ : Sg) (h0 o0 : Nat) (g0 : zG z h0 = (17, o0)) (p1 : Int32) (out : Lo) (hF : D_X7_programTwice (σ o0) p1.toInt = some out) : Met l yX7_programTwice (uw yX7_programTwice cX7_programTwice 3 none) (rmF 8 222) (PcW z [.ref h0, .int p1] (fun H => TY z (zA z) σ H)) (QcV z (fun H => ∃ σ' : Sg, some (σ' o0) = some out ∧ FR σ σ' o0 ∧ TY z (zA z) σ' H)) 0 0 (zA z) := by
  refine Met.ofW (cc := cX7_programTwice) (maxL := 3) (ret := none) (by decide) rfl ?_
  intro p e s m args below meth c s₁ B hml hv
  obtain ⟨rfl, hT, hK, hSK⟩ := hv
  have hx := B.exec
  have hb := B.bytes
  have hr := B.returns
  have hts : ∀ w ∈ lw_ok, w.before ([.ref h0, .int p1] : List Value).toArray s = true := fun w hw => atoms_spec (ws := uw yX7_programTwice cX7_programTwice 3 none) B.pre w (List.mem_cons_of_mem _ hw)
  have hown : s.vm.findClass RX7 = some m.cls := findClass_of_methodNamed B.named
  have hlk := B.notSynchronized
  have hC : CallFix p m c cX7_programTwice 3 s ([.ref h0, .int p1] : List Value).toArray lw_ok RX7 := ⟨hx, hb, hml, hown, hts⟩
  have hS : va_S (zA z) s.heap s.heap [] := va_S.rf
  have hl := lv_entry ([.ref h0, .int p1]) (n := 3) (Nat.le_of_ble_eq_true rfl)
  rw [lg_entry_eq]
  generalize (lg_sl ([.ref h0, .int p1]) ++ List.replicate (3 - (lg_sl ([.ref h0, .int p1])).length) Slot.unset).toArray = ls at hl ⊢
  have hl : lv_has ls 3 [(0, .ref h0), (1, .int p1)] := hl
  show W p l e (rmF 8 222) s m ([.ref h0, .int p1] : List Value).toArray below meth c s.heap [] 0 0 (MQ below (QcV z (fun H => ∃ σ' : Sg, some (σ' o0) = some out ∧ FR σ σ' o0 ∧ TY z (zA z) σ' H)) ([.ref h0, .int p1] : List Value).toArray s 0 0 (zA z)) (F0 m 0 ls [])
  have hfr : FR σ σ o0 := FR_rf σ o0
  unfold D_X7_programTwice at hF
  have mx_p1 := i_mx p1
  refine lv_aload_n hx hb dX7_programTwice_0 rfl (lv_at hl 0 rfl) ?_
  obtain ⟨s1, hd1, -⟩ := bd1_s hF
  refine cl_Vv (rest := []) hC hK hSK (c_X7_starts l z σ h0 (o0) g0 s1 hd1) k_X7_starts mw_4_229 ⟨rfl, rfl, Nat.le_of_ble_eq_true rfl, Nat.le_of_ble_eq_true rfl⟩ (rv_Model hK hT g0) hT rfl hl.1 rfl (Nat.le_of_ble_eq_true rfl) dX7_programTwice_1 ⟨Nat.zero_le _, Nat.zero_le _⟩ hS (fun _ h => h) (fun _ _ h => h) (fun H locs hpo hS => ?_)
  obtain ⟨σ1, he1, hf1, hT⟩ := hpo
  have hF := bd1_r hF hd1 he1
  have hfr := FR_tr hf1 hfr
  refine r_iconst hx hb dX7_programTwice_4 (by decide) (by decide) (fun x4 e4 => ?_)
  have hF := bn hF e4
  refine lv_istore_n (lv' := [(2, .int x4), (0, .ref h0), (1, .int p1)]) hx hb dX7_programTwice_5 rfl hl (by decide) rfl (fun ls hl => ?_)
  have J6 : ∀ (n6 : Nat) (ls : Array Slot) (H : Heap) (locs : List Loc) (y6_2 : Int32) (σj6 : Sg), (0 ≤ y6_2.toInt ∧ y6_2.toInt ≤ 8) → D_X7_programTwice_6 p1.toInt n6 (σj6 o0) y6_2.toInt = some out → FR σ σj6 o0 → TY z (zA z) σj6 H → va_S (zA z) s.heap H locs → lv_has ls 3 [(0, .ref h0), (1, .int p1), (2, .int y6_2)] → W p l e (rmF 8 222) s m ([.ref h0, .int p1] : List Value).toArray below meth c H locs 0 0 (MQ below (QcV z (fun H => ∃ σ' : Sg, some (σ' o0) = some out ∧ FR σ σ' o0 ∧ TY z (zA z) σ' H)) ([.ref h0, .int p1] : List Value).toArray s 0 0 (zA z)) (F0 m 6 ls []) := by
    intro n6
    induction n6 with
    | zero => intro ls H locs y6_2 σj6 j6_y6_2 hF hfr hT hS hl; exact (no_s hF).elim
    | succ n6 ih6 =>
      intro ls H locs y6_2 σj6 j6_y6_2 hF hfr hT hS hl
      rw [D_X7_programTwice_6.eq_2] at hF
      refine lv_iload_n hx hb dX7_programTwice_6 rfl (lv_at hl 2 rfl) ?_
      refine lv_aload_n hx hb dX7_programTwice_7 rfl (lv_at hl 0 rfl) ?_
      refine gt_Model_now hx hb hts ic_Model hown hK hT g0 (hts _ mw_4_71) dX7_programTwice_8 (fun q8 hq8 => ?_)
      refine r_bipush hx hb dX7_programTwice_11 rfl (fun x11 e11 => ?_)
      have hF := bn hF e11
      refine al_41 hx hb hK hT hq8 (by omega) (by omega) dX7_programTwice_13 (fun x13 e13 g13 => ?_)
      have hF := bn hF e13
      have f13 := gd59_31 g13 (by omega)
      refine r_icmp_ge (tgt := 65) hx hb dX7_programTwice_14 (by decide) (fun c14 => ?_) (fun c14 => ?_)
      · have hF := ifn hF (Int.not_lt.mpr c14)
        exact rt_v hx hb hr hlk hS ⟨σj6, hF, hfr, hT⟩ dX7_programTwice_65
      · have hF := ifp hF c14
        refine lv_aload_n hx hb dX7_programTwice_17 rfl (lv_at hl 0 rfl) ?_
        refine gt_Model_men hx hb hts ic_Model hown hK hT g0 (hts _ mw_4_73) dX7_programTwice_18 (fun x18 e18 f18 g18 => ?_)
        have hF := bn hF e18
        refine r_if_le (tgt := 65) hx hb dX7_programTwice_21 (by decide) (fun c21 => ?_) (fun c21 => ?_)
        · have hF := ifn hF (Int.not_lt.mpr c21)
          exact rt_v hx hb hr hlk hS ⟨σj6, hF, hfr, hT⟩ dX7_programTwice_65
        · have hF := ifp hF c21
          refine lv_aload_n hx hb dX7_programTwice_24 rfl (lv_at hl 0 rfl) ?_
          refine lv_aload_n hx hb dX7_programTwice_25 rfl (lv_at hl 0 rfl) ?_
          refine gt_Model_now hx hb hts ic_Model hown hK hT g0 (hts _ mw_4_71) dX7_programTwice_26 (fun q26 hq26 => ?_)
          refine r_bipush hx hb dX7_programTwice_29 rfl (fun x29 e29 => ?_)
          have hF := bn hF e29
          refine lv_iload_n hx hb dX7_programTwice_31 rfl (lv_at hl 2 rfl) ?_
          refine r_iadd hx hb dX7_programTwice_32 (by omega) (by omega) (fun x32 e32 => ?_)
          have hF := bn hF e32
          refine al_41 hx hb hK hT hq26 (by omega) (by omega) dX7_programTwice_33 (fun x33 e33 g33 => ?_)
          have hF := bn hF e33
          obtain ⟨s34, hd34, -⟩ := bd1_s hF
          refine cl_Vv (rest := []) hC hK hSK (c_X7_danceOn l z σj6 h0 (o0) g0 x33 s34 hd34) k_X7_danceOn mw_5_88 ⟨rfl, rfl, Nat.le_of_ble_eq_true rfl, Nat.le_of_ble_eq_true rfl⟩ (rv_Model hK hT g0) hT rfl hl.1 rfl (Nat.le_of_ble_eq_true rfl) dX7_programTwice_34 ⟨Nat.zero_le _, Nat.zero_le _⟩ hS (fun _ h => h) (fun _ _ h => h) (fun H locs hpo hS => ?_)
          obtain ⟨σ34, he34, hf34, hT⟩ := hpo
          have hF := bd1_r hF hd34 he34
          have hfr := FR_tr hf34 hfr
          refine lv_iload_n hx hb dX7_programTwice_37 rfl (lv_at hl 1 rfl) ?_
          refine lv_iload_n hx hb dX7_programTwice_38 rfl (lv_at hl 2 rfl) ?_
          refine x_ishr hx hb dX7_programTwice_39 (fun x39 e39 => ?_)
          have hF := bn hF e39
          refine r_iconst hx hb dX7_programTwice_40 (by decide) (by decide) (fun x40 e40 => ?_)
          have hF := bn hF e40
          refine x_iandr hx hb dX7_programTwice_41 (by omega) (fun x41 e41 g41 h41 => ?_)
          have hF := bn hF e41
          refine r_iconst hx hb dX7_programTwice_42 (by decide) (by decide) (fun x42 e42 => ?_)
          have hF := bn hF e42
          have J59 : ∀ (ls : Array Slot) (H : Heap) (locs : List Loc) (σj59 : Sg), D_X7_programTwice_59 (D_X7_programTwice_6 p1.toInt n6) y6_2.toInt (σj59 o0) = some out → FR σ σj59 o0 → TY z (zA z) σj59 H → va_S (zA z) s.heap H locs → lv_has ls 3 [(0, .ref h0), (1, .int p1), (2, .int y6_2)] → W p l e (rmF 8 222) s m ([.ref h0, .int p1] : List Value).toArray below meth c H locs 0 0 (MQ below (QcV z (fun H => ∃ σ' : Sg, some (σ' o0) = some out ∧ FR σ σ' o0 ∧ TY z (zA z) σ' H)) ([.ref h0, .int p1] : List Value).toArray s 0 0 (zA z)) (F0 m 59 ls []) := by
            intro ls H locs σj59 hF hfr hT hS hl
            unfold D_X7_programTwice_59 at hF
            refine r_iinc (lv' := fun v__ => [(2, .int v__), (0, .ref h0), (1, .int p1)]) hx hb dX7_programTwice_59 hl (k := 2) rfl (by decide) (fun _ => rfl) ⟨by decide, by decide⟩ (by omega) (by omega) (fun x59 ls e59 hl => ?_)
            have hF := bn hF e59
            refine lv_goto (tgt := 6) hx hb dX7_programTwice_62 (by decide) ?_
            exact ih6 ls _ _ x59 σj59 (by omega) hF hfr hT hS (lv_sub hl [1, 2, 0] rfl)
          refine r_icmp_ne (tgt := 59) hx hb dX7_programTwice_43 (by decide) (fun c43 => ?_) (fun c43 => ?_)
          · have hF := ifn hF c43
            exact J59 ls _ _ σ34 hF hfr hT hS (lv_sub hl [0, 1, 2] rfl)
          · have hF := ifp hF c43
            refine lv_aload_n hx hb dX7_programTwice_46 rfl (lv_at hl 0 rfl) ?_
            refine lv_aload_n hx hb dX7_programTwice_47 rfl (lv_at hl 0 rfl) ?_
            refine gt_Model_now hx hb hts ic_Model hown hK hT g0 (hts _ mw_4_71) dX7_programTwice_48 (fun q48 hq48 => ?_)
            refine r_bipush hx hb dX7_programTwice_51 rfl (fun x51 e51 => ?_)
            have hF := bn hF e51
            refine lv_iload_n hx hb dX7_programTwice_53 rfl (lv_at hl 2 rfl) ?_
            refine r_iadd hx hb dX7_programTwice_54 (by omega) (by omega) (fun x54 e54 => ?_)
            have hF := bn hF e54
            refine al_41 hx hb hK hT hq48 (by omega) (by omega) dX7_programTwice_55 (fun x55 e55 g55 => ?_)
            have hF := bn hF e55
            obtain ⟨s56, hd56, -⟩ := bd1_s hF
            refine cl_Vv (rest := []) hC hK hSK (c_X7_danceOn l z σ34 h0 (o0) g0 x55 s56 hd56) k_X7_danceOn mw_5_88 ⟨rfl, rfl, Nat.le_of_ble_eq_true rfl, Nat.le_of_ble_eq_true rfl⟩ (rv_Model hK hT g0) hT rfl hl.1 rfl (Nat.le_of_ble_eq_true rfl) dX7_programTwice_56 ⟨Nat.zero_le _, Nat.zero_le _⟩ hS (fun _ h => h) (fun _ _ h => h) (fun H locs hpo hS => ?_)
            obtain ⟨σ56, he56, hf56, hT⟩ := hpo
            have hF := bd1_r hF hd56 he56
            have hfr := FR_tr hf56 hfr
            exact J59 ls _ _ σ56 hF hfr hT hS (lv_sub hl [0, 1, 2] rfl)
  exact J6 5000 ls _ _ x4 σ1 (by omega) hF hfr hT hS (lv_sub hl [1, 2, 0] rfl)
theorem k_X7_findOdds : cBV yX7_findOdds cX7_findOdds 8 none 2 := ⟨mw_5_180, ms_3_15, mw_1_8, mw_5_181, ⟨by decide, by decide, by decide⟩⟩
set_option maxHeartbeats 4000000 in
set_option maxRecDepth 100000 in
theorem c_X7_findOdds (l : Launch) (z : Zt) (σ : Sg) (h0 o0 : Nat) (g0 : zG z h0 = (17, o0)) (p1 : Int32) (p2 : Int32) (out : Lo) (hF : D_X7_findOdds (σ o0) p1.toInt p2.toInt = some out) : Met l yX7_findOdds (uw yX7_findOdds cX7_findOdds 8 none) (rmF 9 243) (PcW z [.ref h0, .int p1, .int p2] (fun H => TY z (zA z) σ H)) (QcV z (fun H => ∃ σ' : Sg, some (σ' o0) = some out ∧ FR σ σ' o0 ∧ TY z (zA z) σ' H)) 0 0 (zA z) := by
  refine Met.ofW (cc := cX7_findOdds) (maxL := 8) (ret := none) (by decide) rfl ?_
  intro p e s m args below meth c s₁ B hml hv
  obtain ⟨rfl, hT, hK, hSK⟩ := hv
  have hx := B.exec
  have hb := B.bytes
  have hr := B.returns
  have hts : ∀ w ∈ lw_ok, w.before ([.ref h0, .int p1, .int p2] : List Value).toArray s = true := fun w hw => atoms_spec (ws := uw yX7_findOdds cX7_findOdds 8 none) B.pre w (List.mem_cons_of_mem _ hw)
  have hown : s.vm.findClass RX7 = some m.cls := findClass_of_methodNamed B.named
  have hlk := B.notSynchronized
  have hC : CallFix p m c cX7_findOdds 8 s ([.ref h0, .int p1, .int p2] : List Value).toArray lw_ok RX7 := ⟨hx, hb, hml, hown, hts⟩
  have hS : va_S (zA z) s.heap s.heap [] := va_S.rf
  have hl := lv_entry ([.ref h0, .int p1, .int p2]) (n := 8) (Nat.le_of_ble_eq_true rfl)
  rw [lg_entry_eq]
  generalize (lg_sl ([.ref h0, .int p1, .int p2]) ++ List.replicate (8 - (lg_sl ([.ref h0, .int p1, .int p2])).length) Slot.unset).toArray = ls at hl ⊢
  have hl : lv_has ls 8 [(0, .ref h0), (1, .int p1), (2, .int p2)] := hl
  show W p l e (rmF 9 243) s m ([.ref h0, .int p1, .int p2] : List Value).toArray below meth c s.heap [] 0 0 (MQ below (QcV z (fun H => ∃ σ' : Sg, some (σ' o0) = some out ∧ FR σ σ' o0 ∧ TY z (zA z) σ' H)) ([.ref h0, .int p1, .int p2] : List Value).toArray s 0 0 (zA z)) (F0 m 0 ls [])
  have hfr : FR σ σ o0 := FR_rf σ o0
  unfold D_X7_findOdds at hF
  have mx_p1 := i_mx p1
  have mx_p2 := i_mx p2
  refine lv_aload_n hx hb dX7_findOdds_0 rfl (lv_at hl 0 rfl) ?_
  refine r_lconst0 hx hb dX7_findOdds_1 (fun x1 e1 => ?_)
  have hF := bn hF e1
  refine pt_Model_roundSum hx hb hts ic_Model hown hK hT hS g0 (hts _ mw_4_89) dX7_findOdds_2 (fun H locs hT hS => ?_)
  obtain ⟨σ2, hF, hfr, hT⟩ := wrL hF hfr hT
  refine lv_aload_n hx hb dX7_findOdds_5 rfl (lv_at hl 0 rfl) ?_
  refine r_lconst0 hx hb dX7_findOdds_6 (fun x6 e6 => ?_)
  have hF := bn hF e6
  refine pt_Model_allSum hx hb hts ic_Model hown hK hT hS g0 (hts _ mw_4_90) dX7_findOdds_7 (fun H locs hT hS => ?_)
  obtain ⟨σ7, hF, hfr, hT⟩ := wrL hF hfr hT
  refine r_iconst hx hb dX7_findOdds_10 (by decide) (by decide) (fun x10 e10 => ?_)
  have hF := bn hF e10
  refine lv_istore_n (lv' := [(3, .int x10), (0, .ref h0), (1, .int p1), (2, .int p2)]) hx hb dX7_findOdds_11 rfl hl (by decide) rfl (fun ls hl => ?_)
  have J12 : ∀ (n12 : Nat) (ls : Array Slot) (H : Heap) (locs : List Loc) (y12_3 : Int32) (σj12 : Sg), (0 ≤ y12_3.toInt ∧ y12_3.toInt ≤ 256) → D_X7_findOdds_12 p1.toInt p2.toInt n12 (σj12 o0) y12_3.toInt = some out → FR σ σj12 o0 → TY z (zA z) σj12 H → va_S (zA z) s.heap H locs → lv_has ls 8 [(0, .ref h0), (1, .int p1), (2, .int p2), (3, .int y12_3)] → W p l e (rmF 9 243) s m ([.ref h0, .int p1, .int p2] : List Value).toArray below meth c H locs 0 0 (MQ below (QcV z (fun H => ∃ σ' : Sg, some (σ' o0) = some out ∧ FR σ σ' o0 ∧ TY z (zA z) σ' H)) ([.ref h0, .int p1, .int p2] : List Value).toArray s 0 0 (zA z)) (F0 m 12 ls []) := by
    intro n12
    induction n12 with
    | zero => intro ls H locs y12_3 σj12 j12_y12_3 hF hfr hT hS hl; exact (no_s hF).elim
    | succ n12 ih12 =>
      intro ls H locs y12_3 σj12 j12_y12_3 hF hfr hT hS hl
      rw [D_X7_findOdds_12.eq_2] at hF
      refine lv_iload_n hx hb dX7_findOdds_12 rfl (lv_at hl 3 rfl) ?_
      refine r_iconst hx hb dX7_findOdds_13 (by decide) (by decide) (fun x13 e13 => ?_)
      have hF := bn hF e13
      refine lv_aload_n hx hb dX7_findOdds_14 rfl (lv_at hl 0 rfl) ?_
      refine gt_Model_men hx hb hts ic_Model hown hK hT g0 (hts _ mw_4_73) dX7_findOdds_15 (fun x15 e15 f15 g15 => ?_)
      have hF := bn hF e15
      refine x_shl1 hx hb dX7_findOdds_18 (by omega) (by omega) (by omega) (fun x18 e18 g18 h18 => ?_)
      have hF := bn hF e18
      refine r_icmp_ge (tgt := 164) hx hb dX7_findOdds_19 (by decide) (fun c19 => ?_) (fun c19 => ?_)
      · have hF := ifn hF (Int.not_lt.mpr c19)
        exact rt_v hx hb hr hlk hS ⟨σj12, hF, hfr, hT⟩ dX7_findOdds_164
      · have hF := ifp hF c19
        refine r_lconst1 hx hb dX7_findOdds_22 (fun x22 e22 => ?_)
        have hF := bn hF e22
        refine lv_lstore (lv' := [(4, .long x22), (0, .ref h0), (1, .int p1), (2, .int p2), (3, .int y12_3)]) hx hb dX7_findOdds_23 hl (by decide) rfl (fun ls hl => ?_)
        refine lv_aload_n hx hb dX7_findOdds_25 rfl (lv_at hl 1 rfl) ?_
        obtain ⟨s26, hd26, -⟩ := bd1_s hF
        refine cl_Vv (rest := []) hC hK hSK (c_X7_starts l z σj12 h0 (o0) g0 s26 hd26) k_X7_starts mw_4_229 ⟨rfl, rfl, Nat.le_of_ble_eq_true rfl, Nat.le_of_ble_eq_true rfl⟩ (rv_Model hK hT g0) hT rfl hl.1 rfl (Nat.le_of_ble_eq_true rfl) dX7_findOdds_26 ⟨Nat.zero_le _, Nat.zero_le _⟩ hS (fun _ h => h) (fun _ _ h => h) (fun H locs hpo hS => ?_)
        obtain ⟨σ26, he26, hf26, hT⟩ := hpo
        have hF := bd1_r hF hd26 he26
        have hfr := FR_tr hf26 hfr
        refine r_iconst hx hb dX7_findOdds_29 (by decide) (by decide) (fun x29 e29 => ?_)
        have hF := bn hF e29
        refine lv_istore (lv' := [(6, .int x29), (4, .long x22), (0, .ref h0), (1, .int p1), (2, .int p2), (3, .int y12_3)]) hx hb dX7_findOdds_30 hl (by decide) rfl (fun ls hl => ?_)
        have J32 : ∀ (n32 : Nat) (ls : Array Slot) (H : Heap) (locs : List Loc) (y32_4 : Int64) (y32_6 : Int32) (σj32 : Sg), (0 ≤ y32_6.toInt ∧ y32_6.toInt ≤ 5) → D_X7_findOdds_32 (D_X7_findOdds_12 p1.toInt p2.toInt n12) p1.toInt p2.toInt y12_3.toInt n32 (σj32 o0) y32_4.toInt y32_6.toInt = some out → FR σ σj32 o0 → TY z (zA z) σj32 H → va_S (zA z) s.heap H locs → lv_has ls 8 [(0, .ref h0), (1, .int p1), (2, .int p2), (3, .int y12_3), (4, .long y32_4), (6, .int y32_6)] → W p l e (rmF 9 243) s m ([.ref h0, .int p1, .int p2] : List Value).toArray below meth c H locs 0 0 (MQ below (QcV z (fun H => ∃ σ' : Sg, some (σ' o0) = some out ∧ FR σ σ' o0 ∧ TY z (zA z) σ' H)) ([.ref h0, .int p1, .int p2] : List Value).toArray s 0 0 (zA z)) (F0 m 32 ls []) := by
          intro n32
          induction n32 with
          | zero => intro ls H locs y32_4 y32_6 σj32 j32_y32_6 hF hfr hT hS hl; exact (no_s hF).elim
          | succ n32 ih32 =>
            intro ls H locs y32_4 y32_6 σj32 j32_y32_6 hF hfr hT hS hl
            rw [D_X7_findOdds_32.eq_2] at hF
            refine lv_iload hx hb dX7_findOdds_32 (lv_at hl 5 rfl) ?_
            refine lv_aload_n hx hb dX7_findOdds_34 rfl (lv_at hl 0 rfl) ?_
            refine gt_Model_men hx hb hts ic_Model hown hK hT g0 (hts _ mw_4_73) dX7_findOdds_35 (fun x35 e35 f35 g35 => ?_)
            have hF := bn hF e35
            refine r_icmp_ge (tgt := 107) hx hb dX7_findOdds_38 (by decide) (fun c38 => ?_) (fun c38 => ?_)
            · have hF := ifn hF (Int.not_lt.mpr c38)
              refine lv_aload_n hx hb dX7_findOdds_107 rfl (lv_at hl 0 rfl) ?_
              obtain ⟨s108, hd108, -⟩ := bd1_s hF
              refine cl_Vv (rest := []) hC hK hSK (c_X7_programGoes l z σj32 h0 (o0) g0 s108 hd108) k_X7_programGoes mw_5_182 ⟨rfl, rfl, Nat.le_of_ble_eq_true rfl, Nat.le_of_ble_eq_true rfl⟩ (rv_Model hK hT g0) hT rfl hl.1 rfl (Nat.le_of_ble_eq_true rfl) dX7_findOdds_108 ⟨Nat.zero_le _, Nat.zero_le _⟩ hS (fun _ h => h) (fun _ _ h => h) (fun H locs hpo hS => ?_)
              obtain ⟨σ108, he108, hf108, hT⟩ := hpo
              have hF := bd1_r hF hd108 he108
              have hfr := FR_tr hf108 hfr
              refine lv_aload_n hx hb dX7_findOdds_111 rfl (lv_at hl 0 rfl) ?_
              refine lv_dup hx hb dX7_findOdds_112 rfl ?_
              refine gt_Model_roundSum hx hb hts ic_Model hown hK hT g0 (hts _ mw_4_89) dX7_findOdds_113 (fun x113 e113 => ?_)
              have hF := bn hF e113
              refine lv_aload_n hx hb dX7_findOdds_116 rfl (lv_at hl 0 rfl) ?_
              obtain ⟨v117, hd117, -⟩ := bd0_s hF
              refine cl_Vi (rest := [.long x113, .ref h0]) hC hK hSK (c_X7_round l z σ108 h0 (o0) g0 v117 hd117) k_X7_round mw_5_0 ⟨rfl, rfl, Nat.le_of_ble_eq_true rfl, Nat.le_of_ble_eq_true rfl⟩ (rv_Model hK hT g0) hT rfl hl.1 rfl (Nat.le_of_ble_eq_true rfl) dX7_findOdds_117 ⟨Nat.zero_le _, Nat.zero_le _⟩ hS (fun _ h => h) (fun _ _ h => h) (fun r117 H locs hpo hS => ?_)
              obtain ⟨he117, hT⟩ := hpo
              have hF := bd0_r hF hd117 he117
              refine lv_iload_n hx hb dX7_findOdds_120 rfl (lv_at hl 2 rfl) ?_
              refine x_ishr hx hb dX7_findOdds_121 (fun x121 e121 => ?_)
              have hF := bn hF e121
              refine r_iconst hx hb dX7_findOdds_122 (by decide) (by decide) (fun x122 e122 => ?_)
              have hF := bn hF e122
              refine x_iandr hx hb dX7_findOdds_123 (by omega) (fun x123 e123 g123 h123 => ?_)
              have hF := bn hF e123
              refine r_iconst hx hb dX7_findOdds_124 (by decide) (by decide) (fun x124 e124 => ?_)
              have hF := bn hF e124
              have J134 : ∀ (ls : Array Slot) (H : Heap) (locs : List Loc) (t134_2 : Int64) (σj134 : Sg), D_X7_findOdds_134 (D_X7_findOdds_12 p1.toInt p2.toInt n12) x113.toInt y12_3.toInt y32_4.toInt (σj134 o0) t134_2.toInt = some out → FR σ σj134 o0 → TY z (zA z) σj134 H → va_S (zA z) s.heap H locs → lv_has ls 8 [(0, .ref h0), (1, .int p1), (2, .int p2), (3, .int y12_3), (4, .long y32_4), (6, .int y32_6)] → W p l e (rmF 9 243) s m ([.ref h0, .int p1, .int p2] : List Value).toArray below meth c H locs 0 0 (MQ below (QcV z (fun H => ∃ σ' : Sg, some (σ' o0) = some out ∧ FR σ σ' o0 ∧ TY z (zA z) σ' H)) ([.ref h0, .int p1, .int p2] : List Value).toArray s 0 0 (zA z)) (F0 m 134 ls [.long t134_2, .long x113, .ref h0]) := by
                intro ls H locs t134_2 σj134 hF hfr hT hS hl
                unfold D_X7_findOdds_134 at hF
                refine x_ladd hx hb dX7_findOdds_134 (fun x134 e134 => ?_)
                have hF := bn hF e134
                refine pt_Model_roundSum hx hb hts ic_Model hown hK hT hS g0 (hts _ mw_4_89) dX7_findOdds_135 (fun H locs hT hS => ?_)
                obtain ⟨σ135, hF, hfr, hT⟩ := wrL hF hfr hT
                refine lv_aload_n hx hb dX7_findOdds_138 rfl (lv_at hl 0 rfl) ?_
                refine lv_dup hx hb dX7_findOdds_139 rfl ?_
                refine gt_Model_allSum hx hb hts ic_Model hown hK hT g0 (hts _ mw_4_90) dX7_findOdds_140 (fun x140 e140 => ?_)
                have hF := bn hF e140
                refine lv_lload hx hb dX7_findOdds_143 (lv_at hl 4 rfl) ?_
                refine lv_aload_n hx hb dX7_findOdds_145 rfl (lv_at hl 0 rfl) ?_
                obtain ⟨v146, hd146, -⟩ := bd0_s hF
                refine cl_Vi (rest := [.long y32_4, .long x140, .ref h0]) hC hK hSK (c_X7_round l z σ135 h0 (o0) g0 v146 hd146) k_X7_round mw_5_0 ⟨rfl, rfl, Nat.le_of_ble_eq_true rfl, Nat.le_of_ble_eq_true rfl⟩ (rv_Model hK hT g0) hT rfl hl.1 rfl (Nat.le_of_ble_eq_true rfl) dX7_findOdds_146 ⟨Nat.zero_le _, Nat.zero_le _⟩ hS (fun _ h => h) (fun _ _ h => h) (fun r146 H locs hpo hS => ?_)
                obtain ⟨he146, hT⟩ := hpo
                have hF := bd0_r hF hd146 he146
                obtain ⟨v149, hd149, -⟩ := bd0_s hF
                refine cl_Si (rest := [.long y32_4, .long x140, .ref h0]) hC hK hSK (c_X7_bitsOf l z σ135 r146 v149 hd149) k_X7_bitsOf mw_4_237 ⟨rfl, rfl, Nat.le_of_ble_eq_true rfl, Nat.le_of_ble_eq_true rfl⟩ hT rfl hl.1 rfl (Nat.le_of_ble_eq_true rfl) dX7_findOdds_149 ⟨Nat.zero_le _, Nat.zero_le _⟩ hS (fun _ h => h) (fun _ _ h => h) (fun r149 H locs hpo hS => ?_)
                obtain ⟨he149, hT⟩ := hpo
                have hF := bd0_r hF hd149 he149
                refine r_i2l hx hb dX7_findOdds_152 (fun x152 e152 => ?_)
                have hF := bn hF e152
                refine x_lmul hx hb dX7_findOdds_153 (fun x153 e153 => ?_)
                have hF := bn hF e153
                refine x_ladd hx hb dX7_findOdds_154 (fun x154 e154 => ?_)
                have hF := bn hF e154
                refine pt_Model_allSum hx hb hts ic_Model hown hK hT hS g0 (hts _ mw_4_90) dX7_findOdds_155 (fun H locs hT hS => ?_)
                obtain ⟨σ155, hF, hfr, hT⟩ := wrL hF hfr hT
                refine r_iinc (lv' := fun v__ => [(3, .int v__), (0, .ref h0), (1, .int p1), (2, .int p2), (4, .long y32_4), (6, .int y32_6)]) hx hb dX7_findOdds_158 hl (k := 3) rfl (by decide) (fun _ => rfl) ⟨by decide, by decide⟩ (by omega) (by omega) (fun x158 ls e158 hl => ?_)
                have hF := bn hF e158
                refine lv_goto (tgt := 12) hx hb dX7_findOdds_161 (by decide) ?_
                exact ih12 ls _ _ x158 σ155 (by omega) hF hfr hT hS (lv_sub hl [1, 2, 3, 0] rfl)
              refine r_icmp_ne (tgt := 133) hx hb dX7_findOdds_125 (by decide) (fun c125 => ?_) (fun c125 => ?_)
              · have hF := ifn hF c125
                refine r_lconst0 hx hb dX7_findOdds_133 (fun x133 e133 => ?_)
                have hF := bn hF e133
                exact J134 ls _ _ x133 σ108 hF hfr hT hS (lv_sub hl [0, 1, 2, 3, 4, 5] rfl)
              · have hF := ifp hF c125
                refine lv_lload hx hb dX7_findOdds_128 (lv_at hl 4 rfl) ?_
                refine lv_goto (tgt := 134) hx hb dX7_findOdds_130 (by decide) ?_
                exact J134 ls _ _ y32_4 σ108 hF hfr hT hS (lv_sub hl [0, 1, 2, 3, 4, 5] rfl)
            · have hF := ifp hF c38
              refine lv_iload_n hx hb dX7_findOdds_41 rfl (lv_at hl 3 rfl) ?_
              refine lv_iload hx hb dX7_findOdds_42 (lv_at hl 5 rfl) ?_
              refine x_ishr hx hb dX7_findOdds_44 (fun x44 e44 => ?_)
              have hF := bn hF e44
              refine r_iconst hx hb dX7_findOdds_45 (by decide) (by decide) (fun x45 e45 => ?_)
              have hF := bn hF e45
              refine x_iandr hx hb dX7_findOdds_46 (by omega) (fun x46 e46 g46 h46 => ?_)
              have hF := bn hF e46
              refine r_iconst hx hb dX7_findOdds_47 (by decide) (by decide) (fun x47 e47 => ?_)
              have hF := bn hF e47
              have J56 : ∀ (ls : Array Slot) (H : Heap) (locs : List Loc) (t56_0 : Int32) (σj56 : Sg), (0 ≤ t56_0.toInt ∧ t56_0.toInt ≤ 1) → D_X7_findOdds_56 (D_X7_findOdds_12 p1.toInt p2.toInt n12) (D_X7_findOdds_32 (D_X7_findOdds_12 p1.toInt p2.toInt n12) p1.toInt p2.toInt y12_3.toInt n32) p1.toInt y32_4.toInt y32_6.toInt (σj56 o0) t56_0.toInt = some out → FR σ σj56 o0 → TY z (zA z) σj56 H → va_S (zA z) s.heap H locs → lv_has ls 8 [(0, .ref h0), (1, .int p1), (2, .int p2), (3, .int y12_3), (4, .long y32_4), (6, .int y32_6)] → W p l e (rmF 9 243) s m ([.ref h0, .int p1, .int p2] : List Value).toArray below meth c H locs 0 0 (MQ below (QcV z (fun H => ∃ σ' : Sg, some (σ' o0) = some out ∧ FR σ σ' o0 ∧ TY z (zA z) σ' H)) ([.ref h0, .int p1, .int p2] : List Value).toArray s 0 0 (zA z)) (F0 m 56 ls [.int t56_0]) := by
                intro ls H locs t56_0 σj56 j56_t56_0 hF hfr hT hS hl
                unfold D_X7_findOdds_56 at hF
                refine lv_istore (lv' := [(7, .int t56_0), (0, .ref h0), (1, .int p1), (2, .int p2), (3, .int y12_3), (4, .long y32_4), (6, .int y32_6)]) hx hb dX7_findOdds_56 hl (by decide) rfl (fun ls hl => ?_)
                refine lv_lload hx hb dX7_findOdds_58 (lv_at hl 5 rfl) ?_
                refine lv_iload hx hb dX7_findOdds_60 (lv_at hl 0 rfl) ?_
                have J75 : ∀ (ls : Array Slot) (H : Heap) (locs : List Loc) (t75_1 : Int64) (σj75 : Sg), D_X7_findOdds_75 (D_X7_findOdds_12 p1.toInt p2.toInt n12) (D_X7_findOdds_32 (D_X7_findOdds_12 p1.toInt p2.toInt n12) p1.toInt p2.toInt y12_3.toInt n32) t56_0.toInt y32_4.toInt y32_6.toInt (σj75 o0) t75_1.toInt = some out → FR σ σj75 o0 → TY z (zA z) σj75 H → va_S (zA z) s.heap H locs → lv_has ls 8 [(0, .ref h0), (1, .int p1), (2, .int p2), (3, .int y12_3), (4, .long y32_4), (6, .int y32_6), (7, .int t56_0)] → W p l e (rmF 9 243) s m ([.ref h0, .int p1, .int p2] : List Value).toArray below meth c H locs 0 0 (MQ below (QcV z (fun H => ∃ σ' : Sg, some (σ' o0) = some out ∧ FR σ σ' o0 ∧ TY z (zA z) σ' H)) ([.ref h0, .int p1, .int p2] : List Value).toArray s 0 0 (zA z)) (F0 m 75 ls [.long t75_1, .long y32_4]) := by
                  intro ls H locs t75_1 σj75 hF hfr hT hS hl
                  unfold D_X7_findOdds_75 at hF
                  refine x_lmul hx hb dX7_findOdds_75 (fun x75 e75 => ?_)
                  have hF := bn hF e75
                  refine lv_lstore (lv' := [(4, .long x75), (0, .ref h0), (1, .int p1), (2, .int p2), (3, .int y12_3), (6, .int y32_6), (7, .int t56_0)]) hx hb dX7_findOdds_76 hl (by decide) rfl (fun ls hl => ?_)
                  refine lv_aload_n hx hb dX7_findOdds_78 rfl (lv_at hl 1 rfl) ?_
                  refine lv_iload hx hb dX7_findOdds_79 (lv_at hl 5 rfl) ?_
                  refine r_iconst hx hb dX7_findOdds_81 (by decide) (by decide) (fun x81 e81 => ?_)
                  have hF := bn hF e81
                  refine lv_iload hx hb dX7_findOdds_82 (lv_at hl 6 rfl) ?_
                  have J98 : ∀ (ls : Array Slot) (H : Heap) (locs : List Loc) (t98_3 : Int32) (σj98 : Sg), (0 ≤ t98_3.toInt ∧ t98_3.toInt ≤ 9) → D_X7_findOdds_98 (D_X7_findOdds_12 p1.toInt p2.toInt n12) (D_X7_findOdds_32 (D_X7_findOdds_12 p1.toInt p2.toInt n12) p1.toInt p2.toInt y12_3.toInt n32) x75.toInt x81.toInt y32_6.toInt (σj98 o0) t98_3.toInt = some out → FR σ σj98 o0 → TY z (zA z) σj98 H → va_S (zA z) s.heap H locs → lv_has ls 8 [(0, .ref h0), (1, .int p1), (2, .int p2), (3, .int y12_3), (4, .long x75), (6, .int y32_6), (7, .int t56_0)] → W p l e (rmF 9 243) s m ([.ref h0, .int p1, .int p2] : List Value).toArray below meth c H locs 0 0 (MQ below (QcV z (fun H => ∃ σ' : Sg, some (σ' o0) = some out ∧ FR σ σ' o0 ∧ TY z (zA z) σ' H)) ([.ref h0, .int p1, .int p2] : List Value).toArray s 0 0 (zA z)) (F0 m 98 ls [.int t98_3, .int x81, .int y32_6, .ref h0]) := by
                    intro ls H locs t98_3 σj98 j98_t98_3 hF hfr hT hS hl
                    unfold D_X7_findOdds_98 at hF
                    obtain ⟨s98, hd98, -⟩ := bd1_s hF
                    refine cl_Vv (rest := []) hC hK hSK (c_X7_becomesOf l z σj98 h0 (o0) g0 y32_6 x81 t98_3 s98 hd98 (by omega) (by omega) (by omega)) k_X7_becomesOf mw_5_100 ⟨rfl, rfl, Nat.le_of_ble_eq_true rfl, Nat.le_of_ble_eq_true rfl⟩ (rv_Model hK hT g0) hT rfl hl.1 rfl (Nat.le_of_ble_eq_true rfl) dX7_findOdds_98 ⟨Nat.zero_le _, Nat.zero_le _⟩ hS (fun _ h => h) (fun _ _ h => h) (fun H locs hpo hS => ?_)
                    obtain ⟨σ98, he98, hf98, hT⟩ := hpo
                    have hF := bd1_r hF hd98 he98
                    have hfr := FR_tr hf98 hfr
                    refine r_iinc (lv' := fun v__ => [(6, .int v__), (0, .ref h0), (1, .int p1), (2, .int p2), (3, .int y12_3), (4, .long x75), (7, .int t56_0)]) hx hb dX7_findOdds_101 hl (k := 5) rfl (by decide) (fun _ => rfl) ⟨by decide, by decide⟩ (by omega) (by omega) (fun x101 ls e101 hl => ?_)
                    have hF := bn hF e101
                    refine lv_goto (tgt := 32) hx hb dX7_findOdds_104 (by decide) ?_
                    exact ih32 ls _ _ x75 x101 σ98 (by omega) hF hfr hT hS (lv_sub hl [1, 2, 3, 4, 5, 0] rfl)
                  refine r_if_eq (tgt := 91) hx hb dX7_findOdds_84 (by decide) (fun c84 => ?_) (fun c84 => ?_)
                  · have hF := ifp hF c84
                    refine lv_aload_n hx hb dX7_findOdds_91 rfl (lv_at hl 1 rfl) ?_
                    refine lv_iload hx hb dX7_findOdds_92 (lv_at hl 5 rfl) ?_
                    refine r_iconst hx hb dX7_findOdds_94 (by decide) (by decide) (fun x94 e94 => ?_)
                    have hF := bn hF e94
                    obtain ⟨v95, hd95, -⟩ := bd0_s hF
                    refine cl_Vi (rest := [.int x81, .int y32_6, .ref h0]) hC hK hSK (c_X7_of l z σj75 h0 (o0) g0 y32_6 x94 v95 hd95 (by omega) (by omega)) k_X7_of mw_5_15 ⟨rfl, rfl, Nat.le_of_ble_eq_true rfl, Nat.le_of_ble_eq_true rfl⟩ (rv_Model hK hT g0) hT rfl hl.1 rfl (Nat.le_of_ble_eq_true rfl) dX7_findOdds_95 ⟨Nat.zero_le _, Nat.zero_le _⟩ hS (fun _ h => h) (fun _ _ h => h) (fun r95 H locs hpo hS => ?_)
                    obtain ⟨he95, hT, u95_0⟩ := hpo
                    have hF := bd0_r hF hd95 he95
                    exact J98 ls _ _ r95 σj75 (by omega) hF hfr hT hS (lv_sub hl [1, 2, 3, 4, 0, 5, 6] rfl)
                  · have hF := ifn hF c84
                    refine r_iconst hx hb dX7_findOdds_87 (by decide) (by decide) (fun x87 e87 => ?_)
                    have hF := bn hF e87
                    refine lv_goto (tgt := 98) hx hb dX7_findOdds_88 (by decide) ?_
                    exact J98 ls _ _ x87 σj75 (by omega) hF hfr hT hS (lv_sub hl [1, 2, 3, 4, 0, 5, 6] rfl)
                refine r_if_eq (tgt := 70) hx hb dX7_findOdds_62 (by decide) (fun c62 => ?_) (fun c62 => ?_)
                · have hF := ifp hF c62
                  refine r_bipush hx hb dX7_findOdds_70 rfl (fun x70 e70 => ?_)
                  have hF := bn hF e70
                  refine lv_iload_n hx hb dX7_findOdds_72 rfl (lv_at hl 2 rfl) ?_
                  refine x_isub hx hb dX7_findOdds_73 (fun x73 e73 => ?_)
                  have hF := bn hF e73
                  refine r_i2l hx hb dX7_findOdds_74 (fun x74 e74 => ?_)
                  have hF := bn hF e74
                  exact J75 ls _ _ x74 σj56 hF hfr hT hS (lv_sub hl [1, 2, 3, 4, 5, 6, 0] rfl)
                · have hF := ifn hF c62
                  refine lv_iload_n hx hb dX7_findOdds_65 rfl (lv_at hl 2 rfl) ?_
                  refine r_i2l hx hb dX7_findOdds_66 (fun x66 e66 => ?_)
                  have hF := bn hF e66
                  refine lv_goto (tgt := 75) hx hb dX7_findOdds_67 (by decide) ?_
                  exact J75 ls _ _ x66 σj56 hF hfr hT hS (lv_sub hl [1, 2, 3, 4, 5, 6, 0] rfl)
              refine r_icmp_ne (tgt := 55) hx hb dX7_findOdds_48 (by decide) (fun c48 => ?_) (fun c48 => ?_)
              · have hF := ifn hF c48
                refine r_iconst hx hb dX7_findOdds_55 (by decide) (by decide) (fun x55 e55 => ?_)
                have hF := bn hF e55
                exact J56 ls _ _ x55 σj32 (by omega) hF hfr hT hS (lv_sub hl [0, 1, 2, 3, 4, 5] rfl)
              · have hF := ifp hF c48
                refine r_iconst hx hb dX7_findOdds_51 (by decide) (by decide) (fun x51 e51 => ?_)
                have hF := bn hF e51
                refine lv_goto (tgt := 56) hx hb dX7_findOdds_52 (by decide) ?_
                exact J56 ls _ _ x51 σj32 (by omega) hF hfr hT hS (lv_sub hl [0, 1, 2, 3, 4, 5] rfl)
        exact J32 5000 ls _ _ x22 x29 σ26 (by omega) hF hfr hT hS (lv_sub hl [2, 3, 4, 5, 1, 0] rfl)
  exact J12 5000 ls _ _ x10 σ7 (by omega) hF hfr hT hS (lv_sub hl [1, 2, 3, 0] rfl)
theorem k_X7_isSo : cBV yX7_isSo cX7_isSo 5 (some .boolean) 0 := ⟨mw_5_210, ms_4_1, mw_1_8, mw_5_211, ⟨by decide, by decide, by decide⟩⟩
set_option maxHeartbeats 4000000 in
set_option maxRecDepth 100000 in
theorem c_X7_isSo (l : Launch) (z : Zt) (σ : Sg) (h0 o0 : Nat) (g0 : zG z h0 = (17, o0)) (out : (Int × Lo)) (hF : D_X7_isSo (σ o0) = some out) : Met l yX7_isSo (uw yX7_isSo cX7_isSo 5 (some .boolean)) (rmF 8 222) (PcW z [.ref h0] (fun H => TY z (zA z) σ H)) (QcI z (fun r H => ∃ σ' : Sg, some (r.toInt, σ' o0) = some out ∧ FR σ σ' o0 ∧ TY z (zA z) σ' H ∧ (0 ≤ r.toInt ∧ r.toInt ≤ 1))) 0 0 (zA z) := by
  refine Met.ofW (cc := cX7_isSo) (maxL := 5) (ret := (some .boolean)) (by decide) rfl ?_
  intro p e s m args below meth c s₁ B hml hv
  obtain ⟨rfl, hT, hK, hSK⟩ := hv
  have hx := B.exec
  have hb := B.bytes
  have hr := B.returns
  have hts : ∀ w ∈ lw_ok, w.before ([.ref h0] : List Value).toArray s = true := fun w hw => atoms_spec (ws := uw yX7_isSo cX7_isSo 5 (some .boolean)) B.pre w (List.mem_cons_of_mem _ hw)
  have hown : s.vm.findClass RX7 = some m.cls := findClass_of_methodNamed B.named
  have hlk := B.notSynchronized
  have hC : CallFix p m c cX7_isSo 5 s ([.ref h0] : List Value).toArray lw_ok RX7 := ⟨hx, hb, hml, hown, hts⟩
  have hS : va_S (zA z) s.heap s.heap [] := va_S.rf
  have hl := lv_entry ([.ref h0]) (n := 5) (Nat.le_of_ble_eq_true rfl)
  rw [lg_entry_eq]
  generalize (lg_sl ([.ref h0]) ++ List.replicate (5 - (lg_sl ([.ref h0])).length) Slot.unset).toArray = ls at hl ⊢
  have hl : lv_has ls 5 [(0, .ref h0)] := hl
  show W p l e (rmF 8 222) s m ([.ref h0] : List Value).toArray below meth c s.heap [] 0 0 (MQ below (QcI z (fun r H => ∃ σ' : Sg, some (r.toInt, σ' o0) = some out ∧ FR σ σ' o0 ∧ TY z (zA z) σ' H ∧ (0 ≤ r.toInt ∧ r.toInt ≤ 1))) ([.ref h0] : List Value).toArray s 0 0 (zA z)) (F0 m 0 ls [])
  have hfr : FR σ σ o0 := FR_rf σ o0
  unfold D_X7_isSo at hF
  refine r_iconst hx hb dX7_isSo_0 (by decide) (by decide) (fun x0 e0 => ?_)
  have hF := bn hF e0
  refine lv_istore_n (lv' := [(1, .int x0), (0, .ref h0)]) hx hb dX7_isSo_1 rfl hl (by decide) rfl (fun ls hl => ?_)
  refine r_iconst hx hb dX7_isSo_2 (by decide) (by decide) (fun x2 e2 => ?_)
  have hF := bn hF e2
  refine lv_istore_n (lv' := [(2, .int x2), (1, .int x0), (0, .ref h0)]) hx hb dX7_isSo_3 rfl hl (by decide) rfl (fun ls hl => ?_)
  have J4 : ∀ (n4 : Nat) (ls : Array Slot) (H : Heap) (locs : List Loc) (y4_1 : Int32) (y4_2 : Int32) (σj4 : Sg), (0 ≤ y4_1.toInt ∧ y4_1.toInt ≤ 1) → (0 ≤ y4_2.toInt ∧ y4_2.toInt ≤ 9) → D_X7_isSo_4 n4 (σj4 o0) y4_1.toInt y4_2.toInt = some out → FR σ σj4 o0 → TY z (zA z) σj4 H → va_S (zA z) s.heap H locs → lv_has ls 5 [(0, .ref h0), (1, .int y4_1), (2, .int y4_2)] → W p l e (rmF 8 222) s m ([.ref h0] : List Value).toArray below meth c H locs 0 0 (MQ below (QcI z (fun r H => ∃ σ' : Sg, some (r.toInt, σ' o0) = some out ∧ FR σ σ' o0 ∧ TY z (zA z) σ' H ∧ (0 ≤ r.toInt ∧ r.toInt ≤ 1))) ([.ref h0] : List Value).toArray s 0 0 (zA z)) (F0 m 4 ls []) := by
    intro n4
    induction n4 with
    | zero => intro ls H locs y4_1 y4_2 σj4 j4_y4_1 j4_y4_2 hF hfr hT hS hl; exact (no_s hF).elim
    | succ n4 ih4 =>
      intro ls H locs y4_1 y4_2 σj4 j4_y4_1 j4_y4_2 hF hfr hT hS hl
      rw [D_X7_isSo_4.eq_2] at hF
      refine lv_iload_n hx hb dX7_isSo_4 rfl (lv_at hl 2 rfl) ?_
      refine r_bipush hx hb dX7_isSo_5 rfl (fun x5 e5 => ?_)
      have hF := bn hF e5
      refine r_icmp_gt (tgt := 117) hx hb dX7_isSo_7 (by decide) (fun c7 => ?_) (fun c7 => ?_)
      · have hF := ifp hF c7
        refine lv_iload_n hx hb dX7_isSo_117 rfl (lv_at hl 1 rfl) ?_
        exact rt_z hx hb hr hlk hS (by omega) (by omega) ⟨σj4, hF, hfr, hT, (by omega)⟩ dX7_isSo_118
      · have hF := ifn hF (Int.not_lt.mpr c7)
        refine r_iconst hx hb dX7_isSo_10 (by decide) (by decide) (fun x10 e10 => ?_)
        have hF := bn hF e10
        refine lv_istore_n (lv' := [(3, .int x10), (0, .ref h0), (1, .int y4_1), (2, .int y4_2)]) hx hb dX7_isSo_11 rfl hl (by decide) rfl (fun ls hl => ?_)
        have J12 : ∀ (n12 : Nat) (ls : Array Slot) (H : Heap) (locs : List Loc) (y12_1 : Int32) (y12_3 : Int32) (σj12 : Sg), (0 ≤ y12_1.toInt ∧ y12_1.toInt ≤ 1) → (0 ≤ y12_3.toInt ∧ y12_3.toInt ≤ 6) → D_X7_isSo_12 (D_X7_isSo_4 n4) y4_2.toInt n12 (σj12 o0) y12_1.toInt y12_3.toInt = some out → FR σ σj12 o0 → TY z (zA z) σj12 H → va_S (zA z) s.heap H locs → lv_has ls 5 [(0, .ref h0), (1, .int y12_1), (2, .int y4_2), (3, .int y12_3)] → W p l e (rmF 8 222) s m ([.ref h0] : List Value).toArray below meth c H locs 0 0 (MQ below (QcI z (fun r H => ∃ σ' : Sg, some (r.toInt, σ' o0) = some out ∧ FR σ σ' o0 ∧ TY z (zA z) σ' H ∧ (0 ≤ r.toInt ∧ r.toInt ≤ 1))) ([.ref h0] : List Value).toArray s 0 0 (zA z)) (F0 m 12 ls []) := by
          intro n12
          induction n12 with
          | zero => intro ls H locs y12_1 y12_3 σj12 j12_y12_1 j12_y12_3 hF hfr hT hS hl; exact (no_s hF).elim
          | succ n12 ih12 =>
            intro ls H locs y12_1 y12_3 σj12 j12_y12_1 j12_y12_3 hF hfr hT hS hl
            rw [D_X7_isSo_12.eq_2] at hF
            refine lv_iload_n hx hb dX7_isSo_12 rfl (lv_at hl 3 rfl) ?_
            refine lv_aload_n hx hb dX7_isSo_13 rfl (lv_at hl 0 rfl) ?_
            refine gt_Model_now hx hb hts ic_Model hown hK hT g0 (hts _ mw_4_71) dX7_isSo_14 (fun q14 hq14 => ?_)
            refine r_bipush hx hb dX7_isSo_17 rfl (fun x17 e17 => ?_)
            have hF := bn hF e17
            refine al_41 hx hb hK hT hq14 (by omega) (by omega) dX7_isSo_19 (fun x19 e19 g19 => ?_)
            have hF := bn hF e19
            have f19 := gd59_40 g19 (by omega)
            refine r_icmp_ge (tgt := 87) hx hb dX7_isSo_20 (by decide) (fun c20 => ?_) (fun c20 => ?_)
            · have hF := ifn hF (Int.not_lt.mpr c20)
              refine lv_iload_n hx hb dX7_isSo_87 rfl (lv_at hl 2 rfl) ?_
              refine lv_aload_n hx hb dX7_isSo_88 rfl (lv_at hl 0 rfl) ?_
              refine gt_Model_now hx hb hts ic_Model hown hK hT g0 (hts _ mw_4_71) dX7_isSo_89 (fun q89 hq89 => ?_)
              refine r_bipush hx hb dX7_isSo_92 rfl (fun x92 e92 => ?_)
              have hF := bn hF e92
              refine al_41 hx hb hK hT hq89 (by omega) (by omega) dX7_isSo_94 (fun x94 e94 g94 => ?_)
              have hF := bn hF e94
              have f94 := gd59_31 g94 (by omega)
              have J111 : ∀ (ls : Array Slot) (H : Heap) (locs : List Loc) (σj111 : Sg), D_X7_isSo_111 (D_X7_isSo_4 n4) y12_1.toInt y4_2.toInt (σj111 o0) = some out → FR σ σj111 o0 → TY z (zA z) σj111 H → va_S (zA z) s.heap H locs → lv_has ls 5 [(0, .ref h0), (1, .int y12_1), (2, .int y4_2), (3, .int y12_3)] → W p l e (rmF 8 222) s m ([.ref h0] : List Value).toArray below meth c H locs 0 0 (MQ below (QcI z (fun r H => ∃ σ' : Sg, some (r.toInt, σ' o0) = some out ∧ FR σ σ' o0 ∧ TY z (zA z) σ' H ∧ (0 ≤ r.toInt ∧ r.toInt ≤ 1))) ([.ref h0] : List Value).toArray s 0 0 (zA z)) (F0 m 111 ls []) := by
                intro ls H locs σj111 hF hfr hT hS hl
                unfold D_X7_isSo_111 at hF
                refine r_iinc (lv' := fun v__ => [(2, .int v__), (0, .ref h0), (1, .int y12_1), (3, .int y12_3)]) hx hb dX7_isSo_111 hl (k := 2) rfl (by decide) (fun _ => rfl) ⟨by decide, by decide⟩ (by omega) (by omega) (fun x111 ls e111 hl => ?_)
                have hF := bn hF e111
                refine lv_goto (tgt := 4) hx hb dX7_isSo_114 (by decide) ?_
                exact ih4 ls _ _ y12_1 x111 σj111 (by omega) (by omega) hF hfr hT hS (lv_sub hl [1, 2, 0] rfl)
              refine r_icmp_ge (tgt := 111) hx hb dX7_isSo_95 (by decide) (fun c95 => ?_) (fun c95 => ?_)
              · have hF := ifn hF (Int.not_lt.mpr c95)
                exact J111 ls _ _ σj12 hF hfr hT hS (lv_sub hl [0, 1, 2, 3] rfl)
              · have hF := ifp hF c95
                refine lv_aload_n hx hb dX7_isSo_98 rfl (lv_at hl 0 rfl) ?_
                refine lv_aload_n hx hb dX7_isSo_99 rfl (lv_at hl 0 rfl) ?_
                refine gt_Model_now hx hb hts ic_Model hown hK hT g0 (hts _ mw_4_71) dX7_isSo_100 (fun q100 hq100 => ?_)
                refine r_bipush hx hb dX7_isSo_103 rfl (fun x103 e103 => ?_)
                have hF := bn hF e103
                refine lv_iload_n hx hb dX7_isSo_105 rfl (lv_at hl 2 rfl) ?_
                refine r_iadd hx hb dX7_isSo_106 (by omega) (by omega) (fun x106 e106 => ?_)
                have hF := bn hF e106
                refine al_41 hx hb hK hT hq100 (by omega) (by omega) dX7_isSo_107 (fun x107 e107 g107 => ?_)
                have hF := bn hF e107
                obtain ⟨s108, hd108, -⟩ := bd1_s hF
                refine cl_Vv (rest := []) hC hK hSK (c_X7_danceOn l z σj12 h0 (o0) g0 x107 s108 hd108) k_X7_danceOn mw_5_88 ⟨rfl, rfl, Nat.le_of_ble_eq_true rfl, Nat.le_of_ble_eq_true rfl⟩ (rv_Model hK hT g0) hT rfl hl.1 rfl (Nat.le_of_ble_eq_true rfl) dX7_isSo_108 ⟨Nat.zero_le _, Nat.zero_le _⟩ hS (fun _ h => h) (fun _ _ h => h) (fun H locs hpo hS => ?_)
                obtain ⟨σ108, he108, hf108, hT⟩ := hpo
                have hF := bd1_r hF hd108 he108
                have hfr := FR_tr hf108 hfr
                exact J111 ls _ _ σ108 hF hfr hT hS (lv_sub hl [0, 1, 2, 3] rfl)
            · have hF := ifp hF c20
              refine r_bipush hx hb dX7_isSo_23 rfl (fun x23 e23 => ?_)
              have hF := bn hF e23
              refine r_iconst hx hb dX7_isSo_25 (by decide) (by decide) (fun x25 e25 => ?_)
              have hF := bn hF e25
              refine lv_iload_n hx hb dX7_isSo_26 rfl (lv_at hl 3 rfl) ?_
              refine r_imulL (3) (by omega) hx hb dX7_isSo_27 (by omega) (by omega) (fun x27 e27 => ?_)
              have hF := bn hF e27
              refine r_iadd hx hb dX7_isSo_28 (by omega) (by omega) (fun x28 e28 => ?_)
              have hF := bn hF e28
              refine lv_istore (lv' := [(4, .int x28), (0, .ref h0), (1, .int y12_1), (2, .int y4_2), (3, .int y12_3)]) hx hb dX7_isSo_29 hl (by decide) rfl (fun ls hl => ?_)
              refine lv_iload_n hx hb dX7_isSo_31 rfl (lv_at hl 2 rfl) ?_
              have J80 : ∀ (ls : Array Slot) (H : Heap) (locs : List Loc) (t80_0 : Int32) (σj80 : Sg), (0 ≤ t80_0.toInt ∧ t80_0.toInt ≤ 1) → D_X7_isSo_80 (D_X7_isSo_4 n4) (D_X7_isSo_12 (D_X7_isSo_4 n4) y4_2.toInt n12) y12_3.toInt (σj80 o0) t80_0.toInt = some out → FR σ σj80 o0 → TY z (zA z) σj80 H → va_S (zA z) s.heap H locs → lv_has ls 5 [(0, .ref h0), (1, .int y12_1), (2, .int y4_2), (3, .int y12_3), (4, .int x28)] → W p l e (rmF 8 222) s m ([.ref h0] : List Value).toArray below meth c H locs 0 0 (MQ below (QcI z (fun r H => ∃ σ' : Sg, some (r.toInt, σ' o0) = some out ∧ FR σ σ' o0 ∧ TY z (zA z) σ' H ∧ (0 ≤ r.toInt ∧ r.toInt ≤ 1))) ([.ref h0] : List Value).toArray s 0 0 (zA z)) (F0 m 80 ls [.int t80_0]) := by
                intro ls H locs t80_0 σj80 j80_t80_0 hF hfr hT hS hl
                unfold D_X7_isSo_80 at hF
                refine lv_istore_n (lv' := [(1, .int t80_0), (0, .ref h0), (2, .int y4_2), (3, .int y12_3), (4, .int x28)]) hx hb dX7_isSo_80 rfl hl (by decide) rfl (fun ls hl => ?_)
                refine r_iinc (lv' := fun v__ => [(3, .int v__), (1, .int t80_0), (0, .ref h0), (2, .int y4_2), (4, .int x28)]) hx hb dX7_isSo_81 hl (k := 3) rfl (by decide) (fun _ => rfl) ⟨by decide, by decide⟩ (by omega) (by omega) (fun x81 ls e81 hl => ?_)
                have hF := bn hF e81
                refine lv_goto (tgt := 12) hx hb dX7_isSo_84 (by decide) ?_
                exact ih12 ls _ _ t80_0 x81 σj80 (by omega) (by omega) hF hfr hT hS (lv_sub hl [2, 1, 3, 0] rfl)
              have J79 : ∀ (ls : Array Slot) (H : Heap) (locs : List Loc) (σj79 : Sg), D_X7_isSo_79 (D_X7_isSo_4 n4) (D_X7_isSo_12 (D_X7_isSo_4 n4) y4_2.toInt n12) y12_3.toInt (σj79 o0) = some out → FR σ σj79 o0 → TY z (zA z) σj79 H → va_S (zA z) s.heap H locs → lv_has ls 5 [(0, .ref h0), (1, .int y12_1), (2, .int y4_2), (3, .int y12_3), (4, .int x28)] → W p l e (rmF 8 222) s m ([.ref h0] : List Value).toArray below meth c H locs 0 0 (MQ below (QcI z (fun r H => ∃ σ' : Sg, some (r.toInt, σ' o0) = some out ∧ FR σ σ' o0 ∧ TY z (zA z) σ' H ∧ (0 ≤ r.toInt ∧ r.toInt ≤ 1))) ([.ref h0] : List Value).toArray s 0 0 (zA z)) (F0 m 79 ls []) := by
                intro ls H locs σj79 hF hfr hT hS hl
                unfold D_X7_isSo_79 at hF
                refine r_iconst hx hb dX7_isSo_79 (by decide) (by decide) (fun x79 e79 => ?_)
                have hF := bn hF e79
                exact J80 ls _ _ x79 σj79 (by omega) hF hfr hT hS (lv_sub hl [0, 1, 2, 3, 4] rfl)
              refine r_if_eq (tgt := 79) hx hb dX7_isSo_32 (by decide) (fun c32 => ?_) (fun c32 => ?_)
              · have hF := ifp hF c32
                exact J79 ls _ _ σj12 hF hfr hT hS (lv_sub hl [1, 2, 3, 4, 0] rfl)
              · have hF := ifn hF c32
                refine lv_aload_n hx hb dX7_isSo_35 rfl (lv_at hl 1 rfl) ?_
                refine gt_Model_now hx hb hts ic_Model hown hK hT g0 (hts _ mw_4_71) dX7_isSo_36 (fun q36 hq36 => ?_)
                refine lv_iload hx hb dX7_isSo_39 (lv_at hl 0 rfl) ?_
                refine r_iconst hx hb dX7_isSo_41 (by decide) (by decide) (fun x41 e41 => ?_)
                have hF := bn hF e41
                refine r_iadd hx hb dX7_isSo_42 (by omega) (by omega) (fun x42 e42 => ?_)
                have hF := bn hF e42
                refine al_41 hx hb hK hT hq36 (by omega) (by omega) dX7_isSo_43 (fun x43 e43 g43 => ?_)
                have hF := bn hF e43
                refine lv_iload_n hx hb dX7_isSo_44 rfl (lv_at hl 3 rfl) ?_
                have J75 : ∀ (ls : Array Slot) (H : Heap) (locs : List Loc) (σj75 : Sg), D_X7_isSo_75 (D_X7_isSo_4 n4) (D_X7_isSo_12 (D_X7_isSo_4 n4) y4_2.toInt n12) y12_3.toInt (σj75 o0) = some out → FR σ σj75 o0 → TY z (zA z) σj75 H → va_S (zA z) s.heap H locs → lv_has ls 5 [(0, .ref h0), (1, .int y12_1), (2, .int y4_2), (3, .int y12_3), (4, .int x28)] → W p l e (rmF 8 222) s m ([.ref h0] : List Value).toArray below meth c H locs 0 0 (MQ below (QcI z (fun r H => ∃ σ' : Sg, some (r.toInt, σ' o0) = some out ∧ FR σ σ' o0 ∧ TY z (zA z) σ' H ∧ (0 ≤ r.toInt ∧ r.toInt ≤ 1))) ([.ref h0] : List Value).toArray s 0 0 (zA z)) (F0 m 75 ls []) := by
                  intro ls H locs σj75 hF hfr hT hS hl
                  unfold D_X7_isSo_75 at hF
                  refine r_iconst hx hb dX7_isSo_75 (by decide) (by decide) (fun x75 e75 => ?_)
                  have hF := bn hF e75
                  refine lv_goto (tgt := 80) hx hb dX7_isSo_76 (by decide) ?_
                  exact J80 ls _ _ x75 σj75 (by omega) hF hfr hT hS (lv_sub hl [0, 1, 2, 3, 4] rfl)
                refine r_icmp_ne (tgt := 75) hx hb dX7_isSo_45 (by decide) (fun c45 => ?_) (fun c45 => ?_)
                · have hF := ifn hF c45
                  exact J75 ls _ _ σj12 hF hfr hT hS (lv_sub hl [1, 2, 3, 4, 0] rfl)
                · have hF := ifp hF c45
                  refine lv_aload_n hx hb dX7_isSo_48 rfl (lv_at hl 1 rfl) ?_
                  refine gt_Model_now hx hb hts ic_Model hown hK hT g0 (hts _ mw_4_71) dX7_isSo_49 (fun q49 hq49 => ?_)
                  refine r_bipush hx hb dX7_isSo_52 rfl (fun x52 e52 => ?_)
                  have hF := bn hF e52
                  refine lv_aload_n hx hb dX7_isSo_54 rfl (lv_at hl 1 rfl) ?_
                  refine gt_Model_now hx hb hts ic_Model hown hK hT g0 (hts _ mw_4_71) dX7_isSo_55 (fun q55 hq55 => ?_)
                  refine lv_iload hx hb dX7_isSo_58 (lv_at hl 0 rfl) ?_
                  refine al_41 hx hb hK hT hq55 (by omega) (by omega) dX7_isSo_60 (fun x60 e60 g60 => ?_)
                  have hF := bn hF e60
                  refine x_iadd hx hb dX7_isSo_61 (fun x61 e61 => ?_)
                  have hF := bn hF e61
                  obtain ⟨kb62, hF⟩ := ck hF
                  refine al_41 hx hb hK hT hq49 (by omega) (by omega) dX7_isSo_62 (fun x62 e62 g62 => ?_)
                  have hF := bn hF e62
                  refine lv_aload_n hx hb dX7_isSo_63 rfl (lv_at hl 1 rfl) ?_
                  refine gt_Model_now hx hb hts ic_Model hown hK hT g0 (hts _ mw_4_71) dX7_isSo_64 (fun q64 hq64 => ?_)
                  refine lv_iload hx hb dX7_isSo_67 (lv_at hl 0 rfl) ?_
                  refine r_iconst hx hb dX7_isSo_69 (by decide) (by decide) (fun x69 e69 => ?_)
                  have hF := bn hF e69
                  refine r_iadd hx hb dX7_isSo_70 (by omega) (by omega) (fun x70 e70 => ?_)
                  have hF := bn hF e70
                  refine al_41 hx hb hK hT hq64 (by omega) (by omega) dX7_isSo_71 (fun x71 e71 g71 => ?_)
                  have hF := bn hF e71
                  refine r_icmp_ne (tgt := 79) hx hb dX7_isSo_72 (by decide) (fun c72 => ?_) (fun c72 => ?_)
                  · have hF := ifn hF c72
                    exact J79 ls _ _ σj12 hF hfr hT hS (lv_sub hl [1, 2, 3, 4, 0] rfl)
                  · have hF := ifp hF c72
                    exact J75 ls _ _ σj12 hF hfr hT hS (lv_sub hl [1, 2, 3, 4, 0] rfl)
        exact J12 5000 ls _ _ y4_1 x10 σj4 (by omega) (by omega) hF hfr hT hS (lv_sub hl [1, 2, 3, 0] rfl)
  exact J4 5000 ls _ _ x0 x2 σ (by omega) (by omega) hF hfr hT hS (lv_sub hl [2, 1, 0] rfl)
theorem k_X7_isOrder : cBV yX7_isOrder cX7_isOrder 6 (some .boolean) 1 := ⟨mw_5_157, ms_3_13, mw_1_8, mw_5_158, ⟨by decide, by decide, by decide⟩⟩
set_option maxHeartbeats 4000000 in
set_option maxRecDepth 100000 in
theorem c_X7_isOrder (l : Launch) (z : Zt) (σ : Sg) (h0 o0 : Nat) (g0 : zG z h0 = (17, o0)) (p1 : Int32) (out : (Int × Lo)) (hF : D_X7_isOrder (σ o0) p1.toInt = some out) : Met l yX7_isOrder (uw yX7_isOrder cX7_isOrder 6 (some .boolean)) (rmF 1 64) (PcW z [.ref h0, .int p1] (fun H => TY z (zA z) σ H)) (QcI z (fun r H => ∃ σ' : Sg, some (r.toInt, σ' o0) = some out ∧ FR σ σ' o0 ∧ TY z (zA z) σ' H ∧ (0 ≤ r.toInt ∧ r.toInt ≤ 1))) 0 0 (zA z) := by
  refine Met.ofW (cc := cX7_isOrder) (maxL := 6) (ret := (some .boolean)) (by decide) rfl ?_
  intro p e s m args below meth c s₁ B hml hv
  obtain ⟨rfl, hT, hK, hSK⟩ := hv
  have hx := B.exec
  have hb := B.bytes
  have hr := B.returns
  have hts : ∀ w ∈ lw_ok, w.before ([.ref h0, .int p1] : List Value).toArray s = true := fun w hw => atoms_spec (ws := uw yX7_isOrder cX7_isOrder 6 (some .boolean)) B.pre w (List.mem_cons_of_mem _ hw)
  have hown : s.vm.findClass RX7 = some m.cls := findClass_of_methodNamed B.named
  have hlk := B.notSynchronized
  have hC : CallFix p m c cX7_isOrder 6 s ([.ref h0, .int p1] : List Value).toArray lw_ok RX7 := ⟨hx, hb, hml, hown, hts⟩
  have hS : va_S (zA z) s.heap s.heap [] := va_S.rf
  have hl := lv_entry ([.ref h0, .int p1]) (n := 6) (Nat.le_of_ble_eq_true rfl)
  rw [lg_entry_eq]
  generalize (lg_sl ([.ref h0, .int p1]) ++ List.replicate (6 - (lg_sl ([.ref h0, .int p1])).length) Slot.unset).toArray = ls at hl ⊢
  have hl : lv_has ls 6 [(0, .ref h0), (1, .int p1)] := hl
  show W p l e (rmF 1 64) s m ([.ref h0, .int p1] : List Value).toArray below meth c s.heap [] 0 0 (MQ below (QcI z (fun r H => ∃ σ' : Sg, some (r.toInt, σ' o0) = some out ∧ FR σ σ' o0 ∧ TY z (zA z) σ' H ∧ (0 ≤ r.toInt ∧ r.toInt ≤ 1))) ([.ref h0, .int p1] : List Value).toArray s 0 0 (zA z)) (F0 m 0 ls [])
  have hfr : FR σ σ o0 := FR_rf σ o0
  unfold D_X7_isOrder at hF
  have mx_p1 := i_mx p1
  refine lv_aload_n hx hb dX7_isOrder_0 rfl (lv_at hl 0 rfl) ?_
  refine gt_Model_st hx hb hts ic_Model hown hK hT g0 (hts _ mw_4_70) dX7_isOrder_1 (fun q1 hq1 => ?_)
  refine r_bipush hx hb dX7_isOrder_4 rfl (fun x4 e4 => ?_)
  have hF := bn hF e4
  refine al_40 hx hb hK hT hq1 (by omega) (by omega) dX7_isOrder_6 (fun x6 e6 g6 => ?_)
  have hF := bn hF e6
  have f6 := gd59_31 (gd177_e g6 (by omega)) (by omega)
  refine lv_istore_n (lv' := [(2, .int x6), (0, .ref h0), (1, .int p1)]) hx hb dX7_isOrder_7 rfl hl (by decide) rfl (fun ls hl => ?_)
  refine lv_iload_n hx hb dX7_isOrder_8 rfl (lv_at hl 2 rfl) ?_
  refine lv_istore_n (lv' := [(3, .int p1), (2, .int x6), (0, .ref h0), (1, .int p1)]) hx hb dX7_isOrder_9 rfl hl (by decide) rfl (fun ls hl => ?_)
  refine r_iconst hx hb dX7_isOrder_10 (by decide) (by decide) (fun x10 e10 => ?_)
  have hF := bn hF e10
  refine lv_istore (lv' := [(4, .int x10), (3, .int p1), (2, .int x6), (0, .ref h0), (1, .int p1)]) hx hb dX7_isOrder_11 hl (by decide) rfl (fun ls hl => ?_)
  refine lv_iload_n hx hb dX7_isOrder_13 rfl (lv_at hl 2 rfl) ?_
  refine r_iconst hx hb dX7_isOrder_14 (by decide) (by decide) (fun x14 e14 => ?_)
  have hF := bn hF e14
  refine r_isub hx hb dX7_isOrder_15 (by omega) (by omega) (fun x15 e15 => ?_)
  have hF := bn hF e15
  refine lv_istore (lv' := [(5, .int x15), (4, .int x10), (3, .int p1), (2, .int x6), (0, .ref h0), (1, .int p1)]) hx hb dX7_isOrder_16 hl (by decide) rfl (fun ls hl => ?_)
  have J18 : ∀ (n18 : Nat) (ls : Array Slot) (H : Heap) (locs : List Loc) (y18_3 : Int32) (y18_4 : Int32) (y18_5 : Int32) (σj18 : Sg), (-1 ≤ y18_5.toInt ∧ y18_5.toInt ≤ 7) → D_X7_isOrder_18 x6.toInt n18 (σj18 o0) y18_3.toInt y18_4.toInt y18_5.toInt = some out → FR σ σj18 o0 → TY z (zA z) σj18 H → va_S (zA z) s.heap H locs → lv_has ls 6 [(0, .ref h0), (1, .int p1), (2, .int x6), (3, .int y18_3), (4, .int y18_4), (5, .int y18_5)] → W p l e (rmF 1 64) s m ([.ref h0, .int p1] : List Value).toArray below meth c H locs 0 0 (MQ below (QcI z (fun r H => ∃ σ' : Sg, some (r.toInt, σ' o0) = some out ∧ FR σ σ' o0 ∧ TY z (zA z) σ' H ∧ (0 ≤ r.toInt ∧ r.toInt ≤ 1))) ([.ref h0, .int p1] : List Value).toArray s 0 0 (zA z)) (F0 m 18 ls []) := by
    intro n18
    induction n18 with
    | zero => intro ls H locs y18_3 y18_4 y18_5 σj18 j18_y18_5 hF hfr hT hS hl; exact (no_s hF).elim
    | succ n18 ih18 =>
      intro ls H locs y18_3 y18_4 y18_5 σj18 j18_y18_5 hF hfr hT hS hl
      rw [D_X7_isOrder_18.eq_2] at hF
      refine lv_iload hx hb dX7_isOrder_18 (lv_at hl 5 rfl) ?_
      refine r_if_lt (tgt := 57) hx hb dX7_isOrder_20 (by decide) (fun c20 => ?_) (fun c20 => ?_)
      · have hF := ifp hF c20
        refine lv_iload hx hb dX7_isOrder_57 (lv_at hl 4 rfl) ?_
        refine r_iconst hx hb dX7_isOrder_59 (by decide) (by decide) (fun x59 e59 => ?_)
        have hF := bn hF e59
        refine lv_iload_n hx hb dX7_isOrder_60 rfl (lv_at hl 2 rfl) ?_
        refine x_shl1 hx hb dX7_isOrder_61 (by omega) (by omega) (by omega) (fun x61 e61 g61 h61 => ?_)
        have hF := bn hF e61
        refine r_iconst hx hb dX7_isOrder_62 (by decide) (by decide) (fun x62 e62 => ?_)
        have hF := bn hF e62
        refine r_isub hx hb dX7_isOrder_63 (by omega) (by omega) (fun x63 e63 => ?_)
        have hF := bn hF e63
        refine r_icmp_ne (tgt := 71) hx hb dX7_isOrder_64 (by decide) (fun c64 => ?_) (fun c64 => ?_)
        · have hF := ifn hF c64
          refine r_iconst hx hb dX7_isOrder_71 (by decide) (by decide) (fun x71 e71 => ?_)
          have hF := bn hF e71
          exact rt_z hx hb hr hlk hS (by omega) (by omega) ⟨σj18, hF, hfr, hT, (by omega)⟩ dX7_isOrder_72
        · have hF := ifp hF c64
          refine r_iconst hx hb dX7_isOrder_67 (by decide) (by decide) (fun x67 e67 => ?_)
          have hF := bn hF e67
          refine lv_goto (tgt := 72) hx hb dX7_isOrder_68 (by decide) ?_
          exact rt_z hx hb hr hlk hS (by omega) (by omega) ⟨σj18, hF, hfr, hT, (by omega)⟩ dX7_isOrder_72
      · have hF := ifn hF (Int.not_lt.mpr c20)
        refine lv_aload_n hx hb dX7_isOrder_23 rfl (lv_at hl 0 rfl) ?_
        refine gt_Model_order hx hb hts ic_Model hown hK hT g0 (hts _ mw_4_88) dX7_isOrder_24 (fun q24 hq24 => ?_)
        refine lv_iload hx hb dX7_isOrder_27 (lv_at hl 5 rfl) ?_
        refine lv_iload_n hx hb dX7_isOrder_29 rfl (lv_at hl 3 rfl) ?_
        refine lv_iload_n hx hb dX7_isOrder_30 rfl (lv_at hl 2 rfl) ?_
        obtain ⟨kx31, hF⟩ := ck hF
        obtain ⟨ky31, hF⟩ := ck hF
        refine r_irem hx hb dX7_isOrder_31 (by omega) (by omega) (fun x31 e31 g31 h31 => ?_)
        have hF := bn hF e31
        obtain ⟨kb32, hF⟩ := ck hF
        obtain ⟨kv32, hF⟩ := ck hF
        refine as_46 hx hb hK hT hS hq24 (by omega) (by omega) ⟨by omega, by omega⟩ dX7_isOrder_32 (fun H locs hT hS => ?_)
        obtain ⟨σ32, hF, hfr, hT⟩ := wrL hF hfr hT
        refine lv_iload_n hx hb dX7_isOrder_33 rfl (lv_at hl 3 rfl) ?_
        refine lv_iload_n hx hb dX7_isOrder_34 rfl (lv_at hl 2 rfl) ?_
        refine r_idiv hx hb dX7_isOrder_35 (by omega) (by omega) (fun x35 e35 g35 h35 => ?_)
        have hF := bn hF e35
        refine lv_istore_n (lv' := [(3, .int x35), (0, .ref h0), (1, .int p1), (2, .int x6), (4, .int y18_4), (5, .int y18_5)]) hx hb dX7_isOrder_36 rfl hl (by decide) rfl (fun ls hl => ?_)
        refine lv_iload hx hb dX7_isOrder_37 (lv_at hl 4 rfl) ?_
        refine r_iconst hx hb dX7_isOrder_39 (by decide) (by decide) (fun x39 e39 => ?_)
        have hF := bn hF e39
        refine lv_aload_n hx hb dX7_isOrder_40 rfl (lv_at hl 1 rfl) ?_
        refine gt_Model_order hx hb hts ic_Model hown hK hT g0 (hts _ mw_4_88) dX7_isOrder_41 (fun q41 hq41 => ?_)
        refine lv_iload hx hb dX7_isOrder_44 (lv_at hl 5 rfl) ?_
        refine al_46 hx hb hK hT hq41 (by omega) (by omega) dX7_isOrder_46 (fun x46 e46 g46 => ?_)
        have hF := bn hF e46
        refine x_shl1 hx hb dX7_isOrder_47 (by omega) (by omega) (by omega) (fun x47 e47 g47 h47 => ?_)
        have hF := bn hF e47
        refine x_ior hx hb dX7_isOrder_48 (fun x48 e48 => ?_)
        have hF := bn hF e48
        refine lv_istore (lv' := [(4, .int x48), (3, .int x35), (0, .ref h0), (1, .int p1), (2, .int x6), (5, .int y18_5)]) hx hb dX7_isOrder_49 hl (by decide) rfl (fun ls hl => ?_)
        refine r_iinc (lv' := fun v__ => [(5, .int v__), (4, .int x48), (3, .int x35), (0, .ref h0), (1, .int p1), (2, .int x6)]) hx hb dX7_isOrder_51 hl (k := 5) rfl (by decide) (fun _ => rfl) ⟨by decide, by decide⟩ (by omega) (by omega) (fun x51 ls e51 hl => ?_)
        have hF := bn hF e51
        refine lv_goto (tgt := 18) hx hb dX7_isOrder_54 (by decide) ?_
        exact ih18 ls _ _ x35 x48 x51 σ32 (by omega) hF hfr hT hS (lv_sub hl [3, 4, 5, 2, 1, 0] rfl)
  exact J18 5000 ls _ _ p1 x10 x15 σ (by omega) hF hfr hT hS (lv_sub hl [4, 5, 3, 2, 1, 0] rfl)
theorem k_X7_allOf : cBV yX7_allOf cX7_allOf 4 (some .int) 1 := ⟨mw_5_119, ms_3_12, mw_1_8, mw_5_120, ⟨by decide, by decide, by decide⟩⟩
set_option maxHeartbeats 4000000 in
set_option maxRecDepth 100000 in
theorem c_X7_allOf (l : Launch) (z : Zt) (σ : Sg) (h0 o0 : Nat) (g0 : zG z h0 = (17, o0)) (p1 : Int32) (out : Int) (hF : D_X7_allOf (σ o0) p1.toInt = some out) (bp1 : 0 ≤ p1.toInt ∧ p1.toInt ≤ 3) : Met l yX7_allOf (uw yX7_allOf cX7_allOf 4 (some .int)) (rmF 2 86) (PcW z [.ref h0, .int p1] (fun H => TY z (zA z) σ H)) (QcI z (fun r H => some r.toInt = some out ∧ TY z (zA z) σ H)) 0 0 (zA z) := by
  refine Met.ofW (cc := cX7_allOf) (maxL := 4) (ret := (some .int)) (by decide) rfl ?_
  intro p e s m args below meth c s₁ B hml hv
  obtain ⟨rfl, hT, hK, hSK⟩ := hv
  have hx := B.exec
  have hb := B.bytes
  have hr := B.returns
  have hts : ∀ w ∈ lw_ok, w.before ([.ref h0, .int p1] : List Value).toArray s = true := fun w hw => atoms_spec (ws := uw yX7_allOf cX7_allOf 4 (some .int)) B.pre w (List.mem_cons_of_mem _ hw)
  have hown : s.vm.findClass RX7 = some m.cls := findClass_of_methodNamed B.named
  have hlk := B.notSynchronized
  have hC : CallFix p m c cX7_allOf 4 s ([.ref h0, .int p1] : List Value).toArray lw_ok RX7 := ⟨hx, hb, hml, hown, hts⟩
  have hS : va_S (zA z) s.heap s.heap [] := va_S.rf
  have hl := lv_entry ([.ref h0, .int p1]) (n := 4) (Nat.le_of_ble_eq_true rfl)
  rw [lg_entry_eq]
  generalize (lg_sl ([.ref h0, .int p1]) ++ List.replicate (4 - (lg_sl ([.ref h0, .int p1])).length) Slot.unset).toArray = ls at hl ⊢
  have hl : lv_has ls 4 [(0, .ref h0), (1, .int p1)] := hl
  show W p l e (rmF 2 86) s m ([.ref h0, .int p1] : List Value).toArray below meth c s.heap [] 0 0 (MQ below (QcI z (fun r H => some r.toInt = some out ∧ TY z (zA z) σ H)) ([.ref h0, .int p1] : List Value).toArray s 0 0 (zA z)) (F0 m 0 ls [])
  unfold D_X7_allOf at hF
  refine r_iconst hx hb dX7_allOf_0 (by decide) (by decide) (fun x0 e0 => ?_)
  have hF := bn hF e0
  refine lv_istore_n (lv' := [(2, .int x0), (0, .ref h0), (1, .int p1)]) hx hb dX7_allOf_1 rfl hl (by decide) rfl (fun ls hl => ?_)
  refine r_iconst hx hb dX7_allOf_2 (by decide) (by decide) (fun x2 e2 => ?_)
  have hF := bn hF e2
  refine lv_istore_n (lv' := [(3, .int x2), (2, .int x0), (0, .ref h0), (1, .int p1)]) hx hb dX7_allOf_3 rfl hl (by decide) rfl (fun ls hl => ?_)
  have J4 : ∀ (n4 : Nat) (ls : Array Slot) (H : Heap) (locs : List Loc) (y4_2 : Int32) (y4_3 : Int32), (0 ≤ y4_3.toInt ∧ y4_3.toInt ≤ 5) → D_X7_allOf_4 p1.toInt (σ o0) n4 y4_2.toInt y4_3.toInt = some out → TY z (zA z) σ H → va_S (zA z) s.heap H locs → lv_has ls 4 [(0, .ref h0), (1, .int p1), (2, .int y4_2), (3, .int y4_3)] → W p l e (rmF 2 86) s m ([.ref h0, .int p1] : List Value).toArray below meth c H locs 0 0 (MQ below (QcI z (fun r H => some r.toInt = some out ∧ TY z (zA z) σ H)) ([.ref h0, .int p1] : List Value).toArray s 0 0 (zA z)) (F0 m 4 ls []) := by
    intro n4
    induction n4 with
    | zero => intro ls H locs y4_2 y4_3 j4_y4_3 hF hT hS hl; exact (no_s hF).elim
    | succ n4 ih4 =>
      intro ls H locs y4_2 y4_3 j4_y4_3 hF hT hS hl
      rw [D_X7_allOf_4.eq_2] at hF
      refine lv_iload_n hx hb dX7_allOf_4 rfl (lv_at hl 3 rfl) ?_
      refine lv_aload_n hx hb dX7_allOf_5 rfl (lv_at hl 0 rfl) ?_
      refine gt_Model_men hx hb hts ic_Model hown hK hT g0 (hts _ mw_4_73) dX7_allOf_6 (fun x6 e6 f6 g6 => ?_)
      have hF := bn hF e6
      refine r_icmp_ge (tgt := 27) hx hb dX7_allOf_9 (by decide) (fun c9 => ?_) (fun c9 => ?_)
      · have hF := ifn hF (Int.not_lt.mpr c9)
        refine lv_iload_n hx hb dX7_allOf_27 rfl (lv_at hl 2 rfl) ?_
        exact rt_i hx hb hr hlk hS ⟨hF, hT⟩ dX7_allOf_28
      · have hF := ifp hF c9
        refine lv_iload_n hx hb dX7_allOf_12 rfl (lv_at hl 2 rfl) ?_
        refine lv_aload_n hx hb dX7_allOf_13 rfl (lv_at hl 0 rfl) ?_
        refine lv_iload_n hx hb dX7_allOf_14 rfl (lv_at hl 3 rfl) ?_
        refine lv_iload_n hx hb dX7_allOf_15 rfl (lv_at hl 1 rfl) ?_
        obtain ⟨v16, hd16, -⟩ := bd0_s hF
        refine cl_Vi (rest := [.int y4_2]) hC hK hSK (c_X7_of l z σ h0 (o0) g0 y4_3 p1 v16 hd16 (by omega) (by omega)) k_X7_of mw_5_15 ⟨rfl, rfl, Nat.le_of_ble_eq_true rfl, Nat.le_of_ble_eq_true rfl⟩ (rv_Model hK hT g0) hT rfl hl.1 rfl (Nat.le_of_ble_eq_true rfl) dX7_allOf_16 ⟨Nat.zero_le _, Nat.zero_le _⟩ hS (fun _ h => h) (fun _ _ h => h) (fun r16 H locs hpo hS => ?_)
        obtain ⟨he16, hT, u16_0⟩ := hpo
        have hF := bd0_r hF hd16 he16
        refine x_iadd hx hb dX7_allOf_19 (fun x19 e19 => ?_)
        have hF := bn hF e19
        refine lv_istore_n (lv' := [(2, .int x19), (0, .ref h0), (1, .int p1), (3, .int y4_3)]) hx hb dX7_allOf_20 rfl hl (by decide) rfl (fun ls hl => ?_)
        refine r_iinc (lv' := fun v__ => [(3, .int v__), (2, .int x19), (0, .ref h0), (1, .int p1)]) hx hb dX7_allOf_21 hl (k := 3) rfl (by decide) (fun _ => rfl) ⟨by decide, by decide⟩ (by omega) (by omega) (fun x21 ls e21 hl => ?_)
        have hF := bn hF e21
        refine lv_goto (tgt := 4) hx hb dX7_allOf_24 (by decide) ?_
        exact ih4 ls _ _ x19 x21 (by omega) hF hT hS (lv_sub hl [2, 3, 1, 0] rfl)
  exact J4 5000 ls _ _ x0 x2 (by omega) hF hT hS (lv_sub hl [2, 3, 1, 0] rfl)
theorem k_X7_becomes : cBV yX7_becomes cX7_becomes 4 (some .int) 2 := ⟨mw_5_63, ms_3_5, mw_1_8, mw_5_64, ⟨by decide, by decide, by decide⟩⟩
set_option maxHeartbeats 4000000 in
set_option maxRecDepth 100000 in
theorem c_X7_becomes (l : Launch) (z : Zt) (σ : Sg) (h0 o0 : Nat) (g0 : zG z h0 = (17, o0)) (p1 : Int32) (p2 : Int32) (out : (Int × Lo)) (hF : D_X7_becomes (σ o0) p1.toInt p2.toInt = some out) (bp1 : 0 ≤ p1.toInt ∧ p1.toInt ≤ 176) : Met l yX7_becomes (uw yX7_becomes cX7_becomes 4 (some .int)) (rmF 1 64) (PcW z [.ref h0, .int p1, .int p2] (fun H => TY z (zA z) σ H)) (QcI z (fun r H => ∃ σ' : Sg, some (r.toInt, σ' o0) = some out ∧ FR σ σ' o0 ∧ TY z (zA z) σ' H)) 0 0 (zA z) := by
  refine Met.ofW (cc := cX7_becomes) (maxL := 4) (ret := (some .int)) (by decide) rfl ?_
  intro p e s m args below meth c s₁ B hml hv
  obtain ⟨rfl, hT, hK, hSK⟩ := hv
  have hx := B.exec
  have hb := B.bytes
  have hr := B.returns
  have hts : ∀ w ∈ lw_ok, w.before ([.ref h0, .int p1, .int p2] : List Value).toArray s = true := fun w hw => atoms_spec (ws := uw yX7_becomes cX7_becomes 4 (some .int)) B.pre w (List.mem_cons_of_mem _ hw)
  have hown : s.vm.findClass RX7 = some m.cls := findClass_of_methodNamed B.named
  have hlk := B.notSynchronized
  have hC : CallFix p m c cX7_becomes 4 s ([.ref h0, .int p1, .int p2] : List Value).toArray lw_ok RX7 := ⟨hx, hb, hml, hown, hts⟩
  have hS : va_S (zA z) s.heap s.heap [] := va_S.rf
  have hl := lv_entry ([.ref h0, .int p1, .int p2]) (n := 4) (Nat.le_of_ble_eq_true rfl)
  rw [lg_entry_eq]
  generalize (lg_sl ([.ref h0, .int p1, .int p2]) ++ List.replicate (4 - (lg_sl ([.ref h0, .int p1, .int p2])).length) Slot.unset).toArray = ls at hl ⊢
  have hl : lv_has ls 4 [(0, .ref h0), (1, .int p1), (2, .int p2)] := hl
  show W p l e (rmF 1 64) s m ([.ref h0, .int p1, .int p2] : List Value).toArray below meth c s.heap [] 0 0 (MQ below (QcI z (fun r H => ∃ σ' : Sg, some (r.toInt, σ' o0) = some out ∧ FR σ σ' o0 ∧ TY z (zA z) σ' H)) ([.ref h0, .int p1, .int p2] : List Value).toArray s 0 0 (zA z)) (F0 m 0 ls [])
  have hfr : FR σ σ o0 := FR_rf σ o0
  unfold D_X7_becomes at hF
  have mx_p2 := i_mx p2
  refine lv_aload_n hx hb dX7_becomes_0 rfl (lv_at hl 0 rfl) ?_
  refine gt_Model_st hx hb hts ic_Model hown hK hT g0 (hts _ mw_4_70) dX7_becomes_1 (fun q1 hq1 => ?_)
  refine lv_iload_n hx hb dX7_becomes_4 rfl (lv_at hl 1 rfl) ?_
  refine al_40 hx hb hK hT hq1 (by omega) (by omega) dX7_becomes_5 (fun x5 e5 g5 => ?_)
  have hF := bn hF e5
  refine lv_istore_n (lv' := [(3, .int x5), (0, .ref h0), (1, .int p1), (2, .int p2)]) hx hb dX7_becomes_6 rfl hl (by decide) rfl (fun ls hl => ?_)
  refine lv_aload_n hx hb dX7_becomes_7 rfl (lv_at hl 1 rfl) ?_
  refine gt_Model_st hx hb hts ic_Model hown hK hT g0 (hts _ mw_4_70) dX7_becomes_8 (fun q8 hq8 => ?_)
  refine lv_iload_n hx hb dX7_becomes_11 rfl (lv_at hl 2 rfl) ?_
  refine lv_iload_n hx hb dX7_becomes_12 rfl (lv_at hl 3 rfl) ?_
  obtain ⟨kv13, hF⟩ := ckd hF
  refine as_40 hx hb hK hT hS hq8 (by omega) (by omega) kv13 dX7_becomes_13 (fun H locs hT hS => ?_)
  obtain ⟨σ13, hF, hfr, hT⟩ := wrL hF hfr hT
  refine lv_iload_n hx hb dX7_becomes_14 rfl (lv_at hl 0 rfl) ?_
  exact rt_i hx hb hr hlk hS ⟨σ13, hF, hfr, hT⟩ dX7_becomes_15
theorem k_X7_copies : cBV yX7_copies cX7_copies 4 none 2 := ⟨mw_5_232, ms_4_2, mw_1_8, mw_5_233, ⟨by decide, by decide, by decide⟩⟩
set_option maxHeartbeats 4000000 in
set_option maxRecDepth 100000 in
theorem c_X7_copies (l : Launch) (z : Zt) (σ : Sg) (h0 o0 : Nat) (g0 : zG z h0 = (17, o0)) (p1 : Int32) (p2 : Int32) (out : Lo) (hF : D_X7_copies (σ o0) p1.toInt p2.toInt = some out) (bp1 : 0 ≤ p1.toInt ∧ p1.toInt ≤ 118) (bp2 : 0 ≤ p2.toInt ∧ p2.toInt ≤ 118) : Met l yX7_copies (uw yX7_copies cX7_copies 4 none) (rmF 1 64) (PcW z [.ref h0, .int p1, .int p2] (fun H => TY z (zA z) σ H)) (QcV z (fun H => ∃ σ' : Sg, some (σ' o0) = some out ∧ FR σ σ' o0 ∧ TY z (zA z) σ' H)) 0 0 (zA z) := by
  refine Met.ofW (cc := cX7_copies) (maxL := 4) (ret := none) (by decide) rfl ?_
  intro p e s m args below meth c s₁ B hml hv
  obtain ⟨rfl, hT, hK, hSK⟩ := hv
  have hx := B.exec
  have hb := B.bytes
  have hr := B.returns
  have hts : ∀ w ∈ lw_ok, w.before ([.ref h0, .int p1, .int p2] : List Value).toArray s = true := fun w hw => atoms_spec (ws := uw yX7_copies cX7_copies 4 none) B.pre w (List.mem_cons_of_mem _ hw)
  have hown : s.vm.findClass RX7 = some m.cls := findClass_of_methodNamed B.named
  have hlk := B.notSynchronized
  have hC : CallFix p m c cX7_copies 4 s ([.ref h0, .int p1, .int p2] : List Value).toArray lw_ok RX7 := ⟨hx, hb, hml, hown, hts⟩
  have hS : va_S (zA z) s.heap s.heap [] := va_S.rf
  have hl := lv_entry ([.ref h0, .int p1, .int p2]) (n := 4) (Nat.le_of_ble_eq_true rfl)
  rw [lg_entry_eq]
  generalize (lg_sl ([.ref h0, .int p1, .int p2]) ++ List.replicate (4 - (lg_sl ([.ref h0, .int p1, .int p2])).length) Slot.unset).toArray = ls at hl ⊢
  have hl : lv_has ls 4 [(0, .ref h0), (1, .int p1), (2, .int p2)] := hl
  show W p l e (rmF 1 64) s m ([.ref h0, .int p1, .int p2] : List Value).toArray below meth c s.heap [] 0 0 (MQ below (QcV z (fun H => ∃ σ' : Sg, some (σ' o0) = some out ∧ FR σ σ' o0 ∧ TY z (zA z) σ' H)) ([.ref h0, .int p1, .int p2] : List Value).toArray s 0 0 (zA z)) (F0 m 0 ls [])
  have hfr : FR σ σ o0 := FR_rf σ o0
  unfold D_X7_copies at hF
  refine r_iconst hx hb dX7_copies_0 (by decide) (by decide) (fun x0 e0 => ?_)
  have hF := bn hF e0
  refine lv_istore_n (lv' := [(3, .int x0), (0, .ref h0), (1, .int p1), (2, .int p2)]) hx hb dX7_copies_1 rfl hl (by decide) rfl (fun ls hl => ?_)
  have J2 : ∀ (n2 : Nat) (ls : Array Slot) (H : Heap) (locs : List Loc) (y2_3 : Int32) (σj2 : Sg), (0 ≤ y2_3.toInt ∧ y2_3.toInt ≤ 59) → D_X7_copies_2 p1.toInt p2.toInt n2 (σj2 o0) y2_3.toInt = some out → FR σ σj2 o0 → TY z (zA z) σj2 H → va_S (zA z) s.heap H locs → lv_has ls 4 [(0, .ref h0), (1, .int p1), (2, .int p2), (3, .int y2_3)] → W p l e (rmF 1 64) s m ([.ref h0, .int p1, .int p2] : List Value).toArray below meth c H locs 0 0 (MQ below (QcV z (fun H => ∃ σ' : Sg, some (σ' o0) = some out ∧ FR σ σ' o0 ∧ TY z (zA z) σ' H)) ([.ref h0, .int p1, .int p2] : List Value).toArray s 0 0 (zA z)) (F0 m 2 ls []) := by
    intro n2
    induction n2 with
    | zero => intro ls H locs y2_3 σj2 j2_y2_3 hF hfr hT hS hl; exact (no_s hF).elim
    | succ n2 ih2 =>
      intro ls H locs y2_3 σj2 j2_y2_3 hF hfr hT hS hl
      rw [D_X7_copies_2.eq_2] at hF
      refine lv_iload_n hx hb dX7_copies_2 rfl (lv_at hl 3 rfl) ?_
      refine r_bipush hx hb dX7_copies_3 rfl (fun x3 e3 => ?_)
      have hF := bn hF e3
      refine r_icmp_ge (tgt := 30) hx hb dX7_copies_5 (by decide) (fun c5 => ?_) (fun c5 => ?_)
      · have hF := ifn hF (Int.not_lt.mpr c5)
        exact rt_v hx hb hr hlk hS ⟨σj2, hF, hfr, hT⟩ dX7_copies_30
      · have hF := ifp hF c5
        refine lv_aload_n hx hb dX7_copies_8 rfl (lv_at hl 0 rfl) ?_
        refine gt_Model_st hx hb hts ic_Model hown hK hT g0 (hts _ mw_4_70) dX7_copies_9 (fun q9 hq9 => ?_)
        refine lv_iload_n hx hb dX7_copies_12 rfl (lv_at hl 1 rfl) ?_
        refine lv_iload_n hx hb dX7_copies_13 rfl (lv_at hl 3 rfl) ?_
        refine r_iadd hx hb dX7_copies_14 (by omega) (by omega) (fun x14 e14 => ?_)
        have hF := bn hF e14
        refine lv_aload_n hx hb dX7_copies_15 rfl (lv_at hl 0 rfl) ?_
        refine gt_Model_st hx hb hts ic_Model hown hK hT g0 (hts _ mw_4_70) dX7_copies_16 (fun q16 hq16 => ?_)
        refine lv_iload_n hx hb dX7_copies_19 rfl (lv_at hl 2 rfl) ?_
        refine lv_iload_n hx hb dX7_copies_20 rfl (lv_at hl 3 rfl) ?_
        refine r_iadd hx hb dX7_copies_21 (by omega) (by omega) (fun x21 e21 => ?_)
        have hF := bn hF e21
        refine al_40 hx hb hK hT hq16 (by omega) (by omega) dX7_copies_22 (fun x22 e22 g22 => ?_)
        have hF := bn hF e22
        obtain ⟨kv23, hF⟩ := ckd hF
        refine as_40 hx hb hK hT hS hq9 (by omega) (by omega) kv23 dX7_copies_23 (fun H locs hT hS => ?_)
        obtain ⟨σ23, hF, hfr, hT⟩ := wrL hF hfr hT
        refine r_iinc (lv' := fun v__ => [(3, .int v__), (0, .ref h0), (1, .int p1), (2, .int p2)]) hx hb dX7_copies_24 hl (k := 3) rfl (by decide) (fun _ => rfl) ⟨by decide, by decide⟩ (by omega) (by omega) (fun x24 ls e24 hl => ?_)
        have hF := bn hF e24
        refine lv_goto (tgt := 2) hx hb dX7_copies_27 (by decide) ?_
        exact ih2 ls _ _ x24 σ23 (by omega) hF hfr hT hS (lv_sub hl [1, 2, 3, 0] rfl)
  exact J2 5000 ls _ _ x0 σ (by omega) hF hfr hT hS (lv_sub hl [1, 2, 3, 0] rfl)
theorem k_X7_feed : cBV yX7_feed cX7_feed 2 (some .int) 1 := ⟨mw_4_150, mw_4_151, mw_1_8, mw_4_152, ⟨by decide, by decide, by decide⟩⟩
set_option maxHeartbeats 4000000 in
set_option maxRecDepth 100000 in
theorem c_X7_feed (l : Launch) (z : Zt) (σ : Sg) (h0 o0 : Nat) (g0 : zG z h0 = (17, o0)) (p1 : Int32) (out : (Int × Lo)) (hF : D_X7_feed (σ o0) p1.toInt = some out) : Met l yX7_feed (uw yX7_feed cX7_feed 2 (some .int)) (rmF 2 89) (PcW z [.ref h0, .int p1] (fun H => TY z (zA z) σ H)) (QcI z (fun r H => ∃ σ' : Sg, some (r.toInt, σ' o0) = some out ∧ FR σ σ' o0 ∧ TY z (zA z) σ' H)) 0 0 (zA z) := by
  refine Met.ofW (cc := cX7_feed) (maxL := 2) (ret := (some .int)) (by decide) rfl ?_
  intro p e s m args below meth c s₁ B hml hv
  obtain ⟨rfl, hT, hK, hSK⟩ := hv
  have hx := B.exec
  have hb := B.bytes
  have hr := B.returns
  have hts : ∀ w ∈ lw_ok, w.before ([.ref h0, .int p1] : List Value).toArray s = true := fun w hw => atoms_spec (ws := uw yX7_feed cX7_feed 2 (some .int)) B.pre w (List.mem_cons_of_mem _ hw)
  have hown : s.vm.findClass RX7 = some m.cls := findClass_of_methodNamed B.named
  have hlk := B.notSynchronized
  have hC : CallFix p m c cX7_feed 2 s ([.ref h0, .int p1] : List Value).toArray lw_ok RX7 := ⟨hx, hb, hml, hown, hts⟩
  have hS : va_S (zA z) s.heap s.heap [] := va_S.rf
  have hl := lv_entry ([.ref h0, .int p1]) (n := 2) (Nat.le_of_ble_eq_true rfl)
  rw [lg_entry_eq]
  generalize (lg_sl ([.ref h0, .int p1]) ++ List.replicate (2 - (lg_sl ([.ref h0, .int p1])).length) Slot.unset).toArray = ls at hl ⊢
  have hl : lv_has ls 2 [(0, .ref h0), (1, .int p1)] := hl
  show W p l e (rmF 2 89) s m ([.ref h0, .int p1] : List Value).toArray below meth c s.heap [] 0 0 (MQ below (QcI z (fun r H => ∃ σ' : Sg, some (r.toInt, σ' o0) = some out ∧ FR σ σ' o0 ∧ TY z (zA z) σ' H)) ([.ref h0, .int p1] : List Value).toArray s 0 0 (zA z)) (F0 m 0 ls [])
  have hfr : FR σ σ o0 := FR_rf σ o0
  unfold D_X7_feed at hF
  have mx_p1 := i_mx p1
  refine lv_iload_n hx hb dX7_feed_0 rfl (lv_at hl 1 rfl) ?_
  refine r_i2l hx hb dX7_feed_1 (fun x1 e1 => ?_)
  have hF := bn hF e1
  refine r_lconst0 hx hb dX7_feed_2 (fun x2 e2 => ?_)
  have hF := bn hF e2
  refine r_ldc2 (127) rfl hx hb hts hown mw_4_153 dX7_feed_3 (fun x3 e3 => ?_)
  have hF := bn hF e3
  obtain ⟨v6, hd6, -⟩ := bd0_s hF
  refine cl_Si (rest := []) hC hK hSK (c_X7_in l z σ x1 x2 x3 v6 hd6) k_X7_in mw_4_154 ⟨rfl, rfl, Nat.le_of_ble_eq_true rfl, Nat.le_of_ble_eq_true rfl⟩ hT rfl hl.1 rfl (Nat.le_of_ble_eq_true rfl) dX7_feed_6 ⟨Nat.zero_le _, Nat.zero_le _⟩ hS (fun _ h => h) (fun _ _ h => h) (fun r6 H locs hpo hS => ?_)
  obtain ⟨he6, hT, u6_0, u6_1⟩ := hpo
  have hF := bd0_r hF hd6 he6
  refine r_if_ne (tgt := 14) hx hb dX7_feed_9 (by decide) (fun c9 => ?_) (fun c9 => ?_)
  · have hF := ifn hF c9
    refine lv_aload_n hx hb dX7_feed_14 rfl (lv_at hl 0 rfl) ?_
    refine gt_Model_taped hx hb hts ic_Model hown hK hT g0 (hts _ mw_4_80) dX7_feed_15 (fun x15 e15 f15 g15 => ?_)
    have hF := bn hF e15
    refine r_sipush hx hb dX7_feed_18 rfl (fun x18 e18 => ?_)
    have hF := bn hF e18
    refine r_icmp_ne (tgt := 27) hx hb dX7_feed_21 (by decide) (fun c21 => ?_) (fun c21 => ?_)
    · have hF := ifn hF c21
      refine lv_aload_n hx hb dX7_feed_27 rfl (lv_at hl 0 rfl) ?_
      refine gt_Model_tape hx hb hts ic_Model hown hK hT g0 (hts _ mw_4_79) dX7_feed_28 (fun q28 hq28 => ?_)
      refine lv_aload_n hx hb dX7_feed_31 rfl (lv_at hl 0 rfl) ?_
      refine gt_Model_taped hx hb hts ic_Model hown hK hT g0 (hts _ mw_4_80) dX7_feed_32 (fun x32 e32 f32 g32 => ?_)
      have hF := bn hF e32
      refine lv_iload_n hx hb dX7_feed_35 rfl (lv_at hl 1 rfl) ?_
      obtain ⟨kb36, hF⟩ := ck hF
      refine as_44 hx hb hK hT hS hq28 (by omega) (by omega) ⟨by omega, by omega⟩ dX7_feed_36 (fun H locs hT hS => ?_)
      obtain ⟨σ36, hF, hfr, hT⟩ := wrL hF hfr hT
      refine lv_aload_n hx hb dX7_feed_37 rfl (lv_at hl 0 rfl) ?_
      refine lv_dup hx hb dX7_feed_38 rfl ?_
      refine gt_Model_taped hx hb hts ic_Model hown hK hT g0 (hts _ mw_4_80) dX7_feed_39 (fun x39 e39 f39 g39 => ?_)
      have hF := bn hF e39
      refine r_iconst hx hb dX7_feed_42 (by decide) (by decide) (fun x42 e42 => ?_)
      have hF := bn hF e42
      refine r_iadd hx hb dX7_feed_43 (by omega) (by omega) (fun x43 e43 => ?_)
      have hF := bn hF e43
      obtain ⟨k44, hF⟩ := ck hF
      refine pt_Model_taped hx hb hts ic_Model hown hK hT hS g0 (hts _ mw_4_80) (by omega) (by omega) dX7_feed_44 (fun H locs hT hS => ?_)
      obtain ⟨σ44, hF, hfr, hT⟩ := wrL hF hfr hT
      refine lv_aload_n hx hb dX7_feed_47 rfl (lv_at hl 0 rfl) ?_
      refine gt_Model_taped hx hb hts ic_Model hown hK hT g0 (hts _ mw_4_80) dX7_feed_48 (fun x48 e48 f48 g48 => ?_)
      have hF := bn hF e48
      exact rt_i hx hb hr hlk hS ⟨σ44, hF, hfr, hT⟩ dX7_feed_51
    · have hF := ifp hF c21
      refine r_bipush hx hb dX7_feed_24 rfl (fun x24 e24 => ?_)
      have hF := bn hF e24
      exact rt_i hx hb hr hlk hS ⟨σ, hF, hfr, hT⟩ dX7_feed_26
  · have hF := ifp hF c9
    refine r_iconst hx hb dX7_feed_12 (by decide) (by decide) (fun x12 e12 => ?_)
    have hF := bn hF e12
    exact rt_i hx hb hr hlk hS ⟨σ, hF, hfr, hT⟩ dX7_feed_13
theorem k_X7_end : cBV yX7_end cX7_end 3 (some .int) 1 := ⟨mw_4_158, mw_4_159, mw_1_8, mw_4_160, ⟨by decide, by decide, by decide⟩⟩
set_option maxHeartbeats 4000000 in
set_option maxRecDepth 100000 in
theorem c_X7_end (l : Launch) (z : Zt) (σ : Sg) (h0 o0 : Nat) (g0 : zG z h0 = (17, o0)) (p1 : Int32) (out : (Int × Lo)) (hF : D_X7_end (σ o0) p1.toInt = some out) : Met l yX7_end (uw yX7_end cX7_end 3 (some .int)) (rmF 2 89) (PcW z [.ref h0, .int p1] (fun H => TY z (zA z) σ H)) (QcI z (fun r H => ∃ σ' : Sg, some (r.toInt, σ' o0) = some out ∧ FR σ σ' o0 ∧ TY z (zA z) σ' H)) 0 0 (zA z) := by
  refine Met.ofW (cc := cX7_end) (maxL := 3) (ret := (some .int)) (by decide) rfl ?_
  intro p e s m args below meth c s₁ B hml hv
  obtain ⟨rfl, hT, hK, hSK⟩ := hv
  have hx := B.exec
  have hb := B.bytes
  have hr := B.returns
  have hts : ∀ w ∈ lw_ok, w.before ([.ref h0, .int p1] : List Value).toArray s = true := fun w hw => atoms_spec (ws := uw yX7_end cX7_end 3 (some .int)) B.pre w (List.mem_cons_of_mem _ hw)
  have hown : s.vm.findClass RX7 = some m.cls := findClass_of_methodNamed B.named
  have hlk := B.notSynchronized
  have hC : CallFix p m c cX7_end 3 s ([.ref h0, .int p1] : List Value).toArray lw_ok RX7 := ⟨hx, hb, hml, hown, hts⟩
  have hS : va_S (zA z) s.heap s.heap [] := va_S.rf
  have hl := lv_entry ([.ref h0, .int p1]) (n := 3) (Nat.le_of_ble_eq_true rfl)
  rw [lg_entry_eq]
  generalize (lg_sl ([.ref h0, .int p1]) ++ List.replicate (3 - (lg_sl ([.ref h0, .int p1])).length) Slot.unset).toArray = ls at hl ⊢
  have hl : lv_has ls 3 [(0, .ref h0), (1, .int p1)] := hl
  show W p l e (rmF 2 89) s m ([.ref h0, .int p1] : List Value).toArray below meth c s.heap [] 0 0 (MQ below (QcI z (fun r H => ∃ σ' : Sg, some (r.toInt, σ' o0) = some out ∧ FR σ σ' o0 ∧ TY z (zA z) σ' H)) ([.ref h0, .int p1] : List Value).toArray s 0 0 (zA z)) (F0 m 0 ls [])
  have hfr : FR σ σ o0 := FR_rf σ o0
  unfold D_X7_end at hF
  have mx_p1 := i_mx p1
  refine lv_iload_n hx hb dX7_end_0 rfl (lv_at hl 1 rfl) ?_
  refine r_i2l hx hb dX7_end_1 (fun x1 e1 => ?_)
  have hF := bn hF e1
  refine r_lconst0 hx hb dX7_end_2 (fun x2 e2 => ?_)
  have hF := bn hF e2
  refine lv_aload_n hx hb dX7_end_3 rfl (lv_at hl 0 rfl) ?_
  refine gt_Model_taped hx hb hts ic_Model hown hK hT g0 (hts _ mw_4_80) dX7_end_4 (fun x4 e4 f4 g4 => ?_)
  have hF := bn hF e4
  refine r_i2l hx hb dX7_end_7 (fun x7 e7 => ?_)
  have hF := bn hF e7
  obtain ⟨v8, hd8, -⟩ := bd0_s hF
  refine cl_Si (rest := []) hC hK hSK (c_X7_in l z σ x1 x2 x7 v8 hd8) k_X7_in mw_4_154 ⟨rfl, rfl, Nat.le_of_ble_eq_true rfl, Nat.le_of_ble_eq_true rfl⟩ hT rfl hl.1 rfl (Nat.le_of_ble_eq_true rfl) dX7_end_8 ⟨Nat.zero_le _, Nat.zero_le _⟩ hS (fun _ h => h) (fun _ _ h => h) (fun r8 H locs hpo hS => ?_)
  obtain ⟨he8, hT, u8_0, u8_1⟩ := hpo
  have hF := bd0_r hF hd8 he8
  refine r_if_ne (tgt := 16) hx hb dX7_end_11 (by decide) (fun c11 => ?_) (fun c11 => ?_)
  · have hF := ifn hF c11
    refine lv_aload_n hx hb dX7_end_16 rfl (lv_at hl 0 rfl) ?_
    refine gt_Model_taped hx hb hts ic_Model hown hK hT g0 (hts _ mw_4_80) dX7_end_17 (fun x17 e17 f17 g17 => ?_)
    have hF := bn hF e17
    refine lv_istore_n (lv' := [(2, .int x17), (0, .ref h0), (1, .int p1)]) hx hb dX7_end_20 rfl hl (by decide) rfl (fun ls hl => ?_)
    refine lv_aload_n hx hb dX7_end_21 rfl (lv_at hl 1 rfl) ?_
    refine lv_iload_n hx hb dX7_end_22 rfl (lv_at hl 2 rfl) ?_
    refine pt_Model_taped hx hb hts ic_Model hown hK hT hS g0 (hts _ mw_4_80) (by omega) (by omega) dX7_end_23 (fun H locs hT hS => ?_)
    obtain ⟨σ23, hF, hfr, hT⟩ := wrL hF hfr hT
    refine lv_iload_n hx hb dX7_end_26 rfl (lv_at hl 0 rfl) ?_
    exact rt_i hx hb hr hlk hS ⟨σ23, hF, hfr, hT⟩ dX7_end_27
  · have hF := ifp hF c11
    refine r_iconst hx hb dX7_end_14 (by decide) (by decide) (fun x14 e14 => ?_)
    have hF := bn hF e14
    exact rt_i hx hb hr hlk hS ⟨σ, hF, hfr, hT⟩ dX7_end_15
theorem k_X7_fault : cBV yX7_fault cX7_fault 1 (some .int) 0 := ⟨mw_4_222, mw_4_223, mw_1_8, mw_4_224, ⟨by decide, by decide, by decide⟩⟩
set_option maxHeartbeats 4000000 in
set_option maxRecDepth 100000 in
theorem c_X7_fault (l : Launch) (z : Zt) (σ : Sg) (h0 o0 : Nat) (g0 : zG z h0 = (17, o0)) (out : Int) (hF : D_X7_fault (σ o0) = some out) : Met l yX7_fault (uw yX7_fault cX7_fault 1 (some .int)) (rmF 1 64) (PcW z [.ref h0] (fun H => TY z (zA z) σ H)) (QcI z (fun r H => some r.toInt = some out ∧ TY z (zA z) σ H)) 0 0 (zA z) := by
  refine Met.ofW (cc := cX7_fault) (maxL := 1) (ret := (some .int)) (by decide) rfl ?_
  intro p e s m args below meth c s₁ B hml hv
  obtain ⟨rfl, hT, hK, hSK⟩ := hv
  have hx := B.exec
  have hb := B.bytes
  have hr := B.returns
  have hts : ∀ w ∈ lw_ok, w.before ([.ref h0] : List Value).toArray s = true := fun w hw => atoms_spec (ws := uw yX7_fault cX7_fault 1 (some .int)) B.pre w (List.mem_cons_of_mem _ hw)
  have hown : s.vm.findClass RX7 = some m.cls := findClass_of_methodNamed B.named
  have hlk := B.notSynchronized
  have hC : CallFix p m c cX7_fault 1 s ([.ref h0] : List Value).toArray lw_ok RX7 := ⟨hx, hb, hml, hown, hts⟩
  have hS : va_S (zA z) s.heap s.heap [] := va_S.rf
  have hl := lv_entry ([.ref h0]) (n := 1) (Nat.le_of_ble_eq_true rfl)
  rw [lg_entry_eq]
  generalize (lg_sl ([.ref h0]) ++ List.replicate (1 - (lg_sl ([.ref h0])).length) Slot.unset).toArray = ls at hl ⊢
  have hl : lv_has ls 1 [(0, .ref h0)] := hl
  show W p l e (rmF 1 64) s m ([.ref h0] : List Value).toArray below meth c s.heap [] 0 0 (MQ below (QcI z (fun r H => some r.toInt = some out ∧ TY z (zA z) σ H)) ([.ref h0] : List Value).toArray s 0 0 (zA z)) (F0 m 0 ls [])
  unfold D_X7_fault at hF
  refine lv_aload_n hx hb dX7_fault_0 rfl (lv_at hl 0 rfl) ?_
  refine gt_Model_fault hx hb hts ic_Model hown hK hT g0 (hts _ mw_4_85) dX7_fault_1 (fun x1 e1 f1 g1 => ?_)
  have hF := bn hF e1
  exact rt_i hx hb hr hlk hS ⟨hF, hT⟩ dX7_fault_4
theorem k_X7_rule : cBV yX7_rule cX7_rule 2 (some .int) 1 := ⟨mw_4_226, mw_4_227, mw_1_8, mw_4_228, ⟨by decide, by decide, by decide⟩⟩
set_option maxHeartbeats 4000000 in
set_option maxRecDepth 100000 in
theorem c_X7_rule (l : Launch) (z : Zt) (σ : Sg) (h0 o0 : Nat) (g0 : zG z h0 = (17, o0)) (p1 : Int32) (out : (Int × Lo)) (hF : D_X7_rule (σ o0) p1.toInt = some out) : Met l yX7_rule (uw yX7_rule cX7_rule 2 (some .int)) (rmF 3 108) (PcW z [.ref h0, .int p1] (fun H => TY z (zA z) σ H)) (QcI z (fun r H => ∃ σ' : Sg, some (r.toInt, σ' o0) = some out ∧ FR σ σ' o0 ∧ TY z (zA z) σ' H)) 0 0 (zA z) := by
  refine Met.ofW (cc := cX7_rule) (maxL := 2) (ret := (some .int)) (by decide) rfl ?_
  intro p e s m args below meth c s₁ B hml hv
  obtain ⟨rfl, hT, hK, hSK⟩ := hv
  have hx := B.exec
  have hb := B.bytes
  have hr := B.returns
  have hts : ∀ w ∈ lw_ok, w.before ([.ref h0, .int p1] : List Value).toArray s = true := fun w hw => atoms_spec (ws := uw yX7_rule cX7_rule 2 (some .int)) B.pre w (List.mem_cons_of_mem _ hw)
  have hown : s.vm.findClass RX7 = some m.cls := findClass_of_methodNamed B.named
  have hlk := B.notSynchronized
  have hC : CallFix p m c cX7_rule 2 s ([.ref h0, .int p1] : List Value).toArray lw_ok RX7 := ⟨hx, hb, hml, hown, hts⟩
  have hS : va_S (zA z) s.heap s.heap [] := va_S.rf
  have hl := lv_entry ([.ref h0, .int p1]) (n := 2) (Nat.le_of_ble_eq_true rfl)
  rw [lg_entry_eq]
  generalize (lg_sl ([.ref h0, .int p1]) ++ List.replicate (2 - (lg_sl ([.ref h0, .int p1])).length) Slot.unset).toArray = ls at hl ⊢
  have hl : lv_has ls 2 [(0, .ref h0), (1, .int p1)] := hl
  show W p l e (rmF 3 108) s m ([.ref h0, .int p1] : List Value).toArray below meth c s.heap [] 0 0 (MQ below (QcI z (fun r H => ∃ σ' : Sg, some (r.toInt, σ' o0) = some out ∧ FR σ σ' o0 ∧ TY z (zA z) σ' H)) ([.ref h0, .int p1] : List Value).toArray s 0 0 (zA z)) (F0 m 0 ls [])
  have hfr : FR σ σ o0 := FR_rf σ o0
  unfold D_X7_rule at hF
  have mx_p1 := i_mx p1
  refine lv_aload_n hx hb dX7_rule_0 rfl (lv_at hl 0 rfl) ?_
  obtain ⟨s1, hd1, -⟩ := bd1_s hF
  refine cl_Vv (rest := []) hC hK hSK (c_X7_starts l z σ h0 (o0) g0 s1 hd1) k_X7_starts mw_4_229 ⟨rfl, rfl, Nat.le_of_ble_eq_true rfl, Nat.le_of_ble_eq_true rfl⟩ (rv_Model hK hT g0) hT rfl hl.1 rfl (Nat.le_of_ble_eq_true rfl) dX7_rule_1 ⟨Nat.zero_le _, Nat.zero_le _⟩ hS (fun _ h => h) (fun _ _ h => h) (fun H locs hpo hS => ?_)
  obtain ⟨σ1, he1, hf1, hT⟩ := hpo
  have hF := bd1_r hF hd1 he1
  have hfr := FR_tr hf1 hfr
  refine lv_iload_n hx hb dX7_rule_4 rfl (lv_at hl 1 rfl) ?_
  rcases (show p1.toInt = 0 ∨ p1.toInt = 1 ∨ p1.toInt = 2 ∨ p1.toInt = 3 ∨ p1.toInt = 4 ∨ (p1.toInt < 0 ∨ 4 < p1.toInt) by omega) with c5 | c5 | c5 | c5 | c5 | c5
  · have hF := ifp hF c5
    refine lv_tableIn (off := 35) (tgt := 40) hx hb dX7_rule_5 (by omega) (by omega) (by rw [c5]; rfl) (by decide) ?_
    refine lv_aload_n hx hb dX7_rule_40 rfl (lv_at hl 0 rfl) ?_
    refine gt_Model_men hx hb hts ic_Model hown hK hT g0 (hts _ mw_4_73) dX7_rule_41 (fun x41 e41 f41 g41 => ?_)
    have hF := bn hF e41
    exact rt_i hx hb hr hlk hS ⟨σ1, hF, hfr, hT⟩ dX7_rule_44
  · have hF := ifn hF (by omega)
    have hF := ifp hF c5
    refine lv_tableIn (off := 40) (tgt := 45) hx hb dX7_rule_5 (by omega) (by omega) (by rw [c5]; rfl) (by decide) ?_
    refine lv_aload_n hx hb dX7_rule_45 rfl (lv_at hl 0 rfl) ?_
    obtain ⟨v46, hd46, -⟩ := bd0_s hF
    refine cl_Vi (rest := []) hC hK hSK (c_X7_kinMany l z σ1 h0 (o0) g0 v46 hd46) k_X7_kinMany mw_4_233 ⟨rfl, rfl, Nat.le_of_ble_eq_true rfl, Nat.le_of_ble_eq_true rfl⟩ (rv_Model hK hT g0) hT rfl hl.1 rfl (Nat.le_of_ble_eq_true rfl) dX7_rule_46 ⟨Nat.zero_le _, Nat.zero_le _⟩ hS (fun _ h => h) (fun _ _ h => h) (fun r46 H locs hpo hS => ?_)
    obtain ⟨he46, hT⟩ := hpo
    have hF := bd0_r hF hd46 he46
    exact rt_i hx hb hr hlk hS ⟨σ1, hF, hfr, hT⟩ dX7_rule_49
  · have hF := ifn hF (by omega)
    have hF := ifn hF (by omega)
    have hF := ifp hF c5
    refine lv_tableIn (off := 45) (tgt := 50) hx hb dX7_rule_5 (by omega) (by omega) (by rw [c5]; rfl) (by decide) ?_
    refine lv_aload_n hx hb dX7_rule_50 rfl (lv_at hl 0 rfl) ?_
    refine gt_Model_st hx hb hts ic_Model hown hK hT g0 (hts _ mw_4_70) dX7_rule_51 (fun q51 hq51 => ?_)
    refine r_bipush hx hb dX7_rule_54 rfl (fun x54 e54 => ?_)
    have hF := bn hF e54
    refine al_40 hx hb hK hT hq51 (by omega) (by omega) dX7_rule_56 (fun x56 e56 g56 => ?_)
    have hF := bn hF e56
    have f56 := gd59_31 (gd177_e g56 (by omega)) (by omega)
    exact rt_i hx hb hr hlk hS ⟨σ1, hF, hfr, hT⟩ dX7_rule_57
  · have hF := ifn hF (by omega)
    have hF := ifn hF (by omega)
    have hF := ifn hF (by omega)
    have hF := ifp hF c5
    refine lv_tableIn (off := 53) (tgt := 58) hx hb dX7_rule_5 (by omega) (by omega) (by rw [c5]; rfl) (by decide) ?_
    refine lv_aload_n hx hb dX7_rule_58 rfl (lv_at hl 0 rfl) ?_
    refine gt_Model_st hx hb hts ic_Model hown hK hT g0 (hts _ mw_4_70) dX7_rule_59 (fun q59 hq59 => ?_)
    refine r_bipush hx hb dX7_rule_62 rfl (fun x62 e62 => ?_)
    have hF := bn hF e62
    refine al_40 hx hb hK hT hq59 (by omega) (by omega) dX7_rule_64 (fun x64 e64 g64 => ?_)
    have hF := bn hF e64
    have f64 := gd59_30 (gd177_e g64 (by omega)) (by omega)
    exact rt_i hx hb hr hlk hS ⟨σ1, hF, hfr, hT⟩ dX7_rule_65
  · have hF := ifn hF (by omega)
    have hF := ifn hF (by omega)
    have hF := ifn hF (by omega)
    have hF := ifn hF (by omega)
    have hF := ifp hF c5
    refine lv_tableIn (off := 61) (tgt := 66) hx hb dX7_rule_5 (by omega) (by omega) (by rw [c5]; rfl) (by decide) ?_
    refine lv_aload_n hx hb dX7_rule_66 rfl (lv_at hl 0 rfl) ?_
    obtain ⟨v67, hd67, -⟩ := bd0_s hF
    refine cl_Vi (rest := []) hC hK hSK (c_X7_round l z σ1 h0 (o0) g0 v67 hd67) k_X7_round mw_5_0 ⟨rfl, rfl, Nat.le_of_ble_eq_true rfl, Nat.le_of_ble_eq_true rfl⟩ (rv_Model hK hT g0) hT rfl hl.1 rfl (Nat.le_of_ble_eq_true rfl) dX7_rule_67 ⟨Nat.zero_le _, Nat.zero_le _⟩ hS (fun _ h => h) (fun _ _ h => h) (fun r67 H locs hpo hS => ?_)
    obtain ⟨he67, hT⟩ := hpo
    have hF := bd0_r hF hd67 he67
    exact rt_i hx hb hr hlk hS ⟨σ1, hF, hfr, hT⟩ dX7_rule_70
  · have hF := ifn hF (by omega)
    have hF := ifn hF (by omega)
    have hF := ifn hF (by omega)
    have hF := ifn hF (by omega)
    have hF := ifn hF (by omega)
    refine lv_tableOut (tgt := 71) hx hb dX7_rule_5 c5 (by decide) ?_
    refine r_iconst hx hb dX7_rule_71 (by decide) (by decide) (fun x71 e71 => ?_)
    have hF := bn hF e71
    exact rt_i hx hb hr hlk hS ⟨σ1, hF, hfr, hT⟩ dX7_rule_72
theorem k_X7_man : cBV yX7_man cX7_man 3 (some .int) 2 := ⟨mw_5_8, mw_5_9, mw_1_8, mw_5_10, ⟨by decide, by decide, by decide⟩⟩
set_option maxHeartbeats 4000000 in
set_option maxRecDepth 100000 in
theorem c_X7_man (l : Launch) (z : Zt) (σ : Sg) (h0 o0 : Nat) (g0 : zG z h0 = (17, o0)) (p1 : Int32) (p2 : Int32) (out : (Int × Lo)) (hF : D_X7_man (σ o0) p1.toInt p2.toInt = some out) : Met l yX7_man (uw yX7_man cX7_man 3 (some .int)) (rmF 5 155) (PcW z [.ref h0, .int p1, .int p2] (fun H => TY z (zA z) σ H)) (QcI z (fun r H => ∃ σ' : Sg, some (r.toInt, σ' o0) = some out ∧ FR σ σ' o0 ∧ TY z (zA z) σ' H)) 0 0 (zA z) := by
  refine Met.ofW (cc := cX7_man) (maxL := 3) (ret := (some .int)) (by decide) rfl ?_
  intro p e s m args below meth c s₁ B hml hv
  obtain ⟨rfl, hT, hK, hSK⟩ := hv
  have hx := B.exec
  have hb := B.bytes
  have hr := B.returns
  have hts : ∀ w ∈ lw_ok, w.before ([.ref h0, .int p1, .int p2] : List Value).toArray s = true := fun w hw => atoms_spec (ws := uw yX7_man cX7_man 3 (some .int)) B.pre w (List.mem_cons_of_mem _ hw)
  have hown : s.vm.findClass RX7 = some m.cls := findClass_of_methodNamed B.named
  have hlk := B.notSynchronized
  have hC : CallFix p m c cX7_man 3 s ([.ref h0, .int p1, .int p2] : List Value).toArray lw_ok RX7 := ⟨hx, hb, hml, hown, hts⟩
  have hS : va_S (zA z) s.heap s.heap [] := va_S.rf
  have hl := lv_entry ([.ref h0, .int p1, .int p2]) (n := 3) (Nat.le_of_ble_eq_true rfl)
  rw [lg_entry_eq]
  generalize (lg_sl ([.ref h0, .int p1, .int p2]) ++ List.replicate (3 - (lg_sl ([.ref h0, .int p1, .int p2])).length) Slot.unset).toArray = ls at hl ⊢
  have hl : lv_has ls 3 [(0, .ref h0), (1, .int p1), (2, .int p2)] := hl
  show W p l e (rmF 5 155) s m ([.ref h0, .int p1, .int p2] : List Value).toArray below meth c s.heap [] 0 0 (MQ below (QcI z (fun r H => ∃ σ' : Sg, some (r.toInt, σ' o0) = some out ∧ FR σ σ' o0 ∧ TY z (zA z) σ' H)) ([.ref h0, .int p1, .int p2] : List Value).toArray s 0 0 (zA z)) (F0 m 0 ls [])
  have hfr : FR σ σ o0 := FR_rf σ o0
  unfold D_X7_man at hF
  have mx_p1 := i_mx p1
  have mx_p2 := i_mx p2
  refine lv_aload_n hx hb dX7_man_0 rfl (lv_at hl 0 rfl) ?_
  refine lv_iload_n hx hb dX7_man_1 rfl (lv_at hl 1 rfl) ?_
  obtain ⟨v2, hd2, -⟩ := bd0_s hF
  refine cl_Vi (rest := []) hC hK hSK (c_X7_isOne l z σ h0 (o0) g0 p1 v2 hd2) k_X7_isOne mw_5_11 ⟨rfl, rfl, Nat.le_of_ble_eq_true rfl, Nat.le_of_ble_eq_true rfl⟩ (rv_Model hK hT g0) hT rfl hl.1 rfl (Nat.le_of_ble_eq_true rfl) dX7_man_2 ⟨Nat.zero_le _, Nat.zero_le _⟩ hS (fun _ h => h) (fun _ _ h => h) (fun r2 H locs hpo hS => ?_)
  obtain ⟨he2, hT, u2_0, u2_1⟩ := hpo
  have hF := bd0_r hF hd2 he2
  refine r_if_ne (tgt := 10) hx hb dX7_man_5 (by decide) (fun c5 => ?_) (fun c5 => ?_)
  · have hF := ifn hF c5
    refine lv_aload_n hx hb dX7_man_10 rfl (lv_at hl 0 rfl) ?_
    obtain ⟨s11, hd11, -⟩ := bd1_s hF
    refine cl_Vv (rest := []) hC hK hSK (c_X7_starts l z σ h0 (o0) g0 s11 hd11) k_X7_starts mw_4_229 ⟨rfl, rfl, Nat.le_of_ble_eq_true rfl, Nat.le_of_ble_eq_true rfl⟩ (rv_Model hK hT g0) hT rfl hl.1 rfl (Nat.le_of_ble_eq_true rfl) dX7_man_11 ⟨Nat.zero_le _, Nat.zero_le _⟩ hS (fun _ h => h) (fun _ _ h => h) (fun H locs hpo hS => ?_)
    obtain ⟨σ11, he11, hf11, hT⟩ := hpo
    have hF := bd1_r hF hd11 he11
    have hfr := FR_tr hf11 hfr
    refine lv_iload_n hx hb dX7_man_14 rfl (lv_at hl 2 rfl) ?_
    rcases (show p2.toInt = 0 ∨ p2.toInt = 1 ∨ p2.toInt = 2 ∨ p2.toInt = 3 ∨ p2.toInt = 4 ∨ p2.toInt = 5 ∨ p2.toInt = 6 ∨ (p2.toInt < 0 ∨ 6 < p2.toInt) by omega) with c15 | c15 | c15 | c15 | c15 | c15 | c15 | c15
    · have hF := ifp hF c15
      refine lv_tableIn (off := 41) (tgt := 56) hx hb dX7_man_15 (by omega) (by omega) (by rw [c15]; rfl) (by decide) ?_
      refine lv_aload_n hx hb dX7_man_56 rfl (lv_at hl 0 rfl) ?_
      refine lv_iload_n hx hb dX7_man_57 rfl (lv_at hl 1 rfl) ?_
      refine lv_iload_n hx hb dX7_man_58 rfl (lv_at hl 2 rfl) ?_
      obtain ⟨v59, hd59, -⟩ := bd0_s hF
      refine cl_Vi (rest := []) hC hK hSK (c_X7_of l z σ11 h0 (o0) g0 p1 p2 v59 hd59 (by omega) (by omega)) k_X7_of mw_5_15 ⟨rfl, rfl, Nat.le_of_ble_eq_true rfl, Nat.le_of_ble_eq_true rfl⟩ (rv_Model hK hT g0) hT rfl hl.1 rfl (Nat.le_of_ble_eq_true rfl) dX7_man_59 ⟨Nat.zero_le _, Nat.zero_le _⟩ hS (fun _ h => h) (fun _ _ h => h) (fun r59 H locs hpo hS => ?_)
      obtain ⟨he59, hT, u59_0⟩ := hpo
      have hF := bd0_r hF hd59 he59
      exact rt_i hx hb hr hlk hS ⟨σ11, hF, hfr, hT⟩ dX7_man_62
    · have hF := ifn hF (by omega)
      have hF := ifp hF c15
      refine lv_tableIn (off := 41) (tgt := 56) hx hb dX7_man_15 (by omega) (by omega) (by rw [c15]; rfl) (by decide) ?_
      refine lv_aload_n hx hb dX7_man_56 rfl (lv_at hl 0 rfl) ?_
      refine lv_iload_n hx hb dX7_man_57 rfl (lv_at hl 1 rfl) ?_
      refine lv_iload_n hx hb dX7_man_58 rfl (lv_at hl 2 rfl) ?_
      obtain ⟨v59, hd59, -⟩ := bd0_s hF
      refine cl_Vi (rest := []) hC hK hSK (c_X7_of l z σ11 h0 (o0) g0 p1 p2 v59 hd59 (by omega) (by omega)) k_X7_of mw_5_15 ⟨rfl, rfl, Nat.le_of_ble_eq_true rfl, Nat.le_of_ble_eq_true rfl⟩ (rv_Model hK hT g0) hT rfl hl.1 rfl (Nat.le_of_ble_eq_true rfl) dX7_man_59 ⟨Nat.zero_le _, Nat.zero_le _⟩ hS (fun _ h => h) (fun _ _ h => h) (fun r59 H locs hpo hS => ?_)
      obtain ⟨he59, hT, u59_0⟩ := hpo
      have hF := bd0_r hF hd59 he59
      exact rt_i hx hb hr hlk hS ⟨σ11, hF, hfr, hT⟩ dX7_man_62
    · have hF := ifn hF (by omega)
      have hF := ifn hF (by omega)
      have hF := ifp hF c15
      refine lv_tableIn (off := 41) (tgt := 56) hx hb dX7_man_15 (by omega) (by omega) (by rw [c15]; rfl) (by decide) ?_
      refine lv_aload_n hx hb dX7_man_56 rfl (lv_at hl 0 rfl) ?_
      refine lv_iload_n hx hb dX7_man_57 rfl (lv_at hl 1 rfl) ?_
      refine lv_iload_n hx hb dX7_man_58 rfl (lv_at hl 2 rfl) ?_
      obtain ⟨v59, hd59, -⟩ := bd0_s hF
      refine cl_Vi (rest := []) hC hK hSK (c_X7_of l z σ11 h0 (o0) g0 p1 p2 v59 hd59 (by omega) (by omega)) k_X7_of mw_5_15 ⟨rfl, rfl, Nat.le_of_ble_eq_true rfl, Nat.le_of_ble_eq_true rfl⟩ (rv_Model hK hT g0) hT rfl hl.1 rfl (Nat.le_of_ble_eq_true rfl) dX7_man_59 ⟨Nat.zero_le _, Nat.zero_le _⟩ hS (fun _ h => h) (fun _ _ h => h) (fun r59 H locs hpo hS => ?_)
      obtain ⟨he59, hT, u59_0⟩ := hpo
      have hF := bd0_r hF hd59 he59
      exact rt_i hx hb hr hlk hS ⟨σ11, hF, hfr, hT⟩ dX7_man_62
    · have hF := ifn hF (by omega)
      have hF := ifn hF (by omega)
      have hF := ifn hF (by omega)
      have hF := ifp hF c15
      refine lv_tableIn (off := 41) (tgt := 56) hx hb dX7_man_15 (by omega) (by omega) (by rw [c15]; rfl) (by decide) ?_
      refine lv_aload_n hx hb dX7_man_56 rfl (lv_at hl 0 rfl) ?_
      refine lv_iload_n hx hb dX7_man_57 rfl (lv_at hl 1 rfl) ?_
      refine lv_iload_n hx hb dX7_man_58 rfl (lv_at hl 2 rfl) ?_
      obtain ⟨v59, hd59, -⟩ := bd0_s hF
      refine cl_Vi (rest := []) hC hK hSK (c_X7_of l z σ11 h0 (o0) g0 p1 p2 v59 hd59 (by omega) (by omega)) k_X7_of mw_5_15 ⟨rfl, rfl, Nat.le_of_ble_eq_true rfl, Nat.le_of_ble_eq_true rfl⟩ (rv_Model hK hT g0) hT rfl hl.1 rfl (Nat.le_of_ble_eq_true rfl) dX7_man_59 ⟨Nat.zero_le _, Nat.zero_le _⟩ hS (fun _ h => h) (fun _ _ h => h) (fun r59 H locs hpo hS => ?_)
      obtain ⟨he59, hT, u59_0⟩ := hpo
      have hF := bd0_r hF hd59 he59
      exact rt_i hx hb hr hlk hS ⟨σ11, hF, hfr, hT⟩ dX7_man_62
    · have hF := ifn hF (by omega)
      have hF := ifn hF (by omega)
      have hF := ifn hF (by omega)
      have hF := ifn hF (by omega)
      have hF := ifp hF c15
      refine lv_tableIn (off := 48) (tgt := 63) hx hb dX7_man_15 (by omega) (by omega) (by rw [c15]; rfl) (by decide) ?_
      refine lv_aload_n hx hb dX7_man_63 rfl (lv_at hl 0 rfl) ?_
      refine lv_iload_n hx hb dX7_man_64 rfl (lv_at hl 1 rfl) ?_
      obtain ⟨v65, hd65, -⟩ := bd0_s hF
      refine cl_Vi (rest := []) hC hK hSK (c_X7_stature l z σ11 h0 (o0) g0 p1 v65 hd65 (by omega)) k_X7_stature mw_5_19 ⟨rfl, rfl, Nat.le_of_ble_eq_true rfl, Nat.le_of_ble_eq_true rfl⟩ (rv_Model hK hT g0) hT rfl hl.1 rfl (Nat.le_of_ble_eq_true rfl) dX7_man_65 ⟨Nat.zero_le _, Nat.zero_le _⟩ hS (fun _ h => h) (fun _ _ h => h) (fun r65 H locs hpo hS => ?_)
      obtain ⟨he65, hT, u65_0⟩ := hpo
      have hF := bd0_r hF hd65 he65
      refine r_iconst hx hb dX7_man_68 (by decide) (by decide) (fun x68 e68 => ?_)
      have hF := bn hF e68
      refine r_iadd hx hb dX7_man_69 (by omega) (by omega) (fun x69 e69 => ?_)
      have hF := bn hF e69
      exact rt_i hx hb hr hlk hS ⟨σ11, hF, hfr, hT⟩ dX7_man_70
    · have hF := ifn hF (by omega)
      have hF := ifn hF (by omega)
      have hF := ifn hF (by omega)
      have hF := ifn hF (by omega)
      have hF := ifn hF (by omega)
      have hF := ifp hF c15
      refine lv_tableIn (off := 56) (tgt := 71) hx hb dX7_man_15 (by omega) (by omega) (by rw [c15]; rfl) (by decide) ?_
      refine lv_aload_n hx hb dX7_man_71 rfl (lv_at hl 0 rfl) ?_
      refine lv_iload_n hx hb dX7_man_72 rfl (lv_at hl 1 rfl) ?_
      obtain ⟨v73, hd73, -⟩ := bd0_s hF
      refine cl_Vi (rest := []) hC hK hSK (c_X7_rankOf l z σ11 h0 (o0) g0 p1 v73 hd73 (by omega)) k_X7_rankOf mw_5_23 ⟨rfl, rfl, Nat.le_of_ble_eq_true rfl, Nat.le_of_ble_eq_true rfl⟩ (rv_Model hK hT g0) hT rfl hl.1 rfl (Nat.le_of_ble_eq_true rfl) dX7_man_73 ⟨Nat.zero_le _, Nat.zero_le _⟩ hS (fun _ h => h) (fun _ _ h => h) (fun r73 H locs hpo hS => ?_)
      obtain ⟨he73, hT, u73_0⟩ := hpo
      have hF := bd0_r hF hd73 he73
      exact rt_i hx hb hr hlk hS ⟨σ11, hF, hfr, hT⟩ dX7_man_76
    · have hF := ifn hF (by omega)
      have hF := ifn hF (by omega)
      have hF := ifn hF (by omega)
      have hF := ifn hF (by omega)
      have hF := ifn hF (by omega)
      have hF := ifn hF (by omega)
      have hF := ifp hF c15
      refine lv_tableIn (off := 62) (tgt := 77) hx hb dX7_man_15 (by omega) (by omega) (by rw [c15]; rfl) (by decide) ?_
      refine lv_aload_n hx hb dX7_man_77 rfl (lv_at hl 0 rfl) ?_
      refine lv_iload_n hx hb dX7_man_78 rfl (lv_at hl 1 rfl) ?_
      obtain ⟨v79, hd79, -⟩ := bd0_s hF
      refine cl_Vi (rest := []) hC hK hSK (c_X7_partnerOf l z σ11 h0 (o0) g0 p1 v79 hd79) k_X7_partnerOf mw_5_31 ⟨rfl, rfl, Nat.le_of_ble_eq_true rfl, Nat.le_of_ble_eq_true rfl⟩ (rv_Model hK hT g0) hT rfl hl.1 rfl (Nat.le_of_ble_eq_true rfl) dX7_man_79 ⟨Nat.zero_le _, Nat.zero_le _⟩ hS (fun _ h => h) (fun _ _ h => h) (fun r79 H locs hpo hS => ?_)
      obtain ⟨he79, hT⟩ := hpo
      have hF := bd0_r hF hd79 he79
      exact rt_i hx hb hr hlk hS ⟨σ11, hF, hfr, hT⟩ dX7_man_82
    · have hF := ifn hF (by omega)
      have hF := ifn hF (by omega)
      have hF := ifn hF (by omega)
      have hF := ifn hF (by omega)
      have hF := ifn hF (by omega)
      have hF := ifn hF (by omega)
      have hF := ifn hF (by omega)
      refine lv_tableOut (tgt := 83) hx hb dX7_man_15 c15 (by decide) ?_
      refine r_iconst hx hb dX7_man_83 (by decide) (by decide) (fun x83 e83 => ?_)
      have hF := bn hF e83
      exact rt_i hx hb hr hlk hS ⟨σ11, hF, hfr, hT⟩ dX7_man_84
  · have hF := ifp hF c5
    refine r_iconst hx hb dX7_man_8 (by decide) (by decide) (fun x8 e8 => ?_)
    have hF := bn hF e8
    exact rt_i hx hb hr hlk hS ⟨σ, hF, hfr, hT⟩ dX7_man_9
theorem k_X7_woman : cBV yX7_woman cX7_woman 2 (some .int) 1 := ⟨mw_5_36, mw_5_37, mw_1_8, mw_5_38, ⟨by decide, by decide, by decide⟩⟩
set_option maxHeartbeats 4000000 in
set_option maxRecDepth 100000 in
theorem c_X7_woman (l : Launch) (z : Zt) (σ : Sg) (h0 o0 : Nat) (g0 : zG z h0 = (17, o0)) (p1 : Int32) (out : Int) (hF : D_X7_woman (σ o0) p1.toInt = some out) : Met l yX7_woman (uw yX7_woman cX7_woman 2 (some .int)) (rmF 3 110) (PcW z [.ref h0, .int p1] (fun H => TY z (zA z) σ H)) (QcI z (fun r H => some r.toInt = some out ∧ TY z (zA z) σ H)) 0 0 (zA z) := by
  refine Met.ofW (cc := cX7_woman) (maxL := 2) (ret := (some .int)) (by decide) rfl ?_
  intro p e s m args below meth c s₁ B hml hv
  obtain ⟨rfl, hT, hK, hSK⟩ := hv
  have hx := B.exec
  have hb := B.bytes
  have hr := B.returns
  have hts : ∀ w ∈ lw_ok, w.before ([.ref h0, .int p1] : List Value).toArray s = true := fun w hw => atoms_spec (ws := uw yX7_woman cX7_woman 2 (some .int)) B.pre w (List.mem_cons_of_mem _ hw)
  have hown : s.vm.findClass RX7 = some m.cls := findClass_of_methodNamed B.named
  have hlk := B.notSynchronized
  have hC : CallFix p m c cX7_woman 2 s ([.ref h0, .int p1] : List Value).toArray lw_ok RX7 := ⟨hx, hb, hml, hown, hts⟩
  have hS : va_S (zA z) s.heap s.heap [] := va_S.rf
  have hl := lv_entry ([.ref h0, .int p1]) (n := 2) (Nat.le_of_ble_eq_true rfl)
  rw [lg_entry_eq]
  generalize (lg_sl ([.ref h0, .int p1]) ++ List.replicate (2 - (lg_sl ([.ref h0, .int p1])).length) Slot.unset).toArray = ls at hl ⊢
  have hl : lv_has ls 2 [(0, .ref h0), (1, .int p1)] := hl
  show W p l e (rmF 3 110) s m ([.ref h0, .int p1] : List Value).toArray below meth c s.heap [] 0 0 (MQ below (QcI z (fun r H => some r.toInt = some out ∧ TY z (zA z) σ H)) ([.ref h0, .int p1] : List Value).toArray s 0 0 (zA z)) (F0 m 0 ls [])
  unfold D_X7_woman at hF
  have mx_p1 := i_mx p1
  refine lv_aload_n hx hb dX7_woman_0 rfl (lv_at hl 0 rfl) ?_
  refine lv_iload_n hx hb dX7_woman_1 rfl (lv_at hl 1 rfl) ?_
  obtain ⟨v2, hd2, -⟩ := bd0_s hF
  refine cl_Vi (rest := []) hC hK hSK (c_X7_isOne l z σ h0 (o0) g0 p1 v2 hd2) k_X7_isOne mw_5_11 ⟨rfl, rfl, Nat.le_of_ble_eq_true rfl, Nat.le_of_ble_eq_true rfl⟩ (rv_Model hK hT g0) hT rfl hl.1 rfl (Nat.le_of_ble_eq_true rfl) dX7_woman_2 ⟨Nat.zero_le _, Nat.zero_le _⟩ hS (fun _ h => h) (fun _ _ h => h) (fun r2 H locs hpo hS => ?_)
  obtain ⟨he2, hT, u2_0, u2_1⟩ := hpo
  have hF := bd0_r hF hd2 he2
  refine r_if_eq (tgt := 20) hx hb dX7_woman_5 (by decide) (fun c5 => ?_) (fun c5 => ?_)
  · have hF := ifp hF c5
    refine r_iconst hx hb dX7_woman_20 (by decide) (by decide) (fun x20 e20 => ?_)
    have hF := bn hF e20
    exact rt_i hx hb hr hlk hS ⟨hF, hT⟩ dX7_woman_21
  · have hF := ifn hF c5
    refine lv_aload_n hx hb dX7_woman_8 rfl (lv_at hl 0 rfl) ?_
    refine gt_Model_st hx hb hts ic_Model hown hK hT g0 (hts _ mw_4_70) dX7_woman_9 (fun q9 hq9 => ?_)
    refine r_bipush hx hb dX7_woman_12 rfl (fun x12 e12 => ?_)
    have hF := bn hF e12
    refine lv_iload_n hx hb dX7_woman_14 rfl (lv_at hl 1 rfl) ?_
    refine r_iadd hx hb dX7_woman_15 (by omega) (by omega) (fun x15 e15 => ?_)
    have hF := bn hF e15
    refine al_40 hx hb hK hT hq9 (by omega) (by omega) dX7_woman_16 (fun x16 e16 g16 => ?_)
    have hF := bn hF e16
    have f16 := gd59_20 (gd177_e g16 (by omega)) (by omega) (by omega)
    refine lv_goto (tgt := 21) hx hb dX7_woman_17 (by decide) ?_
    exact rt_i hx hb hr hlk hS ⟨hF, hT⟩ dX7_woman_21
theorem k_X7_at : cBV yX7_at cX7_at 2 (some .int) 1 := ⟨mw_5_40, mw_5_41, mw_1_8, mw_5_42, ⟨by decide, by decide, by decide⟩⟩
set_option maxHeartbeats 4000000 in
set_option maxRecDepth 100000 in
theorem c_X7_at (l : Launch) (z : Zt) (σ : Sg) (h0 o0 : Nat) (g0 : zG z h0 = (17, o0)) (p1 : Int32) (out : (Int × Lo)) (hF : D_X7_at (σ o0) p1.toInt = some out) : Met l yX7_at (uw yX7_at cX7_at 2 (some .int)) (rmF 6 176) (PcW z [.ref h0, .int p1] (fun H => TY z (zA z) σ H)) (QcI z (fun r H => ∃ σ' : Sg, some (r.toInt, σ' o0) = some out ∧ FR σ σ' o0 ∧ TY z (zA z) σ' H)) 0 0 (zA z) := by
  refine Met.ofW (cc := cX7_at) (maxL := 2) (ret := (some .int)) (by decide) rfl ?_
  intro p e s m args below meth c s₁ B hml hv
  obtain ⟨rfl, hT, hK, hSK⟩ := hv
  have hx := B.exec
  have hb := B.bytes
  have hr := B.returns
  have hts : ∀ w ∈ lw_ok, w.before ([.ref h0, .int p1] : List Value).toArray s = true := fun w hw => atoms_spec (ws := uw yX7_at cX7_at 2 (some .int)) B.pre w (List.mem_cons_of_mem _ hw)
  have hown : s.vm.findClass RX7 = some m.cls := findClass_of_methodNamed B.named
  have hlk := B.notSynchronized
  have hC : CallFix p m c cX7_at 2 s ([.ref h0, .int p1] : List Value).toArray lw_ok RX7 := ⟨hx, hb, hml, hown, hts⟩
  have hS : va_S (zA z) s.heap s.heap [] := va_S.rf
  have hl := lv_entry ([.ref h0, .int p1]) (n := 2) (Nat.le_of_ble_eq_true rfl)
  rw [lg_entry_eq]
  generalize (lg_sl ([.ref h0, .int p1]) ++ List.replicate (2 - (lg_sl ([.ref h0, .int p1])).length) Slot.unset).toArray = ls at hl ⊢
  have hl : lv_has ls 2 [(0, .ref h0), (1, .int p1)] := hl
  show W p l e (rmF 6 176) s m ([.ref h0, .int p1] : List Value).toArray below meth c s.heap [] 0 0 (MQ below (QcI z (fun r H => ∃ σ' : Sg, some (r.toInt, σ' o0) = some out ∧ FR σ σ' o0 ∧ TY z (zA z) σ' H)) ([.ref h0, .int p1] : List Value).toArray s 0 0 (zA z)) (F0 m 0 ls [])
  have hfr : FR σ σ o0 := FR_rf σ o0
  unfold D_X7_at at hF
  have mx_p1 := i_mx p1
  refine lv_aload_n hx hb dX7_at_0 rfl (lv_at hl 0 rfl) ?_
  refine lv_iload_n hx hb dX7_at_1 rfl (lv_at hl 1 rfl) ?_
  obtain ⟨v2, hd2, -⟩ := bd0_s hF
  refine cl_Vi (rest := []) hC hK hSK (c_X7_isOne l z σ h0 (o0) g0 p1 v2 hd2) k_X7_isOne mw_5_11 ⟨rfl, rfl, Nat.le_of_ble_eq_true rfl, Nat.le_of_ble_eq_true rfl⟩ (rv_Model hK hT g0) hT rfl hl.1 rfl (Nat.le_of_ble_eq_true rfl) dX7_at_2 ⟨Nat.zero_le _, Nat.zero_le _⟩ hS (fun _ h => h) (fun _ _ h => h) (fun r2 H locs hpo hS => ?_)
  obtain ⟨he2, hT, u2_0, u2_1⟩ := hpo
  have hF := bd0_r hF hd2 he2
  refine r_if_ne (tgt := 10) hx hb dX7_at_5 (by decide) (fun c5 => ?_) (fun c5 => ?_)
  · have hF := ifn hF c5
    refine lv_aload_n hx hb dX7_at_10 rfl (lv_at hl 0 rfl) ?_
    obtain ⟨s11, hd11, -⟩ := bd1_s hF
    refine cl_Vv (rest := []) hC hK hSK (c_X7_starts l z σ h0 (o0) g0 s11 hd11) k_X7_starts mw_4_229 ⟨rfl, rfl, Nat.le_of_ble_eq_true rfl, Nat.le_of_ble_eq_true rfl⟩ (rv_Model hK hT g0) hT rfl hl.1 rfl (Nat.le_of_ble_eq_true rfl) dX7_at_11 ⟨Nat.zero_le _, Nat.zero_le _⟩ hS (fun _ h => h) (fun _ _ h => h) (fun H locs hpo hS => ?_)
    obtain ⟨σ11, he11, hf11, hT⟩ := hpo
    have hF := bd1_r hF hd11 he11
    have hfr := FR_tr hf11 hfr
    refine lv_aload_n hx hb dX7_at_14 rfl (lv_at hl 0 rfl) ?_
    obtain ⟨s15, hd15, -⟩ := bd1_s hF
    refine cl_Vv (rest := []) hC hK hSK (c_X7_findRanks l z σ11 h0 (o0) g0 s15 hd15) k_X7_findRanks mw_5_43 ⟨rfl, rfl, Nat.le_of_ble_eq_true rfl, Nat.le_of_ble_eq_true rfl⟩ (rv_Model hK hT g0) hT rfl hl.1 rfl (Nat.le_of_ble_eq_true rfl) dX7_at_15 ⟨Nat.zero_le _, Nat.zero_le _⟩ hS (fun _ h => h) (fun _ _ h => h) (fun H locs hpo hS => ?_)
    obtain ⟨σ15, he15, hf15, hT⟩ := hpo
    have hF := bd1_r hF hd15 he15
    have hfr := FR_tr hf15 hfr
    refine lv_aload_n hx hb dX7_at_18 rfl (lv_at hl 0 rfl) ?_
    refine gt_Model_byRank hx hb hts ic_Model hown hK hT g0 (hts _ mw_4_87) dX7_at_19 (fun q19 hq19 => ?_)
    refine lv_iload_n hx hb dX7_at_22 rfl (lv_at hl 1 rfl) ?_
    refine al_45 hx hb hK hT hq19 (by omega) (by omega) dX7_at_23 (fun x23 e23 g23 => ?_)
    have hF := bn hF e23
    exact rt_i hx hb hr hlk hS ⟨σ15, hF, hfr, hT⟩ dX7_at_24
  · have hF := ifp hF c5
    refine r_iconst hx hb dX7_at_8 (by decide) (by decide) (fun x8 e8 => ?_)
    have hF := bn hF e8
    exact rt_i hx hb hr hlk hS ⟨σ, hF, hfr, hT⟩ dX7_at_9
theorem k_X7_figure : cBV yX7_figure cX7_figure 2 (some .int) 1 := ⟨mw_5_48, mw_5_49, mw_1_8, mw_5_50, ⟨by decide, by decide, by decide⟩⟩
set_option maxHeartbeats 4000000 in
set_option maxRecDepth 100000 in
theorem c_X7_figure (l : Launch) (z : Zt) (σ : Sg) (h0 o0 : Nat) (g0 : zG z h0 = (17, o0)) (p1 : Int32) (out : Int) (hF : D_X7_figure (σ o0) p1.toInt = some out) : Met l yX7_figure (uw yX7_figure cX7_figure 2 (some .int)) (rmF 2 89) (PcW z [.ref h0, .int p1] (fun H => TY z (zA z) σ H)) (QcI z (fun r H => some r.toInt = some out ∧ TY z (zA z) σ H)) 0 0 (zA z) := by
  refine Met.ofW (cc := cX7_figure) (maxL := 2) (ret := (some .int)) (by decide) rfl ?_
  intro p e s m args below meth c s₁ B hml hv
  obtain ⟨rfl, hT, hK, hSK⟩ := hv
  have hx := B.exec
  have hb := B.bytes
  have hr := B.returns
  have hts : ∀ w ∈ lw_ok, w.before ([.ref h0, .int p1] : List Value).toArray s = true := fun w hw => atoms_spec (ws := uw yX7_figure cX7_figure 2 (some .int)) B.pre w (List.mem_cons_of_mem _ hw)
  have hown : s.vm.findClass RX7 = some m.cls := findClass_of_methodNamed B.named
  have hlk := B.notSynchronized
  have hC : CallFix p m c cX7_figure 2 s ([.ref h0, .int p1] : List Value).toArray lw_ok RX7 := ⟨hx, hb, hml, hown, hts⟩
  have hS : va_S (zA z) s.heap s.heap [] := va_S.rf
  have hl := lv_entry ([.ref h0, .int p1]) (n := 2) (Nat.le_of_ble_eq_true rfl)
  rw [lg_entry_eq]
  generalize (lg_sl ([.ref h0, .int p1]) ++ List.replicate (2 - (lg_sl ([.ref h0, .int p1])).length) Slot.unset).toArray = ls at hl ⊢
  have hl : lv_has ls 2 [(0, .ref h0), (1, .int p1)] := hl
  show W p l e (rmF 2 89) s m ([.ref h0, .int p1] : List Value).toArray below meth c s.heap [] 0 0 (MQ below (QcI z (fun r H => some r.toInt = some out ∧ TY z (zA z) σ H)) ([.ref h0, .int p1] : List Value).toArray s 0 0 (zA z)) (F0 m 0 ls [])
  unfold D_X7_figure at hF
  have mx_p1 := i_mx p1
  refine lv_iload_n hx hb dX7_figure_0 rfl (lv_at hl 1 rfl) ?_
  refine r_i2l hx hb dX7_figure_1 (fun x1 e1 => ?_)
  have hF := bn hF e1
  refine r_lconst0 hx hb dX7_figure_2 (fun x2 e2 => ?_)
  have hF := bn hF e2
  refine lv_aload_n hx hb dX7_figure_3 rfl (lv_at hl 0 rfl) ?_
  refine gt_Model_st hx hb hts ic_Model hown hK hT g0 (hts _ mw_4_70) dX7_figure_4 (fun q4 hq4 => ?_)
  refine r_bipush hx hb dX7_figure_7 rfl (fun x7 e7 => ?_)
  have hF := bn hF e7
  refine al_40 hx hb hK hT hq4 (by omega) (by omega) dX7_figure_9 (fun x9 e9 g9 => ?_)
  have hF := bn hF e9
  have f9 := gd59_31 (gd177_e g9 (by omega)) (by omega)
  refine r_iconst hx hb dX7_figure_10 (by decide) (by decide) (fun x10 e10 => ?_)
  have hF := bn hF e10
  refine r_isub hx hb dX7_figure_11 (by omega) (by omega) (fun x11 e11 => ?_)
  have hF := bn hF e11
  refine r_i2l hx hb dX7_figure_12 (fun x12 e12 => ?_)
  have hF := bn hF e12
  obtain ⟨v13, hd13, -⟩ := bd0_s hF
  refine cl_Si (rest := []) hC hK hSK (c_X7_in l z σ x1 x2 x12 v13 hd13) k_X7_in mw_4_154 ⟨rfl, rfl, Nat.le_of_ble_eq_true rfl, Nat.le_of_ble_eq_true rfl⟩ hT rfl hl.1 rfl (Nat.le_of_ble_eq_true rfl) dX7_figure_13 ⟨Nat.zero_le _, Nat.zero_le _⟩ hS (fun _ h => h) (fun _ _ h => h) (fun r13 H locs hpo hS => ?_)
  obtain ⟨he13, hT, u13_0, u13_1⟩ := hpo
  have hF := bd0_r hF hd13 he13
  refine r_if_eq (tgt := 31) hx hb dX7_figure_16 (by decide) (fun c16 => ?_) (fun c16 => ?_)
  · have hF := ifp hF c16
    refine r_iconst hx hb dX7_figure_31 (by decide) (by decide) (fun x31 e31 => ?_)
    have hF := bn hF e31
    exact rt_i hx hb hr hlk hS ⟨hF, hT⟩ dX7_figure_32
  · have hF := ifn hF c16
    refine lv_aload_n hx hb dX7_figure_19 rfl (lv_at hl 0 rfl) ?_
    refine gt_Model_st hx hb hts ic_Model hown hK hT g0 (hts _ mw_4_70) dX7_figure_20 (fun q20 hq20 => ?_)
    refine r_bipush hx hb dX7_figure_23 rfl (fun x23 e23 => ?_)
    have hF := bn hF e23
    refine lv_iload_n hx hb dX7_figure_25 rfl (lv_at hl 1 rfl) ?_
    refine r_iadd hx hb dX7_figure_26 (by omega) (by omega) (fun x26 e26 => ?_)
    have hF := bn hF e26
    refine al_40 hx hb hK hT hq20 (by omega) (by omega) dX7_figure_27 (fun x27 e27 g27 => ?_)
    have hF := bn hF e27
    refine lv_goto (tgt := 32) hx hb dX7_figure_28 (by decide) ?_
    exact rt_i hx hb hr hlk hS ⟨hF, hT⟩ dX7_figure_32
theorem k_X7_cousins : cBV yX7_cousins cX7_cousins 2 (some .int) 1 := ⟨mw_5_52, mw_5_53, mw_1_8, mw_5_54, ⟨by decide, by decide, by decide⟩⟩
set_option maxHeartbeats 4000000 in
set_option maxRecDepth 100000 in
theorem c_X7_cousins (l : Launch) (z : Zt) (σ : Sg) (h0 o0 : Nat) (g0 : zG z h0 = (17, o0)) (p1 : Int32) (out : Int) (hF : D_X7_cousins (σ o0) p1.toInt = some out) : Met l yX7_cousins (uw yX7_cousins cX7_cousins 2 (some .int)) (rmF 3 110) (PcW z [.ref h0, .int p1] (fun H => TY z (zA z) σ H)) (QcI z (fun r H => some r.toInt = some out ∧ TY z (zA z) σ H)) 0 0 (zA z) := by
  refine Met.ofW (cc := cX7_cousins) (maxL := 2) (ret := (some .int)) (by decide) rfl ?_
  intro p e s m args below meth c s₁ B hml hv
  obtain ⟨rfl, hT, hK, hSK⟩ := hv
  have hx := B.exec
  have hb := B.bytes
  have hr := B.returns
  have hts : ∀ w ∈ lw_ok, w.before ([.ref h0, .int p1] : List Value).toArray s = true := fun w hw => atoms_spec (ws := uw yX7_cousins cX7_cousins 2 (some .int)) B.pre w (List.mem_cons_of_mem _ hw)
  have hown : s.vm.findClass RX7 = some m.cls := findClass_of_methodNamed B.named
  have hlk := B.notSynchronized
  have hC : CallFix p m c cX7_cousins 2 s ([.ref h0, .int p1] : List Value).toArray lw_ok RX7 := ⟨hx, hb, hml, hown, hts⟩
  have hS : va_S (zA z) s.heap s.heap [] := va_S.rf
  have hl := lv_entry ([.ref h0, .int p1]) (n := 2) (Nat.le_of_ble_eq_true rfl)
  rw [lg_entry_eq]
  generalize (lg_sl ([.ref h0, .int p1]) ++ List.replicate (2 - (lg_sl ([.ref h0, .int p1])).length) Slot.unset).toArray = ls at hl ⊢
  have hl : lv_has ls 2 [(0, .ref h0), (1, .int p1)] := hl
  show W p l e (rmF 3 110) s m ([.ref h0, .int p1] : List Value).toArray below meth c s.heap [] 0 0 (MQ below (QcI z (fun r H => some r.toInt = some out ∧ TY z (zA z) σ H)) ([.ref h0, .int p1] : List Value).toArray s 0 0 (zA z)) (F0 m 0 ls [])
  unfold D_X7_cousins at hF
  have mx_p1 := i_mx p1
  refine lv_aload_n hx hb dX7_cousins_0 rfl (lv_at hl 0 rfl) ?_
  refine lv_iload_n hx hb dX7_cousins_1 rfl (lv_at hl 1 rfl) ?_
  obtain ⟨v2, hd2, -⟩ := bd0_s hF
  refine cl_Vi (rest := []) hC hK hSK (c_X7_isOne l z σ h0 (o0) g0 p1 v2 hd2) k_X7_isOne mw_5_11 ⟨rfl, rfl, Nat.le_of_ble_eq_true rfl, Nat.le_of_ble_eq_true rfl⟩ (rv_Model hK hT g0) hT rfl hl.1 rfl (Nat.le_of_ble_eq_true rfl) dX7_cousins_2 ⟨Nat.zero_le _, Nat.zero_le _⟩ hS (fun _ h => h) (fun _ _ h => h) (fun r2 H locs hpo hS => ?_)
  obtain ⟨he2, hT, u2_0, u2_1⟩ := hpo
  have hF := bd0_r hF hd2 he2
  refine r_if_eq (tgt := 20) hx hb dX7_cousins_5 (by decide) (fun c5 => ?_) (fun c5 => ?_)
  · have hF := ifp hF c5
    refine r_iconst hx hb dX7_cousins_20 (by decide) (by decide) (fun x20 e20 => ?_)
    have hF := bn hF e20
    exact rt_i hx hb hr hlk hS ⟨hF, hT⟩ dX7_cousins_21
  · have hF := ifn hF c5
    refine lv_aload_n hx hb dX7_cousins_8 rfl (lv_at hl 0 rfl) ?_
    refine gt_Model_st hx hb hts ic_Model hown hK hT g0 (hts _ mw_4_70) dX7_cousins_9 (fun q9 hq9 => ?_)
    refine r_bipush hx hb dX7_cousins_12 rfl (fun x12 e12 => ?_)
    have hF := bn hF e12
    refine lv_iload_n hx hb dX7_cousins_14 rfl (lv_at hl 1 rfl) ?_
    refine r_iadd hx hb dX7_cousins_15 (by omega) (by omega) (fun x15 e15 => ?_)
    have hF := bn hF e15
    refine al_40 hx hb hK hT hq9 (by omega) (by omega) dX7_cousins_16 (fun x16 e16 g16 => ?_)
    have hF := bn hF e16
    refine lv_goto (tgt := 21) hx hb dX7_cousins_17 (by decide) ?_
    exact rt_i hx hb hr hlk hS ⟨hF, hT⟩ dX7_cousins_21
theorem k_X7_alter : cBV yX7_alter cX7_alter 4 (some .int) 3 := ⟨mw_5_56, mw_5_57, mw_1_8, mw_5_58, ⟨by decide, by decide, by decide⟩⟩
set_option maxHeartbeats 4000000 in
set_option maxRecDepth 100000 in
theorem c_X7_alter (l : Launch) (z : Zt) (σ : Sg) (h0 o0 : Nat) (g0 : zG z h0 = (17, o0)) (p1 : Int32) (p2 : Int32) (p3 : Int32) (out : (Int × Lo)) (hF : D_X7_alter (σ o0) p1.toInt p2.toInt p3.toInt = some out) : Met l yX7_alter (uw yX7_alter cX7_alter 4 (some .int)) (rmF 3 110) (PcW z [.ref h0, .int p1, .int p2, .int p3] (fun H => TY z (zA z) σ H)) (QcI z (fun r H => ∃ σ' : Sg, some (r.toInt, σ' o0) = some out ∧ FR σ σ' o0 ∧ TY z (zA z) σ' H)) 0 0 (zA z) := by
  refine Met.ofW (cc := cX7_alter) (maxL := 4) (ret := (some .int)) (by decide) rfl ?_
  intro p e s m args below meth c s₁ B hml hv
  obtain ⟨rfl, hT, hK, hSK⟩ := hv
  have hx := B.exec
  have hb := B.bytes
  have hr := B.returns
  have hts : ∀ w ∈ lw_ok, w.before ([.ref h0, .int p1, .int p2, .int p3] : List Value).toArray s = true := fun w hw => atoms_spec (ws := uw yX7_alter cX7_alter 4 (some .int)) B.pre w (List.mem_cons_of_mem _ hw)
  have hown : s.vm.findClass RX7 = some m.cls := findClass_of_methodNamed B.named
  have hlk := B.notSynchronized
  have hC : CallFix p m c cX7_alter 4 s ([.ref h0, .int p1, .int p2, .int p3] : List Value).toArray lw_ok RX7 := ⟨hx, hb, hml, hown, hts⟩
  have hS : va_S (zA z) s.heap s.heap [] := va_S.rf
  have hl := lv_entry ([.ref h0, .int p1, .int p2, .int p3]) (n := 4) (Nat.le_of_ble_eq_true rfl)
  rw [lg_entry_eq]
  generalize (lg_sl ([.ref h0, .int p1, .int p2, .int p3]) ++ List.replicate (4 - (lg_sl ([.ref h0, .int p1, .int p2, .int p3])).length) Slot.unset).toArray = ls at hl ⊢
  have hl : lv_has ls 4 [(0, .ref h0), (1, .int p1), (2, .int p2), (3, .int p3)] := hl
  show W p l e (rmF 3 110) s m ([.ref h0, .int p1, .int p2, .int p3] : List Value).toArray below meth c s.heap [] 0 0 (MQ below (QcI z (fun r H => ∃ σ' : Sg, some (r.toInt, σ' o0) = some out ∧ FR σ σ' o0 ∧ TY z (zA z) σ' H)) ([.ref h0, .int p1, .int p2, .int p3] : List Value).toArray s 0 0 (zA z)) (F0 m 0 ls [])
  have hfr : FR σ σ o0 := FR_rf σ o0
  unfold D_X7_alter at hF
  have mx_p1 := i_mx p1
  have mx_p2 := i_mx p2
  have mx_p3 := i_mx p3
  refine lv_aload_n hx hb dX7_alter_0 rfl (lv_at hl 0 rfl) ?_
  refine lv_iload_n hx hb dX7_alter_1 rfl (lv_at hl 1 rfl) ?_
  obtain ⟨v2, hd2, -⟩ := bd0_s hF
  refine cl_Vi (rest := []) hC hK hSK (c_X7_isOne l z σ h0 (o0) g0 p1 v2 hd2) k_X7_isOne mw_5_11 ⟨rfl, rfl, Nat.le_of_ble_eq_true rfl, Nat.le_of_ble_eq_true rfl⟩ (rv_Model hK hT g0) hT rfl hl.1 rfl (Nat.le_of_ble_eq_true rfl) dX7_alter_2 ⟨Nat.zero_le _, Nat.zero_le _⟩ hS (fun _ h => h) (fun _ _ h => h) (fun r2 H locs hpo hS => ?_)
  obtain ⟨he2, hT, u2_0, u2_1⟩ := hpo
  have hF := bd0_r hF hd2 he2
  have J55 : ∀ (ls : Array Slot) (H : Heap) (locs : List Loc) (σj55 : Sg), D_X7_alter_55 (σj55 o0) = some out → FR σ σj55 o0 → TY z (zA z) σj55 H → va_S (zA z) s.heap H locs → lv_has ls 4 [(0, .ref h0), (1, .int p1), (2, .int p2), (3, .int p3)] → W p l e (rmF 3 110) s m ([.ref h0, .int p1, .int p2, .int p3] : List Value).toArray below meth c H locs 0 0 (MQ below (QcI z (fun r H => ∃ σ' : Sg, some (r.toInt, σ' o0) = some out ∧ FR σ σ' o0 ∧ TY z (zA z) σ' H)) ([.ref h0, .int p1, .int p2, .int p3] : List Value).toArray s 0 0 (zA z)) (F0 m 55 ls []) := by
    intro ls H locs σj55 hF hfr hT hS hl
    unfold D_X7_alter_55 at hF
    refine r_iconst hx hb dX7_alter_55 (by decide) (by decide) (fun x55 e55 => ?_)
    have hF := bn hF e55
    exact rt_i hx hb hr hlk hS ⟨σj55, hF, hfr, hT⟩ dX7_alter_56
  refine r_if_eq (tgt := 55) hx hb dX7_alter_5 (by decide) (fun c5 => ?_) (fun c5 => ?_)
  · have hF := ifp hF c5
    exact J55 ls _ _ σ hF hfr hT hS (lv_sub hl [0, 1, 2, 3] rfl)
  · have hF := ifn hF c5
    refine lv_iload_n hx hb dX7_alter_8 rfl (lv_at hl 2 rfl) ?_
    refine r_i2l hx hb dX7_alter_9 (fun x9 e9 => ?_)
    have hF := bn hF e9
    refine r_lconst0 hx hb dX7_alter_10 (fun x10 e10 => ?_)
    have hF := bn hF e10
    refine r_ldc2 (3) rfl hx hb hts hown mw_5_59 dX7_alter_11 (fun x11 e11 => ?_)
    have hF := bn hF e11
    obtain ⟨v14, hd14, -⟩ := bd0_s hF
    refine cl_Si (rest := []) hC hK hSK (c_X7_in l z σ x9 x10 x11 v14 hd14) k_X7_in mw_4_154 ⟨rfl, rfl, Nat.le_of_ble_eq_true rfl, Nat.le_of_ble_eq_true rfl⟩ hT rfl hl.1 rfl (Nat.le_of_ble_eq_true rfl) dX7_alter_14 ⟨Nat.zero_le _, Nat.zero_le _⟩ hS (fun _ h => h) (fun _ _ h => h) (fun r14 H locs hpo hS => ?_)
    obtain ⟨he14, hT, u14_0, u14_1⟩ := hpo
    have hF := bd0_r hF hd14 he14
    refine r_if_eq (tgt := 55) hx hb dX7_alter_17 (by decide) (fun c17 => ?_) (fun c17 => ?_)
    · have hF := ifp hF c17
      exact J55 ls _ _ σ hF hfr hT hS (lv_sub hl [0, 1, 2, 3] rfl)
    · have hF := ifn hF c17
      refine lv_iload_n hx hb dX7_alter_20 rfl (lv_at hl 3 rfl) ?_
      refine r_i2l hx hb dX7_alter_21 (fun x21 e21 => ?_)
      have hF := bn hF e21
      refine r_lconst0 hx hb dX7_alter_22 (fun x22 e22 => ?_)
      have hF := bn hF e22
      refine lv_iload_n hx hb dX7_alter_23 rfl (lv_at hl 2 rfl) ?_
      have J36 : ∀ (ls : Array Slot) (H : Heap) (locs : List Loc) (t36_2 : Int64) (σj36 : Sg), D_X7_alter_36 p1.toInt p2.toInt p3.toInt x21.toInt x22.toInt (σj36 o0) t36_2.toInt = some out → FR σ σj36 o0 → TY z (zA z) σj36 H → va_S (zA z) s.heap H locs → lv_has ls 4 [(0, .ref h0), (1, .int p1), (2, .int p2), (3, .int p3)] → W p l e (rmF 3 110) s m ([.ref h0, .int p1, .int p2, .int p3] : List Value).toArray below meth c H locs 0 0 (MQ below (QcI z (fun r H => ∃ σ' : Sg, some (r.toInt, σ' o0) = some out ∧ FR σ σ' o0 ∧ TY z (zA z) σ' H)) ([.ref h0, .int p1, .int p2, .int p3] : List Value).toArray s 0 0 (zA z)) (F0 m 36 ls [.long t36_2, .long x22, .long x21]) := by
        intro ls H locs t36_2 σj36 hF hfr hT hS hl
        unfold D_X7_alter_36 at hF
        obtain ⟨v36, hd36, -⟩ := bd0_s hF
        refine cl_Si (rest := []) hC hK hSK (c_X7_in l z σj36 x21 x22 t36_2 v36 hd36) k_X7_in mw_4_154 ⟨rfl, rfl, Nat.le_of_ble_eq_true rfl, Nat.le_of_ble_eq_true rfl⟩ hT rfl hl.1 rfl (Nat.le_of_ble_eq_true rfl) dX7_alter_36 ⟨Nat.zero_le _, Nat.zero_le _⟩ hS (fun _ h => h) (fun _ _ h => h) (fun r36 H locs hpo hS => ?_)
        obtain ⟨he36, hT, u36_0, u36_1⟩ := hpo
        have hF := bd0_r hF hd36 he36
        refine r_if_eq (tgt := 55) hx hb dX7_alter_39 (by decide) (fun c39 => ?_) (fun c39 => ?_)
        · have hF := ifp hF c39
          exact J55 ls _ _ σj36 hF hfr hT hS (lv_sub hl [0, 1, 2, 3] rfl)
        · have hF := ifn hF c39
          refine lv_aload_n hx hb dX7_alter_42 rfl (lv_at hl 0 rfl) ?_
          refine r_iconst hx hb dX7_alter_43 (by decide) (by decide) (fun x43 e43 => ?_)
          have hF := bn hF e43
          refine lv_iload_n hx hb dX7_alter_44 rfl (lv_at hl 1 rfl) ?_
          refine r_imulL (4) (by omega) hx hb dX7_alter_45 (by omega) (by omega) (fun x45 e45 => ?_)
          have hF := bn hF e45
          refine lv_iload_n hx hb dX7_alter_46 rfl (lv_at hl 2 rfl) ?_
          refine r_iadd hx hb dX7_alter_47 (by omega) (by omega) (fun x47 e47 => ?_)
          have hF := bn hF e47
          refine lv_iload_n hx hb dX7_alter_48 rfl (lv_at hl 3 rfl) ?_
          obtain ⟨v49, s49, hd49, -⟩ := bd2_s hF
          refine cl_Vi (rest := []) hC hK hSK (c_X7_becomes l z σj36 h0 (o0) g0 x47 p3 (v49, s49) hd49 (by omega)) k_X7_becomes mw_5_61 ⟨rfl, rfl, Nat.le_of_ble_eq_true rfl, Nat.le_of_ble_eq_true rfl⟩ (rv_Model hK hT g0) hT rfl hl.1 rfl (Nat.le_of_ble_eq_true rfl) dX7_alter_49 ⟨Nat.zero_le _, Nat.zero_le _⟩ hS (fun _ h => h) (fun _ _ h => h) (fun r49 H locs hpo hS => ?_)
          obtain ⟨σ49, he49, hf49, hT⟩ := hpo
          have hF := bd2_r hF hd49 he49
          have hfr := FR_tr hf49 hfr
          refine lv_goto (tgt := 56) hx hb dX7_alter_52 (by decide) ?_
          exact rt_i hx hb hr hlk hS ⟨σ49, hF, hfr, hT⟩ dX7_alter_56
      refine r_if_ne (tgt := 33) hx hb dX7_alter_24 (by decide) (fun c24 => ?_) (fun c24 => ?_)
      · have hF := ifn hF c24
        refine r_ldc2 (9) rfl hx hb hts hown mw_5_60 dX7_alter_33 (fun x33 e33 => ?_)
        have hF := bn hF e33
        exact J36 ls _ _ x33 σ hF hfr hT hS (lv_sub hl [0, 1, 2, 3] rfl)
      · have hF := ifp hF c24
        refine r_ldc2 (3) rfl hx hb hts hown mw_5_59 dX7_alter_27 (fun x27 e27 => ?_)
        have hF := bn hF e27
        refine lv_goto (tgt := 36) hx hb dX7_alter_30 (by decide) ?_
        exact J36 ls _ _ x27 σ hF hfr hT hS (lv_sub hl [0, 1, 2, 3] rfl)
theorem k_X7_swap : cBV yX7_swap cX7_swap 3 (some .int) 2 := ⟨mw_5_66, mw_5_67, mw_1_8, mw_5_68, ⟨by decide, by decide, by decide⟩⟩
set_option maxHeartbeats 4000000 in
set_option maxRecDepth 100000 in
theorem c_X7_swap (l : Launch) (z : Zt) (σ : Sg) (h0 o0 : Nat) (g0 : zG z h0 = (17, o0)) (p1 : Int32) (p2 : Int32) (out : (Int × Lo)) (hF : D_X7_swap (σ o0) p1.toInt p2.toInt = some out) : Met l yX7_swap (uw yX7_swap cX7_swap 3 (some .int)) (rmF 3 110) (PcW z [.ref h0, .int p1, .int p2] (fun H => TY z (zA z) σ H)) (QcI z (fun r H => ∃ σ' : Sg, some (r.toInt, σ' o0) = some out ∧ FR σ σ' o0 ∧ TY z (zA z) σ' H)) 0 0 (zA z) := by
  refine Met.ofW (cc := cX7_swap) (maxL := 3) (ret := (some .int)) (by decide) rfl ?_
  intro p e s m args below meth c s₁ B hml hv
  obtain ⟨rfl, hT, hK, hSK⟩ := hv
  have hx := B.exec
  have hb := B.bytes
  have hr := B.returns
  have hts : ∀ w ∈ lw_ok, w.before ([.ref h0, .int p1, .int p2] : List Value).toArray s = true := fun w hw => atoms_spec (ws := uw yX7_swap cX7_swap 3 (some .int)) B.pre w (List.mem_cons_of_mem _ hw)
  have hown : s.vm.findClass RX7 = some m.cls := findClass_of_methodNamed B.named
  have hlk := B.notSynchronized
  have hC : CallFix p m c cX7_swap 3 s ([.ref h0, .int p1, .int p2] : List Value).toArray lw_ok RX7 := ⟨hx, hb, hml, hown, hts⟩
  have hS : va_S (zA z) s.heap s.heap [] := va_S.rf
  have hl := lv_entry ([.ref h0, .int p1, .int p2]) (n := 3) (Nat.le_of_ble_eq_true rfl)
  rw [lg_entry_eq]
  generalize (lg_sl ([.ref h0, .int p1, .int p2]) ++ List.replicate (3 - (lg_sl ([.ref h0, .int p1, .int p2])).length) Slot.unset).toArray = ls at hl ⊢
  have hl : lv_has ls 3 [(0, .ref h0), (1, .int p1), (2, .int p2)] := hl
  show W p l e (rmF 3 110) s m ([.ref h0, .int p1, .int p2] : List Value).toArray below meth c s.heap [] 0 0 (MQ below (QcI z (fun r H => ∃ σ' : Sg, some (r.toInt, σ' o0) = some out ∧ FR σ σ' o0 ∧ TY z (zA z) σ' H)) ([.ref h0, .int p1, .int p2] : List Value).toArray s 0 0 (zA z)) (F0 m 0 ls [])
  have hfr : FR σ σ o0 := FR_rf σ o0
  unfold D_X7_swap at hF
  have mx_p1 := i_mx p1
  have mx_p2 := i_mx p2
  refine lv_aload_n hx hb dX7_swap_0 rfl (lv_at hl 0 rfl) ?_
  refine lv_iload_n hx hb dX7_swap_1 rfl (lv_at hl 1 rfl) ?_
  obtain ⟨v2, hd2, -⟩ := bd0_s hF
  refine cl_Vi (rest := []) hC hK hSK (c_X7_isOne l z σ h0 (o0) g0 p1 v2 hd2) k_X7_isOne mw_5_11 ⟨rfl, rfl, Nat.le_of_ble_eq_true rfl, Nat.le_of_ble_eq_true rfl⟩ (rv_Model hK hT g0) hT rfl hl.1 rfl (Nat.le_of_ble_eq_true rfl) dX7_swap_2 ⟨Nat.zero_le _, Nat.zero_le _⟩ hS (fun _ h => h) (fun _ _ h => h) (fun r2 H locs hpo hS => ?_)
  obtain ⟨he2, hT, u2_0, u2_1⟩ := hpo
  have hF := bd0_r hF hd2 he2
  refine r_if_eq (tgt := 21) hx hb dX7_swap_5 (by decide) (fun c5 => ?_) (fun c5 => ?_)
  · have hF := ifp hF c5
    refine r_iconst hx hb dX7_swap_21 (by decide) (by decide) (fun x21 e21 => ?_)
    have hF := bn hF e21
    exact rt_i hx hb hr hlk hS ⟨σ, hF, hfr, hT⟩ dX7_swap_22
  · have hF := ifn hF c5
    refine lv_aload_n hx hb dX7_swap_8 rfl (lv_at hl 0 rfl) ?_
    refine lv_iload_n hx hb dX7_swap_9 rfl (lv_at hl 2 rfl) ?_
    obtain ⟨v10, hd10, -⟩ := bd0_s hF
    refine cl_Vi (rest := []) hC hK hSK (c_X7_isOne l z σ h0 (o0) g0 p2 v10 hd10) k_X7_isOne mw_5_11 ⟨rfl, rfl, Nat.le_of_ble_eq_true rfl, Nat.le_of_ble_eq_true rfl⟩ (rv_Model hK hT g0) hT rfl hl.1 rfl (Nat.le_of_ble_eq_true rfl) dX7_swap_10 ⟨Nat.zero_le _, Nat.zero_le _⟩ hS (fun _ h => h) (fun _ _ h => h) (fun r10 H locs hpo hS => ?_)
    obtain ⟨he10, hT, u10_0, u10_1⟩ := hpo
    have hF := bd0_r hF hd10 he10
    refine r_if_eq (tgt := 21) hx hb dX7_swap_13 (by decide) (fun c13 => ?_) (fun c13 => ?_)
    · have hF := ifp hF c13
      refine r_iconst hx hb dX7_swap_21 (by decide) (by decide) (fun x21 e21 => ?_)
      have hF := bn hF e21
      exact rt_i hx hb hr hlk hS ⟨σ, hF, hfr, hT⟩ dX7_swap_22
    · have hF := ifn hF c13
      refine lv_iload_n hx hb dX7_swap_16 rfl (lv_at hl 1 rfl) ?_
      refine lv_iload_n hx hb dX7_swap_17 rfl (lv_at hl 2 rfl) ?_
      refine r_icmp_ne (tgt := 23) hx hb dX7_swap_18 (by decide) (fun c18 => ?_) (fun c18 => ?_)
      · have hF := ifn hF c18
        refine lv_aload_n hx hb dX7_swap_23 rfl (lv_at hl 0 rfl) ?_
        refine gt_Model_st hx hb hts ic_Model hown hK hT g0 (hts _ mw_4_70) dX7_swap_24 (fun q24 hq24 => ?_)
        refine r_bipush hx hb dX7_swap_27 rfl (fun x27 e27 => ?_)
        have hF := bn hF e27
        refine lv_iload_n hx hb dX7_swap_29 rfl (lv_at hl 2 rfl) ?_
        refine r_iadd hx hb dX7_swap_30 (by omega) (by omega) (fun x30 e30 => ?_)
        have hF := bn hF e30
        refine lv_aload_n hx hb dX7_swap_31 rfl (lv_at hl 0 rfl) ?_
        refine r_bipush hx hb dX7_swap_32 rfl (fun x32 e32 => ?_)
        have hF := bn hF e32
        refine lv_iload_n hx hb dX7_swap_34 rfl (lv_at hl 1 rfl) ?_
        refine r_iadd hx hb dX7_swap_35 (by omega) (by omega) (fun x35 e35 => ?_)
        have hF := bn hF e35
        refine lv_aload_n hx hb dX7_swap_36 rfl (lv_at hl 0 rfl) ?_
        refine gt_Model_st hx hb hts ic_Model hown hK hT g0 (hts _ mw_4_70) dX7_swap_37 (fun q37 hq37 => ?_)
        refine r_bipush hx hb dX7_swap_40 rfl (fun x40 e40 => ?_)
        have hF := bn hF e40
        refine lv_iload_n hx hb dX7_swap_42 rfl (lv_at hl 2 rfl) ?_
        refine r_iadd hx hb dX7_swap_43 (by omega) (by omega) (fun x43 e43 => ?_)
        have hF := bn hF e43
        refine al_40 hx hb hK hT hq37 (by omega) (by omega) dX7_swap_44 (fun x44 e44 g44 => ?_)
        have hF := bn hF e44
        have f44 := gd59_20 (gd177_e g44 (by omega)) (by omega) (by omega)
        obtain ⟨v45, s45, hd45, -⟩ := bd2_s hF
        refine cl_Vi (rest := [.int x30, .ref q24]) hC hK hSK (c_X7_becomes l z σ h0 (o0) g0 x35 x44 (v45, s45) hd45 (by omega)) k_X7_becomes mw_5_61 ⟨rfl, rfl, Nat.le_of_ble_eq_true rfl, Nat.le_of_ble_eq_true rfl⟩ (rv_Model hK hT g0) hT rfl hl.1 rfl (Nat.le_of_ble_eq_true rfl) dX7_swap_45 ⟨Nat.zero_le _, Nat.zero_le _⟩ hS (fun _ h => h) (fun _ _ h => h) (fun r45 H locs hpo hS => ?_)
        obtain ⟨σ45, he45, hf45, hT⟩ := hpo
        have hF := bd2_r hF hd45 he45
        have hfr := FR_tr hf45 hfr
        obtain ⟨kv48, hF⟩ := ckd hF
        refine as_40 hx hb hK hT hS hq24 (by omega) (by omega) kv48 dX7_swap_48 (fun H locs hT hS => ?_)
        obtain ⟨σ48, hF, hfr, hT⟩ := wrL hF hfr hT
        refine lv_aload_n hx hb dX7_swap_49 rfl (lv_at hl 0 rfl) ?_
        refine gt_Model_st hx hb hts ic_Model hown hK hT g0 (hts _ mw_4_70) dX7_swap_50 (fun q50 hq50 => ?_)
        refine r_bipush hx hb dX7_swap_53 rfl (fun x53 e53 => ?_)
        have hF := bn hF e53
        refine lv_iload_n hx hb dX7_swap_55 rfl (lv_at hl 1 rfl) ?_
        refine r_iadd hx hb dX7_swap_56 (by omega) (by omega) (fun x56 e56 => ?_)
        have hF := bn hF e56
        refine al_40 hx hb hK hT hq50 (by omega) (by omega) dX7_swap_57 (fun x57 e57 g57 => ?_)
        have hF := bn hF e57
        have f57 := gd59_20 (gd177_e g57 (by omega)) (by omega) (by omega)
        exact rt_i hx hb hr hlk hS ⟨σ48, hF, hfr, hT⟩ dX7_swap_58
      · have hF := ifp hF c18
        refine r_iconst hx hb dX7_swap_21 (by decide) (by decide) (fun x21 e21 => ?_)
        have hF := bn hF e21
        exact rt_i hx hb hr hlk hS ⟨σ, hF, hfr, hT⟩ dX7_swap_22
theorem k_X7_plan : cBV yX7_plan cX7_plan 2 (some .int) 1 := ⟨mw_5_74, mw_5_75, mw_1_8, mw_5_76, ⟨by decide, by decide, by decide⟩⟩
set_option maxHeartbeats 4000000 in
set_option maxRecDepth 100000 in
theorem c_X7_plan (l : Launch) (z : Zt) (σ : Sg) (h0 o0 : Nat) (g0 : zG z h0 = (17, o0)) (p1 : Int32) (out : (Int × Lo)) (hF : D_X7_plan (σ o0) p1.toInt = some out) : Met l yX7_plan (uw yX7_plan cX7_plan 2 (some .int)) (rmF 3 109) (PcW z [.ref h0, .int p1] (fun H => TY z (zA z) σ H)) (QcI z (fun r H => ∃ σ' : Sg, some (r.toInt, σ' o0) = some out ∧ FR σ σ' o0 ∧ TY z (zA z) σ' H)) 0 0 (zA z) := by
  refine Met.ofW (cc := cX7_plan) (maxL := 2) (ret := (some .int)) (by decide) rfl ?_
  intro p e s m args below meth c s₁ B hml hv
  obtain ⟨rfl, hT, hK, hSK⟩ := hv
  have hx := B.exec
  have hb := B.bytes
  have hr := B.returns
  have hts : ∀ w ∈ lw_ok, w.before ([.ref h0, .int p1] : List Value).toArray s = true := fun w hw => atoms_spec (ws := uw yX7_plan cX7_plan 2 (some .int)) B.pre w (List.mem_cons_of_mem _ hw)
  have hown : s.vm.findClass RX7 = some m.cls := findClass_of_methodNamed B.named
  have hlk := B.notSynchronized
  have hC : CallFix p m c cX7_plan 2 s ([.ref h0, .int p1] : List Value).toArray lw_ok RX7 := ⟨hx, hb, hml, hown, hts⟩
  have hS : va_S (zA z) s.heap s.heap [] := va_S.rf
  have hl := lv_entry ([.ref h0, .int p1]) (n := 2) (Nat.le_of_ble_eq_true rfl)
  rw [lg_entry_eq]
  generalize (lg_sl ([.ref h0, .int p1]) ++ List.replicate (2 - (lg_sl ([.ref h0, .int p1])).length) Slot.unset).toArray = ls at hl ⊢
  have hl : lv_has ls 2 [(0, .ref h0), (1, .int p1)] := hl
  show W p l e (rmF 3 109) s m ([.ref h0, .int p1] : List Value).toArray below meth c s.heap [] 0 0 (MQ below (QcI z (fun r H => ∃ σ' : Sg, some (r.toInt, σ' o0) = some out ∧ FR σ σ' o0 ∧ TY z (zA z) σ' H)) ([.ref h0, .int p1] : List Value).toArray s 0 0 (zA z)) (F0 m 0 ls [])
  have hfr : FR σ σ o0 := FR_rf σ o0
  unfold D_X7_plan at hF
  have mx_p1 := i_mx p1
  refine lv_iload_n hx hb dX7_plan_0 rfl (lv_at hl 1 rfl) ?_
  obtain ⟨v1, hd1, -⟩ := bd0_s hF
  refine cl_Si (rest := []) hC hK hSK (c_X7_isFigure l z σ p1 v1 hd1) k_X7_isFigure mw_5_77 ⟨rfl, rfl, Nat.le_of_ble_eq_true rfl, Nat.le_of_ble_eq_true rfl⟩ hT rfl hl.1 rfl (Nat.le_of_ble_eq_true rfl) dX7_plan_1 ⟨Nat.zero_le _, Nat.zero_le _⟩ hS (fun _ h => h) (fun _ _ h => h) (fun r1 H locs hpo hS => ?_)
  obtain ⟨he1, hT, u1_0, u1_1⟩ := hpo
  have hF := bd0_r hF hd1 he1
  refine r_if_ne (tgt := 9) hx hb dX7_plan_4 (by decide) (fun c4 => ?_) (fun c4 => ?_)
  · have hF := ifn hF c4
    refine lv_aload_n hx hb dX7_plan_9 rfl (lv_at hl 0 rfl) ?_
    refine gt_Model_st hx hb hts ic_Model hown hK hT g0 (hts _ mw_4_70) dX7_plan_10 (fun q10 hq10 => ?_)
    refine r_bipush hx hb dX7_plan_13 rfl (fun x13 e13 => ?_)
    have hF := bn hF e13
    refine al_40 hx hb hK hT hq10 (by omega) (by omega) dX7_plan_15 (fun x15 e15 g15 => ?_)
    have hF := bn hF e15
    have f15 := gd59_31 (gd177_e g15 (by omega)) (by omega)
    refine r_bipush hx hb dX7_plan_16 rfl (fun x16 e16 => ?_)
    have hF := bn hF e16
    refine r_icmp_ne (tgt := 24) hx hb dX7_plan_18 (by decide) (fun c18 => ?_) (fun c18 => ?_)
    · have hF := ifn hF c18
      refine lv_aload_n hx hb dX7_plan_24 rfl (lv_at hl 0 rfl) ?_
      refine gt_Model_st hx hb hts ic_Model hown hK hT g0 (hts _ mw_4_70) dX7_plan_25 (fun q25 hq25 => ?_)
      refine r_bipush hx hb dX7_plan_28 rfl (fun x28 e28 => ?_)
      have hF := bn hF e28
      refine lv_aload_n hx hb dX7_plan_30 rfl (lv_at hl 0 rfl) ?_
      refine gt_Model_st hx hb hts ic_Model hown hK hT g0 (hts _ mw_4_70) dX7_plan_31 (fun q31 hq31 => ?_)
      refine r_bipush hx hb dX7_plan_34 rfl (fun x34 e34 => ?_)
      have hF := bn hF e34
      refine al_40 hx hb hK hT hq31 (by omega) (by omega) dX7_plan_36 (fun x36 e36 g36 => ?_)
      have hF := bn hF e36
      have f36 := gd59_31 (gd177_e g36 (by omega)) (by omega)
      refine r_iadd hx hb dX7_plan_37 (by omega) (by omega) (fun x37 e37 => ?_)
      have hF := bn hF e37
      refine lv_iload_n hx hb dX7_plan_38 rfl (lv_at hl 1 rfl) ?_
      obtain ⟨kv39, hF⟩ := ckd hF
      refine as_40 hx hb hK hT hS hq25 (by omega) (by omega) kv39 dX7_plan_39 (fun H locs hT hS => ?_)
      obtain ⟨σ39, hF, hfr, hT⟩ := wrL hF hfr hT
      refine lv_aload_n hx hb dX7_plan_40 rfl (lv_at hl 0 rfl) ?_
      refine gt_Model_st hx hb hts ic_Model hown hK hT g0 (hts _ mw_4_70) dX7_plan_41 (fun q41 hq41 => ?_)
      refine r_bipush hx hb dX7_plan_44 rfl (fun x44 e44 => ?_)
      have hF := bn hF e44
      refine lv_dup2_11 hx hb dX7_plan_46 rfl rfl ?_
      refine al_40 hx hb hK hT hq41 (by omega) (by omega) dX7_plan_47 (fun x47 e47 g47 => ?_)
      have hF := bn hF e47
      have f47 := gd59_31 (gd177_e g47 (by omega)) (by omega)
      refine r_iconst hx hb dX7_plan_48 (by decide) (by decide) (fun x48 e48 => ?_)
      have hF := bn hF e48
      refine r_iadd hx hb dX7_plan_49 (by omega) (by omega) (fun x49 e49 => ?_)
      have hF := bn hF e49
      obtain ⟨kv50, hF⟩ := ckd hF
      refine as_40 hx hb hK hT hS hq41 (by omega) (by omega) kv50 dX7_plan_50 (fun H locs hT hS => ?_)
      obtain ⟨σ50, hF, hfr, hT⟩ := wrL hF hfr hT
      refine lv_aload_n hx hb dX7_plan_51 rfl (lv_at hl 0 rfl) ?_
      refine gt_Model_st hx hb hts ic_Model hown hK hT g0 (hts _ mw_4_70) dX7_plan_52 (fun q52 hq52 => ?_)
      refine r_bipush hx hb dX7_plan_55 rfl (fun x55 e55 => ?_)
      have hF := bn hF e55
      refine al_40 hx hb hK hT hq52 (by omega) (by omega) dX7_plan_57 (fun x57 e57 g57 => ?_)
      have hF := bn hF e57
      have f57 := gd59_31 (gd177_e g57 (by omega)) (by omega)
      exact rt_i hx hb hr hlk hS ⟨σ50, hF, hfr, hT⟩ dX7_plan_58
    · have hF := ifp hF c18
      refine r_bipush hx hb dX7_plan_21 rfl (fun x21 e21 => ?_)
      have hF := bn hF e21
      exact rt_i hx hb hr hlk hS ⟨σ, hF, hfr, hT⟩ dX7_plan_23
  · have hF := ifp hF c4
    refine r_iconst hx hb dX7_plan_7 (by decide) (by decide) (fun x7 e7 => ?_)
    have hF := bn hF e7
    exact rt_i hx hb hr hlk hS ⟨σ, hF, hfr, hT⟩ dX7_plan_8
theorem k_X7_cut : cBV yX7_cut cX7_cut 2 (some .int) 1 := ⟨mw_5_81, mw_5_82, mw_1_8, mw_5_83, ⟨by decide, by decide, by decide⟩⟩
set_option maxHeartbeats 4000000 in
set_option maxRecDepth 100000 in
theorem c_X7_cut (l : Launch) (z : Zt) (σ : Sg) (h0 o0 : Nat) (g0 : zG z h0 = (17, o0)) (p1 : Int32) (out : (Int × Lo)) (hF : D_X7_cut (σ o0) p1.toInt = some out) : Met l yX7_cut (uw yX7_cut cX7_cut 2 (some .int)) (rmF 2 89) (PcW z [.ref h0, .int p1] (fun H => TY z (zA z) σ H)) (QcI z (fun r H => ∃ σ' : Sg, some (r.toInt, σ' o0) = some out ∧ FR σ σ' o0 ∧ TY z (zA z) σ' H)) 0 0 (zA z) := by
  refine Met.ofW (cc := cX7_cut) (maxL := 2) (ret := (some .int)) (by decide) rfl ?_
  intro p e s m args below meth c s₁ B hml hv
  obtain ⟨rfl, hT, hK, hSK⟩ := hv
  have hx := B.exec
  have hb := B.bytes
  have hr := B.returns
  have hts : ∀ w ∈ lw_ok, w.before ([.ref h0, .int p1] : List Value).toArray s = true := fun w hw => atoms_spec (ws := uw yX7_cut cX7_cut 2 (some .int)) B.pre w (List.mem_cons_of_mem _ hw)
  have hown : s.vm.findClass RX7 = some m.cls := findClass_of_methodNamed B.named
  have hlk := B.notSynchronized
  have hC : CallFix p m c cX7_cut 2 s ([.ref h0, .int p1] : List Value).toArray lw_ok RX7 := ⟨hx, hb, hml, hown, hts⟩
  have hS : va_S (zA z) s.heap s.heap [] := va_S.rf
  have hl := lv_entry ([.ref h0, .int p1]) (n := 2) (Nat.le_of_ble_eq_true rfl)
  rw [lg_entry_eq]
  generalize (lg_sl ([.ref h0, .int p1]) ++ List.replicate (2 - (lg_sl ([.ref h0, .int p1])).length) Slot.unset).toArray = ls at hl ⊢
  have hl : lv_has ls 2 [(0, .ref h0), (1, .int p1)] := hl
  show W p l e (rmF 2 89) s m ([.ref h0, .int p1] : List Value).toArray below meth c s.heap [] 0 0 (MQ below (QcI z (fun r H => ∃ σ' : Sg, some (r.toInt, σ' o0) = some out ∧ FR σ σ' o0 ∧ TY z (zA z) σ' H)) ([.ref h0, .int p1] : List Value).toArray s 0 0 (zA z)) (F0 m 0 ls [])
  have hfr : FR σ σ o0 := FR_rf σ o0
  unfold D_X7_cut at hF
  have mx_p1 := i_mx p1
  refine lv_iload_n hx hb dX7_cut_0 rfl (lv_at hl 1 rfl) ?_
  refine r_i2l hx hb dX7_cut_1 (fun x1 e1 => ?_)
  have hF := bn hF e1
  refine r_lconst0 hx hb dX7_cut_2 (fun x2 e2 => ?_)
  have hF := bn hF e2
  refine lv_aload_n hx hb dX7_cut_3 rfl (lv_at hl 0 rfl) ?_
  refine gt_Model_st hx hb hts ic_Model hown hK hT g0 (hts _ mw_4_70) dX7_cut_4 (fun q4 hq4 => ?_)
  refine r_bipush hx hb dX7_cut_7 rfl (fun x7 e7 => ?_)
  have hF := bn hF e7
  refine al_40 hx hb hK hT hq4 (by omega) (by omega) dX7_cut_9 (fun x9 e9 g9 => ?_)
  have hF := bn hF e9
  have f9 := gd59_31 (gd177_e g9 (by omega)) (by omega)
  refine r_i2l hx hb dX7_cut_10 (fun x10 e10 => ?_)
  have hF := bn hF e10
  obtain ⟨v11, hd11, -⟩ := bd0_s hF
  refine cl_Si (rest := []) hC hK hSK (c_X7_in l z σ x1 x2 x10 v11 hd11) k_X7_in mw_4_154 ⟨rfl, rfl, Nat.le_of_ble_eq_true rfl, Nat.le_of_ble_eq_true rfl⟩ hT rfl hl.1 rfl (Nat.le_of_ble_eq_true rfl) dX7_cut_11 ⟨Nat.zero_le _, Nat.zero_le _⟩ hS (fun _ h => h) (fun _ _ h => h) (fun r11 H locs hpo hS => ?_)
  obtain ⟨he11, hT, u11_0, u11_1⟩ := hpo
  have hF := bd0_r hF hd11 he11
  refine r_if_eq (tgt := 27) hx hb dX7_cut_14 (by decide) (fun c14 => ?_) (fun c14 => ?_)
  · have hF := ifp hF c14
    refine r_iconst hx hb dX7_cut_27 (by decide) (by decide) (fun x27 e27 => ?_)
    have hF := bn hF e27
    exact rt_i hx hb hr hlk hS ⟨σ, hF, hfr, hT⟩ dX7_cut_28
  · have hF := ifn hF c14
    refine lv_aload_n hx hb dX7_cut_17 rfl (lv_at hl 0 rfl) ?_
    refine r_bipush hx hb dX7_cut_18 rfl (fun x18 e18 => ?_)
    have hF := bn hF e18
    refine lv_iload_n hx hb dX7_cut_20 rfl (lv_at hl 1 rfl) ?_
    obtain ⟨v21, s21, hd21, -⟩ := bd2_s hF
    refine cl_Vi (rest := []) hC hK hSK (c_X7_becomes l z σ h0 (o0) g0 x18 p1 (v21, s21) hd21 (by omega)) k_X7_becomes mw_5_61 ⟨rfl, rfl, Nat.le_of_ble_eq_true rfl, Nat.le_of_ble_eq_true rfl⟩ (rv_Model hK hT g0) hT rfl hl.1 rfl (Nat.le_of_ble_eq_true rfl) dX7_cut_21 ⟨Nat.zero_le _, Nat.zero_le _⟩ hS (fun _ h => h) (fun _ _ h => h) (fun r21 H locs hpo hS => ?_)
    obtain ⟨σ21, he21, hf21, hT⟩ := hpo
    have hF := bd2_r hF hd21 he21
    have hfr := FR_tr hf21 hfr
    refine lv_goto (tgt := 28) hx hb dX7_cut_24 (by decide) ?_
    exact rt_i hx hb hr hlk hS ⟨σ21, hF, hfr, hT⟩ dX7_cut_28
theorem k_X7_dance : cBV yX7_dance cX7_dance 2 (some .int) 1 := ⟨mw_5_85, mw_5_86, mw_1_8, mw_5_87, ⟨by decide, by decide, by decide⟩⟩
set_option maxHeartbeats 4000000 in
set_option maxRecDepth 100000 in
theorem c_X7_dance (l : Launch) (z : Zt) (σ : Sg) (h0 o0 : Nat) (g0 : zG z h0 = (17, o0)) (p1 : Int32) (out : (Int × Lo)) (hF : D_X7_dance (σ o0) p1.toInt = some out) : Met l yX7_dance (uw yX7_dance cX7_dance 2 (some .int)) (rmF 8 222) (PcW z [.ref h0, .int p1] (fun H => TY z (zA z) σ H)) (QcI z (fun r H => ∃ σ' : Sg, some (r.toInt, σ' o0) = some out ∧ FR σ σ' o0 ∧ TY z (zA z) σ' H)) 0 0 (zA z) := by
  refine Met.ofW (cc := cX7_dance) (maxL := 2) (ret := (some .int)) (by decide) rfl ?_
  intro p e s m args below meth c s₁ B hml hv
  obtain ⟨rfl, hT, hK, hSK⟩ := hv
  have hx := B.exec
  have hb := B.bytes
  have hr := B.returns
  have hts : ∀ w ∈ lw_ok, w.before ([.ref h0, .int p1] : List Value).toArray s = true := fun w hw => atoms_spec (ws := uw yX7_dance cX7_dance 2 (some .int)) B.pre w (List.mem_cons_of_mem _ hw)
  have hown : s.vm.findClass RX7 = some m.cls := findClass_of_methodNamed B.named
  have hlk := B.notSynchronized
  have hC : CallFix p m c cX7_dance 2 s ([.ref h0, .int p1] : List Value).toArray lw_ok RX7 := ⟨hx, hb, hml, hown, hts⟩
  have hS : va_S (zA z) s.heap s.heap [] := va_S.rf
  have hl := lv_entry ([.ref h0, .int p1]) (n := 2) (Nat.le_of_ble_eq_true rfl)
  rw [lg_entry_eq]
  generalize (lg_sl ([.ref h0, .int p1]) ++ List.replicate (2 - (lg_sl ([.ref h0, .int p1])).length) Slot.unset).toArray = ls at hl ⊢
  have hl : lv_has ls 2 [(0, .ref h0), (1, .int p1)] := hl
  show W p l e (rmF 8 222) s m ([.ref h0, .int p1] : List Value).toArray below meth c s.heap [] 0 0 (MQ below (QcI z (fun r H => ∃ σ' : Sg, some (r.toInt, σ' o0) = some out ∧ FR σ σ' o0 ∧ TY z (zA z) σ' H)) ([.ref h0, .int p1] : List Value).toArray s 0 0 (zA z)) (F0 m 0 ls [])
  have hfr : FR σ σ o0 := FR_rf σ o0
  unfold D_X7_dance at hF
  have mx_p1 := i_mx p1
  refine lv_iload_n hx hb dX7_dance_0 rfl (lv_at hl 1 rfl) ?_
  obtain ⟨v1, hd1, -⟩ := bd0_s hF
  refine cl_Si (rest := []) hC hK hSK (c_X7_isFigure l z σ p1 v1 hd1) k_X7_isFigure mw_5_77 ⟨rfl, rfl, Nat.le_of_ble_eq_true rfl, Nat.le_of_ble_eq_true rfl⟩ hT rfl hl.1 rfl (Nat.le_of_ble_eq_true rfl) dX7_dance_1 ⟨Nat.zero_le _, Nat.zero_le _⟩ hS (fun _ h => h) (fun _ _ h => h) (fun r1 H locs hpo hS => ?_)
  obtain ⟨he1, hT, u1_0, u1_1⟩ := hpo
  have hF := bd0_r hF hd1 he1
  refine r_if_ne (tgt := 9) hx hb dX7_dance_4 (by decide) (fun c4 => ?_) (fun c4 => ?_)
  · have hF := ifn hF c4
    refine lv_aload_n hx hb dX7_dance_9 rfl (lv_at hl 0 rfl) ?_
    refine gt_Model_men hx hb hts ic_Model hown hK hT g0 (hts _ mw_4_73) dX7_dance_10 (fun x10 e10 f10 g10 => ?_)
    have hF := bn hF e10
    refine r_if_ne (tgt := 19) hx hb dX7_dance_13 (by decide) (fun c13 => ?_) (fun c13 => ?_)
    · have hF := ifn hF c13
      refine lv_aload_n hx hb dX7_dance_19 rfl (lv_at hl 0 rfl) ?_
      obtain ⟨s20, hd20, -⟩ := bd1_s hF
      refine cl_Vv (rest := []) hC hK hSK (c_X7_starts l z σ h0 (o0) g0 s20 hd20) k_X7_starts mw_4_229 ⟨rfl, rfl, Nat.le_of_ble_eq_true rfl, Nat.le_of_ble_eq_true rfl⟩ (rv_Model hK hT g0) hT rfl hl.1 rfl (Nat.le_of_ble_eq_true rfl) dX7_dance_20 ⟨Nat.zero_le _, Nat.zero_le _⟩ hS (fun _ h => h) (fun _ _ h => h) (fun H locs hpo hS => ?_)
      obtain ⟨σ20, he20, hf20, hT⟩ := hpo
      have hF := bd1_r hF hd20 he20
      have hfr := FR_tr hf20 hfr
      refine lv_aload_n hx hb dX7_dance_23 rfl (lv_at hl 0 rfl) ?_
      refine lv_iload_n hx hb dX7_dance_24 rfl (lv_at hl 1 rfl) ?_
      obtain ⟨s25, hd25, -⟩ := bd1_s hF
      refine cl_Vv (rest := []) hC hK hSK (c_X7_danceOn l z σ20 h0 (o0) g0 p1 s25 hd25) k_X7_danceOn mw_5_88 ⟨rfl, rfl, Nat.le_of_ble_eq_true rfl, Nat.le_of_ble_eq_true rfl⟩ (rv_Model hK hT g0) hT rfl hl.1 rfl (Nat.le_of_ble_eq_true rfl) dX7_dance_25 ⟨Nat.zero_le _, Nat.zero_le _⟩ hS (fun _ h => h) (fun _ _ h => h) (fun H locs hpo hS => ?_)
      obtain ⟨σ25, he25, hf25, hT⟩ := hpo
      have hF := bd1_r hF hd25 he25
      have hfr := FR_tr hf25 hfr
      refine lv_aload_n hx hb dX7_dance_28 rfl (lv_at hl 0 rfl) ?_
      obtain ⟨s29, hd29, -⟩ := bd1_s hF
      refine cl_Vv (rest := []) hC hK hSK (c_X7_settles l z σ25 h0 (o0) g0 s29 hd29) k_X7_settles mw_5_104 ⟨rfl, rfl, Nat.le_of_ble_eq_true rfl, Nat.le_of_ble_eq_true rfl⟩ (rv_Model hK hT g0) hT rfl hl.1 rfl (Nat.le_of_ble_eq_true rfl) dX7_dance_29 ⟨Nat.zero_le _, Nat.zero_le _⟩ hS (fun _ h => h) (fun _ _ h => h) (fun H locs hpo hS => ?_)
      obtain ⟨σ29, he29, hf29, hT⟩ := hpo
      have hF := bd1_r hF hd29 he29
      have hfr := FR_tr hf29 hfr
      refine lv_aload_n hx hb dX7_dance_32 rfl (lv_at hl 0 rfl) ?_
      obtain ⟨v33, hd33, -⟩ := bd0_s hF
      refine cl_Vi (rest := []) hC hK hSK (c_X7_round l z σ29 h0 (o0) g0 v33 hd33) k_X7_round mw_5_0 ⟨rfl, rfl, Nat.le_of_ble_eq_true rfl, Nat.le_of_ble_eq_true rfl⟩ (rv_Model hK hT g0) hT rfl hl.1 rfl (Nat.le_of_ble_eq_true rfl) dX7_dance_33 ⟨Nat.zero_le _, Nat.zero_le _⟩ hS (fun _ h => h) (fun _ _ h => h) (fun r33 H locs hpo hS => ?_)
      obtain ⟨he33, hT⟩ := hpo
      have hF := bd0_r hF hd33 he33
      obtain ⟨v36, hd36, -⟩ := bd0_s hF
      refine cl_Si (rest := []) hC hK hSK (c_X7_bitsOf l z σ29 r33 v36 hd36) k_X7_bitsOf mw_4_237 ⟨rfl, rfl, Nat.le_of_ble_eq_true rfl, Nat.le_of_ble_eq_true rfl⟩ hT rfl hl.1 rfl (Nat.le_of_ble_eq_true rfl) dX7_dance_36 ⟨Nat.zero_le _, Nat.zero_le _⟩ hS (fun _ h => h) (fun _ _ h => h) (fun r36 H locs hpo hS => ?_)
      obtain ⟨he36, hT⟩ := hpo
      have hF := bd0_r hF hd36 he36
      exact rt_i hx hb hr hlk hS ⟨σ29, hF, hfr, hT⟩ dX7_dance_39
    · have hF := ifp hF c13
      refine r_bipush hx hb dX7_dance_16 rfl (fun x16 e16 => ?_)
      have hF := bn hF e16
      exact rt_i hx hb hr hlk hS ⟨σ, hF, hfr, hT⟩ dX7_dance_18
  · have hF := ifp hF c4
    refine r_iconst hx hb dX7_dance_7 (by decide) (by decide) (fun x7 e7 => ?_)
    have hF := bn hF e7
    exact rt_i hx hb hr hlk hS ⟨σ, hF, hfr, hT⟩ dX7_dance_8
theorem k_X7_runs : cBV yX7_runs cX7_runs 5 (some .int) 1 := ⟨mw_5_109, mw_5_110, mw_1_8, mw_5_111, ⟨by decide, by decide, by decide⟩⟩
set_option maxHeartbeats 4000000 in
set_option maxRecDepth 100000 in
theorem c_X7_runs (l : Launch) (z : Zt) (σ : Sg) (h0 o0 : Nat) (g0 : zG z h0 = (17, o0)) (p1 : Int32) (out : (Int × Lo)) (hF : D_X7_runs (σ o0) p1.toInt = some out) : Met l yX7_runs (uw yX7_runs cX7_runs 5 (some .int)) (rmF 8 222) (PcW z [.ref h0, .int p1] (fun H => TY z (zA z) σ H)) (QcI z (fun r H => ∃ σ' : Sg, some (r.toInt, σ' o0) = some out ∧ FR σ σ' o0 ∧ TY z (zA z) σ' H)) 0 0 (zA z) := by
  refine Met.ofW (cc := cX7_runs) (maxL := 5) (ret := (some .int)) (by decide) rfl ?_
  intro p e s m args below meth c s₁ B hml hv
  obtain ⟨rfl, hT, hK, hSK⟩ := hv
  have hx := B.exec
  have hb := B.bytes
  have hr := B.returns
  have hts : ∀ w ∈ lw_ok, w.before ([.ref h0, .int p1] : List Value).toArray s = true := fun w hw => atoms_spec (ws := uw yX7_runs cX7_runs 5 (some .int)) B.pre w (List.mem_cons_of_mem _ hw)
  have hown : s.vm.findClass RX7 = some m.cls := findClass_of_methodNamed B.named
  have hlk := B.notSynchronized
  have hC : CallFix p m c cX7_runs 5 s ([.ref h0, .int p1] : List Value).toArray lw_ok RX7 := ⟨hx, hb, hml, hown, hts⟩
  have hS : va_S (zA z) s.heap s.heap [] := va_S.rf
  have hl := lv_entry ([.ref h0, .int p1]) (n := 5) (Nat.le_of_ble_eq_true rfl)
  rw [lg_entry_eq]
  generalize (lg_sl ([.ref h0, .int p1]) ++ List.replicate (5 - (lg_sl ([.ref h0, .int p1])).length) Slot.unset).toArray = ls at hl ⊢
  have hl : lv_has ls 5 [(0, .ref h0), (1, .int p1)] := hl
  show W p l e (rmF 8 222) s m ([.ref h0, .int p1] : List Value).toArray below meth c s.heap [] 0 0 (MQ below (QcI z (fun r H => ∃ σ' : Sg, some (r.toInt, σ' o0) = some out ∧ FR σ σ' o0 ∧ TY z (zA z) σ' H)) ([.ref h0, .int p1] : List Value).toArray s 0 0 (zA z)) (F0 m 0 ls [])
  have hfr : FR σ σ o0 := FR_rf σ o0
  unfold D_X7_runs at hF
  have mx_p1 := i_mx p1
  refine lv_iload_n hx hb dX7_runs_0 rfl (lv_at hl 1 rfl) ?_
  refine r_i2l hx hb dX7_runs_1 (fun x1 e1 => ?_)
  have hF := bn hF e1
  refine r_lconst0 hx hb dX7_runs_2 (fun x2 e2 => ?_)
  have hF := bn hF e2
  refine r_ldc2 (4) rfl hx hb hts hown mw_5_112 dX7_runs_3 (fun x3 e3 => ?_)
  have hF := bn hF e3
  obtain ⟨v6, hd6, -⟩ := bd0_s hF
  refine cl_Si (rest := []) hC hK hSK (c_X7_in l z σ x1 x2 x3 v6 hd6) k_X7_in mw_4_154 ⟨rfl, rfl, Nat.le_of_ble_eq_true rfl, Nat.le_of_ble_eq_true rfl⟩ hT rfl hl.1 rfl (Nat.le_of_ble_eq_true rfl) dX7_runs_6 ⟨Nat.zero_le _, Nat.zero_le _⟩ hS (fun _ h => h) (fun _ _ h => h) (fun r6 H locs hpo hS => ?_)
  obtain ⟨he6, hT, u6_0, u6_1⟩ := hpo
  have hF := bd0_r hF hd6 he6
  refine r_if_ne (tgt := 14) hx hb dX7_runs_9 (by decide) (fun c9 => ?_) (fun c9 => ?_)
  · have hF := ifn hF c9
    refine lv_aload_n hx hb dX7_runs_14 rfl (lv_at hl 0 rfl) ?_
    obtain ⟨s15, hd15, -⟩ := bd1_s hF
    refine cl_Vv (rest := []) hC hK hSK (c_X7_starts l z σ h0 (o0) g0 s15 hd15) k_X7_starts mw_4_229 ⟨rfl, rfl, Nat.le_of_ble_eq_true rfl, Nat.le_of_ble_eq_true rfl⟩ (rv_Model hK hT g0) hT rfl hl.1 rfl (Nat.le_of_ble_eq_true rfl) dX7_runs_15 ⟨Nat.zero_le _, Nat.zero_le _⟩ hS (fun _ h => h) (fun _ _ h => h) (fun H locs hpo hS => ?_)
    obtain ⟨σ15, he15, hf15, hT⟩ := hpo
    have hF := bd1_r hF hd15 he15
    have hfr := FR_tr hf15 hfr
    refine r_iconst hx hb dX7_runs_18 (by decide) (by decide) (fun x18 e18 => ?_)
    have hF := bn hF e18
    refine lv_istore_n (lv' := [(2, .int x18), (0, .ref h0), (1, .int p1)]) hx hb dX7_runs_19 rfl hl (by decide) rfl (fun ls hl => ?_)
    refine r_bipush hx hb dX7_runs_20 rfl (fun x20 e20 => ?_)
    have hF := bn hF e20
    refine lv_istore_n (lv' := [(3, .int x20), (2, .int x18), (0, .ref h0), (1, .int p1)]) hx hb dX7_runs_22 rfl hl (by decide) rfl (fun ls hl => ?_)
    refine r_iconst hx hb dX7_runs_23 (by decide) (by decide) (fun x23 e23 => ?_)
    have hF := bn hF e23
    refine lv_istore (lv' := [(4, .int x23), (3, .int x20), (2, .int x18), (0, .ref h0), (1, .int p1)]) hx hb dX7_runs_24 hl (by decide) rfl (fun ls hl => ?_)
    have J26 : ∀ (n26 : Nat) (ls : Array Slot) (H : Heap) (locs : List Loc) (y26_2 : Int32) (y26_3 : Int32) (y26_4 : Int32) (σj26 : Sg), (-4 ≤ y26_3.toInt ∧ y26_3.toInt ≤ 8) → (0 ≤ y26_4.toInt ∧ y26_4.toInt ≤ 8) → D_X7_runs_26 p1.toInt n26 (σj26 o0) y26_2.toInt y26_3.toInt y26_4.toInt = some out → FR σ σj26 o0 → TY z (zA z) σj26 H → va_S (zA z) s.heap H locs → lv_has ls 5 [(0, .ref h0), (1, .int p1), (2, .int y26_2), (3, .int y26_3), (4, .int y26_4)] → W p l e (rmF 8 222) s m ([.ref h0, .int p1] : List Value).toArray below meth c H locs 0 0 (MQ below (QcI z (fun r H => ∃ σ' : Sg, some (r.toInt, σ' o0) = some out ∧ FR σ σ' o0 ∧ TY z (zA z) σ' H)) ([.ref h0, .int p1] : List Value).toArray s 0 0 (zA z)) (F0 m 26 ls []) := by
      intro n26
      induction n26 with
      | zero => intro ls H locs y26_2 y26_3 y26_4 σj26 j26_y26_3 j26_y26_4 hF hfr hT hS hl; exact (no_s hF).elim
      | succ n26 ih26 =>
        intro ls H locs y26_2 y26_3 y26_4 σj26 j26_y26_3 j26_y26_4 hF hfr hT hS hl
        rw [D_X7_runs_26.eq_2] at hF
        refine lv_iload hx hb dX7_runs_26 (lv_at hl 4 rfl) ?_
        refine lv_aload_n hx hb dX7_runs_28 rfl (lv_at hl 0 rfl) ?_
        refine gt_Model_now hx hb hts ic_Model hown hK hT g0 (hts _ mw_4_71) dX7_runs_29 (fun q29 hq29 => ?_)
        refine r_bipush hx hb dX7_runs_32 rfl (fun x32 e32 => ?_)
        have hF := bn hF e32
        refine al_41 hx hb hK hT hq29 (by omega) (by omega) dX7_runs_34 (fun x34 e34 g34 => ?_)
        have hF := bn hF e34
        have f34 := gd59_31 g34 (by omega)
        refine r_icmp_ge (tgt := 87) hx hb dX7_runs_35 (by decide) (fun c35 => ?_) (fun c35 => ?_)
        · have hF := ifn hF (Int.not_lt.mpr c35)
          refine lv_iload_n hx hb dX7_runs_87 rfl (lv_at hl 1 rfl) ?_
          rcases (show p1.toInt = 0 ∨ p1.toInt = 1 ∨ p1.toInt = 2 ∨ p1.toInt = 3 ∨ (p1.toInt < 0 ∨ 3 < p1.toInt) by omega) with c88 | c88 | c88 | c88 | c88
          · have hF := ifp hF c88
            refine lv_tableIn (off := 32) (tgt := 120) hx hb dX7_runs_88 (by omega) (by omega) (by rw [c88]; rfl) (by decide) ?_
            refine lv_aload_n hx hb dX7_runs_120 rfl (lv_at hl 0 rfl) ?_
            obtain ⟨v121, hd121, -⟩ := bd0_s hF
            refine cl_Vi (rest := []) hC hK hSK (c_X7_round l z σj26 h0 (o0) g0 v121 hd121) k_X7_round mw_5_0 ⟨rfl, rfl, Nat.le_of_ble_eq_true rfl, Nat.le_of_ble_eq_true rfl⟩ (rv_Model hK hT g0) hT rfl hl.1 rfl (Nat.le_of_ble_eq_true rfl) dX7_runs_121 ⟨Nat.zero_le _, Nat.zero_le _⟩ hS (fun _ h => h) (fun _ _ h => h) (fun r121 H locs hpo hS => ?_)
            obtain ⟨he121, hT⟩ := hpo
            have hF := bd0_r hF hd121 he121
            obtain ⟨v124, hd124, -⟩ := bd0_s hF
            refine cl_Si (rest := []) hC hK hSK (c_X7_bitsOf l z σj26 r121 v124 hd124) k_X7_bitsOf mw_4_237 ⟨rfl, rfl, Nat.le_of_ble_eq_true rfl, Nat.le_of_ble_eq_true rfl⟩ hT rfl hl.1 rfl (Nat.le_of_ble_eq_true rfl) dX7_runs_124 ⟨Nat.zero_le _, Nat.zero_le _⟩ hS (fun _ h => h) (fun _ _ h => h) (fun r124 H locs hpo hS => ?_)
            obtain ⟨he124, hT⟩ := hpo
            have hF := bd0_r hF hd124 he124
            exact rt_i hx hb hr hlk hS ⟨σj26, hF, hfr, hT⟩ dX7_runs_127
          · have hF := ifn hF (by omega)
            have hF := ifp hF c88
            refine lv_tableIn (off := 40) (tgt := 128) hx hb dX7_runs_88 (by omega) (by omega) (by rw [c88]; rfl) (by decide) ?_
            refine lv_aload_n hx hb dX7_runs_128 rfl (lv_at hl 0 rfl) ?_
            obtain ⟨v129, hd129, -⟩ := bd0_s hF
            refine cl_Vi (rest := []) hC hK hSK (c_X7_round l z σj26 h0 (o0) g0 v129 hd129) k_X7_round mw_5_0 ⟨rfl, rfl, Nat.le_of_ble_eq_true rfl, Nat.le_of_ble_eq_true rfl⟩ (rv_Model hK hT g0) hT rfl hl.1 rfl (Nat.le_of_ble_eq_true rfl) dX7_runs_129 ⟨Nat.zero_le _, Nat.zero_le _⟩ hS (fun _ h => h) (fun _ _ h => h) (fun r129 H locs hpo hS => ?_)
            obtain ⟨he129, hT⟩ := hpo
            have hF := bd0_r hF hd129 he129
            exact rt_i hx hb hr hlk hS ⟨σj26, hF, hfr, hT⟩ dX7_runs_132
          · have hF := ifn hF (by omega)
            have hF := ifn hF (by omega)
            have hF := ifp hF c88
            refine lv_tableIn (off := 45) (tgt := 133) hx hb dX7_runs_88 (by omega) (by omega) (by rw [c88]; rfl) (by decide) ?_
            refine lv_iload_n hx hb dX7_runs_133 rfl (lv_at hl 2 rfl) ?_
            exact rt_i hx hb hr hlk hS ⟨σj26, hF, hfr, hT⟩ dX7_runs_134
          · have hF := ifn hF (by omega)
            have hF := ifn hF (by omega)
            have hF := ifn hF (by omega)
            have hF := ifp hF c88
            refine lv_tableIn (off := 47) (tgt := 135) hx hb dX7_runs_88 (by omega) (by omega) (by rw [c88]; rfl) (by decide) ?_
            refine lv_iload_n hx hb dX7_runs_135 rfl (lv_at hl 3 rfl) ?_
            exact rt_i hx hb hr hlk hS ⟨σj26, hF, hfr, hT⟩ dX7_runs_136
          · have hF := ifn hF (by omega)
            have hF := ifn hF (by omega)
            have hF := ifn hF (by omega)
            have hF := ifn hF (by omega)
            refine lv_tableOut (tgt := 137) hx hb dX7_runs_88 c88 (by decide) ?_
            refine lv_aload_n hx hb dX7_runs_137 rfl (lv_at hl 0 rfl) ?_
            refine r_iconst hx hb dX7_runs_138 (by decide) (by decide) (fun x138 e138 => ?_)
            have hF := bn hF e138
            obtain ⟨v139, hd139, -⟩ := bd0_s hF
            refine cl_Vi (rest := []) hC hK hSK (c_X7_allOf l z σj26 h0 (o0) g0 x138 v139 hd139 (by omega)) k_X7_allOf mw_5_117 ⟨rfl, rfl, Nat.le_of_ble_eq_true rfl, Nat.le_of_ble_eq_true rfl⟩ (rv_Model hK hT g0) hT rfl hl.1 rfl (Nat.le_of_ble_eq_true rfl) dX7_runs_139 ⟨Nat.zero_le _, Nat.zero_le _⟩ hS (fun _ h => h) (fun _ _ h => h) (fun r139 H locs hpo hS => ?_)
            obtain ⟨he139, hT⟩ := hpo
            have hF := bd0_r hF hd139 he139
            exact rt_i hx hb hr hlk hS ⟨σj26, hF, hfr, hT⟩ dX7_runs_142
        · have hF := ifp hF c35
          refine lv_aload_n hx hb dX7_runs_38 rfl (lv_at hl 0 rfl) ?_
          refine lv_aload_n hx hb dX7_runs_39 rfl (lv_at hl 0 rfl) ?_
          refine gt_Model_now hx hb hts ic_Model hown hK hT g0 (hts _ mw_4_71) dX7_runs_40 (fun q40 hq40 => ?_)
          refine r_bipush hx hb dX7_runs_43 rfl (fun x43 e43 => ?_)
          have hF := bn hF e43
          refine lv_iload hx hb dX7_runs_45 (lv_at hl 4 rfl) ?_
          refine r_iadd hx hb dX7_runs_47 (by omega) (by omega) (fun x47 e47 => ?_)
          have hF := bn hF e47
          refine al_41 hx hb hK hT hq40 (by omega) (by omega) dX7_runs_48 (fun x48 e48 g48 => ?_)
          have hF := bn hF e48
          obtain ⟨s49, hd49, -⟩ := bd1_s hF
          refine cl_Vv (rest := []) hC hK hSK (c_X7_danceOn l z σj26 h0 (o0) g0 x48 s49 hd49) k_X7_danceOn mw_5_88 ⟨rfl, rfl, Nat.le_of_ble_eq_true rfl, Nat.le_of_ble_eq_true rfl⟩ (rv_Model hK hT g0) hT rfl hl.1 rfl (Nat.le_of_ble_eq_true rfl) dX7_runs_49 ⟨Nat.zero_le _, Nat.zero_le _⟩ hS (fun _ h => h) (fun _ _ h => h) (fun H locs hpo hS => ?_)
          obtain ⟨σ49, he49, hf49, hT⟩ := hpo
          have hF := bd1_r hF hd49 he49
          have hfr := FR_tr hf49 hfr
          refine lv_aload_n hx hb dX7_runs_52 rfl (lv_at hl 0 rfl) ?_
          obtain ⟨v53, hd53, -⟩ := bd0_s hF
          refine cl_Vi (rest := []) hC hK hSK (c_X7_meetings l z σ49 h0 (o0) g0 v53 hd53) k_X7_meetings mw_5_113 ⟨rfl, rfl, Nat.le_of_ble_eq_true rfl, Nat.le_of_ble_eq_true rfl⟩ (rv_Model hK hT g0) hT rfl hl.1 rfl (Nat.le_of_ble_eq_true rfl) dX7_runs_53 ⟨Nat.zero_le _, Nat.zero_le _⟩ hS (fun _ h => h) (fun _ _ h => h) (fun r53 H locs hpo hS => ?_)
          obtain ⟨he53, hT⟩ := hpo
          have hF := bd0_r hF hd53 he53
          have J73 : ∀ (ls : Array Slot) (H : Heap) (locs : List Loc) (t73_0 : Int32) (σj73 : Sg), (-4 ≤ t73_0.toInt ∧ t73_0.toInt ≤ 8) → D_X7_runs_73 (D_X7_runs_26 p1.toInt n26) y26_2.toInt y26_4.toInt (σj73 o0) t73_0.toInt = some out → FR σ σj73 o0 → TY z (zA z) σj73 H → va_S (zA z) s.heap H locs → lv_has ls 5 [(0, .ref h0), (1, .int p1), (2, .int y26_2), (3, .int y26_3), (4, .int y26_4)] → W p l e (rmF 8 222) s m ([.ref h0, .int p1] : List Value).toArray below meth c H locs 0 0 (MQ below (QcI z (fun r H => ∃ σ' : Sg, some (r.toInt, σ' o0) = some out ∧ FR σ σ' o0 ∧ TY z (zA z) σ' H)) ([.ref h0, .int p1] : List Value).toArray s 0 0 (zA z)) (F0 m 73 ls [.int t73_0]) := by
            intro ls H locs t73_0 σj73 j73_t73_0 hF hfr hT hS hl
            unfold D_X7_runs_73 at hF
            refine lv_istore_n (lv' := [(3, .int t73_0), (0, .ref h0), (1, .int p1), (2, .int y26_2), (4, .int y26_4)]) hx hb dX7_runs_73 rfl hl (by decide) rfl (fun ls hl => ?_)
            refine lv_iload_n hx hb dX7_runs_74 rfl (lv_at hl 3 rfl) ?_
            refine lv_aload_n hx hb dX7_runs_75 rfl (lv_at hl 1 rfl) ?_
            obtain ⟨v76, hd76, -⟩ := bd0_s hF
            refine cl_Vi (rest := [.int y26_2]) hC hK hSK (c_X7_meetings l z σj73 h0 (o0) g0 v76 hd76) k_X7_meetings mw_5_113 ⟨rfl, rfl, Nat.le_of_ble_eq_true rfl, Nat.le_of_ble_eq_true rfl⟩ (rv_Model hK hT g0) hT rfl hl.1 rfl (Nat.le_of_ble_eq_true rfl) dX7_runs_76 ⟨Nat.zero_le _, Nat.zero_le _⟩ hS (fun _ h => h) (fun _ _ h => h) (fun r76 H locs hpo hS => ?_)
            obtain ⟨he76, hT⟩ := hpo
            have hF := bd0_r hF hd76 he76
            refine x_iadd hx hb dX7_runs_79 (fun x79 e79 => ?_)
            have hF := bn hF e79
            refine lv_istore_n (lv' := [(2, .int x79), (3, .int t73_0), (0, .ref h0), (1, .int p1), (4, .int y26_4)]) hx hb dX7_runs_80 rfl hl (by decide) rfl (fun ls hl => ?_)
            refine r_iinc (lv' := fun v__ => [(4, .int v__), (2, .int x79), (3, .int t73_0), (0, .ref h0), (1, .int p1)]) hx hb dX7_runs_81 hl (k := 4) rfl (by decide) (fun _ => rfl) ⟨by decide, by decide⟩ (by omega) (by omega) (fun x81 ls e81 hl => ?_)
            have hF := bn hF e81
            refine lv_goto (tgt := 26) hx hb dX7_runs_84 (by decide) ?_
            exact ih26 ls _ _ x79 t73_0 x81 σj73 (by omega) (by omega) hF hfr hT hS (lv_sub hl [3, 4, 1, 2, 0] rfl)
          have J72 : ∀ (ls : Array Slot) (H : Heap) (locs : List Loc) (σj72 : Sg), D_X7_runs_72 (D_X7_runs_26 p1.toInt n26) y26_2.toInt y26_3.toInt y26_4.toInt (σj72 o0) = some out → FR σ σj72 o0 → TY z (zA z) σj72 H → va_S (zA z) s.heap H locs → lv_has ls 5 [(0, .ref h0), (1, .int p1), (2, .int y26_2), (3, .int y26_3), (4, .int y26_4)] → W p l e (rmF 8 222) s m ([.ref h0, .int p1] : List Value).toArray below meth c H locs 0 0 (MQ below (QcI z (fun r H => ∃ σ' : Sg, some (r.toInt, σ' o0) = some out ∧ FR σ σ' o0 ∧ TY z (zA z) σ' H)) ([.ref h0, .int p1] : List Value).toArray s 0 0 (zA z)) (F0 m 72 ls []) := by
            intro ls H locs σj72 hF hfr hT hS hl
            unfold D_X7_runs_72 at hF
            refine lv_iload_n hx hb dX7_runs_72 rfl (lv_at hl 3 rfl) ?_
            exact J73 ls _ _ y26_3 σj72 (by omega) hF hfr hT hS (lv_sub hl [0, 1, 2, 3, 4] rfl)
          refine r_if_le (tgt := 72) hx hb dX7_runs_56 (by decide) (fun c56 => ?_) (fun c56 => ?_)
          · have hF := ifn hF (Int.not_lt.mpr c56)
            exact J72 ls _ _ σ49 hF hfr hT hS (lv_sub hl [0, 1, 2, 3, 4] rfl)
          · have hF := ifp hF c56
            refine lv_iload_n hx hb dX7_runs_59 rfl (lv_at hl 3 rfl) ?_
            refine r_bipush hx hb dX7_runs_60 rfl (fun x60 e60 => ?_)
            have hF := bn hF e60
            refine r_icmp_ne (tgt := 72) hx hb dX7_runs_62 (by decide) (fun c62 => ?_) (fun c62 => ?_)
            · have hF := ifn hF c62
              exact J72 ls _ _ σ49 hF hfr hT hS (lv_sub hl [0, 1, 2, 3, 4] rfl)
            · have hF := ifp hF c62
              refine lv_iload hx hb dX7_runs_65 (lv_at hl 4 rfl) ?_
              refine r_iconst hx hb dX7_runs_67 (by decide) (by decide) (fun x67 e67 => ?_)
              have hF := bn hF e67
              refine r_iadd hx hb dX7_runs_68 (by omega) (by omega) (fun x68 e68 => ?_)
              have hF := bn hF e68
              refine lv_goto (tgt := 73) hx hb dX7_runs_69 (by decide) ?_
              exact J73 ls _ _ x68 σ49 (by omega) hF hfr hT hS (lv_sub hl [0, 1, 2, 3, 4] rfl)
    exact J26 5000 ls _ _ x18 x20 x23 σ15 (by omega) (by omega) hF hfr hT hS (lv_sub hl [3, 4, 2, 1, 0] rfl)
  · have hF := ifp hF c9
    refine r_iconst hx hb dX7_runs_12 (by decide) (by decide) (fun x12 e12 => ?_)
    have hF := bn hF e12
    exact rt_i hx hb hr hlk hS ⟨σ, hF, hfr, hT⟩ dX7_runs_13
theorem k_X7_ahead : cBV yX7_ahead cX7_ahead 4 (some .int) 2 := ⟨mw_5_122, mw_5_123, mw_1_8, mw_5_124, ⟨by decide, by decide, by decide⟩⟩
set_option maxHeartbeats 4000000 in
set_option maxRecDepth 100000 in
theorem c_X7_ahead (l : Launch) (z : Zt) (σ : Sg) (h0 o0 : Nat) (g0 : zG z h0 = (17, o0)) (p1 : Int32) (p2 : Int32) (out : (Int × Lo)) (hF : D_X7_ahead (σ o0) p1.toInt p2.toInt = some out) : Met l yX7_ahead (uw yX7_ahead cX7_ahead 4 (some .int)) (rmF 8 222) (PcW z [.ref h0, .int p1, .int p2] (fun H => TY z (zA z) σ H)) (QcI z (fun r H => ∃ σ' : Sg, some (r.toInt, σ' o0) = some out ∧ FR σ σ' o0 ∧ TY z (zA z) σ' H)) 0 0 (zA z) := by
  refine Met.ofW (cc := cX7_ahead) (maxL := 4) (ret := (some .int)) (by decide) rfl ?_
  intro p e s m args below meth c s₁ B hml hv
  obtain ⟨rfl, hT, hK, hSK⟩ := hv
  have hx := B.exec
  have hb := B.bytes
  have hr := B.returns
  have hts : ∀ w ∈ lw_ok, w.before ([.ref h0, .int p1, .int p2] : List Value).toArray s = true := fun w hw => atoms_spec (ws := uw yX7_ahead cX7_ahead 4 (some .int)) B.pre w (List.mem_cons_of_mem _ hw)
  have hown : s.vm.findClass RX7 = some m.cls := findClass_of_methodNamed B.named
  have hlk := B.notSynchronized
  have hC : CallFix p m c cX7_ahead 4 s ([.ref h0, .int p1, .int p2] : List Value).toArray lw_ok RX7 := ⟨hx, hb, hml, hown, hts⟩
  have hS : va_S (zA z) s.heap s.heap [] := va_S.rf
  have hl := lv_entry ([.ref h0, .int p1, .int p2]) (n := 4) (Nat.le_of_ble_eq_true rfl)
  rw [lg_entry_eq]
  generalize (lg_sl ([.ref h0, .int p1, .int p2]) ++ List.replicate (4 - (lg_sl ([.ref h0, .int p1, .int p2])).length) Slot.unset).toArray = ls at hl ⊢
  have hl : lv_has ls 4 [(0, .ref h0), (1, .int p1), (2, .int p2)] := hl
  show W p l e (rmF 8 222) s m ([.ref h0, .int p1, .int p2] : List Value).toArray below meth c s.heap [] 0 0 (MQ below (QcI z (fun r H => ∃ σ' : Sg, some (r.toInt, σ' o0) = some out ∧ FR σ σ' o0 ∧ TY z (zA z) σ' H)) ([.ref h0, .int p1, .int p2] : List Value).toArray s 0 0 (zA z)) (F0 m 0 ls [])
  have hfr : FR σ σ o0 := FR_rf σ o0
  unfold D_X7_ahead at hF
  have mx_p1 := i_mx p1
  have mx_p2 := i_mx p2
  refine lv_aload_n hx hb dX7_ahead_0 rfl (lv_at hl 0 rfl) ?_
  refine lv_iload_n hx hb dX7_ahead_1 rfl (lv_at hl 1 rfl) ?_
  obtain ⟨v2, hd2, -⟩ := bd0_s hF
  refine cl_Vi (rest := []) hC hK hSK (c_X7_isOne l z σ h0 (o0) g0 p1 v2 hd2) k_X7_isOne mw_5_11 ⟨rfl, rfl, Nat.le_of_ble_eq_true rfl, Nat.le_of_ble_eq_true rfl⟩ (rv_Model hK hT g0) hT rfl hl.1 rfl (Nat.le_of_ble_eq_true rfl) dX7_ahead_2 ⟨Nat.zero_le _, Nat.zero_le _⟩ hS (fun _ h => h) (fun _ _ h => h) (fun r2 H locs hpo hS => ?_)
  obtain ⟨he2, hT, u2_0, u2_1⟩ := hpo
  have hF := bd0_r hF hd2 he2
  refine r_if_eq (tgt := 20) hx hb dX7_ahead_5 (by decide) (fun c5 => ?_) (fun c5 => ?_)
  · have hF := ifp hF c5
    refine r_iconst hx hb dX7_ahead_20 (by decide) (by decide) (fun x20 e20 => ?_)
    have hF := bn hF e20
    exact rt_i hx hb hr hlk hS ⟨σ, hF, hfr, hT⟩ dX7_ahead_21
  · have hF := ifn hF c5
    refine lv_iload_n hx hb dX7_ahead_8 rfl (lv_at hl 2 rfl) ?_
    refine r_i2l hx hb dX7_ahead_9 (fun x9 e9 => ?_)
    have hF := bn hF e9
    refine r_lconst0 hx hb dX7_ahead_10 (fun x10 e10 => ?_)
    have hF := bn hF e10
    refine r_ldc2 (8) rfl hx hb hts hown mw_5_125 dX7_ahead_11 (fun x11 e11 => ?_)
    have hF := bn hF e11
    obtain ⟨v14, hd14, -⟩ := bd0_s hF
    refine cl_Si (rest := []) hC hK hSK (c_X7_in l z σ x9 x10 x11 v14 hd14) k_X7_in mw_4_154 ⟨rfl, rfl, Nat.le_of_ble_eq_true rfl, Nat.le_of_ble_eq_true rfl⟩ hT rfl hl.1 rfl (Nat.le_of_ble_eq_true rfl) dX7_ahead_14 ⟨Nat.zero_le _, Nat.zero_le _⟩ hS (fun _ h => h) (fun _ _ h => h) (fun r14 H locs hpo hS => ?_)
    obtain ⟨he14, hT, u14_0, u14_1⟩ := hpo
    have hF := bd0_r hF hd14 he14
    refine r_if_ne (tgt := 22) hx hb dX7_ahead_17 (by decide) (fun c17 => ?_) (fun c17 => ?_)
    · have hF := ifn hF c17
      refine lv_aload_n hx hb dX7_ahead_22 rfl (lv_at hl 0 rfl) ?_
      obtain ⟨s23, hd23, -⟩ := bd1_s hF
      refine cl_Vv (rest := []) hC hK hSK (c_X7_starts l z σ h0 (o0) g0 s23 hd23) k_X7_starts mw_4_229 ⟨rfl, rfl, Nat.le_of_ble_eq_true rfl, Nat.le_of_ble_eq_true rfl⟩ (rv_Model hK hT g0) hT rfl hl.1 rfl (Nat.le_of_ble_eq_true rfl) dX7_ahead_23 ⟨Nat.zero_le _, Nat.zero_le _⟩ hS (fun _ h => h) (fun _ _ h => h) (fun H locs hpo hS => ?_)
      obtain ⟨σ23, he23, hf23, hT⟩ := hpo
      have hF := bd1_r hF hd23 he23
      have hfr := FR_tr hf23 hfr
      refine r_iconst hx hb dX7_ahead_26 (by decide) (by decide) (fun x26 e26 => ?_)
      have hF := bn hF e26
      refine lv_istore_n (lv' := [(3, .int x26), (0, .ref h0), (1, .int p1), (2, .int p2)]) hx hb dX7_ahead_27 rfl hl (by decide) rfl (fun ls hl => ?_)
      have J28 : ∀ (n28 : Nat) (ls : Array Slot) (H : Heap) (locs : List Loc) (y28_3 : Int32) (σj28 : Sg), (0 ≤ y28_3.toInt ∧ y28_3.toInt ≤ 8) → D_X7_ahead_28 p1.toInt p2.toInt n28 (σj28 o0) y28_3.toInt = some out → FR σ σj28 o0 → TY z (zA z) σj28 H → va_S (zA z) s.heap H locs → lv_has ls 4 [(0, .ref h0), (1, .int p1), (2, .int p2), (3, .int y28_3)] → W p l e (rmF 8 222) s m ([.ref h0, .int p1, .int p2] : List Value).toArray below meth c H locs 0 0 (MQ below (QcI z (fun r H => ∃ σ' : Sg, some (r.toInt, σ' o0) = some out ∧ FR σ σ' o0 ∧ TY z (zA z) σ' H)) ([.ref h0, .int p1, .int p2] : List Value).toArray s 0 0 (zA z)) (F0 m 28 ls []) := by
        intro n28
        induction n28 with
        | zero => intro ls H locs y28_3 σj28 j28_y28_3 hF hfr hT hS hl; exact (no_s hF).elim
        | succ n28 ih28 =>
          intro ls H locs y28_3 σj28 j28_y28_3 hF hfr hT hS hl
          rw [D_X7_ahead_28.eq_2] at hF
          refine lv_iload_n hx hb dX7_ahead_28 rfl (lv_at hl 3 rfl) ?_
          refine lv_aload_n hx hb dX7_ahead_29 rfl (lv_at hl 0 rfl) ?_
          refine gt_Model_now hx hb hts ic_Model hown hK hT g0 (hts _ mw_4_71) dX7_ahead_30 (fun q30 hq30 => ?_)
          refine r_bipush hx hb dX7_ahead_33 rfl (fun x33 e33 => ?_)
          have hF := bn hF e33
          refine al_41 hx hb hK hT hq30 (by omega) (by omega) dX7_ahead_35 (fun x35 e35 g35 => ?_)
          have hF := bn hF e35
          have f35 := gd59_31 g35 (by omega)
          have J63 : ∀ (ls : Array Slot) (H : Heap) (locs : List Loc) (σj63 : Sg), D_X7_ahead_63 p1.toInt (σj63 o0) = some out → FR σ σj63 o0 → TY z (zA z) σj63 H → va_S (zA z) s.heap H locs → lv_has ls 4 [(0, .ref h0), (1, .int p1), (2, .int p2), (3, .int y28_3)] → W p l e (rmF 8 222) s m ([.ref h0, .int p1, .int p2] : List Value).toArray below meth c H locs 0 0 (MQ below (QcI z (fun r H => ∃ σ' : Sg, some (r.toInt, σ' o0) = some out ∧ FR σ σ' o0 ∧ TY z (zA z) σ' H)) ([.ref h0, .int p1, .int p2] : List Value).toArray s 0 0 (zA z)) (F0 m 63 ls []) := by
            intro ls H locs σj63 hF hfr hT hS hl
            unfold D_X7_ahead_63 at hF
            refine lv_aload_n hx hb dX7_ahead_63 rfl (lv_at hl 0 rfl) ?_
            refine gt_Model_now hx hb hts ic_Model hown hK hT g0 (hts _ mw_4_71) dX7_ahead_64 (fun q64 hq64 => ?_)
            refine r_bipush hx hb dX7_ahead_67 rfl (fun x67 e67 => ?_)
            have hF := bn hF e67
            refine lv_iload_n hx hb dX7_ahead_69 rfl (lv_at hl 1 rfl) ?_
            refine r_iadd hx hb dX7_ahead_70 (by omega) (by omega) (fun x70 e70 => ?_)
            have hF := bn hF e70
            refine al_41 hx hb hK hT hq64 (by omega) (by omega) dX7_ahead_71 (fun x71 e71 g71 => ?_)
            have hF := bn hF e71
            have f71 := gd59_20 g71 (by omega) (by omega)
            exact rt_i hx hb hr hlk hS ⟨σj63, hF, hfr, hT⟩ dX7_ahead_72
          refine r_icmp_ge (tgt := 63) hx hb dX7_ahead_36 (by decide) (fun c36 => ?_) (fun c36 => ?_)
          · have hF := ifn hF (Int.not_lt.mpr c36)
            exact J63 ls _ _ σj28 hF hfr hT hS (lv_sub hl [0, 1, 2, 3] rfl)
          · have hF := ifp hF c36
            refine lv_iload_n hx hb dX7_ahead_39 rfl (lv_at hl 3 rfl) ?_
            refine lv_iload_n hx hb dX7_ahead_40 rfl (lv_at hl 2 rfl) ?_
            refine r_icmp_ge (tgt := 63) hx hb dX7_ahead_41 (by decide) (fun c41 => ?_) (fun c41 => ?_)
            · have hF := ifn hF (Int.not_lt.mpr c41)
              exact J63 ls _ _ σj28 hF hfr hT hS (lv_sub hl [0, 1, 2, 3] rfl)
            · have hF := ifp hF c41
              refine lv_aload_n hx hb dX7_ahead_44 rfl (lv_at hl 0 rfl) ?_
              refine lv_aload_n hx hb dX7_ahead_45 rfl (lv_at hl 0 rfl) ?_
              refine gt_Model_now hx hb hts ic_Model hown hK hT g0 (hts _ mw_4_71) dX7_ahead_46 (fun q46 hq46 => ?_)
              refine r_bipush hx hb dX7_ahead_49 rfl (fun x49 e49 => ?_)
              have hF := bn hF e49
              refine lv_iload_n hx hb dX7_ahead_51 rfl (lv_at hl 3 rfl) ?_
              refine r_iadd hx hb dX7_ahead_52 (by omega) (by omega) (fun x52 e52 => ?_)
              have hF := bn hF e52
              refine al_41 hx hb hK hT hq46 (by omega) (by omega) dX7_ahead_53 (fun x53 e53 g53 => ?_)
              have hF := bn hF e53
              obtain ⟨s54, hd54, -⟩ := bd1_s hF
              refine cl_Vv (rest := []) hC hK hSK (c_X7_danceOn l z σj28 h0 (o0) g0 x53 s54 hd54) k_X7_danceOn mw_5_88 ⟨rfl, rfl, Nat.le_of_ble_eq_true rfl, Nat.le_of_ble_eq_true rfl⟩ (rv_Model hK hT g0) hT rfl hl.1 rfl (Nat.le_of_ble_eq_true rfl) dX7_ahead_54 ⟨Nat.zero_le _, Nat.zero_le _⟩ hS (fun _ h => h) (fun _ _ h => h) (fun H locs hpo hS => ?_)
              obtain ⟨σ54, he54, hf54, hT⟩ := hpo
              have hF := bd1_r hF hd54 he54
              have hfr := FR_tr hf54 hfr
              refine r_iinc (lv' := fun v__ => [(3, .int v__), (0, .ref h0), (1, .int p1), (2, .int p2)]) hx hb dX7_ahead_57 hl (k := 3) rfl (by decide) (fun _ => rfl) ⟨by decide, by decide⟩ (by omega) (by omega) (fun x57 ls e57 hl => ?_)
              have hF := bn hF e57
              refine lv_goto (tgt := 28) hx hb dX7_ahead_60 (by decide) ?_
              exact ih28 ls _ _ x57 σ54 (by omega) hF hfr hT hS (lv_sub hl [1, 2, 3, 0] rfl)
      exact J28 5000 ls _ _ x26 σ23 (by omega) hF hfr hT hS (lv_sub hl [1, 2, 3, 0] rfl)
    · have hF := ifp hF c17
      refine r_iconst hx hb dX7_ahead_20 (by decide) (by decide) (fun x20 e20 => ?_)
      have hF := bn hF e20
      exact rt_i hx hb hr hlk hS ⟨σ, hF, hfr, hT⟩ dX7_ahead_21
theorem k_X7_meets : cBV yX7_meets cX7_meets 4 (some .int) 2 := ⟨mw_5_127, mw_5_128, mw_1_8, mw_5_129, ⟨by decide, by decide, by decide⟩⟩
set_option maxHeartbeats 4000000 in
set_option maxRecDepth 100000 in
theorem c_X7_meets (l : Launch) (z : Zt) (σ : Sg) (h0 o0 : Nat) (g0 : zG z h0 = (17, o0)) (p1 : Int32) (p2 : Int32) (out : (Int × Lo)) (hF : D_X7_meets (σ o0) p1.toInt p2.toInt = some out) : Met l yX7_meets (uw yX7_meets cX7_meets 4 (some .int)) (rmF 8 222) (PcW z [.ref h0, .int p1, .int p2] (fun H => TY z (zA z) σ H)) (QcI z (fun r H => ∃ σ' : Sg, some (r.toInt, σ' o0) = some out ∧ FR σ σ' o0 ∧ TY z (zA z) σ' H)) 0 0 (zA z) := by
  refine Met.ofW (cc := cX7_meets) (maxL := 4) (ret := (some .int)) (by decide) rfl ?_
  intro p e s m args below meth c s₁ B hml hv
  obtain ⟨rfl, hT, hK, hSK⟩ := hv
  have hx := B.exec
  have hb := B.bytes
  have hr := B.returns
  have hts : ∀ w ∈ lw_ok, w.before ([.ref h0, .int p1, .int p2] : List Value).toArray s = true := fun w hw => atoms_spec (ws := uw yX7_meets cX7_meets 4 (some .int)) B.pre w (List.mem_cons_of_mem _ hw)
  have hown : s.vm.findClass RX7 = some m.cls := findClass_of_methodNamed B.named
  have hlk := B.notSynchronized
  have hC : CallFix p m c cX7_meets 4 s ([.ref h0, .int p1, .int p2] : List Value).toArray lw_ok RX7 := ⟨hx, hb, hml, hown, hts⟩
  have hS : va_S (zA z) s.heap s.heap [] := va_S.rf
  have hl := lv_entry ([.ref h0, .int p1, .int p2]) (n := 4) (Nat.le_of_ble_eq_true rfl)
  rw [lg_entry_eq]
  generalize (lg_sl ([.ref h0, .int p1, .int p2]) ++ List.replicate (4 - (lg_sl ([.ref h0, .int p1, .int p2])).length) Slot.unset).toArray = ls at hl ⊢
  have hl : lv_has ls 4 [(0, .ref h0), (1, .int p1), (2, .int p2)] := hl
  show W p l e (rmF 8 222) s m ([.ref h0, .int p1, .int p2] : List Value).toArray below meth c s.heap [] 0 0 (MQ below (QcI z (fun r H => ∃ σ' : Sg, some (r.toInt, σ' o0) = some out ∧ FR σ σ' o0 ∧ TY z (zA z) σ' H)) ([.ref h0, .int p1, .int p2] : List Value).toArray s 0 0 (zA z)) (F0 m 0 ls [])
  have hfr : FR σ σ o0 := FR_rf σ o0
  unfold D_X7_meets at hF
  have mx_p1 := i_mx p1
  have mx_p2 := i_mx p2
  refine lv_aload_n hx hb dX7_meets_0 rfl (lv_at hl 0 rfl) ?_
  refine lv_iload_n hx hb dX7_meets_1 rfl (lv_at hl 1 rfl) ?_
  obtain ⟨v2, hd2, -⟩ := bd0_s hF
  refine cl_Vi (rest := []) hC hK hSK (c_X7_isOne l z σ h0 (o0) g0 p1 v2 hd2) k_X7_isOne mw_5_11 ⟨rfl, rfl, Nat.le_of_ble_eq_true rfl, Nat.le_of_ble_eq_true rfl⟩ (rv_Model hK hT g0) hT rfl hl.1 rfl (Nat.le_of_ble_eq_true rfl) dX7_meets_2 ⟨Nat.zero_le _, Nat.zero_le _⟩ hS (fun _ h => h) (fun _ _ h => h) (fun r2 H locs hpo hS => ?_)
  obtain ⟨he2, hT, u2_0, u2_1⟩ := hpo
  have hF := bd0_r hF hd2 he2
  refine r_if_eq (tgt := 16) hx hb dX7_meets_5 (by decide) (fun c5 => ?_) (fun c5 => ?_)
  · have hF := ifp hF c5
    refine r_iconst hx hb dX7_meets_16 (by decide) (by decide) (fun x16 e16 => ?_)
    have hF := bn hF e16
    exact rt_i hx hb hr hlk hS ⟨σ, hF, hfr, hT⟩ dX7_meets_17
  · have hF := ifn hF c5
    refine lv_aload_n hx hb dX7_meets_8 rfl (lv_at hl 0 rfl) ?_
    refine lv_iload_n hx hb dX7_meets_9 rfl (lv_at hl 2 rfl) ?_
    obtain ⟨v10, hd10, -⟩ := bd0_s hF
    refine cl_Vi (rest := []) hC hK hSK (c_X7_isOne l z σ h0 (o0) g0 p2 v10 hd10) k_X7_isOne mw_5_11 ⟨rfl, rfl, Nat.le_of_ble_eq_true rfl, Nat.le_of_ble_eq_true rfl⟩ (rv_Model hK hT g0) hT rfl hl.1 rfl (Nat.le_of_ble_eq_true rfl) dX7_meets_10 ⟨Nat.zero_le _, Nat.zero_le _⟩ hS (fun _ h => h) (fun _ _ h => h) (fun r10 H locs hpo hS => ?_)
    obtain ⟨he10, hT, u10_0, u10_1⟩ := hpo
    have hF := bd0_r hF hd10 he10
    refine r_if_ne (tgt := 18) hx hb dX7_meets_13 (by decide) (fun c13 => ?_) (fun c13 => ?_)
    · have hF := ifn hF c13
      refine lv_aload_n hx hb dX7_meets_18 rfl (lv_at hl 0 rfl) ?_
      obtain ⟨s19, hd19, -⟩ := bd1_s hF
      refine cl_Vv (rest := []) hC hK hSK (c_X7_starts l z σ h0 (o0) g0 s19 hd19) k_X7_starts mw_4_229 ⟨rfl, rfl, Nat.le_of_ble_eq_true rfl, Nat.le_of_ble_eq_true rfl⟩ (rv_Model hK hT g0) hT rfl hl.1 rfl (Nat.le_of_ble_eq_true rfl) dX7_meets_19 ⟨Nat.zero_le _, Nat.zero_le _⟩ hS (fun _ h => h) (fun _ _ h => h) (fun H locs hpo hS => ?_)
      obtain ⟨σ19, he19, hf19, hT⟩ := hpo
      have hF := bd1_r hF hd19 he19
      have hfr := FR_tr hf19 hfr
      refine r_iconst hx hb dX7_meets_22 (by decide) (by decide) (fun x22 e22 => ?_)
      have hF := bn hF e22
      refine lv_istore_n (lv' := [(3, .int x22), (0, .ref h0), (1, .int p1), (2, .int p2)]) hx hb dX7_meets_23 rfl hl (by decide) rfl (fun ls hl => ?_)
      have J24 : ∀ (n24 : Nat) (ls : Array Slot) (H : Heap) (locs : List Loc) (y24_3 : Int32) (σj24 : Sg), (0 ≤ y24_3.toInt ∧ y24_3.toInt ≤ 9) → D_X7_meets_24 p1.toInt p2.toInt n24 (σj24 o0) y24_3.toInt = some out → FR σ σj24 o0 → TY z (zA z) σj24 H → va_S (zA z) s.heap H locs → lv_has ls 4 [(0, .ref h0), (1, .int p1), (2, .int p2), (3, .int y24_3)] → W p l e (rmF 8 222) s m ([.ref h0, .int p1, .int p2] : List Value).toArray below meth c H locs 0 0 (MQ below (QcI z (fun r H => ∃ σ' : Sg, some (r.toInt, σ' o0) = some out ∧ FR σ σ' o0 ∧ TY z (zA z) σ' H)) ([.ref h0, .int p1, .int p2] : List Value).toArray s 0 0 (zA z)) (F0 m 24 ls []) := by
        intro n24
        induction n24 with
        | zero => intro ls H locs y24_3 σj24 j24_y24_3 hF hfr hT hS hl; exact (no_s hF).elim
        | succ n24 ih24 =>
          intro ls H locs y24_3 σj24 j24_y24_3 hF hfr hT hS hl
          rw [D_X7_meets_24.eq_2] at hF
          refine lv_iload_n hx hb dX7_meets_24 rfl (lv_at hl 3 rfl) ?_
          refine lv_aload_n hx hb dX7_meets_25 rfl (lv_at hl 0 rfl) ?_
          refine gt_Model_now hx hb hts ic_Model hown hK hT g0 (hts _ mw_4_71) dX7_meets_26 (fun q26 hq26 => ?_)
          refine r_bipush hx hb dX7_meets_29 rfl (fun x29 e29 => ?_)
          have hF := bn hF e29
          refine al_41 hx hb hK hT hq26 (by omega) (by omega) dX7_meets_31 (fun x31 e31 g31 => ?_)
          have hF := bn hF e31
          have f31 := gd59_31 g31 (by omega)
          refine r_icmp_gt (tgt := 80) hx hb dX7_meets_32 (by decide) (fun c32 => ?_) (fun c32 => ?_)
          · have hF := ifp hF c32
            refine r_bipush hx hb dX7_meets_80 rfl (fun x80 e80 => ?_)
            have hF := bn hF e80
            exact rt_i hx hb hr hlk hS ⟨σj24, hF, hfr, hT⟩ dX7_meets_82
          · have hF := ifn hF (Int.not_lt.mpr c32)
            refine lv_aload_n hx hb dX7_meets_35 rfl (lv_at hl 0 rfl) ?_
            refine gt_Model_now hx hb hts ic_Model hown hK hT g0 (hts _ mw_4_71) dX7_meets_36 (fun q36 hq36 => ?_)
            refine r_bipush hx hb dX7_meets_39 rfl (fun x39 e39 => ?_)
            have hF := bn hF e39
            refine lv_iload_n hx hb dX7_meets_41 rfl (lv_at hl 1 rfl) ?_
            refine r_iadd hx hb dX7_meets_42 (by omega) (by omega) (fun x42 e42 => ?_)
            have hF := bn hF e42
            refine al_41 hx hb hK hT hq36 (by omega) (by omega) dX7_meets_43 (fun x43 e43 g43 => ?_)
            have hF := bn hF e43
            have f43 := gd59_20 g43 (by omega) (by omega)
            refine lv_iload_n hx hb dX7_meets_44 rfl (lv_at hl 2 rfl) ?_
            refine r_icmp_ne (tgt := 50) hx hb dX7_meets_45 (by decide) (fun c45 => ?_) (fun c45 => ?_)
            · have hF := ifn hF c45
              refine lv_iload_n hx hb dX7_meets_50 rfl (lv_at hl 3 rfl) ?_
              refine lv_aload_n hx hb dX7_meets_51 rfl (lv_at hl 0 rfl) ?_
              refine gt_Model_now hx hb hts ic_Model hown hK hT g0 (hts _ mw_4_71) dX7_meets_52 (fun q52 hq52 => ?_)
              refine r_bipush hx hb dX7_meets_55 rfl (fun x55 e55 => ?_)
              have hF := bn hF e55
              refine al_41 hx hb hK hT hq52 (by omega) (by omega) dX7_meets_57 (fun x57 e57 g57 => ?_)
              have hF := bn hF e57
              have f57 := gd59_31 g57 (by omega)
              have J74 : ∀ (ls : Array Slot) (H : Heap) (locs : List Loc) (σj74 : Sg), D_X7_meets_74 (D_X7_meets_24 p1.toInt p2.toInt n24) y24_3.toInt (σj74 o0) = some out → FR σ σj74 o0 → TY z (zA z) σj74 H → va_S (zA z) s.heap H locs → lv_has ls 4 [(0, .ref h0), (1, .int p1), (2, .int p2), (3, .int y24_3)] → W p l e (rmF 8 222) s m ([.ref h0, .int p1, .int p2] : List Value).toArray below meth c H locs 0 0 (MQ below (QcI z (fun r H => ∃ σ' : Sg, some (r.toInt, σ' o0) = some out ∧ FR σ σ' o0 ∧ TY z (zA z) σ' H)) ([.ref h0, .int p1, .int p2] : List Value).toArray s 0 0 (zA z)) (F0 m 74 ls []) := by
                intro ls H locs σj74 hF hfr hT hS hl
                unfold D_X7_meets_74 at hF
                refine r_iinc (lv' := fun v__ => [(3, .int v__), (0, .ref h0), (1, .int p1), (2, .int p2)]) hx hb dX7_meets_74 hl (k := 3) rfl (by decide) (fun _ => rfl) ⟨by decide, by decide⟩ (by omega) (by omega) (fun x74 ls e74 hl => ?_)
                have hF := bn hF e74
                refine lv_goto (tgt := 24) hx hb dX7_meets_77 (by decide) ?_
                exact ih24 ls _ _ x74 σj74 (by omega) hF hfr hT hS (lv_sub hl [1, 2, 3, 0] rfl)
              refine r_icmp_ge (tgt := 74) hx hb dX7_meets_58 (by decide) (fun c58 => ?_) (fun c58 => ?_)
              · have hF := ifn hF (Int.not_lt.mpr c58)
                exact J74 ls _ _ σj24 hF hfr hT hS (lv_sub hl [0, 1, 2, 3] rfl)
              · have hF := ifp hF c58
                refine lv_aload_n hx hb dX7_meets_61 rfl (lv_at hl 0 rfl) ?_
                refine lv_aload_n hx hb dX7_meets_62 rfl (lv_at hl 0 rfl) ?_
                refine gt_Model_now hx hb hts ic_Model hown hK hT g0 (hts _ mw_4_71) dX7_meets_63 (fun q63 hq63 => ?_)
                refine r_bipush hx hb dX7_meets_66 rfl (fun x66 e66 => ?_)
                have hF := bn hF e66
                refine lv_iload_n hx hb dX7_meets_68 rfl (lv_at hl 3 rfl) ?_
                refine r_iadd hx hb dX7_meets_69 (by omega) (by omega) (fun x69 e69 => ?_)
                have hF := bn hF e69
                refine al_41 hx hb hK hT hq63 (by omega) (by omega) dX7_meets_70 (fun x70 e70 g70 => ?_)
                have hF := bn hF e70
                obtain ⟨s71, hd71, -⟩ := bd1_s hF
                refine cl_Vv (rest := []) hC hK hSK (c_X7_danceOn l z σj24 h0 (o0) g0 x70 s71 hd71) k_X7_danceOn mw_5_88 ⟨rfl, rfl, Nat.le_of_ble_eq_true rfl, Nat.le_of_ble_eq_true rfl⟩ (rv_Model hK hT g0) hT rfl hl.1 rfl (Nat.le_of_ble_eq_true rfl) dX7_meets_71 ⟨Nat.zero_le _, Nat.zero_le _⟩ hS (fun _ h => h) (fun _ _ h => h) (fun H locs hpo hS => ?_)
                obtain ⟨σ71, he71, hf71, hT⟩ := hpo
                have hF := bd1_r hF hd71 he71
                have hfr := FR_tr hf71 hfr
                exact J74 ls _ _ σ71 hF hfr hT hS (lv_sub hl [0, 1, 2, 3] rfl)
            · have hF := ifp hF c45
              refine lv_iload_n hx hb dX7_meets_48 rfl (lv_at hl 3 rfl) ?_
              exact rt_i hx hb hr hlk hS ⟨σj24, hF, hfr, hT⟩ dX7_meets_49
      exact J24 5000 ls _ _ x22 σ19 (by omega) hF hfr hT hS (lv_sub hl [1, 2, 3, 0] rfl)
    · have hF := ifp hF c13
      refine r_iconst hx hb dX7_meets_16 (by decide) (by decide) (fun x16 e16 => ?_)
      have hF := bn hF e16
      exact rt_i hx hb hr hlk hS ⟨σ, hF, hfr, hT⟩ dX7_meets_17
theorem k_X7_never : cBV yX7_never cX7_never 4 (some .int) 1 := ⟨mw_5_131, mw_5_132, mw_1_8, mw_5_133, ⟨by decide, by decide, by decide⟩⟩
set_option maxHeartbeats 4000000 in
set_option maxRecDepth 100000 in
theorem c_X7_never (l : Launch) (z : Zt) (σ : Sg) (h0 o0 : Nat) (g0 : zG z h0 = (17, o0)) (p1 : Int32) (out : (Int × Lo)) (hF : D_X7_never (σ o0) p1.toInt = some out) : Met l yX7_never (uw yX7_never cX7_never 4 (some .int)) (rmF 8 222) (PcW z [.ref h0, .int p1] (fun H => TY z (zA z) σ H)) (QcI z (fun r H => ∃ σ' : Sg, some (r.toInt, σ' o0) = some out ∧ FR σ σ' o0 ∧ TY z (zA z) σ' H)) 0 0 (zA z) := by
  refine Met.ofW (cc := cX7_never) (maxL := 4) (ret := (some .int)) (by decide) rfl ?_
  intro p e s m args below meth c s₁ B hml hv
  obtain ⟨rfl, hT, hK, hSK⟩ := hv
  have hx := B.exec
  have hb := B.bytes
  have hr := B.returns
  have hts : ∀ w ∈ lw_ok, w.before ([.ref h0, .int p1] : List Value).toArray s = true := fun w hw => atoms_spec (ws := uw yX7_never cX7_never 4 (some .int)) B.pre w (List.mem_cons_of_mem _ hw)
  have hown : s.vm.findClass RX7 = some m.cls := findClass_of_methodNamed B.named
  have hlk := B.notSynchronized
  have hC : CallFix p m c cX7_never 4 s ([.ref h0, .int p1] : List Value).toArray lw_ok RX7 := ⟨hx, hb, hml, hown, hts⟩
  have hS : va_S (zA z) s.heap s.heap [] := va_S.rf
  have hl := lv_entry ([.ref h0, .int p1]) (n := 4) (Nat.le_of_ble_eq_true rfl)
  rw [lg_entry_eq]
  generalize (lg_sl ([.ref h0, .int p1]) ++ List.replicate (4 - (lg_sl ([.ref h0, .int p1])).length) Slot.unset).toArray = ls at hl ⊢
  have hl : lv_has ls 4 [(0, .ref h0), (1, .int p1)] := hl
  show W p l e (rmF 8 222) s m ([.ref h0, .int p1] : List Value).toArray below meth c s.heap [] 0 0 (MQ below (QcI z (fun r H => ∃ σ' : Sg, some (r.toInt, σ' o0) = some out ∧ FR σ σ' o0 ∧ TY z (zA z) σ' H)) ([.ref h0, .int p1] : List Value).toArray s 0 0 (zA z)) (F0 m 0 ls [])
  have hfr : FR σ σ o0 := FR_rf σ o0
  unfold D_X7_never at hF
  have mx_p1 := i_mx p1
  refine lv_aload_n hx hb dX7_never_0 rfl (lv_at hl 0 rfl) ?_
  refine lv_iload_n hx hb dX7_never_1 rfl (lv_at hl 1 rfl) ?_
  obtain ⟨v2, hd2, -⟩ := bd0_s hF
  refine cl_Vi (rest := []) hC hK hSK (c_X7_isOne l z σ h0 (o0) g0 p1 v2 hd2) k_X7_isOne mw_5_11 ⟨rfl, rfl, Nat.le_of_ble_eq_true rfl, Nat.le_of_ble_eq_true rfl⟩ (rv_Model hK hT g0) hT rfl hl.1 rfl (Nat.le_of_ble_eq_true rfl) dX7_never_2 ⟨Nat.zero_le _, Nat.zero_le _⟩ hS (fun _ h => h) (fun _ _ h => h) (fun r2 H locs hpo hS => ?_)
  obtain ⟨he2, hT, u2_0, u2_1⟩ := hpo
  have hF := bd0_r hF hd2 he2
  refine r_if_ne (tgt := 10) hx hb dX7_never_5 (by decide) (fun c5 => ?_) (fun c5 => ?_)
  · have hF := ifn hF c5
    refine lv_aload_n hx hb dX7_never_10 rfl (lv_at hl 0 rfl) ?_
    obtain ⟨s11, hd11, -⟩ := bd1_s hF
    refine cl_Vv (rest := []) hC hK hSK (c_X7_starts l z σ h0 (o0) g0 s11 hd11) k_X7_starts mw_4_229 ⟨rfl, rfl, Nat.le_of_ble_eq_true rfl, Nat.le_of_ble_eq_true rfl⟩ (rv_Model hK hT g0) hT rfl hl.1 rfl (Nat.le_of_ble_eq_true rfl) dX7_never_11 ⟨Nat.zero_le _, Nat.zero_le _⟩ hS (fun _ h => h) (fun _ _ h => h) (fun H locs hpo hS => ?_)
    obtain ⟨σ11, he11, hf11, hT⟩ := hpo
    have hF := bd1_r hF hd11 he11
    have hfr := FR_tr hf11 hfr
    refine r_iconst hx hb dX7_never_14 (by decide) (by decide) (fun x14 e14 => ?_)
    have hF := bn hF e14
    refine lv_aload_n hx hb dX7_never_15 rfl (lv_at hl 0 rfl) ?_
    refine gt_Model_now hx hb hts ic_Model hown hK hT g0 (hts _ mw_4_71) dX7_never_16 (fun q16 hq16 => ?_)
    refine r_bipush hx hb dX7_never_19 rfl (fun x19 e19 => ?_)
    have hF := bn hF e19
    refine lv_iload_n hx hb dX7_never_21 rfl (lv_at hl 1 rfl) ?_
    refine r_iadd hx hb dX7_never_22 (by omega) (by omega) (fun x22 e22 => ?_)
    have hF := bn hF e22
    refine al_41 hx hb hK hT hq16 (by omega) (by omega) dX7_never_23 (fun x23 e23 g23 => ?_)
    have hF := bn hF e23
    have f23 := gd59_20 g23 (by omega) (by omega)
    refine x_shl1 hx hb dX7_never_24 (by omega) (by omega) (by omega) (fun x24 e24 g24 h24 => ?_)
    have hF := bn hF e24
    refine lv_istore_n (lv' := [(2, .int x24), (0, .ref h0), (1, .int p1)]) hx hb dX7_never_25 rfl hl (by decide) rfl (fun ls hl => ?_)
    refine r_iconst hx hb dX7_never_26 (by decide) (by decide) (fun x26 e26 => ?_)
    have hF := bn hF e26
    refine lv_istore_n (lv' := [(3, .int x26), (2, .int x24), (0, .ref h0), (1, .int p1)]) hx hb dX7_never_27 rfl hl (by decide) rfl (fun ls hl => ?_)
    have J28 : ∀ (n28 : Nat) (ls : Array Slot) (H : Heap) (locs : List Loc) (y28_2 : Int32) (y28_3 : Int32) (σj28 : Sg), (0 ≤ y28_3.toInt ∧ y28_3.toInt ≤ 8) → D_X7_never_28 p1.toInt n28 (σj28 o0) y28_2.toInt y28_3.toInt = some out → FR σ σj28 o0 → TY z (zA z) σj28 H → va_S (zA z) s.heap H locs → lv_has ls 4 [(0, .ref h0), (1, .int p1), (2, .int y28_2), (3, .int y28_3)] → W p l e (rmF 8 222) s m ([.ref h0, .int p1] : List Value).toArray below meth c H locs 0 0 (MQ below (QcI z (fun r H => ∃ σ' : Sg, some (r.toInt, σ' o0) = some out ∧ FR σ σ' o0 ∧ TY z (zA z) σ' H)) ([.ref h0, .int p1] : List Value).toArray s 0 0 (zA z)) (F0 m 28 ls []) := by
      intro n28
      induction n28 with
      | zero => intro ls H locs y28_2 y28_3 σj28 j28_y28_3 hF hfr hT hS hl; exact (no_s hF).elim
      | succ n28 ih28 =>
        intro ls H locs y28_2 y28_3 σj28 j28_y28_3 hF hfr hT hS hl
        rw [D_X7_never_28.eq_2] at hF
        refine lv_iload_n hx hb dX7_never_28 rfl (lv_at hl 3 rfl) ?_
        refine lv_aload_n hx hb dX7_never_29 rfl (lv_at hl 0 rfl) ?_
        refine gt_Model_now hx hb hts ic_Model hown hK hT g0 (hts _ mw_4_71) dX7_never_30 (fun q30 hq30 => ?_)
        refine r_bipush hx hb dX7_never_33 rfl (fun x33 e33 => ?_)
        have hF := bn hF e33
        refine al_41 hx hb hK hT hq30 (by omega) (by omega) dX7_never_35 (fun x35 e35 g35 => ?_)
        have hF := bn hF e35
        have f35 := gd59_31 g35 (by omega)
        refine r_icmp_ge (tgt := 72) hx hb dX7_never_36 (by decide) (fun c36 => ?_) (fun c36 => ?_)
        · have hF := ifn hF (Int.not_lt.mpr c36)
          refine r_iconst hx hb dX7_never_72 (by decide) (by decide) (fun x72 e72 => ?_)
          have hF := bn hF e72
          refine lv_aload_n hx hb dX7_never_73 rfl (lv_at hl 0 rfl) ?_
          refine gt_Model_men hx hb hts ic_Model hown hK hT g0 (hts _ mw_4_73) dX7_never_74 (fun x74 e74 f74 g74 => ?_)
          have hF := bn hF e74
          refine x_shl1 hx hb dX7_never_77 (by omega) (by omega) (by omega) (fun x77 e77 g77 h77 => ?_)
          have hF := bn hF e77
          refine r_iconst hx hb dX7_never_78 (by decide) (by decide) (fun x78 e78 => ?_)
          have hF := bn hF e78
          refine r_isub hx hb dX7_never_79 (by omega) (by omega) (fun x79 e79 => ?_)
          have hF := bn hF e79
          refine lv_iload_n hx hb dX7_never_80 rfl (lv_at hl 2 rfl) ?_
          refine r_iconst hx hb dX7_never_81 (by decide) (by decide) (fun x81 e81 => ?_)
          have hF := bn hF e81
          refine x_ixor hx hb dX7_never_82 (fun x82 e82 => ?_)
          have hF := bn hF e82
          refine x_iand hx hb dX7_never_83 (fun x83 e83 => ?_)
          have hF := bn hF e83
          exact rt_i hx hb hr hlk hS ⟨σj28, hF, hfr, hT⟩ dX7_never_84
        · have hF := ifp hF c36
          refine lv_aload_n hx hb dX7_never_39 rfl (lv_at hl 0 rfl) ?_
          refine lv_aload_n hx hb dX7_never_40 rfl (lv_at hl 0 rfl) ?_
          refine gt_Model_now hx hb hts ic_Model hown hK hT g0 (hts _ mw_4_71) dX7_never_41 (fun q41 hq41 => ?_)
          refine r_bipush hx hb dX7_never_44 rfl (fun x44 e44 => ?_)
          have hF := bn hF e44
          refine lv_iload_n hx hb dX7_never_46 rfl (lv_at hl 3 rfl) ?_
          refine r_iadd hx hb dX7_never_47 (by omega) (by omega) (fun x47 e47 => ?_)
          have hF := bn hF e47
          refine al_41 hx hb hK hT hq41 (by omega) (by omega) dX7_never_48 (fun x48 e48 g48 => ?_)
          have hF := bn hF e48
          obtain ⟨s49, hd49, -⟩ := bd1_s hF
          refine cl_Vv (rest := []) hC hK hSK (c_X7_danceOn l z σj28 h0 (o0) g0 x48 s49 hd49) k_X7_danceOn mw_5_88 ⟨rfl, rfl, Nat.le_of_ble_eq_true rfl, Nat.le_of_ble_eq_true rfl⟩ (rv_Model hK hT g0) hT rfl hl.1 rfl (Nat.le_of_ble_eq_true rfl) dX7_never_49 ⟨Nat.zero_le _, Nat.zero_le _⟩ hS (fun _ h => h) (fun _ _ h => h) (fun H locs hpo hS => ?_)
          obtain ⟨σ49, he49, hf49, hT⟩ := hpo
          have hF := bd1_r hF hd49 he49
          have hfr := FR_tr hf49 hfr
          refine lv_iload_n hx hb dX7_never_52 rfl (lv_at hl 2 rfl) ?_
          refine r_iconst hx hb dX7_never_53 (by decide) (by decide) (fun x53 e53 => ?_)
          have hF := bn hF e53
          refine lv_aload_n hx hb dX7_never_54 rfl (lv_at hl 0 rfl) ?_
          refine gt_Model_now hx hb hts ic_Model hown hK hT g0 (hts _ mw_4_71) dX7_never_55 (fun q55 hq55 => ?_)
          refine r_bipush hx hb dX7_never_58 rfl (fun x58 e58 => ?_)
          have hF := bn hF e58
          refine lv_iload_n hx hb dX7_never_60 rfl (lv_at hl 1 rfl) ?_
          refine r_iadd hx hb dX7_never_61 (by omega) (by omega) (fun x61 e61 => ?_)
          have hF := bn hF e61
          refine al_41 hx hb hK hT hq55 (by omega) (by omega) dX7_never_62 (fun x62 e62 g62 => ?_)
          have hF := bn hF e62
          have f62 := gd59_20 g62 (by omega) (by omega)
          refine x_shl1 hx hb dX7_never_63 (by omega) (by omega) (by omega) (fun x63 e63 g63 h63 => ?_)
          have hF := bn hF e63
          refine x_ior hx hb dX7_never_64 (fun x64 e64 => ?_)
          have hF := bn hF e64
          refine lv_istore_n (lv' := [(2, .int x64), (0, .ref h0), (1, .int p1), (3, .int y28_3)]) hx hb dX7_never_65 rfl hl (by decide) rfl (fun ls hl => ?_)
          refine r_iinc (lv' := fun v__ => [(3, .int v__), (2, .int x64), (0, .ref h0), (1, .int p1)]) hx hb dX7_never_66 hl (k := 3) rfl (by decide) (fun _ => rfl) ⟨by decide, by decide⟩ (by omega) (by omega) (fun x66 ls e66 hl => ?_)
          have hF := bn hF e66
          refine lv_goto (tgt := 28) hx hb dX7_never_69 (by decide) ?_
          exact ih28 ls _ _ x64 x66 σ49 (by omega) hF hfr hT hS (lv_sub hl [2, 3, 1, 0] rfl)
    exact J28 5000 ls _ _ x24 x26 σ11 (by omega) hF hfr hT hS (lv_sub hl [2, 3, 1, 0] rfl)
  · have hF := ifp hF c5
    refine r_iconst hx hb dX7_never_8 (by decide) (by decide) (fun x8 e8 => ?_)
    have hF := bn hF e8
    exact rt_i hx hb hr hlk hS ⟨σ, hF, hfr, hT⟩ dX7_never_9
theorem k_X7_period : cBV yX7_period cX7_period 5 (some .int) 1 := ⟨mw_5_135, mw_5_136, mw_1_8, mw_5_137, ⟨by decide, by decide, by decide⟩⟩
set_option maxHeartbeats 4000000 in
set_option maxRecDepth 100000 in
theorem c_X7_period (l : Launch) (z : Zt) (σ : Sg) (h0 o0 : Nat) (g0 : zG z h0 = (17, o0)) (p1 : Int32) (out : (Int × Lo)) (hF : D_X7_period (σ o0) p1.toInt = some out) : Met l yX7_period (uw yX7_period cX7_period 5 (some .int)) (rmF 7 198) (PcW z [.ref h0, .int p1] (fun H => TY z (zA z) σ H)) (QcI z (fun r H => ∃ σ' : Sg, some (r.toInt, σ' o0) = some out ∧ FR σ σ' o0 ∧ TY z (zA z) σ' H)) 0 0 (zA z) := by
  refine Met.ofW (cc := cX7_period) (maxL := 5) (ret := (some .int)) (by decide) rfl ?_
  intro p e s m args below meth c s₁ B hml hv
  obtain ⟨rfl, hT, hK, hSK⟩ := hv
  have hx := B.exec
  have hb := B.bytes
  have hr := B.returns
  have hts : ∀ w ∈ lw_ok, w.before ([.ref h0, .int p1] : List Value).toArray s = true := fun w hw => atoms_spec (ws := uw yX7_period cX7_period 5 (some .int)) B.pre w (List.mem_cons_of_mem _ hw)
  have hown : s.vm.findClass RX7 = some m.cls := findClass_of_methodNamed B.named
  have hlk := B.notSynchronized
  have hC : CallFix p m c cX7_period 5 s ([.ref h0, .int p1] : List Value).toArray lw_ok RX7 := ⟨hx, hb, hml, hown, hts⟩
  have hS : va_S (zA z) s.heap s.heap [] := va_S.rf
  have hl := lv_entry ([.ref h0, .int p1]) (n := 5) (Nat.le_of_ble_eq_true rfl)
  rw [lg_entry_eq]
  generalize (lg_sl ([.ref h0, .int p1]) ++ List.replicate (5 - (lg_sl ([.ref h0, .int p1])).length) Slot.unset).toArray = ls at hl ⊢
  have hl : lv_has ls 5 [(0, .ref h0), (1, .int p1)] := hl
  show W p l e (rmF 7 198) s m ([.ref h0, .int p1] : List Value).toArray below meth c s.heap [] 0 0 (MQ below (QcI z (fun r H => ∃ σ' : Sg, some (r.toInt, σ' o0) = some out ∧ FR σ σ' o0 ∧ TY z (zA z) σ' H)) ([.ref h0, .int p1] : List Value).toArray s 0 0 (zA z)) (F0 m 0 ls [])
  have hfr : FR σ σ o0 := FR_rf σ o0
  unfold D_X7_period at hF
  have mx_p1 := i_mx p1
  refine lv_iload_n hx hb dX7_period_0 rfl (lv_at hl 1 rfl) ?_
  obtain ⟨v1, hd1, -⟩ := bd0_s hF
  refine cl_Si (rest := []) hC hK hSK (c_X7_isFigure l z σ p1 v1 hd1) k_X7_isFigure mw_5_77 ⟨rfl, rfl, Nat.le_of_ble_eq_true rfl, Nat.le_of_ble_eq_true rfl⟩ hT rfl hl.1 rfl (Nat.le_of_ble_eq_true rfl) dX7_period_1 ⟨Nat.zero_le _, Nat.zero_le _⟩ hS (fun _ h => h) (fun _ _ h => h) (fun r1 H locs hpo hS => ?_)
  obtain ⟨he1, hT, u1_0, u1_1⟩ := hpo
  have hF := bd0_r hF hd1 he1
  refine r_if_ne (tgt := 9) hx hb dX7_period_4 (by decide) (fun c4 => ?_) (fun c4 => ?_)
  · have hF := ifn hF c4
    refine lv_aload_n hx hb dX7_period_9 rfl (lv_at hl 0 rfl) ?_
    obtain ⟨s10, hd10, -⟩ := bd1_s hF
    refine cl_Vv (rest := []) hC hK hSK (c_X7_starts l z σ h0 (o0) g0 s10 hd10) k_X7_starts mw_4_229 ⟨rfl, rfl, Nat.le_of_ble_eq_true rfl, Nat.le_of_ble_eq_true rfl⟩ (rv_Model hK hT g0) hT rfl hl.1 rfl (Nat.le_of_ble_eq_true rfl) dX7_period_10 ⟨Nat.zero_le _, Nat.zero_le _⟩ hS (fun _ h => h) (fun _ _ h => h) (fun H locs hpo hS => ?_)
    obtain ⟨σ10, he10, hf10, hT⟩ := hpo
    have hF := bd1_r hF hd10 he10
    have hfr := FR_tr hf10 hfr
    refine r_iconst hx hb dX7_period_13 (by decide) (by decide) (fun x13 e13 => ?_)
    have hF := bn hF e13
    refine lv_istore_n (lv' := [(2, .int x13), (0, .ref h0), (1, .int p1)]) hx hb dX7_period_14 rfl hl (by decide) rfl (fun ls hl => ?_)
    have J15 : ∀ (n15 : Nat) (ls : Array Slot) (H : Heap) (locs : List Loc) (y15_2 : Int32) (σj15 : Sg), (1 ≤ y15_2.toInt ∧ y15_2.toInt ≤ 61) → D_X7_period_15 p1.toInt n15 (σj15 o0) y15_2.toInt = some out → FR σ σj15 o0 → TY z (zA z) σj15 H → va_S (zA z) s.heap H locs → lv_has ls 5 [(0, .ref h0), (1, .int p1), (2, .int y15_2)] → W p l e (rmF 7 198) s m ([.ref h0, .int p1] : List Value).toArray below meth c H locs 0 0 (MQ below (QcI z (fun r H => ∃ σ' : Sg, some (r.toInt, σ' o0) = some out ∧ FR σ σ' o0 ∧ TY z (zA z) σ' H)) ([.ref h0, .int p1] : List Value).toArray s 0 0 (zA z)) (F0 m 15 ls []) := by
      intro n15
      induction n15 with
      | zero => intro ls H locs y15_2 σj15 j15_y15_2 hF hfr hT hS hl; exact (no_s hF).elim
      | succ n15 ih15 =>
        intro ls H locs y15_2 σj15 j15_y15_2 hF hfr hT hS hl
        rw [D_X7_period_15.eq_2] at hF
        refine lv_iload_n hx hb dX7_period_15 rfl (lv_at hl 2 rfl) ?_
        refine r_bipush hx hb dX7_period_16 rfl (fun x16 e16 => ?_)
        have hF := bn hF e16
        refine r_icmp_gt (tgt := 98) hx hb dX7_period_18 (by decide) (fun c18 => ?_) (fun c18 => ?_)
        · have hF := ifp hF c18
          refine r_bipush hx hb dX7_period_98 rfl (fun x98 e98 => ?_)
          have hF := bn hF e98
          exact rt_i hx hb hr hlk hS ⟨σj15, hF, hfr, hT⟩ dX7_period_100
        · have hF := ifn hF (Int.not_lt.mpr c18)
          refine lv_aload_n hx hb dX7_period_21 rfl (lv_at hl 0 rfl) ?_
          refine gt_Model_men hx hb hts ic_Model hown hK hT g0 (hts _ mw_4_73) dX7_period_22 (fun x22 e22 f22 g22 => ?_)
          have hF := bn hF e22
          refine r_if_le (tgt := 98) hx hb dX7_period_25 (by decide) (fun c25 => ?_) (fun c25 => ?_)
          · have hF := ifn hF (Int.not_lt.mpr c25)
            refine r_bipush hx hb dX7_period_98 rfl (fun x98 e98 => ?_)
            have hF := bn hF e98
            exact rt_i hx hb hr hlk hS ⟨σj15, hF, hfr, hT⟩ dX7_period_100
          · have hF := ifp hF c25
            refine lv_aload_n hx hb dX7_period_28 rfl (lv_at hl 0 rfl) ?_
            refine lv_iload_n hx hb dX7_period_29 rfl (lv_at hl 1 rfl) ?_
            obtain ⟨s30, hd30, -⟩ := bd1_s hF
            refine cl_Vv (rest := []) hC hK hSK (c_X7_changes l z σj15 h0 (o0) g0 p1 s30 hd30) k_X7_changes mw_5_92 ⟨rfl, rfl, Nat.le_of_ble_eq_true rfl, Nat.le_of_ble_eq_true rfl⟩ (rv_Model hK hT g0) hT rfl hl.1 rfl (Nat.le_of_ble_eq_true rfl) dX7_period_30 ⟨Nat.zero_le _, Nat.zero_le _⟩ hS (fun _ h => h) (fun _ _ h => h) (fun H locs hpo hS => ?_)
            obtain ⟨σ30, he30, hf30, hT⟩ := hpo
            have hF := bd1_r hF hd30 he30
            have hfr := FR_tr hf30 hfr
            refine r_iconst hx hb dX7_period_33 (by decide) (by decide) (fun x33 e33 => ?_)
            have hF := bn hF e33
            refine lv_istore_n (lv' := [(3, .int x33), (0, .ref h0), (1, .int p1), (2, .int y15_2)]) hx hb dX7_period_34 rfl hl (by decide) rfl (fun ls hl => ?_)
            refine r_iconst hx hb dX7_period_35 (by decide) (by decide) (fun x35 e35 => ?_)
            have hF := bn hF e35
            refine lv_istore (lv' := [(4, .int x35), (3, .int x33), (0, .ref h0), (1, .int p1), (2, .int y15_2)]) hx hb dX7_period_36 hl (by decide) rfl (fun ls hl => ?_)
            have J38 : ∀ (n38 : Nat) (ls : Array Slot) (H : Heap) (locs : List Loc) (y38_3 : Int32) (y38_4 : Int32) (σj38 : Sg), (0 ≤ y38_3.toInt ∧ y38_3.toInt ≤ 1) → (0 ≤ y38_4.toInt ∧ y38_4.toInt ≤ 5) → D_X7_period_38 (D_X7_period_15 p1.toInt n15) y15_2.toInt n38 (σj38 o0) y38_3.toInt y38_4.toInt = some out → FR σ σj38 o0 → TY z (zA z) σj38 H → va_S (zA z) s.heap H locs → lv_has ls 5 [(0, .ref h0), (1, .int p1), (2, .int y15_2), (3, .int y38_3), (4, .int y38_4)] → W p l e (rmF 7 198) s m ([.ref h0, .int p1] : List Value).toArray below meth c H locs 0 0 (MQ below (QcI z (fun r H => ∃ σ' : Sg, some (r.toInt, σ' o0) = some out ∧ FR σ σ' o0 ∧ TY z (zA z) σ' H)) ([.ref h0, .int p1] : List Value).toArray s 0 0 (zA z)) (F0 m 38 ls []) := by
              intro n38
              induction n38 with
              | zero => intro ls H locs y38_3 y38_4 σj38 j38_y38_3 j38_y38_4 hF hfr hT hS hl; exact (no_s hF).elim
              | succ n38 ih38 =>
                intro ls H locs y38_3 y38_4 σj38 j38_y38_3 j38_y38_4 hF hfr hT hS hl
                rw [D_X7_period_38.eq_2] at hF
                refine lv_iload hx hb dX7_period_38 (lv_at hl 4 rfl) ?_
                refine lv_aload_n hx hb dX7_period_40 rfl (lv_at hl 0 rfl) ?_
                refine gt_Model_men hx hb hts ic_Model hown hK hT g0 (hts _ mw_4_73) dX7_period_41 (fun x41 e41 f41 g41 => ?_)
                have hF := bn hF e41
                refine r_icmp_ge (tgt := 86) hx hb dX7_period_44 (by decide) (fun c44 => ?_) (fun c44 => ?_)
                · have hF := ifn hF (Int.not_lt.mpr c44)
                  refine lv_iload_n hx hb dX7_period_86 rfl (lv_at hl 3 rfl) ?_
                  refine r_if_eq (tgt := 92) hx hb dX7_period_87 (by decide) (fun c87 => ?_) (fun c87 => ?_)
                  · have hF := ifp hF c87
                    refine r_iinc (lv' := fun v__ => [(2, .int v__), (0, .ref h0), (1, .int p1), (3, .int y38_3), (4, .int y38_4)]) hx hb dX7_period_92 hl (k := 2) rfl (by decide) (fun _ => rfl) ⟨by decide, by decide⟩ (by omega) (by omega) (fun x92 ls e92 hl => ?_)
                    have hF := bn hF e92
                    refine lv_goto (tgt := 15) hx hb dX7_period_95 (by decide) ?_
                    exact ih15 ls _ _ x92 σj38 (by omega) hF hfr hT hS (lv_sub hl [1, 2, 0] rfl)
                  · have hF := ifn hF c87
                    refine lv_iload_n hx hb dX7_period_90 rfl (lv_at hl 2 rfl) ?_
                    exact rt_i hx hb hr hlk hS ⟨σj38, hF, hfr, hT⟩ dX7_period_91
                · have hF := ifp hF c44
                  refine lv_iload_n hx hb dX7_period_47 rfl (lv_at hl 3 rfl) ?_
                  have J79 : ∀ (ls : Array Slot) (H : Heap) (locs : List Loc) (t79_0 : Int32) (σj79 : Sg), (0 ≤ t79_0.toInt ∧ t79_0.toInt ≤ 1) → D_X7_period_79 (D_X7_period_15 p1.toInt n15) (D_X7_period_38 (D_X7_period_15 p1.toInt n15) y15_2.toInt n38) y38_4.toInt (σj79 o0) t79_0.toInt = some out → FR σ σj79 o0 → TY z (zA z) σj79 H → va_S (zA z) s.heap H locs → lv_has ls 5 [(0, .ref h0), (1, .int p1), (2, .int y15_2), (3, .int y38_3), (4, .int y38_4)] → W p l e (rmF 7 198) s m ([.ref h0, .int p1] : List Value).toArray below meth c H locs 0 0 (MQ below (QcI z (fun r H => ∃ σ' : Sg, some (r.toInt, σ' o0) = some out ∧ FR σ σ' o0 ∧ TY z (zA z) σ' H)) ([.ref h0, .int p1] : List Value).toArray s 0 0 (zA z)) (F0 m 79 ls [.int t79_0]) := by
                    intro ls H locs t79_0 σj79 j79_t79_0 hF hfr hT hS hl
                    unfold D_X7_period_79 at hF
                    refine lv_istore_n (lv' := [(3, .int t79_0), (0, .ref h0), (1, .int p1), (2, .int y15_2), (4, .int y38_4)]) hx hb dX7_period_79 rfl hl (by decide) rfl (fun ls hl => ?_)
                    refine r_iinc (lv' := fun v__ => [(4, .int v__), (3, .int t79_0), (0, .ref h0), (1, .int p1), (2, .int y15_2)]) hx hb dX7_period_80 hl (k := 4) rfl (by decide) (fun _ => rfl) ⟨by decide, by decide⟩ (by omega) (by omega) (fun x80 ls e80 hl => ?_)
                    have hF := bn hF e80
                    refine lv_goto (tgt := 38) hx hb dX7_period_83 (by decide) ?_
                    exact ih38 ls _ _ t79_0 x80 σj79 (by omega) (by omega) hF hfr hT hS (lv_sub hl [2, 3, 4, 1, 0] rfl)
                  have J78 : ∀ (ls : Array Slot) (H : Heap) (locs : List Loc) (σj78 : Sg), D_X7_period_78 (D_X7_period_15 p1.toInt n15) (D_X7_period_38 (D_X7_period_15 p1.toInt n15) y15_2.toInt n38) y38_4.toInt (σj78 o0) = some out → FR σ σj78 o0 → TY z (zA z) σj78 H → va_S (zA z) s.heap H locs → lv_has ls 5 [(0, .ref h0), (1, .int p1), (2, .int y15_2), (3, .int y38_3), (4, .int y38_4)] → W p l e (rmF 7 198) s m ([.ref h0, .int p1] : List Value).toArray below meth c H locs 0 0 (MQ below (QcI z (fun r H => ∃ σ' : Sg, some (r.toInt, σ' o0) = some out ∧ FR σ σ' o0 ∧ TY z (zA z) σ' H)) ([.ref h0, .int p1] : List Value).toArray s 0 0 (zA z)) (F0 m 78 ls []) := by
                    intro ls H locs σj78 hF hfr hT hS hl
                    unfold D_X7_period_78 at hF
                    refine r_iconst hx hb dX7_period_78 (by decide) (by decide) (fun x78 e78 => ?_)
                    have hF := bn hF e78
                    exact J79 ls _ _ x78 σj78 (by omega) hF hfr hT hS (lv_sub hl [0, 1, 2, 3, 4] rfl)
                  refine r_if_eq (tgt := 78) hx hb dX7_period_48 (by decide) (fun c48 => ?_) (fun c48 => ?_)
                  · have hF := ifp hF c48
                    exact J78 ls _ _ σj38 hF hfr hT hS (lv_sub hl [0, 1, 2, 3, 4] rfl)
                  · have hF := ifn hF c48
                    refine lv_aload_n hx hb dX7_period_51 rfl (lv_at hl 0 rfl) ?_
                    refine gt_Model_now hx hb hts ic_Model hown hK hT g0 (hts _ mw_4_71) dX7_period_52 (fun q52 hq52 => ?_)
                    refine r_bipush hx hb dX7_period_55 rfl (fun x55 e55 => ?_)
                    have hF := bn hF e55
                    refine lv_iload hx hb dX7_period_57 (lv_at hl 4 rfl) ?_
                    refine r_iadd hx hb dX7_period_59 (by omega) (by omega) (fun x59 e59 => ?_)
                    have hF := bn hF e59
                    refine al_41 hx hb hK hT hq52 (by omega) (by omega) dX7_period_60 (fun x60 e60 g60 => ?_)
                    have hF := bn hF e60
                    have f60 := gd59_20 g60 (by omega) (by omega)
                    refine lv_aload_n hx hb dX7_period_61 rfl (lv_at hl 0 rfl) ?_
                    refine gt_Model_st hx hb hts ic_Model hown hK hT g0 (hts _ mw_4_70) dX7_period_62 (fun q62 hq62 => ?_)
                    refine r_bipush hx hb dX7_period_65 rfl (fun x65 e65 => ?_)
                    have hF := bn hF e65
                    refine lv_iload hx hb dX7_period_67 (lv_at hl 4 rfl) ?_
                    refine r_iadd hx hb dX7_period_69 (by omega) (by omega) (fun x69 e69 => ?_)
                    have hF := bn hF e69
                    refine al_40 hx hb hK hT hq62 (by omega) (by omega) dX7_period_70 (fun x70 e70 g70 => ?_)
                    have hF := bn hF e70
                    have f70 := gd59_20 (gd177_e g70 (by omega)) (by omega) (by omega)
                    refine r_icmp_ne (tgt := 78) hx hb dX7_period_71 (by decide) (fun c71 => ?_) (fun c71 => ?_)
                    · have hF := ifn hF c71
                      exact J78 ls _ _ σj38 hF hfr hT hS (lv_sub hl [0, 1, 2, 3, 4] rfl)
                    · have hF := ifp hF c71
                      refine r_iconst hx hb dX7_period_74 (by decide) (by decide) (fun x74 e74 => ?_)
                      have hF := bn hF e74
                      refine lv_goto (tgt := 79) hx hb dX7_period_75 (by decide) ?_
                      exact J79 ls _ _ x74 σj38 (by omega) hF hfr hT hS (lv_sub hl [0, 1, 2, 3, 4] rfl)
            exact J38 5000 ls _ _ x33 x35 σ30 (by omega) (by omega) hF hfr hT hS (lv_sub hl [2, 3, 4, 1, 0] rfl)
    exact J15 5000 ls _ _ x13 σ10 (by omega) hF hfr hT hS (lv_sub hl [1, 2, 0] rfl)
  · have hF := ifp hF c4
    refine r_iconst hx hb dX7_period_7 (by decide) (by decide) (fun x7 e7 => ?_)
    have hF := bn hF e7
    exact rt_i hx hb hr hlk hS ⟨σ, hF, hfr, hT⟩ dX7_period_8
theorem k_X7_best : cBV yX7_best cX7_best 8 (some .int) 2 := ⟨mw_5_139, mw_5_140, mw_1_8, mw_5_141, ⟨by decide, by decide, by decide⟩⟩
set_option maxHeartbeats 4000000 in
set_option maxRecDepth 100000 in
theorem c_X7_best (l : Launch) (z : Zt) (σ : Sg) (h0 o0 : Nat) (g0 : zG z h0 = (17, o0)) (p1 : Int32) (p2 : Int32) (out : (Int × Lo)) (hF : D_X7_best (σ o0) p1.toInt p2.toInt = some out) : Met l yX7_best (uw yX7_best cX7_best 8 (some .int)) (rmF 8 222) (PcW z [.ref h0, .int p1, .int p2] (fun H => TY z (zA z) σ H)) (QcI z (fun r H => ∃ σ' : Sg, some (r.toInt, σ' o0) = some out ∧ FR σ σ' o0 ∧ TY z (zA z) σ' H)) 0 0 (zA z) := by
  refine Met.ofW (cc := cX7_best) (maxL := 8) (ret := (some .int)) (by decide) rfl ?_
  intro p e s m args below meth c s₁ B hml hv
  obtain ⟨rfl, hT, hK, hSK⟩ := hv
  have hx := B.exec
  have hb := B.bytes
  have hr := B.returns
  have hts : ∀ w ∈ lw_ok, w.before ([.ref h0, .int p1, .int p2] : List Value).toArray s = true := fun w hw => atoms_spec (ws := uw yX7_best cX7_best 8 (some .int)) B.pre w (List.mem_cons_of_mem _ hw)
  have hown : s.vm.findClass RX7 = some m.cls := findClass_of_methodNamed B.named
  have hlk := B.notSynchronized
  have hC : CallFix p m c cX7_best 8 s ([.ref h0, .int p1, .int p2] : List Value).toArray lw_ok RX7 := ⟨hx, hb, hml, hown, hts⟩
  have hS : va_S (zA z) s.heap s.heap [] := va_S.rf
  have hl := lv_entry ([.ref h0, .int p1, .int p2]) (n := 8) (Nat.le_of_ble_eq_true rfl)
  rw [lg_entry_eq]
  generalize (lg_sl ([.ref h0, .int p1, .int p2]) ++ List.replicate (8 - (lg_sl ([.ref h0, .int p1, .int p2])).length) Slot.unset).toArray = ls at hl ⊢
  have hl : lv_has ls 8 [(0, .ref h0), (1, .int p1), (2, .int p2)] := hl
  show W p l e (rmF 8 222) s m ([.ref h0, .int p1, .int p2] : List Value).toArray below meth c s.heap [] 0 0 (MQ below (QcI z (fun r H => ∃ σ' : Sg, some (r.toInt, σ' o0) = some out ∧ FR σ σ' o0 ∧ TY z (zA z) σ' H)) ([.ref h0, .int p1, .int p2] : List Value).toArray s 0 0 (zA z)) (F0 m 0 ls [])
  have hfr : FR σ σ o0 := FR_rf σ o0
  unfold D_X7_best at hF
  have mx_p1 := i_mx p1
  have mx_p2 := i_mx p2
  refine lv_iload_n hx hb dX7_best_0 rfl (lv_at hl 1 rfl) ?_
  refine r_i2l hx hb dX7_best_1 (fun x1 e1 => ?_)
  have hF := bn hF e1
  refine r_lconst0 hx hb dX7_best_2 (fun x2 e2 => ?_)
  have hF := bn hF e2
  refine r_ldc2 (4) rfl hx hb hts hown mw_5_112 dX7_best_3 (fun x3 e3 => ?_)
  have hF := bn hF e3
  obtain ⟨v6, hd6, -⟩ := bd0_s hF
  refine cl_Si (rest := []) hC hK hSK (c_X7_in l z σ x1 x2 x3 v6 hd6) k_X7_in mw_4_154 ⟨rfl, rfl, Nat.le_of_ble_eq_true rfl, Nat.le_of_ble_eq_true rfl⟩ hT rfl hl.1 rfl (Nat.le_of_ble_eq_true rfl) dX7_best_6 ⟨Nat.zero_le _, Nat.zero_le _⟩ hS (fun _ h => h) (fun _ _ h => h) (fun r6 H locs hpo hS => ?_)
  obtain ⟨he6, hT, u6_0, u6_1⟩ := hpo
  have hF := bd0_r hF hd6 he6
  refine r_if_eq (tgt := 31) hx hb dX7_best_9 (by decide) (fun c9 => ?_) (fun c9 => ?_)
  · have hF := ifp hF c9
    refine r_iconst hx hb dX7_best_31 (by decide) (by decide) (fun x31 e31 => ?_)
    have hF := bn hF e31
    exact rt_i hx hb hr hlk hS ⟨σ, hF, hfr, hT⟩ dX7_best_32
  · have hF := ifn hF c9
    refine lv_iload_n hx hb dX7_best_12 rfl (lv_at hl 2 rfl) ?_
    have J33 : ∀ (ls : Array Slot) (H : Heap) (locs : List Loc) (σj33 : Sg), D_X7_best_33 p1.toInt p2.toInt (σj33 o0) = some out → FR σ σj33 o0 → TY z (zA z) σj33 H → va_S (zA z) s.heap H locs → lv_has ls 8 [(0, .ref h0), (1, .int p1), (2, .int p2)] → W p l e (rmF 8 222) s m ([.ref h0, .int p1, .int p2] : List Value).toArray below meth c H locs 0 0 (MQ below (QcI z (fun r H => ∃ σ' : Sg, some (r.toInt, σ' o0) = some out ∧ FR σ σ' o0 ∧ TY z (zA z) σ' H)) ([.ref h0, .int p1, .int p2] : List Value).toArray s 0 0 (zA z)) (F0 m 33 ls []) := by
      intro ls H locs σj33 hF hfr hT hS hl
      unfold D_X7_best_33 at hF
      refine r_iconst hx hb dX7_best_33 (by decide) (by decide) (fun x33 e33 => ?_)
      have hF := bn hF e33
      refine lv_istore_n (lv' := [(3, .int x33), (0, .ref h0), (1, .int p1), (2, .int p2)]) hx hb dX7_best_34 rfl hl (by decide) rfl (fun ls hl => ?_)
      refine r_bipush hx hb dX7_best_35 rfl (fun x35 e35 => ?_)
      have hF := bn hF e35
      refine lv_istore (lv' := [(4, .int x35), (3, .int x33), (0, .ref h0), (1, .int p1), (2, .int p2)]) hx hb dX7_best_37 hl (by decide) rfl (fun ls hl => ?_)
      refine r_iconst hx hb dX7_best_39 (by decide) (by decide) (fun x39 e39 => ?_)
      have hF := bn hF e39
      refine lv_istore (lv' := [(5, .int x39), (4, .int x35), (3, .int x33), (0, .ref h0), (1, .int p1), (2, .int p2)]) hx hb dX7_best_40 hl (by decide) rfl (fun ls hl => ?_)
      have J42 : ∀ (n42 : Nat) (ls : Array Slot) (H : Heap) (locs : List Loc) (y42_3 : Int32) (y42_4 : Int32) (y42_5 : Int32) (σj42 : Sg), D_X7_best_42 p1.toInt p2.toInt n42 (σj42 o0) y42_3.toInt y42_4.toInt y42_5.toInt = some out → FR σ σj42 o0 → TY z (zA z) σj42 H → va_S (zA z) s.heap H locs → lv_has ls 8 [(0, .ref h0), (1, .int p1), (2, .int p2), (3, .int y42_3), (4, .int y42_4), (5, .int y42_5)] → W p l e (rmF 8 222) s m ([.ref h0, .int p1, .int p2] : List Value).toArray below meth c H locs 0 0 (MQ below (QcI z (fun r H => ∃ σ' : Sg, some (r.toInt, σ' o0) = some out ∧ FR σ σ' o0 ∧ TY z (zA z) σ' H)) ([.ref h0, .int p1, .int p2] : List Value).toArray s 0 0 (zA z)) (F0 m 42 ls []) := by
        intro n42
        induction n42 with
        | zero => intro ls H locs y42_3 y42_4 y42_5 σj42 hF hfr hT hS hl; exact (no_s hF).elim
        | succ n42 ih42 =>
          intro ls H locs y42_3 y42_4 y42_5 σj42 hF hfr hT hS hl
          rw [D_X7_best_42.eq_2] at hF
          refine lv_iload hx hb dX7_best_42 (lv_at hl 5 rfl) ?_
          refine r_iconst hx hb dX7_best_44 (by decide) (by decide) (fun x44 e44 => ?_)
          have hF := bn hF e44
          refine lv_iload_n hx hb dX7_best_45 rfl (lv_at hl 1 rfl) ?_
          obtain ⟨v46, hd46, -⟩ := bd0_s hF
          refine cl_Si (rest := [.int y42_5]) hC hK hSK (c_X7_power l z σj42 x44 p1 v46 hd46) k_X7_power mw_5_142 ⟨rfl, rfl, Nat.le_of_ble_eq_true rfl, Nat.le_of_ble_eq_true rfl⟩ hT rfl hl.1 rfl (Nat.le_of_ble_eq_true rfl) dX7_best_46 ⟨Nat.zero_le _, Nat.zero_le _⟩ hS (fun _ h => h) (fun _ _ h => h) (fun r46 H locs hpo hS => ?_)
          obtain ⟨he46, hT⟩ := hpo
          have hF := bd0_r hF hd46 he46
          refine r_icmp_ge (tgt := 162) hx hb dX7_best_49 (by decide) (fun c49 => ?_) (fun c49 => ?_)
          · have hF := ifn hF (Int.not_lt.mpr c49)
            refine lv_iload hx hb dX7_best_162 (lv_at hl 4 rfl) ?_
            refine r_bipush hx hb dX7_best_164 rfl (fun x164 e164 => ?_)
            have hF := bn hF e164
            have J173 : ∀ (ls : Array Slot) (H : Heap) (locs : List Loc) (σj173 : Sg), D_X7_best_173 y42_3.toInt y42_4.toInt (σj173 o0) = some out → FR σ σj173 o0 → TY z (zA z) σj173 H → va_S (zA z) s.heap H locs → lv_has ls 8 [(0, .ref h0), (1, .int p1), (2, .int p2), (3, .int y42_3), (4, .int y42_4), (5, .int y42_5)] → W p l e (rmF 8 222) s m ([.ref h0, .int p1, .int p2] : List Value).toArray below meth c H locs 0 0 (MQ below (QcI z (fun r H => ∃ σ' : Sg, some (r.toInt, σ' o0) = some out ∧ FR σ σ' o0 ∧ TY z (zA z) σ' H)) ([.ref h0, .int p1, .int p2] : List Value).toArray s 0 0 (zA z)) (F0 m 173 ls []) := by
              intro ls H locs σj173 hF hfr hT hS hl
              unfold D_X7_best_173 at hF
              refine lv_iload hx hb dX7_best_173 (lv_at hl 4 rfl) ?_
              refine r_bipush hx hb dX7_best_175 rfl (fun x175 e175 => ?_)
              have hF := bn hF e175
              refine r_icmp_ne (tgt := 185) hx hb dX7_best_177 (by decide) (fun c177 => ?_) (fun c177 => ?_)
              · have hF := ifn hF c177
                refine lv_iload_n hx hb dX7_best_185 rfl (lv_at hl 3 rfl) ?_
                exact rt_i hx hb hr hlk hS ⟨σj173, hF, hfr, hT⟩ dX7_best_186
              · have hF := ifp hF c177
                refine r_bipush hx hb dX7_best_180 rfl (fun x180 e180 => ?_)
                have hF := bn hF e180
                refine lv_goto (tgt := 186) hx hb dX7_best_182 (by decide) ?_
                exact rt_i hx hb hr hlk hS ⟨σj173, hF, hfr, hT⟩ dX7_best_186
            refine r_icmp_eq (tgt := 173) hx hb dX7_best_166 (by decide) (fun c166 => ?_) (fun c166 => ?_)
            · have hF := ifp hF c166
              exact J173 ls _ _ σj42 hF hfr hT hS (lv_sub hl [0, 1, 2, 3, 4, 5] rfl)
            · have hF := ifn hF c166
              refine lv_iload_n hx hb dX7_best_169 rfl (lv_at hl 2 rfl) ?_
              refine r_if_ne (tgt := 187) hx hb dX7_best_170 (by decide) (fun c170 => ?_) (fun c170 => ?_)
              · have hF := ifn hF c170
                refine lv_iload_n hx hb dX7_best_187 rfl (lv_at hl 2 rfl) ?_
                refine r_bipush hx hb dX7_best_188 rfl (fun x188 e188 => ?_)
                have hF := bn hF e188
                refine x_isub hx hb dX7_best_190 (fun x190 e190 => ?_)
                have hF := bn hF e190
                refine lv_iload_n hx hb dX7_best_191 rfl (lv_at hl 1 rfl) ?_
                refine r_icmp_ge (tgt := 208) hx hb dX7_best_192 (by decide) (fun c192 => ?_) (fun c192 => ?_)
                · have hF := ifn hF (Int.not_lt.mpr c192)
                  refine r_bipush hx hb dX7_best_208 rfl (fun x208 e208 => ?_)
                  have hF := bn hF e208
                  exact rt_i hx hb hr hlk hS ⟨σj42, hF, hfr, hT⟩ dX7_best_210
                · have hF := ifp hF c192
                  refine lv_iload hx hb dX7_best_195 (lv_at hl 4 rfl) ?_
                  refine lv_iload_n hx hb dX7_best_197 rfl (lv_at hl 1 rfl) ?_
                  refine lv_iload_n hx hb dX7_best_198 rfl (lv_at hl 2 rfl) ?_
                  refine r_bipush hx hb dX7_best_199 rfl (fun x199 e199 => ?_)
                  have hF := bn hF e199
                  refine x_isub hx hb dX7_best_201 (fun x201 e201 => ?_)
                  have hF := bn hF e201
                  obtain ⟨v202, hd202, -⟩ := bd0_s hF
                  refine cl_Si (rest := []) hC hK hSK (c_X7_figureIn l z σj42 y42_4 p1 x201 v202 hd202) k_X7_figureIn mw_5_145 ⟨rfl, rfl, Nat.le_of_ble_eq_true rfl, Nat.le_of_ble_eq_true rfl⟩ hT rfl hl.1 rfl (Nat.le_of_ble_eq_true rfl) dX7_best_202 ⟨Nat.zero_le _, Nat.zero_le _⟩ hS (fun _ h => h) (fun _ _ h => h) (fun r202 H locs hpo hS => ?_)
                  obtain ⟨he202, hT, u202_0⟩ := hpo
                  have hF := bd0_r hF hd202 he202
                  refine lv_goto (tgt := 210) hx hb dX7_best_205 (by decide) ?_
                  exact rt_i hx hb hr hlk hS ⟨σj42, hF, hfr, hT⟩ dX7_best_210
              · have hF := ifp hF c170
                exact J173 ls _ _ σj42 hF hfr hT hS (lv_sub hl [0, 1, 2, 3, 4, 5] rfl)
          · have hF := ifp hF c49
            refine r_iconst hx hb dX7_best_52 (by decide) (by decide) (fun x52 e52 => ?_)
            have hF := bn hF e52
            refine lv_istore (lv' := [(6, .int x52), (0, .ref h0), (1, .int p1), (2, .int p2), (3, .int y42_3), (4, .int y42_4), (5, .int y42_5)]) hx hb dX7_best_53 hl (by decide) rfl (fun ls hl => ?_)
            refine lv_aload_n hx hb dX7_best_55 rfl (lv_at hl 1 rfl) ?_
            obtain ⟨s56, hd56, -⟩ := bd1_s hF
            refine cl_Vv (rest := []) hC hK hSK (c_X7_starts l z σj42 h0 (o0) g0 s56 hd56) k_X7_starts mw_4_229 ⟨rfl, rfl, Nat.le_of_ble_eq_true rfl, Nat.le_of_ble_eq_true rfl⟩ (rv_Model hK hT g0) hT rfl hl.1 rfl (Nat.le_of_ble_eq_true rfl) dX7_best_56 ⟨Nat.zero_le _, Nat.zero_le _⟩ hS (fun _ h => h) (fun _ _ h => h) (fun H locs hpo hS => ?_)
            obtain ⟨σ56, he56, hf56, hT⟩ := hpo
            have hF := bd1_r hF hd56 he56
            have hfr := FR_tr hf56 hfr
            refine r_iconst hx hb dX7_best_59 (by decide) (by decide) (fun x59 e59 => ?_)
            have hF := bn hF e59
            refine lv_istore (lv' := [(7, .int x59), (6, .int x52), (0, .ref h0), (1, .int p1), (2, .int p2), (3, .int y42_3), (4, .int y42_4), (5, .int y42_5)]) hx hb dX7_best_60 hl (by decide) rfl (fun ls hl => ?_)
            have J62 : ∀ (n62 : Nat) (ls : Array Slot) (H : Heap) (locs : List Loc) (y62_6 : Int32) (y62_7 : Int32) (σj62 : Sg), (0 ≤ y62_7.toInt ∧ y62_7.toInt ≤ 4) → D_X7_best_62 (D_X7_best_42 p1.toInt p2.toInt n42) p1.toInt y42_3.toInt y42_4.toInt y42_5.toInt n62 (σj62 o0) y62_6.toInt y62_7.toInt = some out → FR σ σj62 o0 → TY z (zA z) σj62 H → va_S (zA z) s.heap H locs → lv_has ls 8 [(0, .ref h0), (1, .int p1), (2, .int p2), (3, .int y42_3), (4, .int y42_4), (5, .int y42_5), (6, .int y62_6), (7, .int y62_7)] → W p l e (rmF 8 222) s m ([.ref h0, .int p1, .int p2] : List Value).toArray below meth c H locs 0 0 (MQ below (QcI z (fun r H => ∃ σ' : Sg, some (r.toInt, σ' o0) = some out ∧ FR σ σ' o0 ∧ TY z (zA z) σ' H)) ([.ref h0, .int p1, .int p2] : List Value).toArray s 0 0 (zA z)) (F0 m 62 ls []) := by
              intro n62
              induction n62 with
              | zero => intro ls H locs y62_6 y62_7 σj62 j62_y62_7 hF hfr hT hS hl; exact (no_s hF).elim
              | succ n62 ih62 =>
                intro ls H locs y62_6 y62_7 σj62 j62_y62_7 hF hfr hT hS hl
                rw [D_X7_best_62.eq_2] at hF
                refine lv_iload hx hb dX7_best_62 (lv_at hl 7 rfl) ?_
                refine lv_iload_n hx hb dX7_best_64 rfl (lv_at hl 1 rfl) ?_
                have J102 : ∀ (ls : Array Slot) (H : Heap) (locs : List Loc) (σj102 : Sg), D_X7_best_102 (D_X7_best_42 p1.toInt p2.toInt n42) y42_3.toInt y42_4.toInt y42_5.toInt y62_6.toInt (σj102 o0) = some out → FR σ σj102 o0 → TY z (zA z) σj102 H → va_S (zA z) s.heap H locs → lv_has ls 8 [(0, .ref h0), (1, .int p1), (2, .int p2), (3, .int y42_3), (4, .int y42_4), (5, .int y42_5), (6, .int y62_6), (7, .int y62_7)] → W p l e (rmF 8 222) s m ([.ref h0, .int p1, .int p2] : List Value).toArray below meth c H locs 0 0 (MQ below (QcI z (fun r H => ∃ σ' : Sg, some (r.toInt, σ' o0) = some out ∧ FR σ σ' o0 ∧ TY z (zA z) σ' H)) ([.ref h0, .int p1, .int p2] : List Value).toArray s 0 0 (zA z)) (F0 m 102 ls []) := by
                  intro ls H locs σj102 hF hfr hT hS hl
                  unfold D_X7_best_102 at hF
                  refine lv_iload hx hb dX7_best_102 (lv_at hl 6 rfl) ?_
                  have J123 : ∀ (ls : Array Slot) (H : Heap) (locs : List Loc) (t123_0 : Int32) (σj123 : Sg), (0 ≤ t123_0.toInt ∧ t123_0.toInt ≤ 1) → D_X7_best_123 (D_X7_best_42 p1.toInt p2.toInt n42) y42_3.toInt y42_4.toInt y42_5.toInt (σj123 o0) t123_0.toInt = some out → FR σ σj123 o0 → TY z (zA z) σj123 H → va_S (zA z) s.heap H locs → lv_has ls 8 [(0, .ref h0), (1, .int p1), (2, .int p2), (3, .int y42_3), (4, .int y42_4), (5, .int y42_5), (6, .int y62_6), (7, .int y62_7)] → W p l e (rmF 8 222) s m ([.ref h0, .int p1, .int p2] : List Value).toArray below meth c H locs 0 0 (MQ below (QcI z (fun r H => ∃ σ' : Sg, some (r.toInt, σ' o0) = some out ∧ FR σ σ' o0 ∧ TY z (zA z) σ' H)) ([.ref h0, .int p1, .int p2] : List Value).toArray s 0 0 (zA z)) (F0 m 123 ls [.int t123_0]) := by
                    intro ls H locs t123_0 σj123 j123_t123_0 hF hfr hT hS hl
                    unfold D_X7_best_123 at hF
                    refine lv_istore (lv' := [(7, .int t123_0), (0, .ref h0), (1, .int p1), (2, .int p2), (3, .int y42_3), (4, .int y42_4), (5, .int y42_5), (6, .int y62_6)]) hx hb dX7_best_123 hl (by decide) rfl (fun ls hl => ?_)
                    refine lv_iload hx hb dX7_best_125 (lv_at hl 0 rfl) ?_
                    have J137 : ∀ (ls : Array Slot) (H : Heap) (locs : List Loc) (t137_0 : Int32) (σj137 : Sg), D_X7_best_137 (D_X7_best_42 p1.toInt p2.toInt n42) t123_0.toInt y42_3.toInt y42_5.toInt (σj137 o0) t137_0.toInt = some out → FR σ σj137 o0 → TY z (zA z) σj137 H → va_S (zA z) s.heap H locs → lv_has ls 8 [(0, .ref h0), (1, .int p1), (2, .int p2), (3, .int y42_3), (4, .int y42_4), (5, .int y42_5), (6, .int y62_6), (7, .int t123_0)] → W p l e (rmF 8 222) s m ([.ref h0, .int p1, .int p2] : List Value).toArray below meth c H locs 0 0 (MQ below (QcI z (fun r H => ∃ σ' : Sg, some (r.toInt, σ' o0) = some out ∧ FR σ σ' o0 ∧ TY z (zA z) σ' H)) ([.ref h0, .int p1, .int p2] : List Value).toArray s 0 0 (zA z)) (F0 m 137 ls [.int t137_0]) := by
                      intro ls H locs t137_0 σj137 hF hfr hT hS hl
                      unfold D_X7_best_137 at hF
                      refine lv_istore (lv' := [(4, .int t137_0), (0, .ref h0), (1, .int p1), (2, .int p2), (3, .int y42_3), (5, .int y42_5), (6, .int y62_6), (7, .int t123_0)]) hx hb dX7_best_137 hl (by decide) rfl (fun ls hl => ?_)
                      refine lv_iload hx hb dX7_best_139 (lv_at hl 7 rfl) ?_
                      have J155 : ∀ (ls : Array Slot) (H : Heap) (locs : List Loc) (t155_0 : Int32) (σj155 : Sg), D_X7_best_155 (D_X7_best_42 p1.toInt p2.toInt n42) t137_0.toInt y42_5.toInt (σj155 o0) t155_0.toInt = some out → FR σ σj155 o0 → TY z (zA z) σj155 H → va_S (zA z) s.heap H locs → lv_has ls 8 [(0, .ref h0), (1, .int p1), (2, .int p2), (3, .int y42_3), (4, .int t137_0), (5, .int y42_5), (6, .int y62_6), (7, .int t123_0)] → W p l e (rmF 8 222) s m ([.ref h0, .int p1, .int p2] : List Value).toArray below meth c H locs 0 0 (MQ below (QcI z (fun r H => ∃ σ' : Sg, some (r.toInt, σ' o0) = some out ∧ FR σ σ' o0 ∧ TY z (zA z) σ' H)) ([.ref h0, .int p1, .int p2] : List Value).toArray s 0 0 (zA z)) (F0 m 155 ls [.int t155_0]) := by
                        intro ls H locs t155_0 σj155 hF hfr hT hS hl
                        unfold D_X7_best_155 at hF
                        refine lv_istore_n (lv' := [(3, .int t155_0), (0, .ref h0), (1, .int p1), (2, .int p2), (4, .int t137_0), (5, .int y42_5), (6, .int y62_6), (7, .int t123_0)]) hx hb dX7_best_155 rfl hl (by decide) rfl (fun ls hl => ?_)
                        refine x_iinc (lv' := fun v__ => [(5, .int v__), (3, .int t155_0), (0, .ref h0), (1, .int p1), (2, .int p2), (4, .int t137_0), (6, .int y62_6), (7, .int t123_0)]) hx hb dX7_best_156 hl (k := 5) rfl (by decide) (fun _ => rfl) ⟨by decide, by decide⟩ (fun x156 ls e156 hl => ?_)
                        have hF := bn hF e156
                        refine lv_goto (tgt := 42) hx hb dX7_best_159 (by decide) ?_
                        exact ih42 ls _ _ t155_0 t137_0 x156 σj155 hF hfr hT hS (lv_sub hl [2, 3, 4, 1, 5, 0] rfl)
                      refine r_if_eq (tgt := 154) hx hb dX7_best_141 (by decide) (fun c141 => ?_) (fun c141 => ?_)
                      · have hF := ifp hF c141
                        refine lv_iload_n hx hb dX7_best_154 rfl (lv_at hl 4 rfl) ?_
                        exact J155 ls _ _ y42_3 σj137 hF hfr hT hS (lv_sub hl [1, 2, 3, 4, 0, 5, 6, 7] rfl)
                      · have hF := ifn hF c141
                        refine lv_aload_n hx hb dX7_best_144 rfl (lv_at hl 1 rfl) ?_
                        obtain ⟨v145, hd145, -⟩ := bd0_s hF
                        refine cl_Vi (rest := []) hC hK hSK (c_X7_round l z σj137 h0 (o0) g0 v145 hd145) k_X7_round mw_5_0 ⟨rfl, rfl, Nat.le_of_ble_eq_true rfl, Nat.le_of_ble_eq_true rfl⟩ (rv_Model hK hT g0) hT rfl hl.1 rfl (Nat.le_of_ble_eq_true rfl) dX7_best_145 ⟨Nat.zero_le _, Nat.zero_le _⟩ hS (fun _ h => h) (fun _ _ h => h) (fun r145 H locs hpo hS => ?_)
                        obtain ⟨he145, hT⟩ := hpo
                        have hF := bd0_r hF hd145 he145
                        obtain ⟨v148, hd148, -⟩ := bd0_s hF
                        refine cl_Si (rest := []) hC hK hSK (c_X7_bitsOf l z σj137 r145 v148 hd148) k_X7_bitsOf mw_4_237 ⟨rfl, rfl, Nat.le_of_ble_eq_true rfl, Nat.le_of_ble_eq_true rfl⟩ hT rfl hl.1 rfl (Nat.le_of_ble_eq_true rfl) dX7_best_148 ⟨Nat.zero_le _, Nat.zero_le _⟩ hS (fun _ h => h) (fun _ _ h => h) (fun r148 H locs hpo hS => ?_)
                        obtain ⟨he148, hT⟩ := hpo
                        have hF := bd0_r hF hd148 he148
                        refine lv_goto (tgt := 155) hx hb dX7_best_151 (by decide) ?_
                        exact J155 ls _ _ r148 σj137 hF hfr hT hS (lv_sub hl [1, 2, 3, 4, 0, 5, 6, 7] rfl)
                    refine r_if_eq (tgt := 135) hx hb dX7_best_127 (by decide) (fun c127 => ?_) (fun c127 => ?_)
                    · have hF := ifp hF c127
                      refine lv_iload hx hb dX7_best_135 (lv_at hl 5 rfl) ?_
                      exact J137 ls _ _ y42_4 σj123 hF hfr hT hS (lv_sub hl [1, 2, 3, 4, 5, 6, 7, 0] rfl)
                    · have hF := ifn hF c127
                      refine lv_iload hx hb dX7_best_130 (lv_at hl 6 rfl) ?_
                      refine lv_goto (tgt := 137) hx hb dX7_best_132 (by decide) ?_
                      exact J137 ls _ _ y42_5 σj123 hF hfr hT hS (lv_sub hl [1, 2, 3, 4, 5, 6, 7, 0] rfl)
                  have J122 : ∀ (ls : Array Slot) (H : Heap) (locs : List Loc) (σj122 : Sg), D_X7_best_122 (D_X7_best_42 p1.toInt p2.toInt n42) y42_3.toInt y42_4.toInt y42_5.toInt (σj122 o0) = some out → FR σ σj122 o0 → TY z (zA z) σj122 H → va_S (zA z) s.heap H locs → lv_has ls 8 [(0, .ref h0), (1, .int p1), (2, .int p2), (3, .int y42_3), (4, .int y42_4), (5, .int y42_5), (6, .int y62_6), (7, .int y62_7)] → W p l e (rmF 8 222) s m ([.ref h0, .int p1, .int p2] : List Value).toArray below meth c H locs 0 0 (MQ below (QcI z (fun r H => ∃ σ' : Sg, some (r.toInt, σ' o0) = some out ∧ FR σ σ' o0 ∧ TY z (zA z) σ' H)) ([.ref h0, .int p1, .int p2] : List Value).toArray s 0 0 (zA z)) (F0 m 122 ls []) := by
                    intro ls H locs σj122 hF hfr hT hS hl
                    unfold D_X7_best_122 at hF
                    refine r_iconst hx hb dX7_best_122 (by decide) (by decide) (fun x122 e122 => ?_)
                    have hF := bn hF e122
                    exact J123 ls _ _ x122 σj122 (by omega) hF hfr hT hS (lv_sub hl [0, 1, 2, 3, 4, 5, 6, 7] rfl)
                  refine r_if_ne (tgt := 122) hx hb dX7_best_104 (by decide) (fun c104 => ?_) (fun c104 => ?_)
                  · have hF := ifn hF c104
                    exact J122 ls _ _ σj102 hF hfr hT hS (lv_sub hl [0, 1, 2, 3, 4, 5, 6, 7] rfl)
                  · have hF := ifp hF c104
                    refine lv_aload_n hx hb dX7_best_107 rfl (lv_at hl 0 rfl) ?_
                    obtain ⟨v108, hd108, -⟩ := bd0_s hF
                    refine cl_Vi (rest := []) hC hK hSK (c_X7_round l z σj102 h0 (o0) g0 v108 hd108) k_X7_round mw_5_0 ⟨rfl, rfl, Nat.le_of_ble_eq_true rfl, Nat.le_of_ble_eq_true rfl⟩ (rv_Model hK hT g0) hT rfl hl.1 rfl (Nat.le_of_ble_eq_true rfl) dX7_best_108 ⟨Nat.zero_le _, Nat.zero_le _⟩ hS (fun _ h => h) (fun _ _ h => h) (fun r108 H locs hpo hS => ?_)
                    obtain ⟨he108, hT⟩ := hpo
                    have hF := bd0_r hF hd108 he108
                    obtain ⟨v111, hd111, -⟩ := bd0_s hF
                    refine cl_Si (rest := []) hC hK hSK (c_X7_bitsOf l z σj102 r108 v111 hd111) k_X7_bitsOf mw_4_237 ⟨rfl, rfl, Nat.le_of_ble_eq_true rfl, Nat.le_of_ble_eq_true rfl⟩ hT rfl hl.1 rfl (Nat.le_of_ble_eq_true rfl) dX7_best_111 ⟨Nat.zero_le _, Nat.zero_le _⟩ hS (fun _ h => h) (fun _ _ h => h) (fun r111 H locs hpo hS => ?_)
                    obtain ⟨he111, hT⟩ := hpo
                    have hF := bd0_r hF hd111 he111
                    refine lv_iload_n hx hb dX7_best_114 rfl (lv_at hl 3 rfl) ?_
                    refine r_icmp_le (tgt := 122) hx hb dX7_best_115 (by decide) (fun c115 => ?_) (fun c115 => ?_)
                    · have hF := ifn hF (Int.not_lt.mpr c115)
                      exact J122 ls _ _ σj102 hF hfr hT hS (lv_sub hl [0, 1, 2, 3, 4, 5, 6, 7] rfl)
                    · have hF := ifp hF c115
                      refine r_iconst hx hb dX7_best_118 (by decide) (by decide) (fun x118 e118 => ?_)
                      have hF := bn hF e118
                      refine lv_goto (tgt := 123) hx hb dX7_best_119 (by decide) ?_
                      exact J123 ls _ _ x118 σj102 (by omega) hF hfr hT hS (lv_sub hl [0, 1, 2, 3, 4, 5, 6, 7] rfl)
                refine r_icmp_ge (tgt := 102) hx hb dX7_best_65 (by decide) (fun c65 => ?_) (fun c65 => ?_)
                · have hF := ifn hF (Int.not_lt.mpr c65)
                  exact J102 ls _ _ σj62 hF hfr hT hS (lv_sub hl [0, 1, 2, 3, 4, 5, 6, 7] rfl)
                · have hF := ifp hF c65
                  refine lv_aload_n hx hb dX7_best_68 rfl (lv_at hl 0 rfl) ?_
                  refine gt_Model_men hx hb hts ic_Model hown hK hT g0 (hts _ mw_4_73) dX7_best_69 (fun x69 e69 f69 g69 => ?_)
                  have hF := bn hF e69
                  refine r_if_le (tgt := 102) hx hb dX7_best_72 (by decide) (fun c72 => ?_) (fun c72 => ?_)
                  · have hF := ifn hF (Int.not_lt.mpr c72)
                    exact J102 ls _ _ σj62 hF hfr hT hS (lv_sub hl [0, 1, 2, 3, 4, 5, 6, 7] rfl)
                  · have hF := ifp hF c72
                    refine lv_aload_n hx hb dX7_best_75 rfl (lv_at hl 0 rfl) ?_
                    refine lv_iload hx hb dX7_best_76 (lv_at hl 5 rfl) ?_
                    refine lv_iload_n hx hb dX7_best_78 rfl (lv_at hl 1 rfl) ?_
                    refine lv_iload hx hb dX7_best_79 (lv_at hl 7 rfl) ?_
                    obtain ⟨v81, hd81, -⟩ := bd0_s hF
                    refine cl_Si (rest := [.ref h0]) hC hK hSK (c_X7_figureIn l z σj62 y42_5 p1 y62_7 v81 hd81) k_X7_figureIn mw_5_145 ⟨rfl, rfl, Nat.le_of_ble_eq_true rfl, Nat.le_of_ble_eq_true rfl⟩ hT rfl hl.1 rfl (Nat.le_of_ble_eq_true rfl) dX7_best_81 ⟨Nat.zero_le _, Nat.zero_le _⟩ hS (fun _ h => h) (fun _ _ h => h) (fun r81 H locs hpo hS => ?_)
                    obtain ⟨he81, hT, u81_0⟩ := hpo
                    have hF := bd0_r hF hd81 he81
                    obtain ⟨s84, hd84, -⟩ := bd1_s hF
                    refine cl_Vv (rest := []) hC hK hSK (c_X7_danceOn l z σj62 h0 (o0) g0 r81 s84 hd84) k_X7_danceOn mw_5_88 ⟨rfl, rfl, Nat.le_of_ble_eq_true rfl, Nat.le_of_ble_eq_true rfl⟩ (rv_Model hK hT g0) hT rfl hl.1 rfl (Nat.le_of_ble_eq_true rfl) dX7_best_84 ⟨Nat.zero_le _, Nat.zero_le _⟩ hS (fun _ h => h) (fun _ _ h => h) (fun H locs hpo hS => ?_)
                    obtain ⟨σ84, he84, hf84, hT⟩ := hpo
                    have hF := bd1_r hF hd84 he84
                    have hfr := FR_tr hf84 hfr
                    refine lv_iload hx hb dX7_best_87 (lv_at hl 6 rfl) ?_
                    refine lv_aload_n hx hb dX7_best_89 rfl (lv_at hl 0 rfl) ?_
                    obtain ⟨v90, hd90, -⟩ := bd0_s hF
                    refine cl_Vi (rest := [.int y62_6]) hC hK hSK (c_X7_meetings l z σ84 h0 (o0) g0 v90 hd90) k_X7_meetings mw_5_113 ⟨rfl, rfl, Nat.le_of_ble_eq_true rfl, Nat.le_of_ble_eq_true rfl⟩ (rv_Model hK hT g0) hT rfl hl.1 rfl (Nat.le_of_ble_eq_true rfl) dX7_best_90 ⟨Nat.zero_le _, Nat.zero_le _⟩ hS (fun _ h => h) (fun _ _ h => h) (fun r90 H locs hpo hS => ?_)
                    obtain ⟨he90, hT⟩ := hpo
                    have hF := bd0_r hF hd90 he90
                    refine x_iadd hx hb dX7_best_93 (fun x93 e93 => ?_)
                    have hF := bn hF e93
                    refine lv_istore (lv' := [(6, .int x93), (0, .ref h0), (1, .int p1), (2, .int p2), (3, .int y42_3), (4, .int y42_4), (5, .int y42_5), (7, .int y62_7)]) hx hb dX7_best_94 hl (by decide) rfl (fun ls hl => ?_)
                    refine r_iinc (lv' := fun v__ => [(7, .int v__), (6, .int x93), (0, .ref h0), (1, .int p1), (2, .int p2), (3, .int y42_3), (4, .int y42_4), (5, .int y42_5)]) hx hb dX7_best_96 hl (k := 7) rfl (by decide) (fun _ => rfl) ⟨by decide, by decide⟩ (by omega) (by omega) (fun x96 ls e96 hl => ?_)
                    have hF := bn hF e96
                    refine lv_goto (tgt := 62) hx hb dX7_best_99 (by decide) ?_
                    exact ih62 ls _ _ x93 x96 σ84 (by omega) hF hfr hT hS (lv_sub hl [2, 3, 4, 5, 6, 7, 1, 0] rfl)
            exact J62 5000 ls _ _ x52 x59 σ56 (by omega) hF hfr hT hS (lv_sub hl [2, 3, 4, 5, 6, 7, 1, 0] rfl)
      exact J42 5000 ls _ _ x33 x35 x39 σj33 hF hfr hT hS (lv_sub hl [3, 4, 5, 2, 1, 0] rfl)
    refine r_if_eq (tgt := 33) hx hb dX7_best_13 (by decide) (fun c13 => ?_) (fun c13 => ?_)
    · have hF := ifp hF c13
      exact J33 ls _ _ σ hF hfr hT hS (lv_sub hl [0, 1, 2] rfl)
    · have hF := ifn hF c13
      refine lv_iload_n hx hb dX7_best_16 rfl (lv_at hl 2 rfl) ?_
      refine r_bipush hx hb dX7_best_17 rfl (fun x17 e17 => ?_)
      have hF := bn hF e17
      refine x_isub hx hb dX7_best_19 (fun x19 e19 => ?_)
      have hF := bn hF e19
      refine r_i2l hx hb dX7_best_20 (fun x20 e20 => ?_)
      have hF := bn hF e20
      refine r_lconst0 hx hb dX7_best_21 (fun x21 e21 => ?_)
      have hF := bn hF e21
      refine r_ldc2 (3) rfl hx hb hts hown mw_5_59 dX7_best_22 (fun x22 e22 => ?_)
      have hF := bn hF e22
      obtain ⟨v25, hd25, -⟩ := bd0_s hF
      refine cl_Si (rest := []) hC hK hSK (c_X7_in l z σ x20 x21 x22 v25 hd25) k_X7_in mw_4_154 ⟨rfl, rfl, Nat.le_of_ble_eq_true rfl, Nat.le_of_ble_eq_true rfl⟩ hT rfl hl.1 rfl (Nat.le_of_ble_eq_true rfl) dX7_best_25 ⟨Nat.zero_le _, Nat.zero_le _⟩ hS (fun _ h => h) (fun _ _ h => h) (fun r25 H locs hpo hS => ?_)
      obtain ⟨he25, hT, u25_0, u25_1⟩ := hpo
      have hF := bd0_r hF hd25 he25
      refine r_if_ne (tgt := 33) hx hb dX7_best_28 (by decide) (fun c28 => ?_) (fun c28 => ?_)
      · have hF := ifn hF c28
        exact J33 ls _ _ σ hF hfr hT hS (lv_sub hl [0, 1, 2] rfl)
      · have hF := ifp hF c28
        refine r_iconst hx hb dX7_best_31 (by decide) (by decide) (fun x31 e31 => ?_)
        have hF := bn hF e31
        exact rt_i hx hb hr hlk hS ⟨σ, hF, hfr, hT⟩ dX7_best_32
theorem k_X7_orders : cBV yX7_orders cX7_orders 9 (some .int) 1 := ⟨mw_5_149, mw_5_150, mw_1_8, mw_5_151, ⟨by decide, by decide, by decide⟩⟩
set_option maxHeartbeats 4000000 in
set_option maxRecDepth 100000 in
theorem c_X7_orders (l : Launch) (z : Zt) (σ : Sg) (h0 o0 : Nat) (g0 : zG z h0 = (17, o0)) (p1 : Int32) (out : (Int × Lo)) (hF : D_X7_orders (σ o0) p1.toInt = some out) : Met l yX7_orders (uw yX7_orders cX7_orders 9 (some .int)) (rmF 8 222) (PcW z [.ref h0, .int p1] (fun H => TY z (zA z) σ H)) (QcI z (fun r H => ∃ σ' : Sg, some (r.toInt, σ' o0) = some out ∧ FR σ σ' o0 ∧ TY z (zA z) σ' H)) 0 0 (zA z) := by
  refine Met.ofW (cc := cX7_orders) (maxL := 9) (ret := (some .int)) (by decide) rfl ?_
  intro p e s m args below meth c s₁ B hml hv
  obtain ⟨rfl, hT, hK, hSK⟩ := hv
  have hx := B.exec
  have hb := B.bytes
  have hr := B.returns
  have hts : ∀ w ∈ lw_ok, w.before ([.ref h0, .int p1] : List Value).toArray s = true := fun w hw => atoms_spec (ws := uw yX7_orders cX7_orders 9 (some .int)) B.pre w (List.mem_cons_of_mem _ hw)
  have hown : s.vm.findClass RX7 = some m.cls := findClass_of_methodNamed B.named
  have hlk := B.notSynchronized
  have hC : CallFix p m c cX7_orders 9 s ([.ref h0, .int p1] : List Value).toArray lw_ok RX7 := ⟨hx, hb, hml, hown, hts⟩
  have hS : va_S (zA z) s.heap s.heap [] := va_S.rf
  have hl := lv_entry ([.ref h0, .int p1]) (n := 9) (Nat.le_of_ble_eq_true rfl)
  rw [lg_entry_eq]
  generalize (lg_sl ([.ref h0, .int p1]) ++ List.replicate (9 - (lg_sl ([.ref h0, .int p1])).length) Slot.unset).toArray = ls at hl ⊢
  have hl : lv_has ls 9 [(0, .ref h0), (1, .int p1)] := hl
  show W p l e (rmF 8 222) s m ([.ref h0, .int p1] : List Value).toArray below meth c s.heap [] 0 0 (MQ below (QcI z (fun r H => ∃ σ' : Sg, some (r.toInt, σ' o0) = some out ∧ FR σ σ' o0 ∧ TY z (zA z) σ' H)) ([.ref h0, .int p1] : List Value).toArray s 0 0 (zA z)) (F0 m 0 ls [])
  have hfr : FR σ σ o0 := FR_rf σ o0
  unfold D_X7_orders at hF
  have mx_p1 := i_mx p1
  refine lv_iload_n hx hb dX7_orders_0 rfl (lv_at hl 1 rfl) ?_
  obtain ⟨v1, hd1, -⟩ := bd0_s hF
  refine cl_Si (rest := []) hC hK hSK (c_X7_isPart l z σ p1 v1 hd1) k_X7_isPart mw_5_152 ⟨rfl, rfl, Nat.le_of_ble_eq_true rfl, Nat.le_of_ble_eq_true rfl⟩ hT rfl hl.1 rfl (Nat.le_of_ble_eq_true rfl) dX7_orders_1 ⟨Nat.zero_le _, Nat.zero_le _⟩ hS (fun _ h => h) (fun _ _ h => h) (fun r1 H locs hpo hS => ?_)
  obtain ⟨he1, hT, u1_0, u1_1⟩ := hpo
  have hF := bd0_r hF hd1 he1
  have J24 : ∀ (ls : Array Slot) (H : Heap) (locs : List Loc) (σj24 : Sg), D_X7_orders_24 p1.toInt (σj24 o0) = some out → FR σ σj24 o0 → TY z (zA z) σj24 H → va_S (zA z) s.heap H locs → lv_has ls 9 [(0, .ref h0), (1, .int p1)] → W p l e (rmF 8 222) s m ([.ref h0, .int p1] : List Value).toArray below meth c H locs 0 0 (MQ below (QcI z (fun r H => ∃ σ' : Sg, some (r.toInt, σ' o0) = some out ∧ FR σ σ' o0 ∧ TY z (zA z) σ' H)) ([.ref h0, .int p1] : List Value).toArray s 0 0 (zA z)) (F0 m 24 ls []) := by
    intro ls H locs σj24 hF hfr hT hS hl
    unfold D_X7_orders_24 at hF
    refine lv_aload_n hx hb dX7_orders_24 rfl (lv_at hl 0 rfl) ?_
    refine gt_Model_st hx hb hts ic_Model hown hK hT g0 (hts _ mw_4_70) dX7_orders_25 (fun q25 hq25 => ?_)
    refine r_bipush hx hb dX7_orders_28 rfl (fun x28 e28 => ?_)
    have hF := bn hF e28
    refine al_40 hx hb hK hT hq25 (by omega) (by omega) dX7_orders_30 (fun x30 e30 g30 => ?_)
    have hF := bn hF e30
    have f30 := gd59_31 (gd177_e g30 (by omega)) (by omega)
    refine lv_istore_n (lv' := [(2, .int x30), (0, .ref h0), (1, .int p1)]) hx hb dX7_orders_31 rfl hl (by decide) rfl (fun ls hl => ?_)
    refine lv_iload_n hx hb dX7_orders_32 rfl (lv_at hl 0 rfl) ?_
    refine r_iconst hx hb dX7_orders_33 (by decide) (by decide) (fun x33 e33 => ?_)
    have hF := bn hF e33
    refine r_icmp_le (tgt := 40) hx hb dX7_orders_34 (by decide) (fun c34 => ?_) (fun c34 => ?_)
    · have hF := ifn hF (Int.not_lt.mpr c34)
      refine r_iconst hx hb dX7_orders_40 (by decide) (by decide) (fun x40 e40 => ?_)
      have hF := bn hF e40
      refine lv_istore_n (lv' := [(3, .int x40), (2, .int x30), (0, .ref h0), (1, .int p1)]) hx hb dX7_orders_41 rfl hl (by decide) rfl (fun ls hl => ?_)
      refine r_bipush hx hb dX7_orders_42 rfl (fun x42 e42 => ?_)
      have hF := bn hF e42
      refine lv_istore (lv' := [(4, .int x42), (3, .int x40), (2, .int x30), (0, .ref h0), (1, .int p1)]) hx hb dX7_orders_44 hl (by decide) rfl (fun ls hl => ?_)
      refine r_bipush hx hb dX7_orders_46 rfl (fun x46 e46 => ?_)
      have hF := bn hF e46
      refine lv_istore (lv' := [(5, .int x46), (4, .int x42), (3, .int x40), (2, .int x30), (0, .ref h0), (1, .int p1)]) hx hb dX7_orders_48 hl (by decide) rfl (fun ls hl => ?_)
      refine r_iconst hx hb dX7_orders_50 (by decide) (by decide) (fun x50 e50 => ?_)
      have hF := bn hF e50
      refine lv_istore (lv' := [(6, .int x50), (5, .int x46), (4, .int x42), (3, .int x40), (2, .int x30), (0, .ref h0), (1, .int p1)]) hx hb dX7_orders_51 hl (by decide) rfl (fun ls hl => ?_)
      have J53 : ∀ (n53 : Nat) (ls : Array Slot) (H : Heap) (locs : List Loc) (y53_3 : Int32) (y53_4 : Int32) (y53_5 : Int32) (y53_6 : Int32) (σj53 : Sg), D_X7_orders_53 p1.toInt x30.toInt n53 (σj53 o0) y53_3.toInt y53_4.toInt y53_5.toInt y53_6.toInt = some out → FR σ σj53 o0 → TY z (zA z) σj53 H → va_S (zA z) s.heap H locs → lv_has ls 9 [(0, .ref h0), (1, .int p1), (2, .int x30), (3, .int y53_3), (4, .int y53_4), (5, .int y53_5), (6, .int y53_6)] → W p l e (rmF 8 222) s m ([.ref h0, .int p1] : List Value).toArray below meth c H locs 0 0 (MQ below (QcI z (fun r H => ∃ σ' : Sg, some (r.toInt, σ' o0) = some out ∧ FR σ σ' o0 ∧ TY z (zA z) σ' H)) ([.ref h0, .int p1] : List Value).toArray s 0 0 (zA z)) (F0 m 53 ls []) := by
        intro n53
        induction n53 with
        | zero => intro ls H locs y53_3 y53_4 y53_5 y53_6 σj53 hF hfr hT hS hl; exact (no_s hF).elim
        | succ n53 ih53 =>
          intro ls H locs y53_3 y53_4 y53_5 y53_6 σj53 hF hfr hT hS hl
          rw [D_X7_orders_53.eq_2] at hF
          refine lv_iload hx hb dX7_orders_53 (lv_at hl 6 rfl) ?_
          refine lv_iload_n hx hb dX7_orders_55 rfl (lv_at hl 2 rfl) ?_
          refine lv_iload_n hx hb dX7_orders_56 rfl (lv_at hl 2 rfl) ?_
          obtain ⟨v57, hd57, -⟩ := bd0_s hF
          refine cl_Si (rest := [.int y53_6]) hC hK hSK (c_X7_power l z σj53 x30 x30 v57 hd57) k_X7_power mw_5_142 ⟨rfl, rfl, Nat.le_of_ble_eq_true rfl, Nat.le_of_ble_eq_true rfl⟩ hT rfl hl.1 rfl (Nat.le_of_ble_eq_true rfl) dX7_orders_57 ⟨Nat.zero_le _, Nat.zero_le _⟩ hS (fun _ h => h) (fun _ _ h => h) (fun r57 H locs hpo hS => ?_)
          obtain ⟨he57, hT⟩ := hpo
          have hF := bd0_r hF hd57 he57
          refine r_icmp_ge (tgt := 200) hx hb dX7_orders_60 (by decide) (fun c60 => ?_) (fun c60 => ?_)
          · have hF := ifn hF (Int.not_lt.mpr c60)
            refine lv_iload_n hx hb dX7_orders_200 rfl (lv_at hl 1 rfl) ?_
            obtain ⟨v201, hd201, -⟩ := bd0_s hF
            refine cl_Si (rest := []) hC hK hSK (c_X7_isPart l z σj53 p1 v201 hd201) k_X7_isPart mw_5_152 ⟨rfl, rfl, Nat.le_of_ble_eq_true rfl, Nat.le_of_ble_eq_true rfl⟩ hT rfl hl.1 rfl (Nat.le_of_ble_eq_true rfl) dX7_orders_201 ⟨Nat.zero_le _, Nat.zero_le _⟩ hS (fun _ h => h) (fun _ _ h => h) (fun r201 H locs hpo hS => ?_)
            obtain ⟨he201, hT, u201_0, u201_1⟩ := hpo
            have hF := bd0_r hF hd201 he201
            refine r_if_eq (tgt := 218) hx hb dX7_orders_204 (by decide) (fun c204 => ?_) (fun c204 => ?_)
            · have hF := ifp hF c204
              refine lv_iload hx hb dX7_orders_218 (lv_at hl 5 rfl) ?_
              refine r_bipush hx hb dX7_orders_220 rfl (fun x220 e220 => ?_)
              have hF := bn hF e220
              refine r_icmp_eq (tgt := 233) hx hb dX7_orders_222 (by decide) (fun c222 => ?_) (fun c222 => ?_)
              · have hF := ifp hF c222
                refine r_bipush hx hb dX7_orders_233 rfl (fun x233 e233 => ?_)
                have hF := bn hF e233
                exact rt_i hx hb hr hlk hS ⟨σj53, hF, hfr, hT⟩ dX7_orders_235
              · have hF := ifn hF c222
                refine lv_iload_n hx hb dX7_orders_225 rfl (lv_at hl 1 rfl) ?_
                refine r_bipush hx hb dX7_orders_226 rfl (fun x226 e226 => ?_)
                have hF := bn hF e226
                refine x_isub hx hb dX7_orders_228 (fun x228 e228 => ?_)
                have hF := bn hF e228
                refine lv_iload_n hx hb dX7_orders_229 rfl (lv_at hl 2 rfl) ?_
                refine r_icmp_lt (tgt := 236) hx hb dX7_orders_230 (by decide) (fun c230 => ?_) (fun c230 => ?_)
                · have hF := ifp hF c230
                  refine lv_aload_n hx hb dX7_orders_236 rfl (lv_at hl 0 rfl) ?_
                  refine lv_iload hx hb dX7_orders_237 (lv_at hl 5 rfl) ?_
                  obtain ⟨v239, s239, hd239, -⟩ := bd2_s hF
                  refine cl_Vi (rest := []) hC hK hSK (c_X7_isOrder l z σj53 h0 (o0) g0 y53_5 (v239, s239) hd239) k_X7_isOrder mw_5_155 ⟨rfl, rfl, Nat.le_of_ble_eq_true rfl, Nat.le_of_ble_eq_true rfl⟩ (rv_Model hK hT g0) hT rfl hl.1 rfl (Nat.le_of_ble_eq_true rfl) dX7_orders_239 ⟨Nat.zero_le _, Nat.zero_le _⟩ hS (fun _ h => h) (fun _ _ h => h) (fun r239 H locs hpo hS => ?_)
                  obtain ⟨σ239, he239, hf239, hT, u239_0⟩ := hpo
                  have hF := bd2_r hF hd239 he239
                  have hfr := FR_tr hf239 hfr
                  refine lv_pop hx hb dX7_orders_242 rfl ?_
                  refine lv_aload_n hx hb dX7_orders_243 rfl (lv_at hl 0 rfl) ?_
                  refine gt_Model_order hx hb hts ic_Model hown hK hT g0 (hts _ mw_4_88) dX7_orders_244 (fun q244 hq244 => ?_)
                  refine lv_iload_n hx hb dX7_orders_247 rfl (lv_at hl 1 rfl) ?_
                  refine r_bipush hx hb dX7_orders_248 rfl (fun x248 e248 => ?_)
                  have hF := bn hF e248
                  refine x_isub hx hb dX7_orders_250 (fun x250 e250 => ?_)
                  have hF := bn hF e250
                  obtain ⟨kb251, hF⟩ := ck hF
                  refine al_46 hx hb hK hT hq244 (by omega) (by omega) dX7_orders_251 (fun x251 e251 g251 => ?_)
                  have hF := bn hF e251
                  exact rt_i hx hb hr hlk hS ⟨σ239, hF, hfr, hT⟩ dX7_orders_252
                · have hF := ifn hF (Int.not_lt.mpr c230)
                  refine r_bipush hx hb dX7_orders_233 rfl (fun x233 e233 => ?_)
                  have hF := bn hF e233
                  exact rt_i hx hb hr hlk hS ⟨σj53, hF, hfr, hT⟩ dX7_orders_235
            · have hF := ifn hF c204
              refine lv_iload_n hx hb dX7_orders_207 rfl (lv_at hl 1 rfl) ?_
              refine r_if_ne (tgt := 215) hx hb dX7_orders_208 (by decide) (fun c208 => ?_) (fun c208 => ?_)
              · have hF := ifn hF c208
                refine lv_iload hx hb dX7_orders_215 (lv_at hl 4 rfl) ?_
                exact rt_i hx hb hr hlk hS ⟨σj53, hF, hfr, hT⟩ dX7_orders_217
              · have hF := ifp hF c208
                refine lv_iload_n hx hb dX7_orders_211 rfl (lv_at hl 3 rfl) ?_
                refine lv_goto (tgt := 217) hx hb dX7_orders_212 (by decide) ?_
                exact rt_i hx hb hr hlk hS ⟨σj53, hF, hfr, hT⟩ dX7_orders_217
          · have hF := ifp hF c60
            refine lv_aload_n hx hb dX7_orders_63 rfl (lv_at hl 0 rfl) ?_
            refine lv_iload hx hb dX7_orders_64 (lv_at hl 6 rfl) ?_
            obtain ⟨v66, s66, hd66, -⟩ := bd2_s hF
            refine cl_Vi (rest := []) hC hK hSK (c_X7_isOrder l z σj53 h0 (o0) g0 y53_6 (v66, s66) hd66) k_X7_isOrder mw_5_155 ⟨rfl, rfl, Nat.le_of_ble_eq_true rfl, Nat.le_of_ble_eq_true rfl⟩ (rv_Model hK hT g0) hT rfl hl.1 rfl (Nat.le_of_ble_eq_true rfl) dX7_orders_66 ⟨Nat.zero_le _, Nat.zero_le _⟩ hS (fun _ h => h) (fun _ _ h => h) (fun r66 H locs hpo hS => ?_)
            obtain ⟨σ66, he66, hf66, hT, u66_0⟩ := hpo
            have hF := bd2_r hF hd66 he66
            have hfr := FR_tr hf66 hfr
            have J194 : ∀ (ls : Array Slot) (H : Heap) (locs : List Loc) (y194_3 : Int32) (y194_4 : Int32) (y194_5 : Int32) (σj194 : Sg), D_X7_orders_194 (D_X7_orders_53 p1.toInt x30.toInt n53) y53_6.toInt (σj194 o0) y194_3.toInt y194_4.toInt y194_5.toInt = some out → FR σ σj194 o0 → TY z (zA z) σj194 H → va_S (zA z) s.heap H locs → lv_has ls 9 [(0, .ref h0), (1, .int p1), (2, .int x30), (3, .int y194_3), (4, .int y194_4), (5, .int y194_5), (6, .int y53_6)] → W p l e (rmF 8 222) s m ([.ref h0, .int p1] : List Value).toArray below meth c H locs 0 0 (MQ below (QcI z (fun r H => ∃ σ' : Sg, some (r.toInt, σ' o0) = some out ∧ FR σ σ' o0 ∧ TY z (zA z) σ' H)) ([.ref h0, .int p1] : List Value).toArray s 0 0 (zA z)) (F0 m 194 ls []) := by
              intro ls H locs y194_3 y194_4 y194_5 σj194 hF hfr hT hS hl
              unfold D_X7_orders_194 at hF
              refine x_iinc (lv' := fun v__ => [(6, .int v__), (0, .ref h0), (1, .int p1), (2, .int x30), (3, .int y194_3), (4, .int y194_4), (5, .int y194_5)]) hx hb dX7_orders_194 hl (k := 6) rfl (by decide) (fun _ => rfl) ⟨by decide, by decide⟩ (fun x194 ls e194 hl => ?_)
              have hF := bn hF e194
              refine lv_goto (tgt := 53) hx hb dX7_orders_197 (by decide) ?_
              exact ih53 ls _ _ y194_3 y194_4 y194_5 x194 σj194 hF hfr hT hS (lv_sub hl [1, 2, 3, 4, 5, 6, 0] rfl)
            refine r_if_eq (tgt := 194) hx hb dX7_orders_69 (by decide) (fun c69 => ?_) (fun c69 => ?_)
            · have hF := ifp hF c69
              exact J194 ls _ _ y53_3 y53_4 y53_5 σ66 hF hfr hT hS (lv_sub hl [0, 1, 2, 3, 4, 5, 6] rfl)
            · have hF := ifn hF c69
              refine r_iconst hx hb dX7_orders_72 (by decide) (by decide) (fun x72 e72 => ?_)
              have hF := bn hF e72
              refine lv_istore (lv' := [(7, .int x72), (0, .ref h0), (1, .int p1), (2, .int x30), (3, .int y53_3), (4, .int y53_4), (5, .int y53_5), (6, .int y53_6)]) hx hb dX7_orders_73 hl (by decide) rfl (fun ls hl => ?_)
              refine lv_aload_n hx hb dX7_orders_75 rfl (lv_at hl 1 rfl) ?_
              obtain ⟨s76, hd76, -⟩ := bd1_s hF
              refine cl_Vv (rest := []) hC hK hSK (c_X7_starts l z σ66 h0 (o0) g0 s76 hd76) k_X7_starts mw_4_229 ⟨rfl, rfl, Nat.le_of_ble_eq_true rfl, Nat.le_of_ble_eq_true rfl⟩ (rv_Model hK hT g0) hT rfl hl.1 rfl (Nat.le_of_ble_eq_true rfl) dX7_orders_76 ⟨Nat.zero_le _, Nat.zero_le _⟩ hS (fun _ h => h) (fun _ _ h => h) (fun H locs hpo hS => ?_)
              obtain ⟨σ76, he76, hf76, hT⟩ := hpo
              have hF := bd1_r hF hd76 he76
              have hfr := FR_tr hf76 hfr
              refine r_iconst hx hb dX7_orders_79 (by decide) (by decide) (fun x79 e79 => ?_)
              have hF := bn hF e79
              refine lv_istore (lv' := [(8, .int x79), (7, .int x72), (0, .ref h0), (1, .int p1), (2, .int x30), (3, .int y53_3), (4, .int y53_4), (5, .int y53_5), (6, .int y53_6)]) hx hb dX7_orders_80 hl (by decide) rfl (fun ls hl => ?_)
              have J82 : ∀ (n82 : Nat) (ls : Array Slot) (H : Heap) (locs : List Loc) (y82_7 : Int32) (y82_8 : Int32) (σj82 : Sg), (0 ≤ y82_8.toInt ∧ y82_8.toInt ≤ 5) → D_X7_orders_82 (D_X7_orders_53 p1.toInt x30.toInt n53) x30.toInt y53_3.toInt y53_4.toInt y53_5.toInt y53_6.toInt n82 (σj82 o0) y82_7.toInt y82_8.toInt = some out → FR σ σj82 o0 → TY z (zA z) σj82 H → va_S (zA z) s.heap H locs → lv_has ls 9 [(0, .ref h0), (1, .int p1), (2, .int x30), (3, .int y53_3), (4, .int y53_4), (5, .int y53_5), (6, .int y53_6), (7, .int y82_7), (8, .int y82_8)] → W p l e (rmF 8 222) s m ([.ref h0, .int p1] : List Value).toArray below meth c H locs 0 0 (MQ below (QcI z (fun r H => ∃ σ' : Sg, some (r.toInt, σ' o0) = some out ∧ FR σ σ' o0 ∧ TY z (zA z) σ' H)) ([.ref h0, .int p1] : List Value).toArray s 0 0 (zA z)) (F0 m 82 ls []) := by
                intro n82
                induction n82 with
                | zero => intro ls H locs y82_7 y82_8 σj82 j82_y82_8 hF hfr hT hS hl; exact (no_s hF).elim
                | succ n82 ih82 =>
                  intro ls H locs y82_7 y82_8 σj82 j82_y82_8 hF hfr hT hS hl
                  rw [D_X7_orders_82.eq_2] at hF
                  refine lv_iload hx hb dX7_orders_82 (lv_at hl 8 rfl) ?_
                  refine lv_iload_n hx hb dX7_orders_84 rfl (lv_at hl 2 rfl) ?_
                  have J129 : ∀ (ls : Array Slot) (H : Heap) (locs : List Loc) (σj129 : Sg), D_X7_orders_129 (D_X7_orders_53 p1.toInt x30.toInt n53) y53_3.toInt y53_4.toInt y53_5.toInt y53_6.toInt y82_7.toInt (σj129 o0) = some out → FR σ σj129 o0 → TY z (zA z) σj129 H → va_S (zA z) s.heap H locs → lv_has ls 9 [(0, .ref h0), (1, .int p1), (2, .int x30), (3, .int y53_3), (4, .int y53_4), (5, .int y53_5), (6, .int y53_6), (7, .int y82_7), (8, .int y82_8)] → W p l e (rmF 8 222) s m ([.ref h0, .int p1] : List Value).toArray below meth c H locs 0 0 (MQ below (QcI z (fun r H => ∃ σ' : Sg, some (r.toInt, σ' o0) = some out ∧ FR σ σ' o0 ∧ TY z (zA z) σ' H)) ([.ref h0, .int p1] : List Value).toArray s 0 0 (zA z)) (F0 m 129 ls []) := by
                    intro ls H locs σj129 hF hfr hT hS hl
                    unfold D_X7_orders_129 at hF
                    refine lv_iload hx hb dX7_orders_129 (lv_at hl 7 rfl) ?_
                    have J145 : ∀ (ls : Array Slot) (H : Heap) (locs : List Loc) (t145_0 : Int32) (σj145 : Sg), D_X7_orders_145 (D_X7_orders_53 p1.toInt x30.toInt n53) y53_3.toInt y53_4.toInt y53_6.toInt y82_7.toInt (σj145 o0) t145_0.toInt = some out → FR σ σj145 o0 → TY z (zA z) σj145 H → va_S (zA z) s.heap H locs → lv_has ls 9 [(0, .ref h0), (1, .int p1), (2, .int x30), (3, .int y53_3), (4, .int y53_4), (5, .int y53_5), (6, .int y53_6), (7, .int y82_7), (8, .int y82_8)] → W p l e (rmF 8 222) s m ([.ref h0, .int p1] : List Value).toArray below meth c H locs 0 0 (MQ below (QcI z (fun r H => ∃ σ' : Sg, some (r.toInt, σ' o0) = some out ∧ FR σ σ' o0 ∧ TY z (zA z) σ' H)) ([.ref h0, .int p1] : List Value).toArray s 0 0 (zA z)) (F0 m 145 ls [.int t145_0]) := by
                      intro ls H locs t145_0 σj145 hF hfr hT hS hl
                      unfold D_X7_orders_145 at hF
                      refine lv_istore (lv' := [(5, .int t145_0), (0, .ref h0), (1, .int p1), (2, .int x30), (3, .int y53_3), (4, .int y53_4), (6, .int y53_6), (7, .int y82_7), (8, .int y82_8)]) hx hb dX7_orders_145 hl (by decide) rfl (fun ls hl => ?_)
                      refine lv_iload hx hb dX7_orders_147 (lv_at hl 7 rfl) ?_
                      have J176 : ∀ (ls : Array Slot) (H : Heap) (locs : List Loc) (t176_0 : Int32) (σj176 : Sg), D_X7_orders_176 (D_X7_orders_53 p1.toInt x30.toInt n53) t145_0.toInt y53_3.toInt y53_6.toInt y82_7.toInt (σj176 o0) t176_0.toInt = some out → FR σ σj176 o0 → TY z (zA z) σj176 H → va_S (zA z) s.heap H locs → lv_has ls 9 [(0, .ref h0), (1, .int p1), (2, .int x30), (3, .int y53_3), (4, .int y53_4), (5, .int t145_0), (6, .int y53_6), (7, .int y82_7), (8, .int y82_8)] → W p l e (rmF 8 222) s m ([.ref h0, .int p1] : List Value).toArray below meth c H locs 0 0 (MQ below (QcI z (fun r H => ∃ σ' : Sg, some (r.toInt, σ' o0) = some out ∧ FR σ σ' o0 ∧ TY z (zA z) σ' H)) ([.ref h0, .int p1] : List Value).toArray s 0 0 (zA z)) (F0 m 176 ls [.int t176_0]) := by
                        intro ls H locs t176_0 σj176 hF hfr hT hS hl
                        unfold D_X7_orders_176 at hF
                        refine lv_istore (lv' := [(4, .int t176_0), (0, .ref h0), (1, .int p1), (2, .int x30), (3, .int y53_3), (5, .int t145_0), (6, .int y53_6), (7, .int y82_7), (8, .int y82_8)]) hx hb dX7_orders_176 hl (by decide) rfl (fun ls hl => ?_)
                        refine lv_iload_n hx hb dX7_orders_178 rfl (lv_at hl 4 rfl) ?_
                        refine lv_iload hx hb dX7_orders_179 (lv_at hl 7 rfl) ?_
                        have J189 : ∀ (ls : Array Slot) (H : Heap) (locs : List Loc) (t189_1 : Int32) (σj189 : Sg), (0 ≤ t189_1.toInt ∧ t189_1.toInt ≤ 1) → D_X7_orders_189 (D_X7_orders_53 p1.toInt x30.toInt n53) t145_0.toInt t176_0.toInt y53_3.toInt y53_6.toInt (σj189 o0) t189_1.toInt = some out → FR σ σj189 o0 → TY z (zA z) σj189 H → va_S (zA z) s.heap H locs → lv_has ls 9 [(0, .ref h0), (1, .int p1), (2, .int x30), (3, .int y53_3), (4, .int t176_0), (5, .int t145_0), (6, .int y53_6), (7, .int y82_7), (8, .int y82_8)] → W p l e (rmF 8 222) s m ([.ref h0, .int p1] : List Value).toArray below meth c H locs 0 0 (MQ below (QcI z (fun r H => ∃ σ' : Sg, some (r.toInt, σ' o0) = some out ∧ FR σ σ' o0 ∧ TY z (zA z) σ' H)) ([.ref h0, .int p1] : List Value).toArray s 0 0 (zA z)) (F0 m 189 ls [.int t189_1, .int y53_3]) := by
                          intro ls H locs t189_1 σj189 j189_t189_1 hF hfr hT hS hl
                          unfold D_X7_orders_189 at hF
                          obtain ⟨v189, hd189, -⟩ := bd0_s hF
                          refine cl_Si (rest := [.int y53_3]) hC hK hSK (c_X7_flag l z σj189 t189_1 v189 hd189 (by omega)) k_X7_flag mw_5_4 ⟨rfl, rfl, Nat.le_of_ble_eq_true rfl, Nat.le_of_ble_eq_true rfl⟩ hT rfl hl.1 rfl (Nat.le_of_ble_eq_true rfl) dX7_orders_189 ⟨Nat.zero_le _, Nat.zero_le _⟩ hS (fun _ h => h) (fun _ _ h => h) (fun r189 H locs hpo hS => ?_)
                          obtain ⟨he189, hT, u189_0⟩ := hpo
                          have hF := bd0_r hF hd189 he189
                          refine x_iadd hx hb dX7_orders_192 (fun x192 e192 => ?_)
                          have hF := bn hF e192
                          refine lv_istore_n (lv' := [(3, .int x192), (0, .ref h0), (1, .int p1), (2, .int x30), (4, .int t176_0), (5, .int t145_0), (6, .int y53_6), (7, .int y82_7), (8, .int y82_8)]) hx hb dX7_orders_193 rfl hl (by decide) rfl (fun ls hl => ?_)
                          exact J194 ls _ _ x192 t176_0 t145_0 σj189 hF hfr hT hS (lv_sub hl [1, 2, 3, 0, 4, 5, 6] rfl)
                        refine r_if_ne (tgt := 188) hx hb dX7_orders_181 (by decide) (fun c181 => ?_) (fun c181 => ?_)
                        · have hF := ifn hF c181
                          refine r_iconst hx hb dX7_orders_188 (by decide) (by decide) (fun x188 e188 => ?_)
                          have hF := bn hF e188
                          exact J189 ls _ _ x188 σj176 (by omega) hF hfr hT hS (lv_sub hl [1, 2, 3, 4, 0, 5, 6, 7, 8] rfl)
                        · have hF := ifp hF c181
                          refine r_iconst hx hb dX7_orders_184 (by decide) (by decide) (fun x184 e184 => ?_)
                          have hF := bn hF e184
                          refine lv_goto (tgt := 189) hx hb dX7_orders_185 (by decide) ?_
                          exact J189 ls _ _ x184 σj176 (by omega) hF hfr hT hS (lv_sub hl [1, 2, 3, 4, 0, 5, 6, 7, 8] rfl)
                      have J174 : ∀ (ls : Array Slot) (H : Heap) (locs : List Loc) (σj174 : Sg), D_X7_orders_174 (D_X7_orders_53 p1.toInt x30.toInt n53) t145_0.toInt y53_3.toInt y53_4.toInt y53_6.toInt y82_7.toInt (σj174 o0) = some out → FR σ σj174 o0 → TY z (zA z) σj174 H → va_S (zA z) s.heap H locs → lv_has ls 9 [(0, .ref h0), (1, .int p1), (2, .int x30), (3, .int y53_3), (4, .int y53_4), (5, .int t145_0), (6, .int y53_6), (7, .int y82_7), (8, .int y82_8)] → W p l e (rmF 8 222) s m ([.ref h0, .int p1] : List Value).toArray below meth c H locs 0 0 (MQ below (QcI z (fun r H => ∃ σ' : Sg, some (r.toInt, σ' o0) = some out ∧ FR σ σ' o0 ∧ TY z (zA z) σ' H)) ([.ref h0, .int p1] : List Value).toArray s 0 0 (zA z)) (F0 m 174 ls []) := by
                        intro ls H locs σj174 hF hfr hT hS hl
                        unfold D_X7_orders_174 at hF
                        refine lv_iload hx hb dX7_orders_174 (lv_at hl 4 rfl) ?_
                        exact J176 ls _ _ y53_4 σj174 hF hfr hT hS (lv_sub hl [0, 1, 2, 3, 4, 5, 6, 7, 8] rfl)
                      refine r_if_ne (tgt := 174) hx hb dX7_orders_149 (by decide) (fun c149 => ?_) (fun c149 => ?_)
                      · have hF := ifn hF c149
                        exact J174 ls _ _ σj145 hF hfr hT hS (lv_sub hl [1, 2, 3, 4, 5, 0, 6, 7, 8] rfl)
                      · have hF := ifp hF c149
                        refine lv_aload_n hx hb dX7_orders_152 rfl (lv_at hl 1 rfl) ?_
                        obtain ⟨v153, hd153, -⟩ := bd0_s hF
                        refine cl_Vi (rest := []) hC hK hSK (c_X7_round l z σj145 h0 (o0) g0 v153 hd153) k_X7_round mw_5_0 ⟨rfl, rfl, Nat.le_of_ble_eq_true rfl, Nat.le_of_ble_eq_true rfl⟩ (rv_Model hK hT g0) hT rfl hl.1 rfl (Nat.le_of_ble_eq_true rfl) dX7_orders_153 ⟨Nat.zero_le _, Nat.zero_le _⟩ hS (fun _ h => h) (fun _ _ h => h) (fun r153 H locs hpo hS => ?_)
                        obtain ⟨he153, hT⟩ := hpo
                        have hF := bd0_r hF hd153 he153
                        obtain ⟨v156, hd156, -⟩ := bd0_s hF
                        refine cl_Si (rest := []) hC hK hSK (c_X7_bitsOf l z σj145 r153 v156 hd156) k_X7_bitsOf mw_4_237 ⟨rfl, rfl, Nat.le_of_ble_eq_true rfl, Nat.le_of_ble_eq_true rfl⟩ hT rfl hl.1 rfl (Nat.le_of_ble_eq_true rfl) dX7_orders_156 ⟨Nat.zero_le _, Nat.zero_le _⟩ hS (fun _ h => h) (fun _ _ h => h) (fun r156 H locs hpo hS => ?_)
                        obtain ⟨he156, hT⟩ := hpo
                        have hF := bd0_r hF hd156 he156
                        refine lv_iload hx hb dX7_orders_159 (lv_at hl 5 rfl) ?_
                        refine r_icmp_le (tgt := 174) hx hb dX7_orders_161 (by decide) (fun c161 => ?_) (fun c161 => ?_)
                        · have hF := ifn hF (Int.not_lt.mpr c161)
                          exact J174 ls _ _ σj145 hF hfr hT hS (lv_sub hl [1, 2, 3, 4, 5, 0, 6, 7, 8] rfl)
                        · have hF := ifp hF c161
                          refine lv_aload_n hx hb dX7_orders_164 rfl (lv_at hl 1 rfl) ?_
                          obtain ⟨v165, hd165, -⟩ := bd0_s hF
                          refine cl_Vi (rest := []) hC hK hSK (c_X7_round l z σj145 h0 (o0) g0 v165 hd165) k_X7_round mw_5_0 ⟨rfl, rfl, Nat.le_of_ble_eq_true rfl, Nat.le_of_ble_eq_true rfl⟩ (rv_Model hK hT g0) hT rfl hl.1 rfl (Nat.le_of_ble_eq_true rfl) dX7_orders_165 ⟨Nat.zero_le _, Nat.zero_le _⟩ hS (fun _ h => h) (fun _ _ h => h) (fun r165 H locs hpo hS => ?_)
                          obtain ⟨he165, hT⟩ := hpo
                          have hF := bd0_r hF hd165 he165
                          obtain ⟨v168, hd168, -⟩ := bd0_s hF
                          refine cl_Si (rest := []) hC hK hSK (c_X7_bitsOf l z σj145 r165 v168 hd168) k_X7_bitsOf mw_4_237 ⟨rfl, rfl, Nat.le_of_ble_eq_true rfl, Nat.le_of_ble_eq_true rfl⟩ hT rfl hl.1 rfl (Nat.le_of_ble_eq_true rfl) dX7_orders_168 ⟨Nat.zero_le _, Nat.zero_le _⟩ hS (fun _ h => h) (fun _ _ h => h) (fun r168 H locs hpo hS => ?_)
                          obtain ⟨he168, hT⟩ := hpo
                          have hF := bd0_r hF hd168 he168
                          refine lv_goto (tgt := 176) hx hb dX7_orders_171 (by decide) ?_
                          exact J176 ls _ _ r168 σj145 hF hfr hT hS (lv_sub hl [1, 2, 3, 4, 5, 0, 6, 7, 8] rfl)
                    have J143 : ∀ (ls : Array Slot) (H : Heap) (locs : List Loc) (σj143 : Sg), D_X7_orders_143 (D_X7_orders_53 p1.toInt x30.toInt n53) y53_3.toInt y53_4.toInt y53_5.toInt y53_6.toInt y82_7.toInt (σj143 o0) = some out → FR σ σj143 o0 → TY z (zA z) σj143 H → va_S (zA z) s.heap H locs → lv_has ls 9 [(0, .ref h0), (1, .int p1), (2, .int x30), (3, .int y53_3), (4, .int y53_4), (5, .int y53_5), (6, .int y53_6), (7, .int y82_7), (8, .int y82_8)] → W p l e (rmF 8 222) s m ([.ref h0, .int p1] : List Value).toArray below meth c H locs 0 0 (MQ below (QcI z (fun r H => ∃ σ' : Sg, some (r.toInt, σ' o0) = some out ∧ FR σ σ' o0 ∧ TY z (zA z) σ' H)) ([.ref h0, .int p1] : List Value).toArray s 0 0 (zA z)) (F0 m 143 ls []) := by
                      intro ls H locs σj143 hF hfr hT hS hl
                      unfold D_X7_orders_143 at hF
                      refine lv_iload hx hb dX7_orders_143 (lv_at hl 5 rfl) ?_
                      exact J145 ls _ _ y53_5 σj143 hF hfr hT hS (lv_sub hl [0, 1, 2, 3, 4, 5, 6, 7, 8] rfl)
                    refine r_if_ne (tgt := 143) hx hb dX7_orders_131 (by decide) (fun c131 => ?_) (fun c131 => ?_)
                    · have hF := ifn hF c131
                      exact J143 ls _ _ σj129 hF hfr hT hS (lv_sub hl [0, 1, 2, 3, 4, 5, 6, 7, 8] rfl)
                    · have hF := ifp hF c131
                      refine lv_iload_n hx hb dX7_orders_134 rfl (lv_at hl 3 rfl) ?_
                      refine r_if_ne (tgt := 143) hx hb dX7_orders_135 (by decide) (fun c135 => ?_) (fun c135 => ?_)
                      · have hF := ifn hF c135
                        exact J143 ls _ _ σj129 hF hfr hT hS (lv_sub hl [0, 1, 2, 3, 4, 5, 6, 7, 8] rfl)
                      · have hF := ifp hF c135
                        refine lv_iload hx hb dX7_orders_138 (lv_at hl 6 rfl) ?_
                        refine lv_goto (tgt := 145) hx hb dX7_orders_140 (by decide) ?_
                        exact J145 ls _ _ y53_6 σj129 hF hfr hT hS (lv_sub hl [0, 1, 2, 3, 4, 5, 6, 7, 8] rfl)
                  refine r_icmp_ge (tgt := 129) hx hb dX7_orders_85 (by decide) (fun c85 => ?_) (fun c85 => ?_)
                  · have hF := ifn hF (Int.not_lt.mpr c85)
                    exact J129 ls _ _ σj82 hF hfr hT hS (lv_sub hl [0, 1, 2, 3, 4, 5, 6, 7, 8] rfl)
                  · have hF := ifp hF c85
                    refine lv_aload_n hx hb dX7_orders_88 rfl (lv_at hl 0 rfl) ?_
                    refine gt_Model_men hx hb hts ic_Model hown hK hT g0 (hts _ mw_4_73) dX7_orders_89 (fun x89 e89 f89 g89 => ?_)
                    have hF := bn hF e89
                    refine r_if_le (tgt := 129) hx hb dX7_orders_92 (by decide) (fun c92 => ?_) (fun c92 => ?_)
                    · have hF := ifn hF (Int.not_lt.mpr c92)
                      exact J129 ls _ _ σj82 hF hfr hT hS (lv_sub hl [0, 1, 2, 3, 4, 5, 6, 7, 8] rfl)
                    · have hF := ifp hF c92
                      refine lv_aload_n hx hb dX7_orders_95 rfl (lv_at hl 0 rfl) ?_
                      refine lv_aload_n hx hb dX7_orders_96 rfl (lv_at hl 0 rfl) ?_
                      refine gt_Model_now hx hb hts ic_Model hown hK hT g0 (hts _ mw_4_71) dX7_orders_97 (fun q97 hq97 => ?_)
                      refine r_bipush hx hb dX7_orders_100 rfl (fun x100 e100 => ?_)
                      have hF := bn hF e100
                      refine lv_aload_n hx hb dX7_orders_102 rfl (lv_at hl 0 rfl) ?_
                      refine gt_Model_order hx hb hts ic_Model hown hK hT g0 (hts _ mw_4_88) dX7_orders_103 (fun q103 hq103 => ?_)
                      refine lv_iload hx hb dX7_orders_106 (lv_at hl 8 rfl) ?_
                      refine al_46 hx hb hK hT hq103 (by omega) (by omega) dX7_orders_108 (fun x108 e108 g108 => ?_)
                      have hF := bn hF e108
                      refine r_iadd hx hb dX7_orders_109 (by omega) (by omega) (fun x109 e109 => ?_)
                      have hF := bn hF e109
                      refine al_41 hx hb hK hT hq97 (by omega) (by omega) dX7_orders_110 (fun x110 e110 g110 => ?_)
                      have hF := bn hF e110
                      obtain ⟨s111, hd111, -⟩ := bd1_s hF
                      refine cl_Vv (rest := []) hC hK hSK (c_X7_danceOn l z σj82 h0 (o0) g0 x110 s111 hd111) k_X7_danceOn mw_5_88 ⟨rfl, rfl, Nat.le_of_ble_eq_true rfl, Nat.le_of_ble_eq_true rfl⟩ (rv_Model hK hT g0) hT rfl hl.1 rfl (Nat.le_of_ble_eq_true rfl) dX7_orders_111 ⟨Nat.zero_le _, Nat.zero_le _⟩ hS (fun _ h => h) (fun _ _ h => h) (fun H locs hpo hS => ?_)
                      obtain ⟨σ111, he111, hf111, hT⟩ := hpo
                      have hF := bd1_r hF hd111 he111
                      have hfr := FR_tr hf111 hfr
                      refine lv_iload hx hb dX7_orders_114 (lv_at hl 7 rfl) ?_
                      refine lv_aload_n hx hb dX7_orders_116 rfl (lv_at hl 0 rfl) ?_
                      obtain ⟨v117, hd117, -⟩ := bd0_s hF
                      refine cl_Vi (rest := [.int y82_7]) hC hK hSK (c_X7_meetings l z σ111 h0 (o0) g0 v117 hd117) k_X7_meetings mw_5_113 ⟨rfl, rfl, Nat.le_of_ble_eq_true rfl, Nat.le_of_ble_eq_true rfl⟩ (rv_Model hK hT g0) hT rfl hl.1 rfl (Nat.le_of_ble_eq_true rfl) dX7_orders_117 ⟨Nat.zero_le _, Nat.zero_le _⟩ hS (fun _ h => h) (fun _ _ h => h) (fun r117 H locs hpo hS => ?_)
                      obtain ⟨he117, hT⟩ := hpo
                      have hF := bd0_r hF hd117 he117
                      refine x_iadd hx hb dX7_orders_120 (fun x120 e120 => ?_)
                      have hF := bn hF e120
                      refine lv_istore (lv' := [(7, .int x120), (0, .ref h0), (1, .int p1), (2, .int x30), (3, .int y53_3), (4, .int y53_4), (5, .int y53_5), (6, .int y53_6), (8, .int y82_8)]) hx hb dX7_orders_121 hl (by decide) rfl (fun ls hl => ?_)
                      refine r_iinc (lv' := fun v__ => [(8, .int v__), (7, .int x120), (0, .ref h0), (1, .int p1), (2, .int x30), (3, .int y53_3), (4, .int y53_4), (5, .int y53_5), (6, .int y53_6)]) hx hb dX7_orders_123 hl (k := 8) rfl (by decide) (fun _ => rfl) ⟨by decide, by decide⟩ (by omega) (by omega) (fun x123 ls e123 hl => ?_)
                      have hF := bn hF e123
                      refine lv_goto (tgt := 82) hx hb dX7_orders_126 (by decide) ?_
                      exact ih82 ls _ _ x120 x123 σ111 (by omega) hF hfr hT hS (lv_sub hl [2, 3, 4, 5, 6, 7, 8, 1, 0] rfl)
              exact J82 5000 ls _ _ x72 x79 σ76 (by omega) hF hfr hT hS (lv_sub hl [2, 3, 4, 5, 6, 7, 8, 1, 0] rfl)
      exact J53 5000 ls _ _ x40 x42 x46 x50 σj24 hF hfr hT hS (lv_sub hl [5, 6, 4, 3, 2, 1, 0] rfl)
    · have hF := ifp hF c34
      refine r_bipush hx hb dX7_orders_37 rfl (fun x37 e37 => ?_)
      have hF := bn hF e37
      exact rt_i hx hb hr hlk hS ⟨σj24, hF, hfr, hT⟩ dX7_orders_39
  refine r_if_ne (tgt := 24) hx hb dX7_orders_4 (by decide) (fun c4 => ?_) (fun c4 => ?_)
  · have hF := ifn hF c4
    exact J24 ls _ _ σ hF hfr hT hS (lv_sub hl [0, 1] rfl)
  · have hF := ifp hF c4
    refine lv_iload_n hx hb dX7_orders_7 rfl (lv_at hl 1 rfl) ?_
    refine r_bipush hx hb dX7_orders_8 rfl (fun x8 e8 => ?_)
    have hF := bn hF e8
    refine x_isub hx hb dX7_orders_10 (fun x10 e10 => ?_)
    have hF := bn hF e10
    refine r_i2l hx hb dX7_orders_11 (fun x11 e11 => ?_)
    have hF := bn hF e11
    refine r_lconst0 hx hb dX7_orders_12 (fun x12 e12 => ?_)
    have hF := bn hF e12
    refine r_ldc2 (4) rfl hx hb hts hown mw_5_112 dX7_orders_13 (fun x13 e13 => ?_)
    have hF := bn hF e13
    obtain ⟨v16, hd16, -⟩ := bd0_s hF
    refine cl_Si (rest := []) hC hK hSK (c_X7_in l z σ x11 x12 x13 v16 hd16) k_X7_in mw_4_154 ⟨rfl, rfl, Nat.le_of_ble_eq_true rfl, Nat.le_of_ble_eq_true rfl⟩ hT rfl hl.1 rfl (Nat.le_of_ble_eq_true rfl) dX7_orders_16 ⟨Nat.zero_le _, Nat.zero_le _⟩ hS (fun _ h => h) (fun _ _ h => h) (fun r16 H locs hpo hS => ?_)
    obtain ⟨he16, hT, u16_0, u16_1⟩ := hpo
    have hF := bd0_r hF hd16 he16
    refine r_if_ne (tgt := 24) hx hb dX7_orders_19 (by decide) (fun c19 => ?_) (fun c19 => ?_)
    · have hF := ifn hF c19
      exact J24 ls _ _ σ hF hfr hT hS (lv_sub hl [0, 1] rfl)
    · have hF := ifp hF c19
      refine r_iconst hx hb dX7_orders_22 (by decide) (by decide) (fun x22 e22 => ?_)
      have hF := bn hF e22
      exact rt_i hx hb hr hlk hS ⟨σ, hF, hfr, hT⟩ dX7_orders_23
theorem k_X7_again : cBV yX7_again cX7_again 6 (some .int) 1 := ⟨mw_5_160, mw_5_161, mw_1_8, mw_5_162, ⟨by decide, by decide, by decide⟩⟩
set_option maxHeartbeats 4000000 in
set_option maxRecDepth 100000 in
theorem c_X7_again (l : Launch) (z : Zt) (σ : Sg) (h0 o0 : Nat) (g0 : zG z h0 = (17, o0)) (p1 : Int32) (out : (Int × Lo)) (hF : D_X7_again (σ o0) p1.toInt = some out) : Met l yX7_again (uw yX7_again cX7_again 6 (some .int)) (rmF 9 244) (PcW z [.ref h0, .int p1] (fun H => TY z (zA z) σ H)) (QcI z (fun r H => ∃ σ' : Sg, some (r.toInt, σ' o0) = some out ∧ FR σ σ' o0 ∧ TY z (zA z) σ' H)) 0 0 (zA z) := by
  refine Met.ofW (cc := cX7_again) (maxL := 6) (ret := (some .int)) (by decide) rfl ?_
  intro p e s m args below meth c s₁ B hml hv
  obtain ⟨rfl, hT, hK, hSK⟩ := hv
  have hx := B.exec
  have hb := B.bytes
  have hr := B.returns
  have hts : ∀ w ∈ lw_ok, w.before ([.ref h0, .int p1] : List Value).toArray s = true := fun w hw => atoms_spec (ws := uw yX7_again cX7_again 6 (some .int)) B.pre w (List.mem_cons_of_mem _ hw)
  have hown : s.vm.findClass RX7 = some m.cls := findClass_of_methodNamed B.named
  have hlk := B.notSynchronized
  have hC : CallFix p m c cX7_again 6 s ([.ref h0, .int p1] : List Value).toArray lw_ok RX7 := ⟨hx, hb, hml, hown, hts⟩
  have hS : va_S (zA z) s.heap s.heap [] := va_S.rf
  have hl := lv_entry ([.ref h0, .int p1]) (n := 6) (Nat.le_of_ble_eq_true rfl)
  rw [lg_entry_eq]
  generalize (lg_sl ([.ref h0, .int p1]) ++ List.replicate (6 - (lg_sl ([.ref h0, .int p1])).length) Slot.unset).toArray = ls at hl ⊢
  have hl : lv_has ls 6 [(0, .ref h0), (1, .int p1)] := hl
  show W p l e (rmF 9 244) s m ([.ref h0, .int p1] : List Value).toArray below meth c s.heap [] 0 0 (MQ below (QcI z (fun r H => ∃ σ' : Sg, some (r.toInt, σ' o0) = some out ∧ FR σ σ' o0 ∧ TY z (zA z) σ' H)) ([.ref h0, .int p1] : List Value).toArray s 0 0 (zA z)) (F0 m 0 ls [])
  have hfr : FR σ σ o0 := FR_rf σ o0
  unfold D_X7_again at hF
  have mx_p1 := i_mx p1
  refine lv_iload_n hx hb dX7_again_0 rfl (lv_at hl 1 rfl) ?_
  obtain ⟨v1, hd1, -⟩ := bd0_s hF
  refine cl_Si (rest := []) hC hK hSK (c_X7_isPart l z σ p1 v1 hd1) k_X7_isPart mw_5_152 ⟨rfl, rfl, Nat.le_of_ble_eq_true rfl, Nat.le_of_ble_eq_true rfl⟩ hT rfl hl.1 rfl (Nat.le_of_ble_eq_true rfl) dX7_again_1 ⟨Nat.zero_le _, Nat.zero_le _⟩ hS (fun _ h => h) (fun _ _ h => h) (fun r1 H locs hpo hS => ?_)
  obtain ⟨he1, hT, u1_0, u1_1⟩ := hpo
  have hF := bd0_r hF hd1 he1
  refine r_if_ne (tgt := 9) hx hb dX7_again_4 (by decide) (fun c4 => ?_) (fun c4 => ?_)
  · have hF := ifn hF c4
    refine lv_aload_n hx hb dX7_again_9 rfl (lv_at hl 0 rfl) ?_
    refine r_iconst hx hb dX7_again_10 (by decide) (by decide) (fun x10 e10 => ?_)
    have hF := bn hF e10
    obtain ⟨s11, hd11, -⟩ := bd1_s hF
    refine cl_Vv (rest := []) hC hK hSK (c_X7_programTwice l z σ h0 (o0) g0 x10 s11 hd11) k_X7_programTwice mw_5_163 ⟨rfl, rfl, Nat.le_of_ble_eq_true rfl, Nat.le_of_ble_eq_true rfl⟩ (rv_Model hK hT g0) hT rfl hl.1 rfl (Nat.le_of_ble_eq_true rfl) dX7_again_11 ⟨Nat.zero_le _, Nat.zero_le _⟩ hS (fun _ h => h) (fun _ _ h => h) (fun H locs hpo hS => ?_)
    obtain ⟨σ11, he11, hf11, hT⟩ := hpo
    have hF := bd1_r hF hd11 he11
    have hfr := FR_tr hf11 hfr
    refine lv_aload_n hx hb dX7_again_14 rfl (lv_at hl 0 rfl) ?_
    obtain ⟨v15, hd15, -⟩ := bd0_s hF
    refine cl_Vi (rest := []) hC hK hSK (c_X7_round l z σ11 h0 (o0) g0 v15 hd15) k_X7_round mw_5_0 ⟨rfl, rfl, Nat.le_of_ble_eq_true rfl, Nat.le_of_ble_eq_true rfl⟩ (rv_Model hK hT g0) hT rfl hl.1 rfl (Nat.le_of_ble_eq_true rfl) dX7_again_15 ⟨Nat.zero_le _, Nat.zero_le _⟩ hS (fun _ h => h) (fun _ _ h => h) (fun r15 H locs hpo hS => ?_)
    obtain ⟨he15, hT⟩ := hpo
    have hF := bd0_r hF hd15 he15
    obtain ⟨v18, hd18, -⟩ := bd0_s hF
    refine cl_Si (rest := []) hC hK hSK (c_X7_bitsOf l z σ11 r15 v18 hd18) k_X7_bitsOf mw_4_237 ⟨rfl, rfl, Nat.le_of_ble_eq_true rfl, Nat.le_of_ble_eq_true rfl⟩ hT rfl hl.1 rfl (Nat.le_of_ble_eq_true rfl) dX7_again_18 ⟨Nat.zero_le _, Nat.zero_le _⟩ hS (fun _ h => h) (fun _ _ h => h) (fun r18 H locs hpo hS => ?_)
    obtain ⟨he18, hT⟩ := hpo
    have hF := bd0_r hF hd18 he18
    refine lv_istore_n (lv' := [(2, .int r18), (0, .ref h0), (1, .int p1)]) hx hb dX7_again_21 rfl hl (by decide) rfl (fun ls hl => ?_)
    refine r_bipush hx hb dX7_again_22 rfl (fun x22 e22 => ?_)
    have hF := bn hF e22
    refine lv_istore_n (lv' := [(3, .int x22), (2, .int r18), (0, .ref h0), (1, .int p1)]) hx hb dX7_again_24 rfl hl (by decide) rfl (fun ls hl => ?_)
    refine r_iconst hx hb dX7_again_25 (by decide) (by decide) (fun x25 e25 => ?_)
    have hF := bn hF e25
    refine lv_istore (lv' := [(4, .int x25), (3, .int x22), (2, .int r18), (0, .ref h0), (1, .int p1)]) hx hb dX7_again_26 hl (by decide) rfl (fun ls hl => ?_)
    have J28 : ∀ (n28 : Nat) (ls : Array Slot) (H : Heap) (locs : List Loc) (y28_2 : Int32) (y28_3 : Int32) (y28_4 : Int32) (σj28 : Sg), (-4 ≤ y28_3.toInt ∧ y28_3.toInt ≤ 7) → (0 ≤ y28_4.toInt ∧ y28_4.toInt ≤ 8) → D_X7_again_28 p1.toInt n28 (σj28 o0) y28_2.toInt y28_3.toInt y28_4.toInt = some out → FR σ σj28 o0 → TY z (zA z) σj28 H → va_S (zA z) s.heap H locs → lv_has ls 6 [(0, .ref h0), (1, .int p1), (2, .int y28_2), (3, .int y28_3), (4, .int y28_4)] → W p l e (rmF 9 244) s m ([.ref h0, .int p1] : List Value).toArray below meth c H locs 0 0 (MQ below (QcI z (fun r H => ∃ σ' : Sg, some (r.toInt, σ' o0) = some out ∧ FR σ σ' o0 ∧ TY z (zA z) σ' H)) ([.ref h0, .int p1] : List Value).toArray s 0 0 (zA z)) (F0 m 28 ls []) := by
      intro n28
      induction n28 with
      | zero => intro ls H locs y28_2 y28_3 y28_4 σj28 j28_y28_3 j28_y28_4 hF hfr hT hS hl; exact (no_s hF).elim
      | succ n28 ih28 =>
        intro ls H locs y28_2 y28_3 y28_4 σj28 j28_y28_3 j28_y28_4 hF hfr hT hS hl
        rw [D_X7_again_28.eq_2] at hF
        refine lv_iload hx hb dX7_again_28 (lv_at hl 4 rfl) ?_
        refine lv_aload_n hx hb dX7_again_30 rfl (lv_at hl 0 rfl) ?_
        refine gt_Model_st hx hb hts ic_Model hown hK hT g0 (hts _ mw_4_70) dX7_again_31 (fun q31 hq31 => ?_)
        refine r_bipush hx hb dX7_again_34 rfl (fun x34 e34 => ?_)
        have hF := bn hF e34
        refine al_40 hx hb hK hT hq31 (by omega) (by omega) dX7_again_36 (fun x36 e36 g36 => ?_)
        have hF := bn hF e36
        have f36 := gd59_31 (gd177_e g36 (by omega)) (by omega)
        refine r_icmp_ge (tgt := 89) hx hb dX7_again_37 (by decide) (fun c37 => ?_) (fun c37 => ?_)
        · have hF := ifn hF (Int.not_lt.mpr c37)
          refine lv_iload_n hx hb dX7_again_89 rfl (lv_at hl 3 rfl) ?_
          refine r_bipush hx hb dX7_again_90 rfl (fun x90 e90 => ?_)
          have hF := bn hF e90
          refine r_icmp_ne (tgt := 100) hx hb dX7_again_92 (by decide) (fun c92 => ?_) (fun c92 => ?_)
          · have hF := ifn hF c92
            refine lv_iload_n hx hb dX7_again_100 rfl (lv_at hl 1 rfl) ?_
            refine r_if_ne (tgt := 108) hx hb dX7_again_101 (by decide) (fun c101 => ?_) (fun c101 => ?_)
            · have hF := ifn hF c101
              refine lv_iload_n hx hb dX7_again_108 rfl (lv_at hl 2 rfl) ?_
              exact rt_i hx hb hr hlk hS ⟨σj28, hF, hfr, hT⟩ dX7_again_109
            · have hF := ifp hF c101
              refine lv_iload_n hx hb dX7_again_104 rfl (lv_at hl 3 rfl) ?_
              refine lv_goto (tgt := 109) hx hb dX7_again_105 (by decide) ?_
              exact rt_i hx hb hr hlk hS ⟨σj28, hF, hfr, hT⟩ dX7_again_109
          · have hF := ifp hF c92
            refine r_bipush hx hb dX7_again_95 rfl (fun x95 e95 => ?_)
            have hF := bn hF e95
            refine lv_goto (tgt := 109) hx hb dX7_again_97 (by decide) ?_
            exact rt_i hx hb hr hlk hS ⟨σj28, hF, hfr, hT⟩ dX7_again_109
        · have hF := ifp hF c37
          refine lv_aload_n hx hb dX7_again_40 rfl (lv_at hl 0 rfl) ?_
          refine r_iconst hx hb dX7_again_41 (by decide) (by decide) (fun x41 e41 => ?_)
          have hF := bn hF e41
          refine lv_iload hx hb dX7_again_42 (lv_at hl 4 rfl) ?_
          refine x_shl1 hx hb dX7_again_44 (by omega) (by omega) (by omega) (fun x44 e44 g44 h44 => ?_)
          have hF := bn hF e44
          obtain ⟨s45, hd45, -⟩ := bd1_s hF
          refine cl_Vv (rest := []) hC hK hSK (c_X7_programTwice l z σj28 h0 (o0) g0 x44 s45 hd45) k_X7_programTwice mw_5_163 ⟨rfl, rfl, Nat.le_of_ble_eq_true rfl, Nat.le_of_ble_eq_true rfl⟩ (rv_Model hK hT g0) hT rfl hl.1 rfl (Nat.le_of_ble_eq_true rfl) dX7_again_45 ⟨Nat.zero_le _, Nat.zero_le _⟩ hS (fun _ h => h) (fun _ _ h => h) (fun H locs hpo hS => ?_)
          obtain ⟨σ45, he45, hf45, hT⟩ := hpo
          have hF := bd1_r hF hd45 he45
          have hfr := FR_tr hf45 hfr
          refine lv_aload_n hx hb dX7_again_48 rfl (lv_at hl 0 rfl) ?_
          obtain ⟨v49, hd49, -⟩ := bd0_s hF
          refine cl_Vi (rest := []) hC hK hSK (c_X7_round l z σ45 h0 (o0) g0 v49 hd49) k_X7_round mw_5_0 ⟨rfl, rfl, Nat.le_of_ble_eq_true rfl, Nat.le_of_ble_eq_true rfl⟩ (rv_Model hK hT g0) hT rfl hl.1 rfl (Nat.le_of_ble_eq_true rfl) dX7_again_49 ⟨Nat.zero_le _, Nat.zero_le _⟩ hS (fun _ h => h) (fun _ _ h => h) (fun r49 H locs hpo hS => ?_)
          obtain ⟨he49, hT⟩ := hpo
          have hF := bd0_r hF hd49 he49
          obtain ⟨v52, hd52, -⟩ := bd0_s hF
          refine cl_Si (rest := []) hC hK hSK (c_X7_bitsOf l z σ45 r49 v52 hd52) k_X7_bitsOf mw_4_237 ⟨rfl, rfl, Nat.le_of_ble_eq_true rfl, Nat.le_of_ble_eq_true rfl⟩ hT rfl hl.1 rfl (Nat.le_of_ble_eq_true rfl) dX7_again_52 ⟨Nat.zero_le _, Nat.zero_le _⟩ hS (fun _ h => h) (fun _ _ h => h) (fun r52 H locs hpo hS => ?_)
          obtain ⟨he52, hT⟩ := hpo
          have hF := bd0_r hF hd52 he52
          refine lv_istore (lv' := [(5, .int r52), (0, .ref h0), (1, .int p1), (2, .int y28_2), (3, .int y28_3), (4, .int y28_4)]) hx hb dX7_again_55 hl (by decide) rfl (fun ls hl => ?_)
          refine lv_iload hx hb dX7_again_57 (lv_at hl 0 rfl) ?_
          refine lv_iload_n hx hb dX7_again_59 rfl (lv_at hl 3 rfl) ?_
          have J69 : ∀ (ls : Array Slot) (H : Heap) (locs : List Loc) (t69_0 : Int32) (σj69 : Sg), (-4 ≤ t69_0.toInt ∧ t69_0.toInt ≤ 7) → D_X7_again_69 (D_X7_again_28 p1.toInt n28) r52.toInt y28_2.toInt y28_4.toInt (σj69 o0) t69_0.toInt = some out → FR σ σj69 o0 → TY z (zA z) σj69 H → va_S (zA z) s.heap H locs → lv_has ls 6 [(0, .ref h0), (1, .int p1), (2, .int y28_2), (3, .int y28_3), (4, .int y28_4), (5, .int r52)] → W p l e (rmF 9 244) s m ([.ref h0, .int p1] : List Value).toArray below meth c H locs 0 0 (MQ below (QcI z (fun r H => ∃ σ' : Sg, some (r.toInt, σ' o0) = some out ∧ FR σ σ' o0 ∧ TY z (zA z) σ' H)) ([.ref h0, .int p1] : List Value).toArray s 0 0 (zA z)) (F0 m 69 ls [.int t69_0]) := by
            intro ls H locs t69_0 σj69 j69_t69_0 hF hfr hT hS hl
            unfold D_X7_again_69 at hF
            refine lv_istore_n (lv' := [(3, .int t69_0), (0, .ref h0), (1, .int p1), (2, .int y28_2), (4, .int y28_4), (5, .int r52)]) hx hb dX7_again_69 rfl hl (by decide) rfl (fun ls hl => ?_)
            refine lv_iload hx hb dX7_again_70 (lv_at hl 5 rfl) ?_
            refine lv_iload_n hx hb dX7_again_72 rfl (lv_at hl 3 rfl) ?_
            have J82 : ∀ (ls : Array Slot) (H : Heap) (locs : List Loc) (t82_0 : Int32) (σj82 : Sg), D_X7_again_82 (D_X7_again_28 p1.toInt n28) t69_0.toInt y28_4.toInt (σj82 o0) t82_0.toInt = some out → FR σ σj82 o0 → TY z (zA z) σj82 H → va_S (zA z) s.heap H locs → lv_has ls 6 [(0, .ref h0), (1, .int p1), (2, .int y28_2), (3, .int t69_0), (4, .int y28_4), (5, .int r52)] → W p l e (rmF 9 244) s m ([.ref h0, .int p1] : List Value).toArray below meth c H locs 0 0 (MQ below (QcI z (fun r H => ∃ σ' : Sg, some (r.toInt, σ' o0) = some out ∧ FR σ σ' o0 ∧ TY z (zA z) σ' H)) ([.ref h0, .int p1] : List Value).toArray s 0 0 (zA z)) (F0 m 82 ls [.int t82_0]) := by
              intro ls H locs t82_0 σj82 hF hfr hT hS hl
              unfold D_X7_again_82 at hF
              refine lv_istore_n (lv' := [(2, .int t82_0), (0, .ref h0), (1, .int p1), (3, .int t69_0), (4, .int y28_4), (5, .int r52)]) hx hb dX7_again_82 rfl hl (by decide) rfl (fun ls hl => ?_)
              refine r_iinc (lv' := fun v__ => [(4, .int v__), (2, .int t82_0), (0, .ref h0), (1, .int p1), (3, .int t69_0), (5, .int r52)]) hx hb dX7_again_83 hl (k := 4) rfl (by decide) (fun _ => rfl) ⟨by decide, by decide⟩ (by omega) (by omega) (fun x83 ls e83 hl => ?_)
              have hF := bn hF e83
              refine lv_goto (tgt := 28) hx hb dX7_again_86 (by decide) ?_
              exact ih28 ls _ _ t82_0 t69_0 x83 σj82 (by omega) (by omega) hF hfr hT hS (lv_sub hl [2, 3, 1, 4, 0] rfl)
            refine r_icmp_le (tgt := 81) hx hb dX7_again_73 (by decide) (fun c73 => ?_) (fun c73 => ?_)
            · have hF := ifn hF (Int.not_lt.mpr c73)
              refine lv_iload_n hx hb dX7_again_81 rfl (lv_at hl 3 rfl) ?_
              exact J82 ls _ _ y28_2 σj69 hF hfr hT hS (lv_sub hl [1, 2, 3, 0, 4, 5] rfl)
            · have hF := ifp hF c73
              refine lv_iload hx hb dX7_again_76 (lv_at hl 5 rfl) ?_
              refine lv_goto (tgt := 82) hx hb dX7_again_78 (by decide) ?_
              exact J82 ls _ _ r52 σj69 hF hfr hT hS (lv_sub hl [1, 2, 3, 0, 4, 5] rfl)
          refine r_icmp_le (tgt := 68) hx hb dX7_again_60 (by decide) (fun c60 => ?_) (fun c60 => ?_)
          · have hF := ifn hF (Int.not_lt.mpr c60)
            refine lv_iload_n hx hb dX7_again_68 rfl (lv_at hl 4 rfl) ?_
            exact J69 ls _ _ y28_3 σ45 (by omega) hF hfr hT hS (lv_sub hl [1, 2, 3, 4, 5, 0] rfl)
          · have hF := ifp hF c60
            refine lv_iload hx hb dX7_again_63 (lv_at hl 5 rfl) ?_
            refine lv_goto (tgt := 69) hx hb dX7_again_65 (by decide) ?_
            exact J69 ls _ _ y28_4 σ45 (by omega) hF hfr hT hS (lv_sub hl [1, 2, 3, 4, 5, 0] rfl)
    exact J28 5000 ls _ _ r18 x22 x25 σ11 (by omega) (by omega) hF hfr hT hS (lv_sub hl [3, 4, 2, 1, 0] rfl)
  · have hF := ifp hF c4
    refine r_iconst hx hb dX7_again_7 (by decide) (by decide) (fun x7 e7 => ?_)
    have hF := bn hF e7
    exact rt_i hx hb hr hlk hS ⟨σ, hF, hfr, hT⟩ dX7_again_8
theorem k_X7_coins : cBV yX7_coins cX7_coins 5 (some .int) 1 := ⟨mw_5_168, mw_5_169, mw_1_8, mw_5_170, ⟨by decide, by decide, by decide⟩⟩
set_option maxHeartbeats 4000000 in
set_option maxRecDepth 100000 in
theorem c_X7_coins (l : Launch) (z : Zt) (σ : Sg) (h0 o0 : Nat) (g0 : zG z h0 = (17, o0)) (p1 : Int32) (out : (Int × Lo)) (hF : D_X7_coins (σ o0) p1.toInt = some out) : Met l yX7_coins (uw yX7_coins cX7_coins 5 (some .int)) (rmF 9 244) (PcW z [.ref h0, .int p1] (fun H => TY z (zA z) σ H)) (QcI z (fun r H => ∃ σ' : Sg, some (r.toInt, σ' o0) = some out ∧ FR σ σ' o0 ∧ TY z (zA z) σ' H)) 0 0 (zA z) := by
  refine Met.ofW (cc := cX7_coins) (maxL := 5) (ret := (some .int)) (by decide) rfl ?_
  intro p e s m args below meth c s₁ B hml hv
  obtain ⟨rfl, hT, hK, hSK⟩ := hv
  have hx := B.exec
  have hb := B.bytes
  have hr := B.returns
  have hts : ∀ w ∈ lw_ok, w.before ([.ref h0, .int p1] : List Value).toArray s = true := fun w hw => atoms_spec (ws := uw yX7_coins cX7_coins 5 (some .int)) B.pre w (List.mem_cons_of_mem _ hw)
  have hown : s.vm.findClass RX7 = some m.cls := findClass_of_methodNamed B.named
  have hlk := B.notSynchronized
  have hC : CallFix p m c cX7_coins 5 s ([.ref h0, .int p1] : List Value).toArray lw_ok RX7 := ⟨hx, hb, hml, hown, hts⟩
  have hS : va_S (zA z) s.heap s.heap [] := va_S.rf
  have hl := lv_entry ([.ref h0, .int p1]) (n := 5) (Nat.le_of_ble_eq_true rfl)
  rw [lg_entry_eq]
  generalize (lg_sl ([.ref h0, .int p1]) ++ List.replicate (5 - (lg_sl ([.ref h0, .int p1])).length) Slot.unset).toArray = ls at hl ⊢
  have hl : lv_has ls 5 [(0, .ref h0), (1, .int p1)] := hl
  show W p l e (rmF 9 244) s m ([.ref h0, .int p1] : List Value).toArray below meth c s.heap [] 0 0 (MQ below (QcI z (fun r H => ∃ σ' : Sg, some (r.toInt, σ' o0) = some out ∧ FR σ σ' o0 ∧ TY z (zA z) σ' H)) ([.ref h0, .int p1] : List Value).toArray s 0 0 (zA z)) (F0 m 0 ls [])
  have hfr : FR σ σ o0 := FR_rf σ o0
  unfold D_X7_coins at hF
  have mx_p1 := i_mx p1
  refine lv_iload_n hx hb dX7_coins_0 rfl (lv_at hl 1 rfl) ?_
  refine r_i2l hx hb dX7_coins_1 (fun x1 e1 => ?_)
  have hF := bn hF e1
  refine r_lconst0 hx hb dX7_coins_2 (fun x2 e2 => ?_)
  have hF := bn hF e2
  refine r_iconst hx hb dX7_coins_3 (by decide) (by decide) (fun x3 e3 => ?_)
  have hF := bn hF e3
  refine lv_aload_n hx hb dX7_coins_4 rfl (lv_at hl 0 rfl) ?_
  refine gt_Model_men hx hb hts ic_Model hown hK hT g0 (hts _ mw_4_73) dX7_coins_5 (fun x5 e5 f5 g5 => ?_)
  have hF := bn hF e5
  refine x_shl1 hx hb dX7_coins_8 (by omega) (by omega) (by omega) (fun x8 e8 g8 h8 => ?_)
  have hF := bn hF e8
  refine r_iconst hx hb dX7_coins_9 (by decide) (by decide) (fun x9 e9 => ?_)
  have hF := bn hF e9
  refine r_isub hx hb dX7_coins_10 (by omega) (by omega) (fun x10 e10 => ?_)
  have hF := bn hF e10
  refine r_i2l hx hb dX7_coins_11 (fun x11 e11 => ?_)
  have hF := bn hF e11
  obtain ⟨v12, hd12, -⟩ := bd0_s hF
  refine cl_Si (rest := []) hC hK hSK (c_X7_in l z σ x1 x2 x11 v12 hd12) k_X7_in mw_4_154 ⟨rfl, rfl, Nat.le_of_ble_eq_true rfl, Nat.le_of_ble_eq_true rfl⟩ hT rfl hl.1 rfl (Nat.le_of_ble_eq_true rfl) dX7_coins_12 ⟨Nat.zero_le _, Nat.zero_le _⟩ hS (fun _ h => h) (fun _ _ h => h) (fun r12 H locs hpo hS => ?_)
  obtain ⟨he12, hT, u12_0, u12_1⟩ := hpo
  have hF := bd0_r hF hd12 he12
  refine r_if_ne (tgt := 20) hx hb dX7_coins_15 (by decide) (fun c15 => ?_) (fun c15 => ?_)
  · have hF := ifn hF c15
    refine lv_aload_n hx hb dX7_coins_20 rfl (lv_at hl 0 rfl) ?_
    refine gt_Model_st hx hb hts ic_Model hown hK hT g0 (hts _ mw_4_70) dX7_coins_21 (fun q21 hq21 => ?_)
    refine r_bipush hx hb dX7_coins_24 rfl (fun x24 e24 => ?_)
    have hF := bn hF e24
    refine al_40 hx hb hK hT hq21 (by omega) (by omega) dX7_coins_26 (fun x26 e26 g26 => ?_)
    have hF := bn hF e26
    have f26 := gd59_31 (gd177_e g26 (by omega)) (by omega)
    refine r_iconst hx hb dX7_coins_27 (by decide) (by decide) (fun x27 e27 => ?_)
    have hF := bn hF e27
    refine r_icmp_le (tgt := 34) hx hb dX7_coins_28 (by decide) (fun c28 => ?_) (fun c28 => ?_)
    · have hF := ifn hF (Int.not_lt.mpr c28)
      refine r_ldc (1000000) rfl hx hb hts hown mw_5_171 dX7_coins_34 (fun x34 e34 => ?_)
      have hF := bn hF e34
      refine lv_istore_n (lv' := [(2, .int x34), (0, .ref h0), (1, .int p1)]) hx hb dX7_coins_36 rfl hl (by decide) rfl (fun ls hl => ?_)
      refine r_iconst hx hb dX7_coins_37 (by decide) (by decide) (fun x37 e37 => ?_)
      have hF := bn hF e37
      refine lv_istore_n (lv' := [(3, .int x37), (2, .int x34), (0, .ref h0), (1, .int p1)]) hx hb dX7_coins_38 rfl hl (by decide) rfl (fun ls hl => ?_)
      have J39 : ∀ (n39 : Nat) (ls : Array Slot) (H : Heap) (locs : List Loc) (y39_2 : Int32) (y39_3 : Int32) (σj39 : Sg), (0 ≤ y39_3.toInt ∧ y39_3.toInt ≤ 256) → D_X7_coins_39 p1.toInt n39 (σj39 o0) y39_2.toInt y39_3.toInt = some out → FR σ σj39 o0 → TY z (zA z) σj39 H → va_S (zA z) s.heap H locs → lv_has ls 5 [(0, .ref h0), (1, .int p1), (2, .int y39_2), (3, .int y39_3)] → W p l e (rmF 9 244) s m ([.ref h0, .int p1] : List Value).toArray below meth c H locs 0 0 (MQ below (QcI z (fun r H => ∃ σ' : Sg, some (r.toInt, σ' o0) = some out ∧ FR σ σ' o0 ∧ TY z (zA z) σ' H)) ([.ref h0, .int p1] : List Value).toArray s 0 0 (zA z)) (F0 m 39 ls []) := by
        intro n39
        induction n39 with
        | zero => intro ls H locs y39_2 y39_3 σj39 j39_y39_3 hF hfr hT hS hl; exact (no_s hF).elim
        | succ n39 ih39 =>
          intro ls H locs y39_2 y39_3 σj39 j39_y39_3 hF hfr hT hS hl
          rw [D_X7_coins_39.eq_2] at hF
          refine lv_iload_n hx hb dX7_coins_39 rfl (lv_at hl 3 rfl) ?_
          refine r_iconst hx hb dX7_coins_40 (by decide) (by decide) (fun x40 e40 => ?_)
          have hF := bn hF e40
          refine lv_aload_n hx hb dX7_coins_41 rfl (lv_at hl 0 rfl) ?_
          refine gt_Model_st hx hb hts ic_Model hown hK hT g0 (hts _ mw_4_70) dX7_coins_42 (fun q42 hq42 => ?_)
          refine r_bipush hx hb dX7_coins_45 rfl (fun x45 e45 => ?_)
          have hF := bn hF e45
          refine al_40 hx hb hK hT hq42 (by omega) (by omega) dX7_coins_47 (fun x47 e47 g47 => ?_)
          have hF := bn hF e47
          have f47 := gd59_31 (gd177_e g47 (by omega)) (by omega)
          refine x_shl1 hx hb dX7_coins_48 (by omega) (by omega) (by omega) (fun x48 e48 g48 h48 => ?_)
          have hF := bn hF e48
          refine r_icmp_ge (tgt := 103) hx hb dX7_coins_49 (by decide) (fun c49 => ?_) (fun c49 => ?_)
          · have hF := ifn hF (Int.not_lt.mpr c49)
            refine lv_iload_n hx hb dX7_coins_103 rfl (lv_at hl 2 rfl) ?_
            refine r_ldc (1000000) rfl hx hb hts hown mw_5_171 dX7_coins_104 (fun x104 e104 => ?_)
            have hF := bn hF e104
            refine r_icmp_ne (tgt := 114) hx hb dX7_coins_106 (by decide) (fun c106 => ?_) (fun c106 => ?_)
            · have hF := ifn hF c106
              refine lv_iload_n hx hb dX7_coins_114 rfl (lv_at hl 2 rfl) ?_
              exact rt_i hx hb hr hlk hS ⟨σj39, hF, hfr, hT⟩ dX7_coins_115
            · have hF := ifp hF c106
              refine r_bipush hx hb dX7_coins_109 rfl (fun x109 e109 => ?_)
              have hF := bn hF e109
              refine lv_goto (tgt := 115) hx hb dX7_coins_111 (by decide) ?_
              exact rt_i hx hb hr hlk hS ⟨σj39, hF, hfr, hT⟩ dX7_coins_115
          · have hF := ifp hF c49
            refine lv_aload_n hx hb dX7_coins_52 rfl (lv_at hl 0 rfl) ?_
            refine lv_iload_n hx hb dX7_coins_53 rfl (lv_at hl 3 rfl) ?_
            obtain ⟨s54, hd54, -⟩ := bd1_s hF
            refine cl_Vv (rest := []) hC hK hSK (c_X7_programTwice l z σj39 h0 (o0) g0 y39_3 s54 hd54) k_X7_programTwice mw_5_163 ⟨rfl, rfl, Nat.le_of_ble_eq_true rfl, Nat.le_of_ble_eq_true rfl⟩ (rv_Model hK hT g0) hT rfl hl.1 rfl (Nat.le_of_ble_eq_true rfl) dX7_coins_54 ⟨Nat.zero_le _, Nat.zero_le _⟩ hS (fun _ h => h) (fun _ _ h => h) (fun H locs hpo hS => ?_)
            obtain ⟨σ54, he54, hf54, hT⟩ := hpo
            have hF := bd1_r hF hd54 he54
            have hfr := FR_tr hf54 hfr
            refine lv_iload_n hx hb dX7_coins_57 rfl (lv_at hl 1 rfl) ?_
            refine lv_aload_n hx hb dX7_coins_58 rfl (lv_at hl 0 rfl) ?_
            obtain ⟨v59, hd59, -⟩ := bd0_s hF
            refine cl_Vi (rest := [.int p1]) hC hK hSK (c_X7_round l z σ54 h0 (o0) g0 v59 hd59) k_X7_round mw_5_0 ⟨rfl, rfl, Nat.le_of_ble_eq_true rfl, Nat.le_of_ble_eq_true rfl⟩ (rv_Model hK hT g0) hT rfl hl.1 rfl (Nat.le_of_ble_eq_true rfl) dX7_coins_59 ⟨Nat.zero_le _, Nat.zero_le _⟩ hS (fun _ h => h) (fun _ _ h => h) (fun r59 H locs hpo hS => ?_)
            obtain ⟨he59, hT⟩ := hpo
            have hF := bd0_r hF hd59 he59
            refine r_iconst hx hb dX7_coins_62 (by decide) (by decide) (fun x62 e62 => ?_)
            have hF := bn hF e62
            refine x_ixor hx hb dX7_coins_63 (fun x63 e63 => ?_)
            have hF := bn hF e63
            refine x_iand hx hb dX7_coins_64 (fun x64 e64 => ?_)
            have hF := bn hF e64
            have J81 : ∀ (ls : Array Slot) (H : Heap) (locs : List Loc) (t81_0 : Int32) (σj81 : Sg), (0 ≤ t81_0.toInt ∧ t81_0.toInt ≤ 1) → D_X7_coins_81 (D_X7_coins_39 p1.toInt n39) y39_2.toInt y39_3.toInt (σj81 o0) t81_0.toInt = some out → FR σ σj81 o0 → TY z (zA z) σj81 H → va_S (zA z) s.heap H locs → lv_has ls 5 [(0, .ref h0), (1, .int p1), (2, .int y39_2), (3, .int y39_3)] → W p l e (rmF 9 244) s m ([.ref h0, .int p1] : List Value).toArray below meth c H locs 0 0 (MQ below (QcI z (fun r H => ∃ σ' : Sg, some (r.toInt, σ' o0) = some out ∧ FR σ σ' o0 ∧ TY z (zA z) σ' H)) ([.ref h0, .int p1] : List Value).toArray s 0 0 (zA z)) (F0 m 81 ls [.int t81_0]) := by
              intro ls H locs t81_0 σj81 j81_t81_0 hF hfr hT hS hl
              unfold D_X7_coins_81 at hF
              refine lv_istore (lv' := [(4, .int t81_0), (0, .ref h0), (1, .int p1), (2, .int y39_2), (3, .int y39_3)]) hx hb dX7_coins_81 hl (by decide) rfl (fun ls hl => ?_)
              refine lv_iload hx hb dX7_coins_83 (lv_at hl 0 rfl) ?_
              have J96 : ∀ (ls : Array Slot) (H : Heap) (locs : List Loc) (t96_0 : Int32) (σj96 : Sg), D_X7_coins_96 (D_X7_coins_39 p1.toInt n39) y39_3.toInt (σj96 o0) t96_0.toInt = some out → FR σ σj96 o0 → TY z (zA z) σj96 H → va_S (zA z) s.heap H locs → lv_has ls 5 [(0, .ref h0), (1, .int p1), (2, .int y39_2), (3, .int y39_3), (4, .int t81_0)] → W p l e (rmF 9 244) s m ([.ref h0, .int p1] : List Value).toArray below meth c H locs 0 0 (MQ below (QcI z (fun r H => ∃ σ' : Sg, some (r.toInt, σ' o0) = some out ∧ FR σ σ' o0 ∧ TY z (zA z) σ' H)) ([.ref h0, .int p1] : List Value).toArray s 0 0 (zA z)) (F0 m 96 ls [.int t96_0]) := by
                intro ls H locs t96_0 σj96 hF hfr hT hS hl
                unfold D_X7_coins_96 at hF
                refine lv_istore_n (lv' := [(2, .int t96_0), (0, .ref h0), (1, .int p1), (3, .int y39_3), (4, .int t81_0)]) hx hb dX7_coins_96 rfl hl (by decide) rfl (fun ls hl => ?_)
                refine r_iinc (lv' := fun v__ => [(3, .int v__), (2, .int t96_0), (0, .ref h0), (1, .int p1), (4, .int t81_0)]) hx hb dX7_coins_97 hl (k := 3) rfl (by decide) (fun _ => rfl) ⟨by decide, by decide⟩ (by omega) (by omega) (fun x97 ls e97 hl => ?_)
                have hF := bn hF e97
                refine lv_goto (tgt := 39) hx hb dX7_coins_100 (by decide) ?_
                exact ih39 ls _ _ t96_0 x97 σj96 (by omega) hF hfr hT hS (lv_sub hl [2, 3, 1, 0] rfl)
              refine r_if_eq (tgt := 95) hx hb dX7_coins_85 (by decide) (fun c85 => ?_) (fun c85 => ?_)
              · have hF := ifp hF c85
                refine lv_iload_n hx hb dX7_coins_95 rfl (lv_at hl 3 rfl) ?_
                exact J96 ls _ _ y39_2 σj81 hF hfr hT hS (lv_sub hl [1, 2, 3, 4, 0] rfl)
              · have hF := ifn hF c85
                refine lv_iload_n hx hb dX7_coins_88 rfl (lv_at hl 4 rfl) ?_
                obtain ⟨v89, hd89, -⟩ := bd0_s hF
                refine cl_Si (rest := []) hC hK hSK (c_X7_bitsOf l z σj81 y39_3 v89 hd89) k_X7_bitsOf mw_4_237 ⟨rfl, rfl, Nat.le_of_ble_eq_true rfl, Nat.le_of_ble_eq_true rfl⟩ hT rfl hl.1 rfl (Nat.le_of_ble_eq_true rfl) dX7_coins_89 ⟨Nat.zero_le _, Nat.zero_le _⟩ hS (fun _ h => h) (fun _ _ h => h) (fun r89 H locs hpo hS => ?_)
                obtain ⟨he89, hT⟩ := hpo
                have hF := bd0_r hF hd89 he89
                refine lv_goto (tgt := 96) hx hb dX7_coins_92 (by decide) ?_
                exact J96 ls _ _ r89 σj81 hF hfr hT hS (lv_sub hl [1, 2, 3, 4, 0] rfl)
            have J80 : ∀ (ls : Array Slot) (H : Heap) (locs : List Loc) (σj80 : Sg), D_X7_coins_80 (D_X7_coins_39 p1.toInt n39) y39_2.toInt y39_3.toInt (σj80 o0) = some out → FR σ σj80 o0 → TY z (zA z) σj80 H → va_S (zA z) s.heap H locs → lv_has ls 5 [(0, .ref h0), (1, .int p1), (2, .int y39_2), (3, .int y39_3)] → W p l e (rmF 9 244) s m ([.ref h0, .int p1] : List Value).toArray below meth c H locs 0 0 (MQ below (QcI z (fun r H => ∃ σ' : Sg, some (r.toInt, σ' o0) = some out ∧ FR σ σ' o0 ∧ TY z (zA z) σ' H)) ([.ref h0, .int p1] : List Value).toArray s 0 0 (zA z)) (F0 m 80 ls []) := by
              intro ls H locs σj80 hF hfr hT hS hl
              unfold D_X7_coins_80 at hF
              refine r_iconst hx hb dX7_coins_80 (by decide) (by decide) (fun x80 e80 => ?_)
              have hF := bn hF e80
              exact J81 ls _ _ x80 σj80 (by omega) hF hfr hT hS (lv_sub hl [0, 1, 2, 3] rfl)
            refine r_if_ne (tgt := 80) hx hb dX7_coins_65 (by decide) (fun c65 => ?_) (fun c65 => ?_)
            · have hF := ifn hF c65
              exact J80 ls _ _ σ54 hF hfr hT hS (lv_sub hl [0, 1, 2, 3] rfl)
            · have hF := ifp hF c65
              refine lv_iload_n hx hb dX7_coins_68 rfl (lv_at hl 3 rfl) ?_
              obtain ⟨v69, hd69, -⟩ := bd0_s hF
              refine cl_Si (rest := []) hC hK hSK (c_X7_bitsOf l z σ54 y39_3 v69 hd69) k_X7_bitsOf mw_4_237 ⟨rfl, rfl, Nat.le_of_ble_eq_true rfl, Nat.le_of_ble_eq_true rfl⟩ hT rfl hl.1 rfl (Nat.le_of_ble_eq_true rfl) dX7_coins_69 ⟨Nat.zero_le _, Nat.zero_le _⟩ hS (fun _ h => h) (fun _ _ h => h) (fun r69 H locs hpo hS => ?_)
              obtain ⟨he69, hT⟩ := hpo
              have hF := bd0_r hF hd69 he69
              refine lv_iload_n hx hb dX7_coins_72 rfl (lv_at hl 2 rfl) ?_
              refine r_icmp_ge (tgt := 80) hx hb dX7_coins_73 (by decide) (fun c73 => ?_) (fun c73 => ?_)
              · have hF := ifn hF (Int.not_lt.mpr c73)
                exact J80 ls _ _ σ54 hF hfr hT hS (lv_sub hl [0, 1, 2, 3] rfl)
              · have hF := ifp hF c73
                refine r_iconst hx hb dX7_coins_76 (by decide) (by decide) (fun x76 e76 => ?_)
                have hF := bn hF e76
                refine lv_goto (tgt := 81) hx hb dX7_coins_77 (by decide) ?_
                exact J81 ls _ _ x76 σ54 (by omega) hF hfr hT hS (lv_sub hl [0, 1, 2, 3] rfl)
      exact J39 5000 ls _ _ x34 x37 σ (by omega) hF hfr hT hS (lv_sub hl [2, 3, 1, 0] rfl)
    · have hF := ifp hF c28
      refine r_bipush hx hb dX7_coins_31 rfl (fun x31 e31 => ?_)
      have hF := bn hF e31
      exact rt_i hx hb hr hlk hS ⟨σ, hF, hfr, hT⟩ dX7_coins_33
  · have hF := ifp hF c15
    refine r_iconst hx hb dX7_coins_18 (by decide) (by decide) (fun x18 e18 => ?_)
    have hF := bn hF e18
    exact rt_i hx hb hr hlk hS ⟨σ, hF, hfr, hT⟩ dX7_coins_19
theorem k_X7_luck : cBV yX7_luck cX7_luck 4 (some .long) 3 := ⟨mw_5_173, mw_5_174, mw_1_8, mw_5_175, ⟨by decide, by decide, by decide⟩⟩
set_option maxHeartbeats 4000000 in
set_option maxRecDepth 100000 in
theorem c_X7_luck (l : Launch) (z : Zt) (σ : Sg) (h0 o0 : Nat) (g0 : zG z h0 = (17, o0)) (p1 : Int32) (p2 : Int32) (p3 : Int32) (out : (Int × Lo)) (hF : D_X7_luck (σ o0) p1.toInt p2.toInt p3.toInt = some out) : Met l yX7_luck (uw yX7_luck cX7_luck 4 (some .long)) (rmF 10 270) (PcW z [.ref h0, .int p1, .int p2, .int p3] (fun H => TY z (zA z) σ H)) (QcL z (fun r H => ∃ σ' : Sg, some (r.toInt, σ' o0) = some out ∧ FR σ σ' o0 ∧ TY z (zA z) σ' H)) 0 0 (zA z) := by
  refine Met.ofW (cc := cX7_luck) (maxL := 4) (ret := (some .long)) (by decide) rfl ?_
  intro p e s m args below meth c s₁ B hml hv
  obtain ⟨rfl, hT, hK, hSK⟩ := hv
  have hx := B.exec
  have hb := B.bytes
  have hr := B.returns
  have hts : ∀ w ∈ lw_ok, w.before ([.ref h0, .int p1, .int p2, .int p3] : List Value).toArray s = true := fun w hw => atoms_spec (ws := uw yX7_luck cX7_luck 4 (some .long)) B.pre w (List.mem_cons_of_mem _ hw)
  have hown : s.vm.findClass RX7 = some m.cls := findClass_of_methodNamed B.named
  have hlk := B.notSynchronized
  have hC : CallFix p m c cX7_luck 4 s ([.ref h0, .int p1, .int p2, .int p3] : List Value).toArray lw_ok RX7 := ⟨hx, hb, hml, hown, hts⟩
  have hS : va_S (zA z) s.heap s.heap [] := va_S.rf
  have hl := lv_entry ([.ref h0, .int p1, .int p2, .int p3]) (n := 4) (Nat.le_of_ble_eq_true rfl)
  rw [lg_entry_eq]
  generalize (lg_sl ([.ref h0, .int p1, .int p2, .int p3]) ++ List.replicate (4 - (lg_sl ([.ref h0, .int p1, .int p2, .int p3])).length) Slot.unset).toArray = ls at hl ⊢
  have hl : lv_has ls 4 [(0, .ref h0), (1, .int p1), (2, .int p2), (3, .int p3)] := hl
  show W p l e (rmF 10 270) s m ([.ref h0, .int p1, .int p2, .int p3] : List Value).toArray below meth c s.heap [] 0 0 (MQ below (QcL z (fun r H => ∃ σ' : Sg, some (r.toInt, σ' o0) = some out ∧ FR σ σ' o0 ∧ TY z (zA z) σ' H)) ([.ref h0, .int p1, .int p2, .int p3] : List Value).toArray s 0 0 (zA z)) (F0 m 0 ls [])
  have hfr : FR σ σ o0 := FR_rf σ o0
  unfold D_X7_luck at hF
  have mx_p1 := i_mx p1
  have mx_p2 := i_mx p2
  have mx_p3 := i_mx p3
  refine lv_iload_n hx hb dX7_luck_0 rfl (lv_at hl 1 rfl) ?_
  refine r_i2l hx hb dX7_luck_1 (fun x1 e1 => ?_)
  have hF := bn hF e1
  refine r_lconst0 hx hb dX7_luck_2 (fun x2 e2 => ?_)
  have hF := bn hF e2
  refine r_ldc2 (10) rfl hx hb hts hown mw_5_176 dX7_luck_3 (fun x3 e3 => ?_)
  have hF := bn hF e3
  obtain ⟨v6, hd6, -⟩ := bd0_s hF
  refine cl_Si (rest := []) hC hK hSK (c_X7_in l z σ x1 x2 x3 v6 hd6) k_X7_in mw_4_154 ⟨rfl, rfl, Nat.le_of_ble_eq_true rfl, Nat.le_of_ble_eq_true rfl⟩ hT rfl hl.1 rfl (Nat.le_of_ble_eq_true rfl) dX7_luck_6 ⟨Nat.zero_le _, Nat.zero_le _⟩ hS (fun _ h => h) (fun _ _ h => h) (fun r6 H locs hpo hS => ?_)
  obtain ⟨he6, hT, u6_0, u6_1⟩ := hpo
  have hF := bd0_r hF hd6 he6
  refine r_if_eq (tgt := 27) hx hb dX7_luck_9 (by decide) (fun c9 => ?_) (fun c9 => ?_)
  · have hF := ifp hF c9
    refine r_ldc2 (-1) rfl hx hb hts hown mw_5_177 dX7_luck_27 (fun x27 e27 => ?_)
    have hF := bn hF e27
    exact rt_l hx hb hr hlk hS ⟨σ, hF, hfr, hT⟩ dX7_luck_30
  · have hF := ifn hF c9
    refine lv_aload_n hx hb dX7_luck_12 rfl (lv_at hl 0 rfl) ?_
    refine lv_iload_n hx hb dX7_luck_13 rfl (lv_at hl 2 rfl) ?_
    obtain ⟨v14, hd14, -⟩ := bd0_s hF
    refine cl_Vi (rest := []) hC hK hSK (c_X7_isOne l z σ h0 (o0) g0 p2 v14 hd14) k_X7_isOne mw_5_11 ⟨rfl, rfl, Nat.le_of_ble_eq_true rfl, Nat.le_of_ble_eq_true rfl⟩ (rv_Model hK hT g0) hT rfl hl.1 rfl (Nat.le_of_ble_eq_true rfl) dX7_luck_14 ⟨Nat.zero_le _, Nat.zero_le _⟩ hS (fun _ h => h) (fun _ _ h => h) (fun r14 H locs hpo hS => ?_)
    obtain ⟨he14, hT, u14_0, u14_1⟩ := hpo
    have hF := bd0_r hF hd14 he14
    refine r_if_eq (tgt := 27) hx hb dX7_luck_17 (by decide) (fun c17 => ?_) (fun c17 => ?_)
    · have hF := ifp hF c17
      refine r_ldc2 (-1) rfl hx hb hts hown mw_5_177 dX7_luck_27 (fun x27 e27 => ?_)
      have hF := bn hF e27
      exact rt_l hx hb hr hlk hS ⟨σ, hF, hfr, hT⟩ dX7_luck_30
    · have hF := ifn hF c17
      refine lv_iload_n hx hb dX7_luck_20 rfl (lv_at hl 3 rfl) ?_
      obtain ⟨v21, hd21, -⟩ := bd0_s hF
      refine cl_Si (rest := []) hC hK hSK (c_X7_isPart l z σ p3 v21 hd21) k_X7_isPart mw_5_152 ⟨rfl, rfl, Nat.le_of_ble_eq_true rfl, Nat.le_of_ble_eq_true rfl⟩ hT rfl hl.1 rfl (Nat.le_of_ble_eq_true rfl) dX7_luck_21 ⟨Nat.zero_le _, Nat.zero_le _⟩ hS (fun _ h => h) (fun _ _ h => h) (fun r21 H locs hpo hS => ?_)
      obtain ⟨he21, hT, u21_0, u21_1⟩ := hpo
      have hF := bd0_r hF hd21 he21
      refine r_if_ne (tgt := 31) hx hb dX7_luck_24 (by decide) (fun c24 => ?_) (fun c24 => ?_)
      · have hF := ifn hF c24
        refine lv_aload_n hx hb dX7_luck_31 rfl (lv_at hl 0 rfl) ?_
        refine lv_iload_n hx hb dX7_luck_32 rfl (lv_at hl 1 rfl) ?_
        refine lv_iload_n hx hb dX7_luck_33 rfl (lv_at hl 2 rfl) ?_
        obtain ⟨s34, hd34, -⟩ := bd1_s hF
        refine cl_Vv (rest := []) hC hK hSK (c_X7_findOdds l z σ h0 (o0) g0 p1 p2 s34 hd34) k_X7_findOdds mw_5_178 ⟨rfl, rfl, Nat.le_of_ble_eq_true rfl, Nat.le_of_ble_eq_true rfl⟩ (rv_Model hK hT g0) hT rfl hl.1 rfl (Nat.le_of_ble_eq_true rfl) dX7_luck_34 ⟨Nat.zero_le _, Nat.zero_le _⟩ hS (fun _ h => h) (fun _ _ h => h) (fun H locs hpo hS => ?_)
        obtain ⟨σ34, he34, hf34, hT⟩ := hpo
        have hF := bd1_r hF hd34 he34
        have hfr := FR_tr hf34 hfr
        refine lv_aload_n hx hb dX7_luck_37 rfl (lv_at hl 0 rfl) ?_
        refine gt_Model_roundSum hx hb hts ic_Model hown hK hT g0 (hts _ mw_4_89) dX7_luck_38 (fun x38 e38 => ?_)
        have hF := bn hF e38
        refine r_bipush hx hb dX7_luck_41 rfl (fun x41 e41 => ?_)
        have hF := bn hF e41
        refine lv_aload_n hx hb dX7_luck_43 rfl (lv_at hl 0 rfl) ?_
        refine gt_Model_men hx hb hts ic_Model hown hK hT g0 (hts _ mw_4_73) dX7_luck_44 (fun x44 e44 f44 g44 => ?_)
        have hF := bn hF e44
        obtain ⟨v47, hd47, -⟩ := bd0_s hF
        refine cl_Si (rest := [.long x38]) hC hK hSK (c_X7_power l z σ34 x41 x44 v47 hd47) k_X7_power mw_5_142 ⟨rfl, rfl, Nat.le_of_ble_eq_true rfl, Nat.le_of_ble_eq_true rfl⟩ hT rfl hl.1 rfl (Nat.le_of_ble_eq_true rfl) dX7_luck_47 ⟨Nat.zero_le _, Nat.zero_le _⟩ hS (fun _ h => h) (fun _ _ h => h) (fun r47 H locs hpo hS => ?_)
        obtain ⟨he47, hT⟩ := hpo
        have hF := bd0_r hF hd47 he47
        refine r_i2l hx hb dX7_luck_50 (fun x50 e50 => ?_)
        have hF := bn hF e50
        refine lv_iload_n hx hb dX7_luck_51 rfl (lv_at hl 3 rfl) ?_
        obtain ⟨v52, hd52, -⟩ := bd0_s hF
        refine cl_Sl (rest := []) hC hK hSK (c_X7_told l z σ34 x38 x50 p3 v52 hd52) k_X7_told mw_5_186 ⟨rfl, rfl, Nat.le_of_ble_eq_true rfl, Nat.le_of_ble_eq_true rfl⟩ hT rfl hl.1 rfl (Nat.le_of_ble_eq_true rfl) dX7_luck_52 ⟨Nat.zero_le _, Nat.zero_le _⟩ hS (fun _ h => h) (fun _ _ h => h) (fun r52 H locs hpo hS => ?_)
        obtain ⟨he52, hT⟩ := hpo
        have hF := bd0_r hF hd52 he52
        exact rt_l hx hb hr hlk hS ⟨σ34, hF, hfr, hT⟩ dX7_luck_55
      · have hF := ifp hF c24
        refine r_ldc2 (-1) rfl hx hb hts hown mw_5_177 dX7_luck_27 (fun x27 e27 => ?_)
        have hF := bn hF e27
        exact rt_l hx hb hr hlk hS ⟨σ, hF, hfr, hT⟩ dX7_luck_30
theorem k_X7_mean : cBV yX7_mean cX7_mean 3 (some .long) 2 := ⟨mw_5_193, mw_5_194, mw_1_8, mw_5_195, ⟨by decide, by decide, by decide⟩⟩
set_option maxHeartbeats 4000000 in
set_option maxRecDepth 100000 in
theorem c_X7_mean (l : Launch) (z : Zt) (σ : Sg) (h0 o0 : Nat) (g0 : zG z h0 = (17, o0)) (p1 : Int32) (p2 : Int32) (out : (Int × Lo)) (hF : D_X7_mean (σ o0) p1.toInt p2.toInt = some out) : Met l yX7_mean (uw yX7_mean cX7_mean 3 (some .long)) (rmF 10 270) (PcW z [.ref h0, .int p1, .int p2] (fun H => TY z (zA z) σ H)) (QcL z (fun r H => ∃ σ' : Sg, some (r.toInt, σ' o0) = some out ∧ FR σ σ' o0 ∧ TY z (zA z) σ' H)) 0 0 (zA z) := by
  refine Met.ofW (cc := cX7_mean) (maxL := 3) (ret := (some .long)) (by decide) rfl ?_
  intro p e s m args below meth c s₁ B hml hv
  obtain ⟨rfl, hT, hK, hSK⟩ := hv
  have hx := B.exec
  have hb := B.bytes
  have hr := B.returns
  have hts : ∀ w ∈ lw_ok, w.before ([.ref h0, .int p1, .int p2] : List Value).toArray s = true := fun w hw => atoms_spec (ws := uw yX7_mean cX7_mean 3 (some .long)) B.pre w (List.mem_cons_of_mem _ hw)
  have hown : s.vm.findClass RX7 = some m.cls := findClass_of_methodNamed B.named
  have hlk := B.notSynchronized
  have hC : CallFix p m c cX7_mean 3 s ([.ref h0, .int p1, .int p2] : List Value).toArray lw_ok RX7 := ⟨hx, hb, hml, hown, hts⟩
  have hS : va_S (zA z) s.heap s.heap [] := va_S.rf
  have hl := lv_entry ([.ref h0, .int p1, .int p2]) (n := 3) (Nat.le_of_ble_eq_true rfl)
  rw [lg_entry_eq]
  generalize (lg_sl ([.ref h0, .int p1, .int p2]) ++ List.replicate (3 - (lg_sl ([.ref h0, .int p1, .int p2])).length) Slot.unset).toArray = ls at hl ⊢
  have hl : lv_has ls 3 [(0, .ref h0), (1, .int p1), (2, .int p2)] := hl
  show W p l e (rmF 10 270) s m ([.ref h0, .int p1, .int p2] : List Value).toArray below meth c s.heap [] 0 0 (MQ below (QcL z (fun r H => ∃ σ' : Sg, some (r.toInt, σ' o0) = some out ∧ FR σ σ' o0 ∧ TY z (zA z) σ' H)) ([.ref h0, .int p1, .int p2] : List Value).toArray s 0 0 (zA z)) (F0 m 0 ls [])
  have hfr : FR σ σ o0 := FR_rf σ o0
  unfold D_X7_mean at hF
  have mx_p1 := i_mx p1
  have mx_p2 := i_mx p2
  refine lv_iload_n hx hb dX7_mean_0 rfl (lv_at hl 1 rfl) ?_
  refine r_i2l hx hb dX7_mean_1 (fun x1 e1 => ?_)
  have hF := bn hF e1
  refine r_lconst0 hx hb dX7_mean_2 (fun x2 e2 => ?_)
  have hF := bn hF e2
  refine r_ldc2 (10) rfl hx hb hts hown mw_5_176 dX7_mean_3 (fun x3 e3 => ?_)
  have hF := bn hF e3
  obtain ⟨v6, hd6, -⟩ := bd0_s hF
  refine cl_Si (rest := []) hC hK hSK (c_X7_in l z σ x1 x2 x3 v6 hd6) k_X7_in mw_4_154 ⟨rfl, rfl, Nat.le_of_ble_eq_true rfl, Nat.le_of_ble_eq_true rfl⟩ hT rfl hl.1 rfl (Nat.le_of_ble_eq_true rfl) dX7_mean_6 ⟨Nat.zero_le _, Nat.zero_le _⟩ hS (fun _ h => h) (fun _ _ h => h) (fun r6 H locs hpo hS => ?_)
  obtain ⟨he6, hT, u6_0, u6_1⟩ := hpo
  have hF := bd0_r hF hd6 he6
  refine r_if_eq (tgt := 19) hx hb dX7_mean_9 (by decide) (fun c9 => ?_) (fun c9 => ?_)
  · have hF := ifp hF c9
    refine r_ldc2 (-1) rfl hx hb hts hown mw_5_177 dX7_mean_19 (fun x19 e19 => ?_)
    have hF := bn hF e19
    exact rt_l hx hb hr hlk hS ⟨σ, hF, hfr, hT⟩ dX7_mean_22
  · have hF := ifn hF c9
    refine lv_iload_n hx hb dX7_mean_12 rfl (lv_at hl 2 rfl) ?_
    obtain ⟨v13, hd13, -⟩ := bd0_s hF
    refine cl_Si (rest := []) hC hK hSK (c_X7_isPart l z σ p2 v13 hd13) k_X7_isPart mw_5_152 ⟨rfl, rfl, Nat.le_of_ble_eq_true rfl, Nat.le_of_ble_eq_true rfl⟩ hT rfl hl.1 rfl (Nat.le_of_ble_eq_true rfl) dX7_mean_13 ⟨Nat.zero_le _, Nat.zero_le _⟩ hS (fun _ h => h) (fun _ _ h => h) (fun r13 H locs hpo hS => ?_)
    obtain ⟨he13, hT, u13_0, u13_1⟩ := hpo
    have hF := bd0_r hF hd13 he13
    refine r_if_ne (tgt := 23) hx hb dX7_mean_16 (by decide) (fun c16 => ?_) (fun c16 => ?_)
    · have hF := ifn hF c16
      refine lv_aload_n hx hb dX7_mean_23 rfl (lv_at hl 0 rfl) ?_
      refine lv_iload_n hx hb dX7_mean_24 rfl (lv_at hl 1 rfl) ?_
      refine r_iconst hx hb dX7_mean_25 (by decide) (by decide) (fun x25 e25 => ?_)
      have hF := bn hF e25
      obtain ⟨s26, hd26, -⟩ := bd1_s hF
      refine cl_Vv (rest := []) hC hK hSK (c_X7_findOdds l z σ h0 (o0) g0 p1 x25 s26 hd26) k_X7_findOdds mw_5_178 ⟨rfl, rfl, Nat.le_of_ble_eq_true rfl, Nat.le_of_ble_eq_true rfl⟩ (rv_Model hK hT g0) hT rfl hl.1 rfl (Nat.le_of_ble_eq_true rfl) dX7_mean_26 ⟨Nat.zero_le _, Nat.zero_le _⟩ hS (fun _ h => h) (fun _ _ h => h) (fun H locs hpo hS => ?_)
      obtain ⟨σ26, he26, hf26, hT⟩ := hpo
      have hF := bd1_r hF hd26 he26
      have hfr := FR_tr hf26 hfr
      refine lv_aload_n hx hb dX7_mean_29 rfl (lv_at hl 0 rfl) ?_
      refine gt_Model_allSum hx hb hts ic_Model hown hK hT g0 (hts _ mw_4_90) dX7_mean_30 (fun x30 e30 => ?_)
      have hF := bn hF e30
      refine r_bipush hx hb dX7_mean_33 rfl (fun x33 e33 => ?_)
      have hF := bn hF e33
      refine lv_aload_n hx hb dX7_mean_35 rfl (lv_at hl 0 rfl) ?_
      refine gt_Model_men hx hb hts ic_Model hown hK hT g0 (hts _ mw_4_73) dX7_mean_36 (fun x36 e36 f36 g36 => ?_)
      have hF := bn hF e36
      obtain ⟨v39, hd39, -⟩ := bd0_s hF
      refine cl_Si (rest := [.long x30]) hC hK hSK (c_X7_power l z σ26 x33 x36 v39 hd39) k_X7_power mw_5_142 ⟨rfl, rfl, Nat.le_of_ble_eq_true rfl, Nat.le_of_ble_eq_true rfl⟩ hT rfl hl.1 rfl (Nat.le_of_ble_eq_true rfl) dX7_mean_39 ⟨Nat.zero_le _, Nat.zero_le _⟩ hS (fun _ h => h) (fun _ _ h => h) (fun r39 H locs hpo hS => ?_)
      obtain ⟨he39, hT⟩ := hpo
      have hF := bd0_r hF hd39 he39
      refine r_i2l hx hb dX7_mean_42 (fun x42 e42 => ?_)
      have hF := bn hF e42
      refine lv_iload_n hx hb dX7_mean_43 rfl (lv_at hl 2 rfl) ?_
      obtain ⟨v44, hd44, -⟩ := bd0_s hF
      refine cl_Sl (rest := []) hC hK hSK (c_X7_told l z σ26 x30 x42 p2 v44 hd44) k_X7_told mw_5_186 ⟨rfl, rfl, Nat.le_of_ble_eq_true rfl, Nat.le_of_ble_eq_true rfl⟩ hT rfl hl.1 rfl (Nat.le_of_ble_eq_true rfl) dX7_mean_44 ⟨Nat.zero_le _, Nat.zero_le _⟩ hS (fun _ h => h) (fun _ _ h => h) (fun r44 H locs hpo hS => ?_)
      obtain ⟨he44, hT⟩ := hpo
      have hF := bd0_r hF hd44 he44
      exact rt_l hx hb hr hlk hS ⟨σ26, hF, hfr, hT⟩ dX7_mean_47
    · have hF := ifp hF c16
      refine r_ldc2 (-1) rfl hx hb hts hown mw_5_177 dX7_mean_19 (fun x19 e19 => ?_)
      have hF := bn hF e19
      exact rt_l hx hb hr hlk hS ⟨σ, hF, hfr, hT⟩ dX7_mean_22
theorem k_X7_see : cBV yX7_see cX7_see 5 (some .int) 3 := ⟨mw_5_197, mw_5_198, mw_1_8, mw_5_199, ⟨by decide, by decide, by decide⟩⟩
set_option maxHeartbeats 4000000 in
set_option maxRecDepth 100000 in
theorem c_X7_see (l : Launch) (z : Zt) (σ : Sg) (h0 o0 : Nat) (g0 : zG z h0 = (17, o0)) (p1 : Int32) (p2 : Int32) (p3 : Int32) (out : (Int × Lo)) (hF : D_X7_see (σ o0) p1.toInt p2.toInt p3.toInt = some out) : Met l yX7_see (uw yX7_see cX7_see 5 (some .int)) (rmF 3 110) (PcW z [.ref h0, .int p1, .int p2, .int p3] (fun H => TY z (zA z) σ H)) (QcI z (fun r H => ∃ σ' : Sg, some (r.toInt, σ' o0) = some out ∧ FR σ σ' o0 ∧ TY z (zA z) σ' H)) 0 0 (zA z) := by
  refine Met.ofW (cc := cX7_see) (maxL := 5) (ret := (some .int)) (by decide) rfl ?_
  intro p e s m args below meth c s₁ B hml hv
  obtain ⟨rfl, hT, hK, hSK⟩ := hv
  have hx := B.exec
  have hb := B.bytes
  have hr := B.returns
  have hts : ∀ w ∈ lw_ok, w.before ([.ref h0, .int p1, .int p2, .int p3] : List Value).toArray s = true := fun w hw => atoms_spec (ws := uw yX7_see cX7_see 5 (some .int)) B.pre w (List.mem_cons_of_mem _ hw)
  have hown : s.vm.findClass RX7 = some m.cls := findClass_of_methodNamed B.named
  have hlk := B.notSynchronized
  have hC : CallFix p m c cX7_see 5 s ([.ref h0, .int p1, .int p2, .int p3] : List Value).toArray lw_ok RX7 := ⟨hx, hb, hml, hown, hts⟩
  have hS : va_S (zA z) s.heap s.heap [] := va_S.rf
  have hl := lv_entry ([.ref h0, .int p1, .int p2, .int p3]) (n := 5) (Nat.le_of_ble_eq_true rfl)
  rw [lg_entry_eq]
  generalize (lg_sl ([.ref h0, .int p1, .int p2, .int p3]) ++ List.replicate (5 - (lg_sl ([.ref h0, .int p1, .int p2, .int p3])).length) Slot.unset).toArray = ls at hl ⊢
  have hl : lv_has ls 5 [(0, .ref h0), (1, .int p1), (2, .int p2), (3, .int p3)] := hl
  show W p l e (rmF 3 110) s m ([.ref h0, .int p1, .int p2, .int p3] : List Value).toArray below meth c s.heap [] 0 0 (MQ below (QcI z (fun r H => ∃ σ' : Sg, some (r.toInt, σ' o0) = some out ∧ FR σ σ' o0 ∧ TY z (zA z) σ' H)) ([.ref h0, .int p1, .int p2, .int p3] : List Value).toArray s 0 0 (zA z)) (F0 m 0 ls [])
  have hfr : FR σ σ o0 := FR_rf σ o0
  unfold D_X7_see at hF
  have mx_p1 := i_mx p1
  have mx_p2 := i_mx p2
  have mx_p3 := i_mx p3
  refine lv_aload_n hx hb dX7_see_0 rfl (lv_at hl 0 rfl) ?_
  refine lv_iload_n hx hb dX7_see_1 rfl (lv_at hl 1 rfl) ?_
  obtain ⟨v2, hd2, -⟩ := bd0_s hF
  refine cl_Vi (rest := []) hC hK hSK (c_X7_isOne l z σ h0 (o0) g0 p1 v2 hd2) k_X7_isOne mw_5_11 ⟨rfl, rfl, Nat.le_of_ble_eq_true rfl, Nat.le_of_ble_eq_true rfl⟩ (rv_Model hK hT g0) hT rfl hl.1 rfl (Nat.le_of_ble_eq_true rfl) dX7_see_2 ⟨Nat.zero_le _, Nat.zero_le _⟩ hS (fun _ h => h) (fun _ _ h => h) (fun r2 H locs hpo hS => ?_)
  obtain ⟨he2, hT, u2_0, u2_1⟩ := hpo
  have hF := bd0_r hF hd2 he2
  refine r_if_eq (tgt := 28) hx hb dX7_see_5 (by decide) (fun c5 => ?_) (fun c5 => ?_)
  · have hF := ifp hF c5
    refine r_iconst hx hb dX7_see_28 (by decide) (by decide) (fun x28 e28 => ?_)
    have hF := bn hF e28
    exact rt_i hx hb hr hlk hS ⟨σ, hF, hfr, hT⟩ dX7_see_29
  · have hF := ifn hF c5
    refine lv_iload_n hx hb dX7_see_8 rfl (lv_at hl 2 rfl) ?_
    refine r_i2l hx hb dX7_see_9 (fun x9 e9 => ?_)
    have hF := bn hF e9
    refine r_lconst0 hx hb dX7_see_10 (fun x10 e10 => ?_)
    have hF := bn hF e10
    refine r_ldc2 (8) rfl hx hb hts hown mw_5_125 dX7_see_11 (fun x11 e11 => ?_)
    have hF := bn hF e11
    obtain ⟨v14, hd14, -⟩ := bd0_s hF
    refine cl_Si (rest := []) hC hK hSK (c_X7_in l z σ x9 x10 x11 v14 hd14) k_X7_in mw_4_154 ⟨rfl, rfl, Nat.le_of_ble_eq_true rfl, Nat.le_of_ble_eq_true rfl⟩ hT rfl hl.1 rfl (Nat.le_of_ble_eq_true rfl) dX7_see_14 ⟨Nat.zero_le _, Nat.zero_le _⟩ hS (fun _ h => h) (fun _ _ h => h) (fun r14 H locs hpo hS => ?_)
    obtain ⟨he14, hT, u14_0, u14_1⟩ := hpo
    have hF := bd0_r hF hd14 he14
    refine r_if_eq (tgt := 28) hx hb dX7_see_17 (by decide) (fun c17 => ?_) (fun c17 => ?_)
    · have hF := ifp hF c17
      refine r_iconst hx hb dX7_see_28 (by decide) (by decide) (fun x28 e28 => ?_)
      have hF := bn hF e28
      exact rt_i hx hb hr hlk hS ⟨σ, hF, hfr, hT⟩ dX7_see_29
    · have hF := ifn hF c17
      refine lv_aload_n hx hb dX7_see_20 rfl (lv_at hl 0 rfl) ?_
      refine lv_iload_n hx hb dX7_see_21 rfl (lv_at hl 3 rfl) ?_
      obtain ⟨v22, hd22, -⟩ := bd0_s hF
      refine cl_Vi (rest := []) hC hK hSK (c_X7_isOne l z σ h0 (o0) g0 p3 v22 hd22) k_X7_isOne mw_5_11 ⟨rfl, rfl, Nat.le_of_ble_eq_true rfl, Nat.le_of_ble_eq_true rfl⟩ (rv_Model hK hT g0) hT rfl hl.1 rfl (Nat.le_of_ble_eq_true rfl) dX7_see_22 ⟨Nat.zero_le _, Nat.zero_le _⟩ hS (fun _ h => h) (fun _ _ h => h) (fun r22 H locs hpo hS => ?_)
      obtain ⟨he22, hT, u22_0, u22_1⟩ := hpo
      have hF := bd0_r hF hd22 he22
      refine r_if_ne (tgt := 30) hx hb dX7_see_25 (by decide) (fun c25 => ?_) (fun c25 => ?_)
      · have hF := ifn hF c25
        refine lv_aload_n hx hb dX7_see_30 rfl (lv_at hl 0 rfl) ?_
        refine gt_Model_st hx hb hts ic_Model hown hK hT g0 (hts _ mw_4_70) dX7_see_31 (fun q31 hq31 => ?_)
        refine r_bipush hx hb dX7_see_34 rfl (fun x34 e34 => ?_)
        have hF := bn hF e34
        refine al_40 hx hb hK hT hq31 (by omega) (by omega) dX7_see_36 (fun x36 e36 g36 => ?_)
        have hF := bn hF e36
        have f36 := gd59_40 (gd177_e g36 (by omega)) (by omega)
        refine r_bipush hx hb dX7_see_37 rfl (fun x37 e37 => ?_)
        have hF := bn hF e37
        refine r_icmp_ne (tgt := 45) hx hb dX7_see_39 (by decide) (fun c39 => ?_) (fun c39 => ?_)
        · have hF := ifn hF c39
          refine r_bipush hx hb dX7_see_45 rfl (fun x45 e45 => ?_)
          have hF := bn hF e45
          refine r_iconst hx hb dX7_see_47 (by decide) (by decide) (fun x47 e47 => ?_)
          have hF := bn hF e47
          refine lv_aload_n hx hb dX7_see_48 rfl (lv_at hl 0 rfl) ?_
          refine gt_Model_st hx hb hts ic_Model hown hK hT g0 (hts _ mw_4_70) dX7_see_49 (fun q49 hq49 => ?_)
          refine r_bipush hx hb dX7_see_52 rfl (fun x52 e52 => ?_)
          have hF := bn hF e52
          refine al_40 hx hb hK hT hq49 (by omega) (by omega) dX7_see_54 (fun x54 e54 g54 => ?_)
          have hF := bn hF e54
          have f54 := gd59_40 (gd177_e g54 (by omega)) (by omega)
          refine r_imulL (3) (by omega) hx hb dX7_see_55 (by omega) (by omega) (fun x55 e55 => ?_)
          have hF := bn hF e55
          refine r_iadd hx hb dX7_see_56 (by omega) (by omega) (fun x56 e56 => ?_)
          have hF := bn hF e56
          refine lv_istore (lv' := [(4, .int x56), (0, .ref h0), (1, .int p1), (2, .int p2), (3, .int p3)]) hx hb dX7_see_57 hl (by decide) rfl (fun ls hl => ?_)
          refine lv_aload_n hx hb dX7_see_59 rfl (lv_at hl 1 rfl) ?_
          refine gt_Model_st hx hb hts ic_Model hown hK hT g0 (hts _ mw_4_70) dX7_see_60 (fun q60 hq60 => ?_)
          refine lv_iload hx hb dX7_see_63 (lv_at hl 0 rfl) ?_
          refine lv_iload_n hx hb dX7_see_65 rfl (lv_at hl 2 rfl) ?_
          obtain ⟨kv66, hF⟩ := ckd hF
          refine as_40 hx hb hK hT hS hq60 (by omega) (by omega) kv66 dX7_see_66 (fun H locs hT hS => ?_)
          obtain ⟨σ66, hF, hfr, hT⟩ := wrL hF hfr hT
          refine lv_aload_n hx hb dX7_see_67 rfl (lv_at hl 1 rfl) ?_
          refine gt_Model_st hx hb hts ic_Model hown hK hT g0 (hts _ mw_4_70) dX7_see_68 (fun q68 hq68 => ?_)
          refine lv_iload hx hb dX7_see_71 (lv_at hl 0 rfl) ?_
          refine r_iconst hx hb dX7_see_73 (by decide) (by decide) (fun x73 e73 => ?_)
          have hF := bn hF e73
          refine r_iadd hx hb dX7_see_74 (by omega) (by omega) (fun x74 e74 => ?_)
          have hF := bn hF e74
          refine lv_iload_n hx hb dX7_see_75 rfl (lv_at hl 3 rfl) ?_
          obtain ⟨kv76, hF⟩ := ckd hF
          refine as_40 hx hb hK hT hS hq68 (by omega) (by omega) kv76 dX7_see_76 (fun H locs hT hS => ?_)
          obtain ⟨σ76, hF, hfr, hT⟩ := wrL hF hfr hT
          refine lv_aload_n hx hb dX7_see_77 rfl (lv_at hl 1 rfl) ?_
          refine gt_Model_st hx hb hts ic_Model hown hK hT g0 (hts _ mw_4_70) dX7_see_78 (fun q78 hq78 => ?_)
          refine lv_iload hx hb dX7_see_81 (lv_at hl 0 rfl) ?_
          refine r_iconst hx hb dX7_see_83 (by decide) (by decide) (fun x83 e83 => ?_)
          have hF := bn hF e83
          refine r_iadd hx hb dX7_see_84 (by omega) (by omega) (fun x84 e84 => ?_)
          have hF := bn hF e84
          refine lv_iload_n hx hb dX7_see_85 rfl (lv_at hl 4 rfl) ?_
          obtain ⟨kv86, hF⟩ := ckd hF
          refine as_40 hx hb hK hT hS hq78 (by omega) (by omega) kv86 dX7_see_86 (fun H locs hT hS => ?_)
          obtain ⟨σ86, hF, hfr, hT⟩ := wrL hF hfr hT
          refine lv_aload_n hx hb dX7_see_87 rfl (lv_at hl 1 rfl) ?_
          refine gt_Model_st hx hb hts ic_Model hown hK hT g0 (hts _ mw_4_70) dX7_see_88 (fun q88 hq88 => ?_)
          refine r_bipush hx hb dX7_see_91 rfl (fun x91 e91 => ?_)
          have hF := bn hF e91
          refine lv_dup2_11 hx hb dX7_see_93 rfl rfl ?_
          refine al_40 hx hb hK hT hq88 (by omega) (by omega) dX7_see_94 (fun x94 e94 g94 => ?_)
          have hF := bn hF e94
          have f94 := gd59_40 (gd177_e g94 (by omega)) (by omega)
          refine r_iconst hx hb dX7_see_95 (by decide) (by decide) (fun x95 e95 => ?_)
          have hF := bn hF e95
          refine r_iadd hx hb dX7_see_96 (by omega) (by omega) (fun x96 e96 => ?_)
          have hF := bn hF e96
          obtain ⟨kv97, hF⟩ := ckd hF
          refine as_40 hx hb hK hT hS hq88 (by omega) (by omega) kv97 dX7_see_97 (fun H locs hT hS => ?_)
          obtain ⟨σ97, hF, hfr, hT⟩ := wrL hF hfr hT
          refine lv_aload_n hx hb dX7_see_98 rfl (lv_at hl 1 rfl) ?_
          refine gt_Model_st hx hb hts ic_Model hown hK hT g0 (hts _ mw_4_70) dX7_see_99 (fun q99 hq99 => ?_)
          refine r_bipush hx hb dX7_see_102 rfl (fun x102 e102 => ?_)
          have hF := bn hF e102
          refine al_40 hx hb hK hT hq99 (by omega) (by omega) dX7_see_104 (fun x104 e104 g104 => ?_)
          have hF := bn hF e104
          have f104 := gd59_40 (gd177_e g104 (by omega)) (by omega)
          exact rt_i hx hb hr hlk hS ⟨σ97, hF, hfr, hT⟩ dX7_see_105
        · have hF := ifp hF c39
          refine r_bipush hx hb dX7_see_42 rfl (fun x42 e42 => ?_)
          have hF := bn hF e42
          exact rt_i hx hb hr hlk hS ⟨σ, hF, hfr, hT⟩ dX7_see_44
      · have hF := ifp hF c25
        refine r_iconst hx hb dX7_see_28 (by decide) (by decide) (fun x28 e28 => ?_)
        have hF := bn hF e28
        exact rt_i hx hb hr hlk hS ⟨σ, hF, hfr, hT⟩ dX7_see_29
theorem k_X7_forget : cBV yX7_forget cX7_forget 2 (some .int) 1 := ⟨mw_5_201, mw_5_202, mw_1_8, mw_5_203, ⟨by decide, by decide, by decide⟩⟩
set_option maxHeartbeats 4000000 in
set_option maxRecDepth 100000 in
theorem c_X7_forget (l : Launch) (z : Zt) (σ : Sg) (h0 o0 : Nat) (g0 : zG z h0 = (17, o0)) (p1 : Int32) (out : (Int × Lo)) (hF : D_X7_forget (σ o0) p1.toInt = some out) : Met l yX7_forget (uw yX7_forget cX7_forget 2 (some .int)) (rmF 2 89) (PcW z [.ref h0, .int p1] (fun H => TY z (zA z) σ H)) (QcI z (fun r H => ∃ σ' : Sg, some (r.toInt, σ' o0) = some out ∧ FR σ σ' o0 ∧ TY z (zA z) σ' H)) 0 0 (zA z) := by
  refine Met.ofW (cc := cX7_forget) (maxL := 2) (ret := (some .int)) (by decide) rfl ?_
  intro p e s m args below meth c s₁ B hml hv
  obtain ⟨rfl, hT, hK, hSK⟩ := hv
  have hx := B.exec
  have hb := B.bytes
  have hr := B.returns
  have hts : ∀ w ∈ lw_ok, w.before ([.ref h0, .int p1] : List Value).toArray s = true := fun w hw => atoms_spec (ws := uw yX7_forget cX7_forget 2 (some .int)) B.pre w (List.mem_cons_of_mem _ hw)
  have hown : s.vm.findClass RX7 = some m.cls := findClass_of_methodNamed B.named
  have hlk := B.notSynchronized
  have hC : CallFix p m c cX7_forget 2 s ([.ref h0, .int p1] : List Value).toArray lw_ok RX7 := ⟨hx, hb, hml, hown, hts⟩
  have hS : va_S (zA z) s.heap s.heap [] := va_S.rf
  have hl := lv_entry ([.ref h0, .int p1]) (n := 2) (Nat.le_of_ble_eq_true rfl)
  rw [lg_entry_eq]
  generalize (lg_sl ([.ref h0, .int p1]) ++ List.replicate (2 - (lg_sl ([.ref h0, .int p1])).length) Slot.unset).toArray = ls at hl ⊢
  have hl : lv_has ls 2 [(0, .ref h0), (1, .int p1)] := hl
  show W p l e (rmF 2 89) s m ([.ref h0, .int p1] : List Value).toArray below meth c s.heap [] 0 0 (MQ below (QcI z (fun r H => ∃ σ' : Sg, some (r.toInt, σ' o0) = some out ∧ FR σ σ' o0 ∧ TY z (zA z) σ' H)) ([.ref h0, .int p1] : List Value).toArray s 0 0 (zA z)) (F0 m 0 ls [])
  have hfr : FR σ σ o0 := FR_rf σ o0
  unfold D_X7_forget at hF
  have mx_p1 := i_mx p1
  refine lv_iload_n hx hb dX7_forget_0 rfl (lv_at hl 1 rfl) ?_
  refine r_i2l hx hb dX7_forget_1 (fun x1 e1 => ?_)
  have hF := bn hF e1
  refine r_lconst0 hx hb dX7_forget_2 (fun x2 e2 => ?_)
  have hF := bn hF e2
  refine lv_aload_n hx hb dX7_forget_3 rfl (lv_at hl 0 rfl) ?_
  refine gt_Model_st hx hb hts ic_Model hown hK hT g0 (hts _ mw_4_70) dX7_forget_4 (fun q4 hq4 => ?_)
  refine r_bipush hx hb dX7_forget_7 rfl (fun x7 e7 => ?_)
  have hF := bn hF e7
  refine al_40 hx hb hK hT hq4 (by omega) (by omega) dX7_forget_9 (fun x9 e9 g9 => ?_)
  have hF := bn hF e9
  have f9 := gd59_40 (gd177_e g9 (by omega)) (by omega)
  refine r_i2l hx hb dX7_forget_10 (fun x10 e10 => ?_)
  have hF := bn hF e10
  obtain ⟨v11, hd11, -⟩ := bd0_s hF
  refine cl_Si (rest := []) hC hK hSK (c_X7_in l z σ x1 x2 x10 v11 hd11) k_X7_in mw_4_154 ⟨rfl, rfl, Nat.le_of_ble_eq_true rfl, Nat.le_of_ble_eq_true rfl⟩ hT rfl hl.1 rfl (Nat.le_of_ble_eq_true rfl) dX7_forget_11 ⟨Nat.zero_le _, Nat.zero_le _⟩ hS (fun _ h => h) (fun _ _ h => h) (fun r11 H locs hpo hS => ?_)
  obtain ⟨he11, hT, u11_0, u11_1⟩ := hpo
  have hF := bd0_r hF hd11 he11
  refine r_if_eq (tgt := 27) hx hb dX7_forget_14 (by decide) (fun c14 => ?_) (fun c14 => ?_)
  · have hF := ifp hF c14
    refine r_iconst hx hb dX7_forget_27 (by decide) (by decide) (fun x27 e27 => ?_)
    have hF := bn hF e27
    exact rt_i hx hb hr hlk hS ⟨σ, hF, hfr, hT⟩ dX7_forget_28
  · have hF := ifn hF c14
    refine lv_aload_n hx hb dX7_forget_17 rfl (lv_at hl 0 rfl) ?_
    refine r_bipush hx hb dX7_forget_18 rfl (fun x18 e18 => ?_)
    have hF := bn hF e18
    refine lv_iload_n hx hb dX7_forget_20 rfl (lv_at hl 1 rfl) ?_
    obtain ⟨v21, s21, hd21, -⟩ := bd2_s hF
    refine cl_Vi (rest := []) hC hK hSK (c_X7_becomes l z σ h0 (o0) g0 x18 p1 (v21, s21) hd21 (by omega)) k_X7_becomes mw_5_61 ⟨rfl, rfl, Nat.le_of_ble_eq_true rfl, Nat.le_of_ble_eq_true rfl⟩ (rv_Model hK hT g0) hT rfl hl.1 rfl (Nat.le_of_ble_eq_true rfl) dX7_forget_21 ⟨Nat.zero_le _, Nat.zero_le _⟩ hS (fun _ h => h) (fun _ _ h => h) (fun r21 H locs hpo hS => ?_)
    obtain ⟨σ21, he21, hf21, hT⟩ := hpo
    have hF := bd2_r hF hd21 he21
    have hfr := FR_tr hf21 hfr
    refine lv_goto (tgt := 28) hx hb dX7_forget_24 (by decide) ?_
    exact rt_i hx hb hr hlk hS ⟨σ21, hF, hfr, hT⟩ dX7_forget_28
theorem k_X7_bent : cBV yX7_bent cX7_bent 3 (some .int) 0 := ⟨mw_5_205, mw_5_206, mw_1_8, mw_5_207, ⟨by decide, by decide, by decide⟩⟩
set_option maxHeartbeats 4000000 in
set_option maxRecDepth 100000 in
theorem c_X7_bent (l : Launch) (z : Zt) (σ : Sg) (h0 o0 : Nat) (g0 : zG z h0 = (17, o0)) (out : (Int × Lo)) (hF : D_X7_bent (σ o0) = some out) : Met l yX7_bent (uw yX7_bent cX7_bent 3 (some .int)) (rmF 9 246) (PcW z [.ref h0] (fun H => TY z (zA z) σ H)) (QcI z (fun r H => ∃ σ' : Sg, some (r.toInt, σ' o0) = some out ∧ FR σ σ' o0 ∧ TY z (zA z) σ' H)) 0 0 (zA z) := by
  refine Met.ofW (cc := cX7_bent) (maxL := 3) (ret := (some .int)) (by decide) rfl ?_
  intro p e s m args below meth c s₁ B hml hv
  obtain ⟨rfl, hT, hK, hSK⟩ := hv
  have hx := B.exec
  have hb := B.bytes
  have hr := B.returns
  have hts : ∀ w ∈ lw_ok, w.before ([.ref h0] : List Value).toArray s = true := fun w hw => atoms_spec (ws := uw yX7_bent cX7_bent 3 (some .int)) B.pre w (List.mem_cons_of_mem _ hw)
  have hown : s.vm.findClass RX7 = some m.cls := findClass_of_methodNamed B.named
  have hlk := B.notSynchronized
  have hC : CallFix p m c cX7_bent 3 s ([.ref h0] : List Value).toArray lw_ok RX7 := ⟨hx, hb, hml, hown, hts⟩
  have hS : va_S (zA z) s.heap s.heap [] := va_S.rf
  have hl := lv_entry ([.ref h0]) (n := 3) (Nat.le_of_ble_eq_true rfl)
  rw [lg_entry_eq]
  generalize (lg_sl ([.ref h0]) ++ List.replicate (3 - (lg_sl ([.ref h0])).length) Slot.unset).toArray = ls at hl ⊢
  have hl : lv_has ls 3 [(0, .ref h0)] := hl
  show W p l e (rmF 9 246) s m ([.ref h0] : List Value).toArray below meth c s.heap [] 0 0 (MQ below (QcI z (fun r H => ∃ σ' : Sg, some (r.toInt, σ' o0) = some out ∧ FR σ σ' o0 ∧ TY z (zA z) σ' H)) ([.ref h0] : List Value).toArray s 0 0 (zA z)) (F0 m 0 ls [])
  have hfr : FR σ σ o0 := FR_rf σ o0
  unfold D_X7_bent at hF
  refine r_iconst hx hb dX7_bent_0 (by decide) (by decide) (fun x0 e0 => ?_)
  have hF := bn hF e0
  refine lv_istore_n (lv' := [(1, .int x0), (0, .ref h0)]) hx hb dX7_bent_1 rfl hl (by decide) rfl (fun ls hl => ?_)
  refine r_iconst hx hb dX7_bent_2 (by decide) (by decide) (fun x2 e2 => ?_)
  have hF := bn hF e2
  refine lv_istore_n (lv' := [(2, .int x2), (1, .int x0), (0, .ref h0)]) hx hb dX7_bent_3 rfl hl (by decide) rfl (fun ls hl => ?_)
  have J4 : ∀ (n4 : Nat) (ls : Array Slot) (H : Heap) (locs : List Loc) (y4_1 : Int32) (y4_2 : Int32) (σj4 : Sg), (0 ≤ y4_2.toInt ∧ y4_2.toInt ≤ 5) → D_X7_bent_4 n4 (σj4 o0) y4_1.toInt y4_2.toInt = some out → FR σ σj4 o0 → TY z (zA z) σj4 H → va_S (zA z) s.heap H locs → lv_has ls 3 [(0, .ref h0), (1, .int y4_1), (2, .int y4_2)] → W p l e (rmF 9 246) s m ([.ref h0] : List Value).toArray below meth c H locs 0 0 (MQ below (QcI z (fun r H => ∃ σ' : Sg, some (r.toInt, σ' o0) = some out ∧ FR σ σ' o0 ∧ TY z (zA z) σ' H)) ([.ref h0] : List Value).toArray s 0 0 (zA z)) (F0 m 4 ls []) := by
    intro n4
    induction n4 with
    | zero => intro ls H locs y4_1 y4_2 σj4 j4_y4_2 hF hfr hT hS hl; exact (no_s hF).elim
    | succ n4 ih4 =>
      intro ls H locs y4_1 y4_2 σj4 j4_y4_2 hF hfr hT hS hl
      rw [D_X7_bent_4.eq_2] at hF
      refine lv_iload_n hx hb dX7_bent_4 rfl (lv_at hl 2 rfl) ?_
      refine lv_aload_n hx hb dX7_bent_5 rfl (lv_at hl 0 rfl) ?_
      refine gt_Model_men hx hb hts ic_Model hown hK hT g0 (hts _ mw_4_73) dX7_bent_6 (fun x6 e6 f6 g6 => ?_)
      have hF := bn hF e6
      refine r_icmp_ge (tgt := 41) hx hb dX7_bent_9 (by decide) (fun c9 => ?_) (fun c9 => ?_)
      · have hF := ifn hF (Int.not_lt.mpr c9)
        refine lv_iload_n hx hb dX7_bent_41 rfl (lv_at hl 1 rfl) ?_
        exact rt_i hx hb hr hlk hS ⟨σj4, hF, hfr, hT⟩ dX7_bent_42
      · have hF := ifp hF c9
        refine lv_aload_n hx hb dX7_bent_12 rfl (lv_at hl 0 rfl) ?_
        obtain ⟨s13, hd13, -⟩ := bd1_s hF
        refine cl_Vv (rest := []) hC hK hSK (c_X7_starts l z σj4 h0 (o0) g0 s13 hd13) k_X7_starts mw_4_229 ⟨rfl, rfl, Nat.le_of_ble_eq_true rfl, Nat.le_of_ble_eq_true rfl⟩ (rv_Model hK hT g0) hT rfl hl.1 rfl (Nat.le_of_ble_eq_true rfl) dX7_bent_13 ⟨Nat.zero_le _, Nat.zero_le _⟩ hS (fun _ h => h) (fun _ _ h => h) (fun H locs hpo hS => ?_)
        obtain ⟨σ13, he13, hf13, hT⟩ := hpo
        have hF := bd1_r hF hd13 he13
        have hfr := FR_tr hf13 hfr
        refine lv_aload_n hx hb dX7_bent_16 rfl (lv_at hl 0 rfl) ?_
        refine lv_iload_n hx hb dX7_bent_17 rfl (lv_at hl 2 rfl) ?_
        refine r_iconst hx hb dX7_bent_18 (by decide) (by decide) (fun x18 e18 => ?_)
        have hF := bn hF e18
        refine r_iconst hx hb dX7_bent_19 (by decide) (by decide) (fun x19 e19 => ?_)
        have hF := bn hF e19
        obtain ⟨s20, hd20, -⟩ := bd1_s hF
        refine cl_Vv (rest := []) hC hK hSK (c_X7_becomesOf l z σ13 h0 (o0) g0 y4_2 x18 x19 s20 hd20 (by omega) (by omega) (by omega)) k_X7_becomesOf mw_5_100 ⟨rfl, rfl, Nat.le_of_ble_eq_true rfl, Nat.le_of_ble_eq_true rfl⟩ (rv_Model hK hT g0) hT rfl hl.1 rfl (Nat.le_of_ble_eq_true rfl) dX7_bent_20 ⟨Nat.zero_le _, Nat.zero_le _⟩ hS (fun _ h => h) (fun _ _ h => h) (fun H locs hpo hS => ?_)
        obtain ⟨σ20, he20, hf20, hT⟩ := hpo
        have hF := bd1_r hF hd20 he20
        have hfr := FR_tr hf20 hfr
        refine lv_iload_n hx hb dX7_bent_23 rfl (lv_at hl 1 rfl) ?_
        refine lv_aload_n hx hb dX7_bent_24 rfl (lv_at hl 0 rfl) ?_
        obtain ⟨v25, s25, hd25, -⟩ := bd2_s hF
        refine cl_Vi (rest := [.int y4_1]) hC hK hSK (c_X7_isSo l z σ20 h0 (o0) g0 (v25, s25) hd25) k_X7_isSo mw_5_208 ⟨rfl, rfl, Nat.le_of_ble_eq_true rfl, Nat.le_of_ble_eq_true rfl⟩ (rv_Model hK hT g0) hT rfl hl.1 rfl (Nat.le_of_ble_eq_true rfl) dX7_bent_25 ⟨Nat.zero_le _, Nat.zero_le _⟩ hS (fun _ h => h) (fun _ _ h => h) (fun r25 H locs hpo hS => ?_)
        obtain ⟨σ25, he25, hf25, hT, u25_0⟩ := hpo
        have hF := bd2_r hF hd25 he25
        have hfr := FR_tr hf25 hfr
        obtain ⟨v28, hd28, -⟩ := bd0_s hF
        refine cl_Si (rest := [.int y4_1]) hC hK hSK (c_X7_flag l z σ25 r25 v28 hd28 (by omega)) k_X7_flag mw_5_4 ⟨rfl, rfl, Nat.le_of_ble_eq_true rfl, Nat.le_of_ble_eq_true rfl⟩ hT rfl hl.1 rfl (Nat.le_of_ble_eq_true rfl) dX7_bent_28 ⟨Nat.zero_le _, Nat.zero_le _⟩ hS (fun _ h => h) (fun _ _ h => h) (fun r28 H locs hpo hS => ?_)
        obtain ⟨he28, hT, u28_0⟩ := hpo
        have hF := bd0_r hF hd28 he28
        refine lv_iload_n hx hb dX7_bent_31 rfl (lv_at hl 2 rfl) ?_
        refine x_ishl hx hb dX7_bent_32 (fun x32 e32 => ?_)
        have hF := bn hF e32
        refine x_ior hx hb dX7_bent_33 (fun x33 e33 => ?_)
        have hF := bn hF e33
        refine lv_istore_n (lv' := [(1, .int x33), (0, .ref h0), (2, .int y4_2)]) hx hb dX7_bent_34 rfl hl (by decide) rfl (fun ls hl => ?_)
        refine r_iinc (lv' := fun v__ => [(2, .int v__), (1, .int x33), (0, .ref h0)]) hx hb dX7_bent_35 hl (k := 2) rfl (by decide) (fun _ => rfl) ⟨by decide, by decide⟩ (by omega) (by omega) (fun x35 ls e35 hl => ?_)
        have hF := bn hF e35
        refine lv_goto (tgt := 4) hx hb dX7_bent_38 (by decide) ?_
        exact ih4 ls _ _ x33 x35 σ25 (by omega) hF hfr hT hS (lv_sub hl [2, 1, 0] rfl)
  exact J4 5000 ls _ _ x0 x2 σ (by omega) hF hfr hT hS (lv_sub hl [2, 1, 0] rfl)
theorem k_X7_heights : cBV yX7_heights cX7_heights 4 (some .int) 1 := ⟨mw_5_213, mw_5_214, mw_1_8, mw_5_215, ⟨by decide, by decide, by decide⟩⟩
set_option maxHeartbeats 4000000 in
set_option maxRecDepth 100000 in
theorem c_X7_heights (l : Launch) (z : Zt) (σ : Sg) (h0 o0 : Nat) (g0 : zG z h0 = (17, o0)) (p1 : Int32) (out : (Int × Lo)) (hF : D_X7_heights (σ o0) p1.toInt = some out) : Met l yX7_heights (uw yX7_heights cX7_heights 4 (some .int)) (rmF 9 246) (PcW z [.ref h0, .int p1] (fun H => TY z (zA z) σ H)) (QcI z (fun r H => ∃ σ' : Sg, some (r.toInt, σ' o0) = some out ∧ FR σ σ' o0 ∧ TY z (zA z) σ' H)) 0 0 (zA z) := by
  refine Met.ofW (cc := cX7_heights) (maxL := 4) (ret := (some .int)) (by decide) rfl ?_
  intro p e s m args below meth c s₁ B hml hv
  obtain ⟨rfl, hT, hK, hSK⟩ := hv
  have hx := B.exec
  have hb := B.bytes
  have hr := B.returns
  have hts : ∀ w ∈ lw_ok, w.before ([.ref h0, .int p1] : List Value).toArray s = true := fun w hw => atoms_spec (ws := uw yX7_heights cX7_heights 4 (some .int)) B.pre w (List.mem_cons_of_mem _ hw)
  have hown : s.vm.findClass RX7 = some m.cls := findClass_of_methodNamed B.named
  have hlk := B.notSynchronized
  have hC : CallFix p m c cX7_heights 4 s ([.ref h0, .int p1] : List Value).toArray lw_ok RX7 := ⟨hx, hb, hml, hown, hts⟩
  have hS : va_S (zA z) s.heap s.heap [] := va_S.rf
  have hl := lv_entry ([.ref h0, .int p1]) (n := 4) (Nat.le_of_ble_eq_true rfl)
  rw [lg_entry_eq]
  generalize (lg_sl ([.ref h0, .int p1]) ++ List.replicate (4 - (lg_sl ([.ref h0, .int p1])).length) Slot.unset).toArray = ls at hl ⊢
  have hl : lv_has ls 4 [(0, .ref h0), (1, .int p1)] := hl
  show W p l e (rmF 9 246) s m ([.ref h0, .int p1] : List Value).toArray below meth c s.heap [] 0 0 (MQ below (QcI z (fun r H => ∃ σ' : Sg, some (r.toInt, σ' o0) = some out ∧ FR σ σ' o0 ∧ TY z (zA z) σ' H)) ([.ref h0, .int p1] : List Value).toArray s 0 0 (zA z)) (F0 m 0 ls [])
  have hfr : FR σ σ o0 := FR_rf σ o0
  unfold D_X7_heights at hF
  have mx_p1 := i_mx p1
  refine lv_aload_n hx hb dX7_heights_0 rfl (lv_at hl 0 rfl) ?_
  refine lv_iload_n hx hb dX7_heights_1 rfl (lv_at hl 1 rfl) ?_
  obtain ⟨v2, hd2, -⟩ := bd0_s hF
  refine cl_Vi (rest := []) hC hK hSK (c_X7_isOne l z σ h0 (o0) g0 p1 v2 hd2) k_X7_isOne mw_5_11 ⟨rfl, rfl, Nat.le_of_ble_eq_true rfl, Nat.le_of_ble_eq_true rfl⟩ (rv_Model hK hT g0) hT rfl hl.1 rfl (Nat.le_of_ble_eq_true rfl) dX7_heights_2 ⟨Nat.zero_le _, Nat.zero_le _⟩ hS (fun _ h => h) (fun _ _ h => h) (fun r2 H locs hpo hS => ?_)
  obtain ⟨he2, hT, u2_0, u2_1⟩ := hpo
  have hF := bd0_r hF hd2 he2
  refine r_if_ne (tgt := 10) hx hb dX7_heights_5 (by decide) (fun c5 => ?_) (fun c5 => ?_)
  · have hF := ifn hF c5
    refine r_iconst hx hb dX7_heights_10 (by decide) (by decide) (fun x10 e10 => ?_)
    have hF := bn hF e10
    refine lv_istore_n (lv' := [(2, .int x10), (0, .ref h0), (1, .int p1)]) hx hb dX7_heights_11 rfl hl (by decide) rfl (fun ls hl => ?_)
    refine r_iconst hx hb dX7_heights_12 (by decide) (by decide) (fun x12 e12 => ?_)
    have hF := bn hF e12
    refine lv_istore_n (lv' := [(3, .int x12), (2, .int x10), (0, .ref h0), (1, .int p1)]) hx hb dX7_heights_13 rfl hl (by decide) rfl (fun ls hl => ?_)
    have J14 : ∀ (n14 : Nat) (ls : Array Slot) (H : Heap) (locs : List Loc) (y14_2 : Int32) (y14_3 : Int32) (σj14 : Sg), (0 ≤ y14_3.toInt ∧ y14_3.toInt ≤ 10) → D_X7_heights_14 p1.toInt n14 (σj14 o0) y14_2.toInt y14_3.toInt = some out → FR σ σj14 o0 → TY z (zA z) σj14 H → va_S (zA z) s.heap H locs → lv_has ls 4 [(0, .ref h0), (1, .int p1), (2, .int y14_2), (3, .int y14_3)] → W p l e (rmF 9 246) s m ([.ref h0, .int p1] : List Value).toArray below meth c H locs 0 0 (MQ below (QcI z (fun r H => ∃ σ' : Sg, some (r.toInt, σ' o0) = some out ∧ FR σ σ' o0 ∧ TY z (zA z) σ' H)) ([.ref h0, .int p1] : List Value).toArray s 0 0 (zA z)) (F0 m 14 ls []) := by
      intro n14
      induction n14 with
      | zero => intro ls H locs y14_2 y14_3 σj14 j14_y14_3 hF hfr hT hS hl; exact (no_s hF).elim
      | succ n14 ih14 =>
        intro ls H locs y14_2 y14_3 σj14 j14_y14_3 hF hfr hT hS hl
        rw [D_X7_heights_14.eq_2] at hF
        refine lv_iload_n hx hb dX7_heights_14 rfl (lv_at hl 3 rfl) ?_
        refine r_bipush hx hb dX7_heights_15 rfl (fun x15 e15 => ?_)
        have hF := bn hF e15
        refine r_icmp_gt (tgt := 49) hx hb dX7_heights_17 (by decide) (fun c17 => ?_) (fun c17 => ?_)
        · have hF := ifp hF c17
          refine lv_iload_n hx hb dX7_heights_49 rfl (lv_at hl 2 rfl) ?_
          exact rt_i hx hb hr hlk hS ⟨σj14, hF, hfr, hT⟩ dX7_heights_50
        · have hF := ifn hF (Int.not_lt.mpr c17)
          refine lv_aload_n hx hb dX7_heights_20 rfl (lv_at hl 0 rfl) ?_
          obtain ⟨s21, hd21, -⟩ := bd1_s hF
          refine cl_Vv (rest := []) hC hK hSK (c_X7_starts l z σj14 h0 (o0) g0 s21 hd21) k_X7_starts mw_4_229 ⟨rfl, rfl, Nat.le_of_ble_eq_true rfl, Nat.le_of_ble_eq_true rfl⟩ (rv_Model hK hT g0) hT rfl hl.1 rfl (Nat.le_of_ble_eq_true rfl) dX7_heights_21 ⟨Nat.zero_le _, Nat.zero_le _⟩ hS (fun _ h => h) (fun _ _ h => h) (fun H locs hpo hS => ?_)
          obtain ⟨σ21, he21, hf21, hT⟩ := hpo
          have hF := bd1_r hF hd21 he21
          have hfr := FR_tr hf21 hfr
          refine lv_aload_n hx hb dX7_heights_24 rfl (lv_at hl 0 rfl) ?_
          refine lv_iload_n hx hb dX7_heights_25 rfl (lv_at hl 1 rfl) ?_
          refine r_iconst hx hb dX7_heights_26 (by decide) (by decide) (fun x26 e26 => ?_)
          have hF := bn hF e26
          refine lv_iload_n hx hb dX7_heights_27 rfl (lv_at hl 3 rfl) ?_
          obtain ⟨s28, hd28, -⟩ := bd1_s hF
          refine cl_Vv (rest := []) hC hK hSK (c_X7_becomesOf l z σ21 h0 (o0) g0 p1 x26 y14_3 s28 hd28 (by omega) (by omega) (by omega)) k_X7_becomesOf mw_5_100 ⟨rfl, rfl, Nat.le_of_ble_eq_true rfl, Nat.le_of_ble_eq_true rfl⟩ (rv_Model hK hT g0) hT rfl hl.1 rfl (Nat.le_of_ble_eq_true rfl) dX7_heights_28 ⟨Nat.zero_le _, Nat.zero_le _⟩ hS (fun _ h => h) (fun _ _ h => h) (fun H locs hpo hS => ?_)
          obtain ⟨σ28, he28, hf28, hT⟩ := hpo
          have hF := bd1_r hF hd28 he28
          have hfr := FR_tr hf28 hfr
          refine lv_iload_n hx hb dX7_heights_31 rfl (lv_at hl 2 rfl) ?_
          refine lv_aload_n hx hb dX7_heights_32 rfl (lv_at hl 0 rfl) ?_
          obtain ⟨v33, s33, hd33, -⟩ := bd2_s hF
          refine cl_Vi (rest := [.int y14_2]) hC hK hSK (c_X7_isSo l z σ28 h0 (o0) g0 (v33, s33) hd33) k_X7_isSo mw_5_208 ⟨rfl, rfl, Nat.le_of_ble_eq_true rfl, Nat.le_of_ble_eq_true rfl⟩ (rv_Model hK hT g0) hT rfl hl.1 rfl (Nat.le_of_ble_eq_true rfl) dX7_heights_33 ⟨Nat.zero_le _, Nat.zero_le _⟩ hS (fun _ h => h) (fun _ _ h => h) (fun r33 H locs hpo hS => ?_)
          obtain ⟨σ33, he33, hf33, hT, u33_0⟩ := hpo
          have hF := bd2_r hF hd33 he33
          have hfr := FR_tr hf33 hfr
          obtain ⟨v36, hd36, -⟩ := bd0_s hF
          refine cl_Si (rest := [.int y14_2]) hC hK hSK (c_X7_flag l z σ33 r33 v36 hd36 (by omega)) k_X7_flag mw_5_4 ⟨rfl, rfl, Nat.le_of_ble_eq_true rfl, Nat.le_of_ble_eq_true rfl⟩ hT rfl hl.1 rfl (Nat.le_of_ble_eq_true rfl) dX7_heights_36 ⟨Nat.zero_le _, Nat.zero_le _⟩ hS (fun _ h => h) (fun _ _ h => h) (fun r36 H locs hpo hS => ?_)
          obtain ⟨he36, hT, u36_0⟩ := hpo
          have hF := bd0_r hF hd36 he36
          refine lv_iload_n hx hb dX7_heights_39 rfl (lv_at hl 3 rfl) ?_
          refine x_ishl hx hb dX7_heights_40 (fun x40 e40 => ?_)
          have hF := bn hF e40
          refine x_ior hx hb dX7_heights_41 (fun x41 e41 => ?_)
          have hF := bn hF e41
          refine lv_istore_n (lv' := [(2, .int x41), (0, .ref h0), (1, .int p1), (3, .int y14_3)]) hx hb dX7_heights_42 rfl hl (by decide) rfl (fun ls hl => ?_)
          refine r_iinc (lv' := fun v__ => [(3, .int v__), (2, .int x41), (0, .ref h0), (1, .int p1)]) hx hb dX7_heights_43 hl (k := 3) rfl (by decide) (fun _ => rfl) ⟨by decide, by decide⟩ (by omega) (by omega) (fun x43 ls e43 hl => ?_)
          have hF := bn hF e43
          refine lv_goto (tgt := 14) hx hb dX7_heights_46 (by decide) ?_
          exact ih14 ls _ _ x41 x43 σ33 (by omega) hF hfr hT hS (lv_sub hl [2, 3, 1, 0] rfl)
    exact J14 5000 ls _ _ x10 x12 σ (by omega) hF hfr hT hS (lv_sub hl [2, 3, 1, 0] rfl)
  · have hF := ifp hF c5
    refine r_iconst hx hb dX7_heights_8 (by decide) (by decide) (fun x8 e8 => ?_)
    have hF := bn hF e8
    exact rt_i hx hb hr hlk hS ⟨σ, hF, hfr, hT⟩ dX7_heights_9
theorem k_X7_shoes : cBV yX7_shoes cX7_shoes 8 (some .int) 1 := ⟨mw_5_217, mw_5_218, mw_1_8, mw_5_219, ⟨by decide, by decide, by decide⟩⟩
set_option maxHeartbeats 4000000 in
set_option maxRecDepth 100000 in
theorem c_X7_shoes (l : Launch) (z : Zt) (σ : Sg) (h0 o0 : Nat) (g0 : zG z h0 = (17, o0)) (p1 : Int32) (out : (Int × Lo)) (hF : D_X7_shoes (σ o0) p1.toInt = some out) : Met l yX7_shoes (uw yX7_shoes cX7_shoes 8 (some .int)) (rmF 9 246) (PcW z [.ref h0, .int p1] (fun H => TY z (zA z) σ H)) (QcI z (fun r H => ∃ σ' : Sg, some (r.toInt, σ' o0) = some out ∧ FR σ σ' o0 ∧ TY z (zA z) σ' H)) 0 0 (zA z) := by
  refine Met.ofW (cc := cX7_shoes) (maxL := 8) (ret := (some .int)) (by decide) rfl ?_
  intro p e s m args below meth c s₁ B hml hv
  obtain ⟨rfl, hT, hK, hSK⟩ := hv
  have hx := B.exec
  have hb := B.bytes
  have hr := B.returns
  have hts : ∀ w ∈ lw_ok, w.before ([.ref h0, .int p1] : List Value).toArray s = true := fun w hw => atoms_spec (ws := uw yX7_shoes cX7_shoes 8 (some .int)) B.pre w (List.mem_cons_of_mem _ hw)
  have hown : s.vm.findClass RX7 = some m.cls := findClass_of_methodNamed B.named
  have hlk := B.notSynchronized
  have hC : CallFix p m c cX7_shoes 8 s ([.ref h0, .int p1] : List Value).toArray lw_ok RX7 := ⟨hx, hb, hml, hown, hts⟩
  have hS : va_S (zA z) s.heap s.heap [] := va_S.rf
  have hl := lv_entry ([.ref h0, .int p1]) (n := 8) (Nat.le_of_ble_eq_true rfl)
  rw [lg_entry_eq]
  generalize (lg_sl ([.ref h0, .int p1]) ++ List.replicate (8 - (lg_sl ([.ref h0, .int p1])).length) Slot.unset).toArray = ls at hl ⊢
  have hl : lv_has ls 8 [(0, .ref h0), (1, .int p1)] := hl
  show W p l e (rmF 9 246) s m ([.ref h0, .int p1] : List Value).toArray below meth c s.heap [] 0 0 (MQ below (QcI z (fun r H => ∃ σ' : Sg, some (r.toInt, σ' o0) = some out ∧ FR σ σ' o0 ∧ TY z (zA z) σ' H)) ([.ref h0, .int p1] : List Value).toArray s 0 0 (zA z)) (F0 m 0 ls [])
  have hfr : FR σ σ o0 := FR_rf σ o0
  unfold D_X7_shoes at hF
  have mx_p1 := i_mx p1
  refine lv_iload_n hx hb dX7_shoes_0 rfl (lv_at hl 1 rfl) ?_
  obtain ⟨v1, hd1, -⟩ := bd0_s hF
  refine cl_Si (rest := []) hC hK hSK (c_X7_isPart l z σ p1 v1 hd1) k_X7_isPart mw_5_152 ⟨rfl, rfl, Nat.le_of_ble_eq_true rfl, Nat.le_of_ble_eq_true rfl⟩ hT rfl hl.1 rfl (Nat.le_of_ble_eq_true rfl) dX7_shoes_1 ⟨Nat.zero_le _, Nat.zero_le _⟩ hS (fun _ h => h) (fun _ _ h => h) (fun r1 H locs hpo hS => ?_)
  obtain ⟨he1, hT, u1_0, u1_1⟩ := hpo
  have hF := bd0_r hF hd1 he1
  refine r_if_ne (tgt := 9) hx hb dX7_shoes_4 (by decide) (fun c4 => ?_) (fun c4 => ?_)
  · have hF := ifn hF c4
    refine r_iconst hx hb dX7_shoes_9 (by decide) (by decide) (fun x9 e9 => ?_)
    have hF := bn hF e9
    refine lv_istore_n (lv' := [(2, .int x9), (0, .ref h0), (1, .int p1)]) hx hb dX7_shoes_10 rfl hl (by decide) rfl (fun ls hl => ?_)
    refine r_bipush hx hb dX7_shoes_11 rfl (fun x11 e11 => ?_)
    have hF := bn hF e11
    refine lv_istore_n (lv' := [(3, .int x11), (2, .int x9), (0, .ref h0), (1, .int p1)]) hx hb dX7_shoes_13 rfl hl (by decide) rfl (fun ls hl => ?_)
    refine r_iconst hx hb dX7_shoes_14 (by decide) (by decide) (fun x14 e14 => ?_)
    have hF := bn hF e14
    refine lv_istore (lv' := [(4, .int x14), (3, .int x11), (2, .int x9), (0, .ref h0), (1, .int p1)]) hx hb dX7_shoes_15 hl (by decide) rfl (fun ls hl => ?_)
    have J17 : ∀ (n17 : Nat) (ls : Array Slot) (H : Heap) (locs : List Loc) (y17_2 : Int32) (y17_3 : Int32) (y17_4 : Int32) (σj17 : Sg), (-4 ≤ y17_3.toInt ∧ y17_3.toInt ≤ 44) → (0 ≤ y17_4.toInt ∧ y17_4.toInt ≤ 5) → D_X7_shoes_17 p1.toInt n17 (σj17 o0) y17_2.toInt y17_3.toInt y17_4.toInt = some out → FR σ σj17 o0 → TY z (zA z) σj17 H → va_S (zA z) s.heap H locs → lv_has ls 8 [(0, .ref h0), (1, .int p1), (2, .int y17_2), (3, .int y17_3), (4, .int y17_4)] → W p l e (rmF 9 246) s m ([.ref h0, .int p1] : List Value).toArray below meth c H locs 0 0 (MQ below (QcI z (fun r H => ∃ σ' : Sg, some (r.toInt, σ' o0) = some out ∧ FR σ σ' o0 ∧ TY z (zA z) σ' H)) ([.ref h0, .int p1] : List Value).toArray s 0 0 (zA z)) (F0 m 17 ls []) := by
      intro n17
      induction n17 with
      | zero => intro ls H locs y17_2 y17_3 y17_4 σj17 j17_y17_3 j17_y17_4 hF hfr hT hS hl; exact (no_s hF).elim
      | succ n17 ih17 =>
        intro ls H locs y17_2 y17_3 y17_4 σj17 j17_y17_3 j17_y17_4 hF hfr hT hS hl
        rw [D_X7_shoes_17.eq_2] at hF
        refine lv_iload hx hb dX7_shoes_17 (lv_at hl 4 rfl) ?_
        refine lv_aload_n hx hb dX7_shoes_19 rfl (lv_at hl 0 rfl) ?_
        refine gt_Model_men hx hb hts ic_Model hown hK hT g0 (hts _ mw_4_73) dX7_shoes_20 (fun x20 e20 f20 g20 => ?_)
        have hF := bn hF e20
        refine r_icmp_ge (tgt := 125) hx hb dX7_shoes_23 (by decide) (fun c23 => ?_) (fun c23 => ?_)
        · have hF := ifn hF (Int.not_lt.mpr c23)
          refine lv_iload_n hx hb dX7_shoes_125 rfl (lv_at hl 1 rfl) ?_
          refine r_if_ne (tgt := 133) hx hb dX7_shoes_126 (by decide) (fun c126 => ?_) (fun c126 => ?_)
          · have hF := ifn hF c126
            refine lv_iload_n hx hb dX7_shoes_133 rfl (lv_at hl 2 rfl) ?_
            exact rt_i hx hb hr hlk hS ⟨σj17, hF, hfr, hT⟩ dX7_shoes_134
          · have hF := ifp hF c126
            refine lv_iload_n hx hb dX7_shoes_129 rfl (lv_at hl 3 rfl) ?_
            refine lv_goto (tgt := 134) hx hb dX7_shoes_130 (by decide) ?_
            exact rt_i hx hb hr hlk hS ⟨σj17, hF, hfr, hT⟩ dX7_shoes_134
        · have hF := ifp hF c23
          refine lv_iload hx hb dX7_shoes_26 (lv_at hl 4 rfl) ?_
          refine r_iconst hx hb dX7_shoes_28 (by decide) (by decide) (fun x28 e28 => ?_)
          have hF := bn hF e28
          refine r_iadd hx hb dX7_shoes_29 (by omega) (by omega) (fun x29 e29 => ?_)
          have hF := bn hF e29
          refine lv_istore (lv' := [(5, .int x29), (0, .ref h0), (1, .int p1), (2, .int y17_2), (3, .int y17_3), (4, .int y17_4)]) hx hb dX7_shoes_30 hl (by decide) rfl (fun ls hl => ?_)
          have J32 : ∀ (n32 : Nat) (ls : Array Slot) (H : Heap) (locs : List Loc) (y32_2 : Int32) (y32_3 : Int32) (y32_5 : Int32) (σj32 : Sg), (-4 ≤ y32_3.toInt ∧ y32_3.toInt ≤ 44) → (1 ≤ y32_5.toInt ∧ y32_5.toInt ≤ 5) → D_X7_shoes_32 (D_X7_shoes_17 p1.toInt n17) y17_4.toInt n32 (σj32 o0) y32_2.toInt y32_3.toInt y32_5.toInt = some out → FR σ σj32 o0 → TY z (zA z) σj32 H → va_S (zA z) s.heap H locs → lv_has ls 8 [(0, .ref h0), (1, .int p1), (2, .int y32_2), (3, .int y32_3), (4, .int y17_4), (5, .int y32_5)] → W p l e (rmF 9 246) s m ([.ref h0, .int p1] : List Value).toArray below meth c H locs 0 0 (MQ below (QcI z (fun r H => ∃ σ' : Sg, some (r.toInt, σ' o0) = some out ∧ FR σ σ' o0 ∧ TY z (zA z) σ' H)) ([.ref h0, .int p1] : List Value).toArray s 0 0 (zA z)) (F0 m 32 ls []) := by
            intro n32
            induction n32 with
            | zero => intro ls H locs y32_2 y32_3 y32_5 σj32 j32_y32_3 j32_y32_5 hF hfr hT hS hl; exact (no_s hF).elim
            | succ n32 ih32 =>
              intro ls H locs y32_2 y32_3 y32_5 σj32 j32_y32_3 j32_y32_5 hF hfr hT hS hl
              rw [D_X7_shoes_32.eq_2] at hF
              refine lv_iload hx hb dX7_shoes_32 (lv_at hl 5 rfl) ?_
              refine lv_aload_n hx hb dX7_shoes_34 rfl (lv_at hl 0 rfl) ?_
              refine gt_Model_men hx hb hts ic_Model hown hK hT g0 (hts _ mw_4_73) dX7_shoes_35 (fun x35 e35 f35 g35 => ?_)
              have hF := bn hF e35
              refine r_icmp_ge (tgt := 119) hx hb dX7_shoes_38 (by decide) (fun c38 => ?_) (fun c38 => ?_)
              · have hF := ifn hF (Int.not_lt.mpr c38)
                refine r_iinc (lv' := fun v__ => [(4, .int v__), (0, .ref h0), (1, .int p1), (2, .int y32_2), (3, .int y32_3), (5, .int y32_5)]) hx hb dX7_shoes_119 hl (k := 4) rfl (by decide) (fun _ => rfl) ⟨by decide, by decide⟩ (by omega) (by omega) (fun x119 ls e119 hl => ?_)
                have hF := bn hF e119
                refine lv_goto (tgt := 17) hx hb dX7_shoes_122 (by decide) ?_
                exact ih17 ls _ _ y32_2 y32_3 x119 σj32 (by omega) (by omega) hF hfr hT hS (lv_sub hl [1, 2, 3, 4, 0] rfl)
              · have hF := ifp hF c38
                refine lv_aload_n hx hb dX7_shoes_41 rfl (lv_at hl 0 rfl) ?_
                obtain ⟨s42, hd42, -⟩ := bd1_s hF
                refine cl_Vv (rest := []) hC hK hSK (c_X7_starts l z σj32 h0 (o0) g0 s42 hd42) k_X7_starts mw_4_229 ⟨rfl, rfl, Nat.le_of_ble_eq_true rfl, Nat.le_of_ble_eq_true rfl⟩ (rv_Model hK hT g0) hT rfl hl.1 rfl (Nat.le_of_ble_eq_true rfl) dX7_shoes_42 ⟨Nat.zero_le _, Nat.zero_le _⟩ hS (fun _ h => h) (fun _ _ h => h) (fun H locs hpo hS => ?_)
                obtain ⟨σ42, he42, hf42, hT⟩ := hpo
                have hF := bd1_r hF hd42 he42
                have hfr := FR_tr hf42 hfr
                refine lv_aload_n hx hb dX7_shoes_45 rfl (lv_at hl 0 rfl) ?_
                refine lv_iload hx hb dX7_shoes_46 (lv_at hl 4 rfl) ?_
                refine r_iconst hx hb dX7_shoes_48 (by decide) (by decide) (fun x48 e48 => ?_)
                have hF := bn hF e48
                obtain ⟨v49, hd49, -⟩ := bd0_s hF
                refine cl_Vi (rest := []) hC hK hSK (c_X7_of l z σ42 h0 (o0) g0 y17_4 x48 v49 hd49 (by omega) (by omega)) k_X7_of mw_5_15 ⟨rfl, rfl, Nat.le_of_ble_eq_true rfl, Nat.le_of_ble_eq_true rfl⟩ (rv_Model hK hT g0) hT rfl hl.1 rfl (Nat.le_of_ble_eq_true rfl) dX7_shoes_49 ⟨Nat.zero_le _, Nat.zero_le _⟩ hS (fun _ h => h) (fun _ _ h => h) (fun r49 H locs hpo hS => ?_)
                obtain ⟨he49, hT, u49_0⟩ := hpo
                have hF := bd0_r hF hd49 he49
                refine lv_istore (lv' := [(6, .int r49), (0, .ref h0), (1, .int p1), (2, .int y32_2), (3, .int y32_3), (4, .int y17_4), (5, .int y32_5)]) hx hb dX7_shoes_52 hl (by decide) rfl (fun ls hl => ?_)
                refine lv_aload_n hx hb dX7_shoes_54 rfl (lv_at hl 1 rfl) ?_
                refine lv_iload hx hb dX7_shoes_55 (lv_at hl 5 rfl) ?_
                refine r_iconst hx hb dX7_shoes_57 (by decide) (by decide) (fun x57 e57 => ?_)
                have hF := bn hF e57
                refine lv_aload_n hx hb dX7_shoes_58 rfl (lv_at hl 1 rfl) ?_
                refine lv_iload hx hb dX7_shoes_59 (lv_at hl 6 rfl) ?_
                refine r_iconst hx hb dX7_shoes_61 (by decide) (by decide) (fun x61 e61 => ?_)
                have hF := bn hF e61
                obtain ⟨v62, hd62, -⟩ := bd0_s hF
                refine cl_Vi (rest := [.int x57, .int y17_4, .ref h0]) hC hK hSK (c_X7_of l z σ42 h0 (o0) g0 y32_5 x61 v62 hd62 (by omega) (by omega)) k_X7_of mw_5_15 ⟨rfl, rfl, Nat.le_of_ble_eq_true rfl, Nat.le_of_ble_eq_true rfl⟩ (rv_Model hK hT g0) hT rfl hl.1 rfl (Nat.le_of_ble_eq_true rfl) dX7_shoes_62 ⟨Nat.zero_le _, Nat.zero_le _⟩ hS (fun _ h => h) (fun _ _ h => h) (fun r62 H locs hpo hS => ?_)
                obtain ⟨he62, hT, u62_0⟩ := hpo
                have hF := bd0_r hF hd62 he62
                obtain ⟨s65, hd65, -⟩ := bd1_s hF
                refine cl_Vv (rest := []) hC hK hSK (c_X7_becomesOf l z σ42 h0 (o0) g0 y17_4 x57 r62 s65 hd65 (by omega) (by omega) (by omega)) k_X7_becomesOf mw_5_100 ⟨rfl, rfl, Nat.le_of_ble_eq_true rfl, Nat.le_of_ble_eq_true rfl⟩ (rv_Model hK hT g0) hT rfl hl.1 rfl (Nat.le_of_ble_eq_true rfl) dX7_shoes_65 ⟨Nat.zero_le _, Nat.zero_le _⟩ hS (fun _ h => h) (fun _ _ h => h) (fun H locs hpo hS => ?_)
                obtain ⟨σ65, he65, hf65, hT⟩ := hpo
                have hF := bd1_r hF hd65 he65
                have hfr := FR_tr hf65 hfr
                refine lv_aload_n hx hb dX7_shoes_68 rfl (lv_at hl 1 rfl) ?_
                refine lv_iload hx hb dX7_shoes_69 (lv_at hl 6 rfl) ?_
                refine r_iconst hx hb dX7_shoes_71 (by decide) (by decide) (fun x71 e71 => ?_)
                have hF := bn hF e71
                refine lv_iload hx hb dX7_shoes_72 (lv_at hl 0 rfl) ?_
                obtain ⟨s74, hd74, -⟩ := bd1_s hF
                refine cl_Vv (rest := []) hC hK hSK (c_X7_becomesOf l z σ65 h0 (o0) g0 y32_5 x71 r49 s74 hd74 (by omega) (by omega) (by omega)) k_X7_becomesOf mw_5_100 ⟨rfl, rfl, Nat.le_of_ble_eq_true rfl, Nat.le_of_ble_eq_true rfl⟩ (rv_Model hK hT g0) hT rfl hl.1 rfl (Nat.le_of_ble_eq_true rfl) dX7_shoes_74 ⟨Nat.zero_le _, Nat.zero_le _⟩ hS (fun _ h => h) (fun _ _ h => h) (fun H locs hpo hS => ?_)
                obtain ⟨σ74, he74, hf74, hT⟩ := hpo
                have hF := bd1_r hF hd74 he74
                have hfr := FR_tr hf74 hfr
                refine lv_aload_n hx hb dX7_shoes_77 rfl (lv_at hl 1 rfl) ?_
                obtain ⟨v78, s78, hd78, -⟩ := bd2_s hF
                refine cl_Vi (rest := []) hC hK hSK (c_X7_isSo l z σ74 h0 (o0) g0 (v78, s78) hd78) k_X7_isSo mw_5_208 ⟨rfl, rfl, Nat.le_of_ble_eq_true rfl, Nat.le_of_ble_eq_true rfl⟩ (rv_Model hK hT g0) hT rfl hl.1 rfl (Nat.le_of_ble_eq_true rfl) dX7_shoes_78 ⟨Nat.zero_le _, Nat.zero_le _⟩ hS (fun _ h => h) (fun _ _ h => h) (fun r78 H locs hpo hS => ?_)
                obtain ⟨σ78, he78, hf78, hT, u78_0⟩ := hpo
                have hF := bd2_r hF hd78 he78
                have hfr := FR_tr hf78 hfr
                refine lv_istore (lv' := [(7, .int r78), (6, .int r49), (0, .ref h0), (1, .int p1), (2, .int y32_2), (3, .int y32_3), (4, .int y17_4), (5, .int y32_5)]) hx hb dX7_shoes_81 hl (by decide) rfl (fun ls hl => ?_)
                refine lv_iload hx hb dX7_shoes_83 (lv_at hl 0 rfl) ?_
                have J104 : ∀ (ls : Array Slot) (H : Heap) (locs : List Loc) (t104_0 : Int32) (σj104 : Sg), (-4 ≤ t104_0.toInt ∧ t104_0.toInt ≤ 44) → D_X7_shoes_104 (D_X7_shoes_17 p1.toInt n17) (D_X7_shoes_32 (D_X7_shoes_17 p1.toInt n17) y17_4.toInt n32) r78.toInt y32_2.toInt y32_5.toInt (σj104 o0) t104_0.toInt = some out → FR σ σj104 o0 → TY z (zA z) σj104 H → va_S (zA z) s.heap H locs → lv_has ls 8 [(0, .ref h0), (1, .int p1), (2, .int y32_2), (3, .int y32_3), (4, .int y17_4), (5, .int y32_5), (6, .int r49), (7, .int r78)] → W p l e (rmF 9 246) s m ([.ref h0, .int p1] : List Value).toArray below meth c H locs 0 0 (MQ below (QcI z (fun r H => ∃ σ' : Sg, some (r.toInt, σ' o0) = some out ∧ FR σ σ' o0 ∧ TY z (zA z) σ' H)) ([.ref h0, .int p1] : List Value).toArray s 0 0 (zA z)) (F0 m 104 ls [.int t104_0]) := by
                  intro ls H locs t104_0 σj104 j104_t104_0 hF hfr hT hS hl
                  unfold D_X7_shoes_104 at hF
                  refine lv_istore_n (lv' := [(3, .int t104_0), (0, .ref h0), (1, .int p1), (2, .int y32_2), (4, .int y17_4), (5, .int y32_5), (6, .int r49), (7, .int r78)]) hx hb dX7_shoes_104 rfl hl (by decide) rfl (fun ls hl => ?_)
                  refine lv_iload_n hx hb dX7_shoes_105 rfl (lv_at hl 3 rfl) ?_
                  refine lv_iload hx hb dX7_shoes_106 (lv_at hl 7 rfl) ?_
                  obtain ⟨v108, hd108, -⟩ := bd0_s hF
                  refine cl_Si (rest := [.int y32_2]) hC hK hSK (c_X7_flag l z σj104 r78 v108 hd108 (by omega)) k_X7_flag mw_5_4 ⟨rfl, rfl, Nat.le_of_ble_eq_true rfl, Nat.le_of_ble_eq_true rfl⟩ hT rfl hl.1 rfl (Nat.le_of_ble_eq_true rfl) dX7_shoes_108 ⟨Nat.zero_le _, Nat.zero_le _⟩ hS (fun _ h => h) (fun _ _ h => h) (fun r108 H locs hpo hS => ?_)
                  obtain ⟨he108, hT, u108_0⟩ := hpo
                  have hF := bd0_r hF hd108 he108
                  refine x_iadd hx hb dX7_shoes_111 (fun x111 e111 => ?_)
                  have hF := bn hF e111
                  refine lv_istore_n (lv' := [(2, .int x111), (3, .int t104_0), (0, .ref h0), (1, .int p1), (4, .int y17_4), (5, .int y32_5), (6, .int r49), (7, .int r78)]) hx hb dX7_shoes_112 rfl hl (by decide) rfl (fun ls hl => ?_)
                  refine r_iinc (lv' := fun v__ => [(5, .int v__), (2, .int x111), (3, .int t104_0), (0, .ref h0), (1, .int p1), (4, .int y17_4), (6, .int r49), (7, .int r78)]) hx hb dX7_shoes_113 hl (k := 5) rfl (by decide) (fun _ => rfl) ⟨by decide, by decide⟩ (by omega) (by omega) (fun x113 ls e113 hl => ?_)
                  have hF := bn hF e113
                  refine lv_goto (tgt := 32) hx hb dX7_shoes_116 (by decide) ?_
                  exact ih32 ls _ _ x111 t104_0 x113 σj104 (by omega) (by omega) hF hfr hT hS (lv_sub hl [3, 4, 1, 2, 5, 0] rfl)
                have J103 : ∀ (ls : Array Slot) (H : Heap) (locs : List Loc) (σj103 : Sg), D_X7_shoes_103 (D_X7_shoes_17 p1.toInt n17) (D_X7_shoes_32 (D_X7_shoes_17 p1.toInt n17) y17_4.toInt n32) r78.toInt y32_2.toInt y32_3.toInt y32_5.toInt (σj103 o0) = some out → FR σ σj103 o0 → TY z (zA z) σj103 H → va_S (zA z) s.heap H locs → lv_has ls 8 [(0, .ref h0), (1, .int p1), (2, .int y32_2), (3, .int y32_3), (4, .int y17_4), (5, .int y32_5), (6, .int r49), (7, .int r78)] → W p l e (rmF 9 246) s m ([.ref h0, .int p1] : List Value).toArray below meth c H locs 0 0 (MQ below (QcI z (fun r H => ∃ σ' : Sg, some (r.toInt, σ' o0) = some out ∧ FR σ σ' o0 ∧ TY z (zA z) σ' H)) ([.ref h0, .int p1] : List Value).toArray s 0 0 (zA z)) (F0 m 103 ls []) := by
                  intro ls H locs σj103 hF hfr hT hS hl
                  unfold D_X7_shoes_103 at hF
                  refine lv_iload_n hx hb dX7_shoes_103 rfl (lv_at hl 3 rfl) ?_
                  exact J104 ls _ _ y32_3 σj103 (by omega) hF hfr hT hS (lv_sub hl [0, 1, 2, 3, 4, 5, 6, 7] rfl)
                refine r_if_eq (tgt := 103) hx hb dX7_shoes_85 (by decide) (fun c85 => ?_) (fun c85 => ?_)
                · have hF := ifp hF c85
                  exact J103 ls _ _ σ78 hF hfr hT hS (lv_sub hl [2, 3, 4, 5, 6, 7, 1, 0] rfl)
                · have hF := ifn hF c85
                  refine lv_iload_n hx hb dX7_shoes_88 rfl (lv_at hl 4 rfl) ?_
                  refine r_if_ne (tgt := 103) hx hb dX7_shoes_89 (by decide) (fun c89 => ?_) (fun c89 => ?_)
                  · have hF := ifn hF c89
                    exact J103 ls _ _ σ78 hF hfr hT hS (lv_sub hl [2, 3, 4, 5, 6, 7, 1, 0] rfl)
                  · have hF := ifp hF c89
                    refine r_bipush hx hb dX7_shoes_92 rfl (fun x92 e92 => ?_)
                    have hF := bn hF e92
                    refine lv_iload hx hb dX7_shoes_94 (lv_at hl 6 rfl) ?_
                    refine r_imulL (10) (by omega) hx hb dX7_shoes_96 (by omega) (by omega) (fun x96 e96 => ?_)
                    have hF := bn hF e96
                    refine lv_iload hx hb dX7_shoes_97 (lv_at hl 7 rfl) ?_
                    refine r_iadd hx hb dX7_shoes_99 (by omega) (by omega) (fun x99 e99 => ?_)
                    have hF := bn hF e99
                    refine lv_goto (tgt := 104) hx hb dX7_shoes_100 (by decide) ?_
                    exact J104 ls _ _ x99 σ78 (by omega) hF hfr hT hS (lv_sub hl [2, 3, 4, 5, 6, 7, 1, 0] rfl)
          exact J32 5000 ls _ _ y17_2 y17_3 x29 σj17 (by omega) (by omega) hF hfr hT hS (lv_sub hl [1, 2, 3, 4, 5, 0] rfl)
    exact J17 5000 ls _ _ x9 x11 x14 σ (by omega) (by omega) hF hfr hT hS (lv_sub hl [3, 4, 2, 1, 0] rfl)
  · have hF := ifp hF c4
    refine r_iconst hx hb dX7_shoes_7 (by decide) (by decide) (fun x7 e7 => ?_)
    have hF := bn hF e7
    exact rt_i hx hb hr hlk hS ⟨σ, hF, hfr, hT⟩ dX7_shoes_8
theorem k_X7_drift : cBV yX7_drift cX7_drift 7 (some .int) 3 := ⟨mw_5_221, mw_5_222, mw_1_8, mw_5_223, ⟨by decide, by decide, by decide⟩⟩
set_option maxHeartbeats 4000000 in
set_option maxRecDepth 100000 in
theorem c_X7_drift (l : Launch) (z : Zt) (σ : Sg) (h0 o0 : Nat) (g0 : zG z h0 = (17, o0)) (p1 : Int32) (p2 : Int32) (p3 : Int32) (out : (Int × Lo)) (hF : D_X7_drift (σ o0) p1.toInt p2.toInt p3.toInt = some out) : Met l yX7_drift (uw yX7_drift cX7_drift 7 (some .int)) (rmF 8 222) (PcW z [.ref h0, .int p1, .int p2, .int p3] (fun H => TY z (zA z) σ H)) (QcI z (fun r H => ∃ σ' : Sg, some (r.toInt, σ' o0) = some out ∧ FR σ σ' o0 ∧ TY z (zA z) σ' H)) 0 0 (zA z) := by
  refine Met.ofW (cc := cX7_drift) (maxL := 7) (ret := (some .int)) (by decide) rfl ?_
  intro p e s m args below meth c s₁ B hml hv
  obtain ⟨rfl, hT, hK, hSK⟩ := hv
  have hx := B.exec
  have hb := B.bytes
  have hr := B.returns
  have hts : ∀ w ∈ lw_ok, w.before ([.ref h0, .int p1, .int p2, .int p3] : List Value).toArray s = true := fun w hw => atoms_spec (ws := uw yX7_drift cX7_drift 7 (some .int)) B.pre w (List.mem_cons_of_mem _ hw)
  have hown : s.vm.findClass RX7 = some m.cls := findClass_of_methodNamed B.named
  have hlk := B.notSynchronized
  have hC : CallFix p m c cX7_drift 7 s ([.ref h0, .int p1, .int p2, .int p3] : List Value).toArray lw_ok RX7 := ⟨hx, hb, hml, hown, hts⟩
  have hS : va_S (zA z) s.heap s.heap [] := va_S.rf
  have hl := lv_entry ([.ref h0, .int p1, .int p2, .int p3]) (n := 7) (Nat.le_of_ble_eq_true rfl)
  rw [lg_entry_eq]
  generalize (lg_sl ([.ref h0, .int p1, .int p2, .int p3]) ++ List.replicate (7 - (lg_sl ([.ref h0, .int p1, .int p2, .int p3])).length) Slot.unset).toArray = ls at hl ⊢
  have hl : lv_has ls 7 [(0, .ref h0), (1, .int p1), (2, .int p2), (3, .int p3)] := hl
  show W p l e (rmF 8 222) s m ([.ref h0, .int p1, .int p2, .int p3] : List Value).toArray below meth c s.heap [] 0 0 (MQ below (QcI z (fun r H => ∃ σ' : Sg, some (r.toInt, σ' o0) = some out ∧ FR σ σ' o0 ∧ TY z (zA z) σ' H)) ([.ref h0, .int p1, .int p2, .int p3] : List Value).toArray s 0 0 (zA z)) (F0 m 0 ls [])
  have hfr : FR σ σ o0 := FR_rf σ o0
  unfold D_X7_drift at hF
  have mx_p1 := i_mx p1
  have mx_p2 := i_mx p2
  have mx_p3 := i_mx p3
  refine lv_iload_n hx hb dX7_drift_0 rfl (lv_at hl 2 rfl) ?_
  refine r_i2l hx hb dX7_drift_1 (fun x1 e1 => ?_)
  have hF := bn hF e1
  refine r_lconst1 hx hb dX7_drift_2 (fun x2 e2 => ?_)
  have hF := bn hF e2
  refine r_ldc2 (60) rfl hx hb hts hown mw_5_224 dX7_drift_3 (fun x3 e3 => ?_)
  have hF := bn hF e3
  obtain ⟨v6, hd6, -⟩ := bd0_s hF
  refine cl_Si (rest := []) hC hK hSK (c_X7_in l z σ x1 x2 x3 v6 hd6) k_X7_in mw_4_154 ⟨rfl, rfl, Nat.le_of_ble_eq_true rfl, Nat.le_of_ble_eq_true rfl⟩ hT rfl hl.1 rfl (Nat.le_of_ble_eq_true rfl) dX7_drift_6 ⟨Nat.zero_le _, Nat.zero_le _⟩ hS (fun _ h => h) (fun _ _ h => h) (fun r6 H locs hpo hS => ?_)
  obtain ⟨he6, hT, u6_0, u6_1⟩ := hpo
  have hF := bd0_r hF hd6 he6
  refine r_if_eq (tgt := 19) hx hb dX7_drift_9 (by decide) (fun c9 => ?_) (fun c9 => ?_)
  · have hF := ifp hF c9
    refine r_iconst hx hb dX7_drift_19 (by decide) (by decide) (fun x19 e19 => ?_)
    have hF := bn hF e19
    exact rt_i hx hb hr hlk hS ⟨σ, hF, hfr, hT⟩ dX7_drift_20
  · have hF := ifn hF c9
    refine lv_iload_n hx hb dX7_drift_12 rfl (lv_at hl 3 rfl) ?_
    obtain ⟨v13, hd13, -⟩ := bd0_s hF
    refine cl_Si (rest := []) hC hK hSK (c_X7_isPart l z σ p3 v13 hd13) k_X7_isPart mw_5_152 ⟨rfl, rfl, Nat.le_of_ble_eq_true rfl, Nat.le_of_ble_eq_true rfl⟩ hT rfl hl.1 rfl (Nat.le_of_ble_eq_true rfl) dX7_drift_13 ⟨Nat.zero_le _, Nat.zero_le _⟩ hS (fun _ h => h) (fun _ _ h => h) (fun r13 H locs hpo hS => ?_)
    obtain ⟨he13, hT, u13_0, u13_1⟩ := hpo
    have hF := bd0_r hF hd13 he13
    refine r_if_ne (tgt := 21) hx hb dX7_drift_16 (by decide) (fun c16 => ?_) (fun c16 => ?_)
    · have hF := ifn hF c16
      refine lv_aload_n hx hb dX7_drift_21 rfl (lv_at hl 0 rfl) ?_
      refine gt_Model_men hx hb hts ic_Model hown hK hT g0 (hts _ mw_4_73) dX7_drift_22 (fun x22 e22 f22 g22 => ?_)
      have hF := bn hF e22
      refine r_if_ne (tgt := 31) hx hb dX7_drift_25 (by decide) (fun c25 => ?_) (fun c25 => ?_)
      · have hF := ifn hF c25
        refine lv_iload_n hx hb dX7_drift_31 rfl (lv_at hl 1 rfl) ?_
        refine lv_istore (lv' := [(4, .int p1), (0, .ref h0), (1, .int p1), (2, .int p2), (3, .int p3)]) hx hb dX7_drift_32 hl (by decide) rfl (fun ls hl => ?_)
        refine r_iconst hx hb dX7_drift_34 (by decide) (by decide) (fun x34 e34 => ?_)
        have hF := bn hF e34
        refine lv_istore (lv' := [(5, .int x34), (4, .int p1), (0, .ref h0), (1, .int p1), (2, .int p2), (3, .int p3)]) hx hb dX7_drift_35 hl (by decide) rfl (fun ls hl => ?_)
        refine lv_aload_n hx hb dX7_drift_37 rfl (lv_at hl 2 rfl) ?_
        obtain ⟨s38, hd38, -⟩ := bd1_s hF
        refine cl_Vv (rest := []) hC hK hSK (c_X7_starts l z σ h0 (o0) g0 s38 hd38) k_X7_starts mw_4_229 ⟨rfl, rfl, Nat.le_of_ble_eq_true rfl, Nat.le_of_ble_eq_true rfl⟩ (rv_Model hK hT g0) hT rfl hl.1 rfl (Nat.le_of_ble_eq_true rfl) dX7_drift_38 ⟨Nat.zero_le _, Nat.zero_le _⟩ hS (fun _ h => h) (fun _ _ h => h) (fun H locs hpo hS => ?_)
        obtain ⟨σ38, he38, hf38, hT⟩ := hpo
        have hF := bd1_r hF hd38 he38
        have hfr := FR_tr hf38 hfr
        refine r_iconst hx hb dX7_drift_41 (by decide) (by decide) (fun x41 e41 => ?_)
        have hF := bn hF e41
        refine lv_istore (lv' := [(6, .int x41), (5, .int x34), (4, .int p1), (0, .ref h0), (1, .int p1), (2, .int p2), (3, .int p3)]) hx hb dX7_drift_42 hl (by decide) rfl (fun ls hl => ?_)
        have J44 : ∀ (n44 : Nat) (ls : Array Slot) (H : Heap) (locs : List Loc) (y44_4 : Int32) (y44_5 : Int32) (y44_6 : Int32) (σj44 : Sg), (0 ≤ y44_6.toInt ∧ y44_6.toInt ≤ 60) → D_X7_drift_44 p2.toInt p3.toInt n44 (σj44 o0) y44_4.toInt y44_5.toInt y44_6.toInt = some out → FR σ σj44 o0 → TY z (zA z) σj44 H → va_S (zA z) s.heap H locs → lv_has ls 7 [(0, .ref h0), (1, .int p1), (2, .int p2), (3, .int p3), (4, .int y44_4), (5, .int y44_5), (6, .int y44_6)] → W p l e (rmF 8 222) s m ([.ref h0, .int p1, .int p2, .int p3] : List Value).toArray below meth c H locs 0 0 (MQ below (QcI z (fun r H => ∃ σ' : Sg, some (r.toInt, σ' o0) = some out ∧ FR σ σ' o0 ∧ TY z (zA z) σ' H)) ([.ref h0, .int p1, .int p2, .int p3] : List Value).toArray s 0 0 (zA z)) (F0 m 44 ls []) := by
          intro n44
          induction n44 with
          | zero => intro ls H locs y44_4 y44_5 y44_6 σj44 j44_y44_6 hF hfr hT hS hl; exact (no_s hF).elim
          | succ n44 ih44 =>
            intro ls H locs y44_4 y44_5 y44_6 σj44 j44_y44_6 hF hfr hT hS hl
            rw [D_X7_drift_44.eq_2] at hF
            refine lv_iload hx hb dX7_drift_44 (lv_at hl 6 rfl) ?_
            refine lv_iload_n hx hb dX7_drift_46 rfl (lv_at hl 2 rfl) ?_
            refine r_icmp_ge (tgt := 95) hx hb dX7_drift_47 (by decide) (fun c47 => ?_) (fun c47 => ?_)
            · have hF := ifn hF (Int.not_lt.mpr c47)
              refine lv_iload_n hx hb dX7_drift_95 rfl (lv_at hl 3 rfl) ?_
              refine r_if_ne (tgt := 104) hx hb dX7_drift_96 (by decide) (fun c96 => ?_) (fun c96 => ?_)
              · have hF := ifn hF c96
                refine lv_aload_n hx hb dX7_drift_104 rfl (lv_at hl 0 rfl) ?_
                refine gt_Model_now hx hb hts ic_Model hown hK hT g0 (hts _ mw_4_71) dX7_drift_105 (fun q105 hq105 => ?_)
                refine r_bipush hx hb dX7_drift_108 rfl (fun x108 e108 => ?_)
                have hF := bn hF e108
                refine al_41 hx hb hK hT hq105 (by omega) (by omega) dX7_drift_110 (fun x110 e110 g110 => ?_)
                have hF := bn hF e110
                have f110 := gd59_20 g110 (by omega) (by omega)
                exact rt_i hx hb hr hlk hS ⟨σj44, hF, hfr, hT⟩ dX7_drift_111
              · have hF := ifp hF c96
                refine lv_iload hx hb dX7_drift_99 (lv_at hl 5 rfl) ?_
                refine lv_goto (tgt := 111) hx hb dX7_drift_101 (by decide) ?_
                exact rt_i hx hb hr hlk hS ⟨σj44, hF, hfr, hT⟩ dX7_drift_111
            · have hF := ifp hF c47
              refine lv_iload hx hb dX7_drift_50 (lv_at hl 4 rfl) ?_
              refine r_ldcw (1103515245) rfl hx hb hts hown mw_5_225 dX7_drift_52 (fun x52 e52 => ?_)
              have hF := bn hF e52
              refine x_imul hx hb dX7_drift_55 (fun x55 e55 => ?_)
              have hF := bn hF e55
              refine r_sipush hx hb dX7_drift_56 rfl (fun x56 e56 => ?_)
              have hF := bn hF e56
              refine x_iadd hx hb dX7_drift_59 (fun x59 e59 => ?_)
              have hF := bn hF e59
              refine lv_istore (lv' := [(4, .int x59), (0, .ref h0), (1, .int p1), (2, .int p2), (3, .int p3), (5, .int y44_5), (6, .int y44_6)]) hx hb dX7_drift_60 hl (by decide) rfl (fun ls hl => ?_)
              refine lv_aload_n hx hb dX7_drift_62 rfl (lv_at hl 1 rfl) ?_
              refine lv_iload hx hb dX7_drift_63 (lv_at hl 0 rfl) ?_
              refine r_bipush hx hb dX7_drift_65 rfl (fun x65 e65 => ?_)
              have hF := bn hF e65
              refine x_ishr hx hb dX7_drift_67 (fun x67 e67 => ?_)
              have hF := bn hF e67
              refine r_sipush hx hb dX7_drift_68 rfl (fun x68 e68 => ?_)
              have hF := bn hF e68
              refine x_iandr hx hb dX7_drift_71 (by omega) (fun x71 e71 g71 h71 => ?_)
              have hF := bn hF e71
              refine r_iconst hx hb dX7_drift_72 (by decide) (by decide) (fun x72 e72 => ?_)
              have hF := bn hF e72
              refine r_irem hx hb dX7_drift_73 (by omega) (by omega) (fun x73 e73 g73 h73 => ?_)
              have hF := bn hF e73
              obtain ⟨s74, hd74, -⟩ := bd1_s hF
              refine cl_Vv (rest := []) hC hK hSK (c_X7_danceOn l z σj44 h0 (o0) g0 x73 s74 hd74) k_X7_danceOn mw_5_88 ⟨rfl, rfl, Nat.le_of_ble_eq_true rfl, Nat.le_of_ble_eq_true rfl⟩ (rv_Model hK hT g0) hT rfl hl.1 rfl (Nat.le_of_ble_eq_true rfl) dX7_drift_74 ⟨Nat.zero_le _, Nat.zero_le _⟩ hS (fun _ h => h) (fun _ _ h => h) (fun H locs hpo hS => ?_)
              obtain ⟨σ74, he74, hf74, hT⟩ := hpo
              have hF := bd1_r hF hd74 he74
              have hfr := FR_tr hf74 hfr
              refine lv_iload hx hb dX7_drift_77 (lv_at hl 5 rfl) ?_
              refine lv_aload_n hx hb dX7_drift_79 rfl (lv_at hl 1 rfl) ?_
              obtain ⟨v80, hd80, -⟩ := bd0_s hF
              refine cl_Vi (rest := [.int y44_5]) hC hK hSK (c_X7_round l z σ74 h0 (o0) g0 v80 hd80) k_X7_round mw_5_0 ⟨rfl, rfl, Nat.le_of_ble_eq_true rfl, Nat.le_of_ble_eq_true rfl⟩ (rv_Model hK hT g0) hT rfl hl.1 rfl (Nat.le_of_ble_eq_true rfl) dX7_drift_80 ⟨Nat.zero_le _, Nat.zero_le _⟩ hS (fun _ h => h) (fun _ _ h => h) (fun r80 H locs hpo hS => ?_)
              obtain ⟨he80, hT⟩ := hpo
              have hF := bd0_r hF hd80 he80
              obtain ⟨v83, hd83, -⟩ := bd0_s hF
              refine cl_Si (rest := [.int y44_5]) hC hK hSK (c_X7_bitsOf l z σ74 r80 v83 hd83) k_X7_bitsOf mw_4_237 ⟨rfl, rfl, Nat.le_of_ble_eq_true rfl, Nat.le_of_ble_eq_true rfl⟩ hT rfl hl.1 rfl (Nat.le_of_ble_eq_true rfl) dX7_drift_83 ⟨Nat.zero_le _, Nat.zero_le _⟩ hS (fun _ h => h) (fun _ _ h => h) (fun r83 H locs hpo hS => ?_)
              obtain ⟨he83, hT⟩ := hpo
              have hF := bd0_r hF hd83 he83
              refine x_iadd hx hb dX7_drift_86 (fun x86 e86 => ?_)
              have hF := bn hF e86
              refine lv_istore (lv' := [(5, .int x86), (4, .int x59), (0, .ref h0), (1, .int p1), (2, .int p2), (3, .int p3), (6, .int y44_6)]) hx hb dX7_drift_87 hl (by decide) rfl (fun ls hl => ?_)
              refine r_iinc (lv' := fun v__ => [(6, .int v__), (5, .int x86), (4, .int x59), (0, .ref h0), (1, .int p1), (2, .int p2), (3, .int p3)]) hx hb dX7_drift_89 hl (k := 6) rfl (by decide) (fun _ => rfl) ⟨by decide, by decide⟩ (by omega) (by omega) (fun x89 ls e89 hl => ?_)
              have hF := bn hF e89
              refine lv_goto (tgt := 44) hx hb dX7_drift_92 (by decide) ?_
              exact ih44 ls _ _ x59 x86 x89 σ74 (by omega) hF hfr hT hS (lv_sub hl [3, 4, 5, 6, 2, 1, 0] rfl)
        exact J44 5000 ls _ _ p1 x34 x41 σ38 (by omega) hF hfr hT hS (lv_sub hl [3, 4, 5, 6, 2, 1, 0] rfl)
      · have hF := ifp hF c25
        refine r_bipush hx hb dX7_drift_28 rfl (fun x28 e28 => ?_)
        have hF := bn hF e28
        exact rt_i hx hb hr hlk hS ⟨σ, hF, hfr, hT⟩ dX7_drift_30
    · have hF := ifp hF c16
      refine r_iconst hx hb dX7_drift_19 (by decide) (by decide) (fun x19 e19 => ?_)
      have hF := bn hF e19
      exact rt_i hx hb hr hlk hS ⟨σ, hF, hfr, hT⟩ dX7_drift_20
theorem k_X7_keep : cBV yX7_keep cX7_keep 3 (some .int) 1 := ⟨mw_5_227, mw_5_228, mw_1_8, mw_5_229, ⟨by decide, by decide, by decide⟩⟩
set_option maxHeartbeats 4000000 in
set_option maxRecDepth 100000 in
theorem c_X7_keep (l : Launch) (z : Zt) (σ : Sg) (h0 o0 : Nat) (g0 : zG z h0 = (17, o0)) (p1 : Int32) (out : (Int × Lo)) (hF : D_X7_keep (σ o0) p1.toInt = some out) : Met l yX7_keep (uw yX7_keep cX7_keep 3 (some .int)) (rmF 2 89) (PcW z [.ref h0, .int p1] (fun H => TY z (zA z) σ H)) (QcI z (fun r H => ∃ σ' : Sg, some (r.toInt, σ' o0) = some out ∧ FR σ σ' o0 ∧ TY z (zA z) σ' H)) 0 0 (zA z) := by
  refine Met.ofW (cc := cX7_keep) (maxL := 3) (ret := (some .int)) (by decide) rfl ?_
  intro p e s m args below meth c s₁ B hml hv
  obtain ⟨rfl, hT, hK, hSK⟩ := hv
  have hx := B.exec
  have hb := B.bytes
  have hr := B.returns
  have hts : ∀ w ∈ lw_ok, w.before ([.ref h0, .int p1] : List Value).toArray s = true := fun w hw => atoms_spec (ws := uw yX7_keep cX7_keep 3 (some .int)) B.pre w (List.mem_cons_of_mem _ hw)
  have hown : s.vm.findClass RX7 = some m.cls := findClass_of_methodNamed B.named
  have hlk := B.notSynchronized
  have hC : CallFix p m c cX7_keep 3 s ([.ref h0, .int p1] : List Value).toArray lw_ok RX7 := ⟨hx, hb, hml, hown, hts⟩
  have hS : va_S (zA z) s.heap s.heap [] := va_S.rf
  have hl := lv_entry ([.ref h0, .int p1]) (n := 3) (Nat.le_of_ble_eq_true rfl)
  rw [lg_entry_eq]
  generalize (lg_sl ([.ref h0, .int p1]) ++ List.replicate (3 - (lg_sl ([.ref h0, .int p1])).length) Slot.unset).toArray = ls at hl ⊢
  have hl : lv_has ls 3 [(0, .ref h0), (1, .int p1)] := hl
  show W p l e (rmF 2 89) s m ([.ref h0, .int p1] : List Value).toArray below meth c s.heap [] 0 0 (MQ below (QcI z (fun r H => ∃ σ' : Sg, some (r.toInt, σ' o0) = some out ∧ FR σ σ' o0 ∧ TY z (zA z) σ' H)) ([.ref h0, .int p1] : List Value).toArray s 0 0 (zA z)) (F0 m 0 ls [])
  have hfr : FR σ σ o0 := FR_rf σ o0
  unfold D_X7_keep at hF
  have mx_p1 := i_mx p1
  refine lv_iload_n hx hb dX7_keep_0 rfl (lv_at hl 1 rfl) ?_
  refine r_i2l hx hb dX7_keep_1 (fun x1 e1 => ?_)
  have hF := bn hF e1
  refine r_lconst0 hx hb dX7_keep_2 (fun x2 e2 => ?_)
  have hF := bn hF e2
  refine r_lconst1 hx hb dX7_keep_3 (fun x3 e3 => ?_)
  have hF := bn hF e3
  obtain ⟨v4, hd4, -⟩ := bd0_s hF
  refine cl_Si (rest := []) hC hK hSK (c_X7_in l z σ x1 x2 x3 v4 hd4) k_X7_in mw_4_154 ⟨rfl, rfl, Nat.le_of_ble_eq_true rfl, Nat.le_of_ble_eq_true rfl⟩ hT rfl hl.1 rfl (Nat.le_of_ble_eq_true rfl) dX7_keep_4 ⟨Nat.zero_le _, Nat.zero_le _⟩ hS (fun _ h => h) (fun _ _ h => h) (fun r4 H locs hpo hS => ?_)
  obtain ⟨he4, hT, u4_0, u4_1⟩ := hpo
  have hF := bd0_r hF hd4 he4
  refine r_if_ne (tgt := 12) hx hb dX7_keep_7 (by decide) (fun c7 => ?_) (fun c7 => ?_)
  · have hF := ifn hF c7
    refine lv_aload_n hx hb dX7_keep_12 rfl (lv_at hl 0 rfl) ?_
    refine gt_Model_isKept hx hb hts ic_Model hown hK hT g0 (hts _ mw_4_72) dX7_keep_13 (fun q13 hq13 => ?_)
    refine lv_iload_n hx hb dX7_keep_16 rfl (lv_at hl 1 rfl) ?_
    refine al_42 hx hb hK hT hq13 (by omega) (by omega) dX7_keep_17 (fun x17 e17 g17 => ?_)
    have hF := bn hF e17
    obtain ⟨v18, hd18, -⟩ := bd0_s hF
    refine cl_Si (rest := []) hC hK hSK (c_X7_flag l z σ x17 v18 hd18 (by omega)) k_X7_flag mw_5_4 ⟨rfl, rfl, Nat.le_of_ble_eq_true rfl, Nat.le_of_ble_eq_true rfl⟩ hT rfl hl.1 rfl (Nat.le_of_ble_eq_true rfl) dX7_keep_18 ⟨Nat.zero_le _, Nat.zero_le _⟩ hS (fun _ h => h) (fun _ _ h => h) (fun r18 H locs hpo hS => ?_)
    obtain ⟨he18, hT, u18_0⟩ := hpo
    have hF := bd0_r hF hd18 he18
    refine lv_istore_n (lv' := [(2, .int r18), (0, .ref h0), (1, .int p1)]) hx hb dX7_keep_21 rfl hl (by decide) rfl (fun ls hl => ?_)
    refine lv_aload_n hx hb dX7_keep_22 rfl (lv_at hl 1 rfl) ?_
    refine gt_Model_isKept hx hb hts ic_Model hown hK hT g0 (hts _ mw_4_72) dX7_keep_23 (fun q23 hq23 => ?_)
    refine lv_iload_n hx hb dX7_keep_26 rfl (lv_at hl 2 rfl) ?_
    refine r_iconst hx hb dX7_keep_27 (by decide) (by decide) (fun x27 e27 => ?_)
    have hF := bn hF e27
    refine as_42 hx hb hK hT hS hq23 (by omega) (by omega) ⟨by omega, by omega⟩ dX7_keep_28 (fun H locs hT hS => ?_)
    obtain ⟨σ28, hF, hfr, hT⟩ := wrL hF hfr hT
    refine lv_aload_n hx hb dX7_keep_29 rfl (lv_at hl 1 rfl) ?_
    refine r_bipush hx hb dX7_keep_30 rfl (fun x30 e30 => ?_)
    have hF := bn hF e30
    refine lv_iload_n hx hb dX7_keep_32 rfl (lv_at hl 2 rfl) ?_
    refine r_iconst hx hb dX7_keep_33 (by decide) (by decide) (fun x33 e33 => ?_)
    have hF := bn hF e33
    refine r_iadd hx hb dX7_keep_34 (by omega) (by omega) (fun x34 e34 => ?_)
    have hF := bn hF e34
    refine r_imulL (59) (by omega) hx hb dX7_keep_35 (by omega) (by omega) (fun x35 e35 => ?_)
    have hF := bn hF e35
    refine r_iconst hx hb dX7_keep_36 (by decide) (by decide) (fun x36 e36 => ?_)
    have hF := bn hF e36
    obtain ⟨s37, hd37, -⟩ := bd1_s hF
    refine cl_Vv (rest := []) hC hK hSK (c_X7_copies l z σ28 h0 (o0) g0 x35 x36 s37 hd37 (by omega) (by omega)) k_X7_copies mw_5_230 ⟨rfl, rfl, Nat.le_of_ble_eq_true rfl, Nat.le_of_ble_eq_true rfl⟩ (rv_Model hK hT g0) hT rfl hl.1 rfl (Nat.le_of_ble_eq_true rfl) dX7_keep_37 ⟨Nat.zero_le _, Nat.zero_le _⟩ hS (fun _ h => h) (fun _ _ h => h) (fun H locs hpo hS => ?_)
    obtain ⟨σ37, he37, hf37, hT⟩ := hpo
    have hF := bd1_r hF hd37 he37
    have hfr := FR_tr hf37 hfr
    refine lv_iload_n hx hb dX7_keep_40 rfl (lv_at hl 0 rfl) ?_
    exact rt_i hx hb hr hlk hS ⟨σ37, hF, hfr, hT⟩ dX7_keep_41
  · have hF := ifp hF c7
    refine r_iconst hx hb dX7_keep_10 (by decide) (by decide) (fun x10 e10 => ?_)
    have hF := bn hF e10
    exact rt_i hx hb hr hlk hS ⟨σ, hF, hfr, hT⟩ dX7_keep_11
theorem k_X7_back : cBV yX7_back cX7_back 2 (some .int) 1 := ⟨mw_5_235, mw_5_236, mw_1_8, mw_5_237, ⟨by decide, by decide, by decide⟩⟩
set_option maxHeartbeats 4000000 in
set_option maxRecDepth 100000 in
theorem c_X7_back (l : Launch) (z : Zt) (σ : Sg) (h0 o0 : Nat) (g0 : zG z h0 = (17, o0)) (p1 : Int32) (out : (Int × Lo)) (hF : D_X7_back (σ o0) p1.toInt = some out) : Met l yX7_back (uw yX7_back cX7_back 2 (some .int)) (rmF 2 89) (PcW z [.ref h0, .int p1] (fun H => TY z (zA z) σ H)) (QcI z (fun r H => ∃ σ' : Sg, some (r.toInt, σ' o0) = some out ∧ FR σ σ' o0 ∧ TY z (zA z) σ' H)) 0 0 (zA z) := by
  refine Met.ofW (cc := cX7_back) (maxL := 2) (ret := (some .int)) (by decide) rfl ?_
  intro p e s m args below meth c s₁ B hml hv
  obtain ⟨rfl, hT, hK, hSK⟩ := hv
  have hx := B.exec
  have hb := B.bytes
  have hr := B.returns
  have hts : ∀ w ∈ lw_ok, w.before ([.ref h0, .int p1] : List Value).toArray s = true := fun w hw => atoms_spec (ws := uw yX7_back cX7_back 2 (some .int)) B.pre w (List.mem_cons_of_mem _ hw)
  have hown : s.vm.findClass RX7 = some m.cls := findClass_of_methodNamed B.named
  have hlk := B.notSynchronized
  have hC : CallFix p m c cX7_back 2 s ([.ref h0, .int p1] : List Value).toArray lw_ok RX7 := ⟨hx, hb, hml, hown, hts⟩
  have hS : va_S (zA z) s.heap s.heap [] := va_S.rf
  have hl := lv_entry ([.ref h0, .int p1]) (n := 2) (Nat.le_of_ble_eq_true rfl)
  rw [lg_entry_eq]
  generalize (lg_sl ([.ref h0, .int p1]) ++ List.replicate (2 - (lg_sl ([.ref h0, .int p1])).length) Slot.unset).toArray = ls at hl ⊢
  have hl : lv_has ls 2 [(0, .ref h0), (1, .int p1)] := hl
  show W p l e (rmF 2 89) s m ([.ref h0, .int p1] : List Value).toArray below meth c s.heap [] 0 0 (MQ below (QcI z (fun r H => ∃ σ' : Sg, some (r.toInt, σ' o0) = some out ∧ FR σ σ' o0 ∧ TY z (zA z) σ' H)) ([.ref h0, .int p1] : List Value).toArray s 0 0 (zA z)) (F0 m 0 ls [])
  have hfr : FR σ σ o0 := FR_rf σ o0
  unfold D_X7_back at hF
  have mx_p1 := i_mx p1
  refine lv_iload_n hx hb dX7_back_0 rfl (lv_at hl 1 rfl) ?_
  refine r_i2l hx hb dX7_back_1 (fun x1 e1 => ?_)
  have hF := bn hF e1
  refine r_lconst0 hx hb dX7_back_2 (fun x2 e2 => ?_)
  have hF := bn hF e2
  refine r_lconst1 hx hb dX7_back_3 (fun x3 e3 => ?_)
  have hF := bn hF e3
  obtain ⟨v4, hd4, -⟩ := bd0_s hF
  refine cl_Si (rest := []) hC hK hSK (c_X7_in l z σ x1 x2 x3 v4 hd4) k_X7_in mw_4_154 ⟨rfl, rfl, Nat.le_of_ble_eq_true rfl, Nat.le_of_ble_eq_true rfl⟩ hT rfl hl.1 rfl (Nat.le_of_ble_eq_true rfl) dX7_back_4 ⟨Nat.zero_le _, Nat.zero_le _⟩ hS (fun _ h => h) (fun _ _ h => h) (fun r4 H locs hpo hS => ?_)
  obtain ⟨he4, hT, u4_0, u4_1⟩ := hpo
  have hF := bd0_r hF hd4 he4
  refine r_if_ne (tgt := 12) hx hb dX7_back_7 (by decide) (fun c7 => ?_) (fun c7 => ?_)
  · have hF := ifn hF c7
    refine lv_aload_n hx hb dX7_back_12 rfl (lv_at hl 0 rfl) ?_
    refine gt_Model_isKept hx hb hts ic_Model hown hK hT g0 (hts _ mw_4_72) dX7_back_13 (fun q13 hq13 => ?_)
    refine lv_iload_n hx hb dX7_back_16 rfl (lv_at hl 1 rfl) ?_
    refine al_42 hx hb hK hT hq13 (by omega) (by omega) dX7_back_17 (fun x17 e17 g17 => ?_)
    have hF := bn hF e17
    refine r_if_ne (tgt := 24) hx hb dX7_back_18 (by decide) (fun c18 => ?_) (fun c18 => ?_)
    · have hF := ifn hF c18
      refine lv_aload_n hx hb dX7_back_24 rfl (lv_at hl 0 rfl) ?_
      refine r_iconst hx hb dX7_back_25 (by decide) (by decide) (fun x25 e25 => ?_)
      have hF := bn hF e25
      refine r_bipush hx hb dX7_back_26 rfl (fun x26 e26 => ?_)
      have hF := bn hF e26
      refine lv_iload_n hx hb dX7_back_28 rfl (lv_at hl 1 rfl) ?_
      refine r_iconst hx hb dX7_back_29 (by decide) (by decide) (fun x29 e29 => ?_)
      have hF := bn hF e29
      refine r_iadd hx hb dX7_back_30 (by omega) (by omega) (fun x30 e30 => ?_)
      have hF := bn hF e30
      refine r_imulL (59) (by omega) hx hb dX7_back_31 (by omega) (by omega) (fun x31 e31 => ?_)
      have hF := bn hF e31
      obtain ⟨s32, hd32, -⟩ := bd1_s hF
      refine cl_Vv (rest := []) hC hK hSK (c_X7_copies l z σ h0 (o0) g0 x25 x31 s32 hd32 (by omega) (by omega)) k_X7_copies mw_5_230 ⟨rfl, rfl, Nat.le_of_ble_eq_true rfl, Nat.le_of_ble_eq_true rfl⟩ (rv_Model hK hT g0) hT rfl hl.1 rfl (Nat.le_of_ble_eq_true rfl) dX7_back_32 ⟨Nat.zero_le _, Nat.zero_le _⟩ hS (fun _ h => h) (fun _ _ h => h) (fun H locs hpo hS => ?_)
      obtain ⟨σ32, he32, hf32, hT⟩ := hpo
      have hF := bd1_r hF hd32 he32
      have hfr := FR_tr hf32 hfr
      refine lv_aload_n hx hb dX7_back_35 rfl (lv_at hl 0 rfl) ?_
      refine gt_Model_st hx hb hts ic_Model hown hK hT g0 (hts _ mw_4_70) dX7_back_36 (fun q36 hq36 => ?_)
      refine r_bipush hx hb dX7_back_39 rfl (fun x39 e39 => ?_)
      have hF := bn hF e39
      refine al_40 hx hb hK hT hq36 (by omega) (by omega) dX7_back_41 (fun x41 e41 g41 => ?_)
      have hF := bn hF e41
      have f41 := gd59_30 (gd177_e g41 (by omega)) (by omega)
      exact rt_i hx hb hr hlk hS ⟨σ32, hF, hfr, hT⟩ dX7_back_42
    · have hF := ifp hF c18
      refine r_bipush hx hb dX7_back_21 rfl (fun x21 e21 => ?_)
      have hF := bn hF e21
      exact rt_i hx hb hr hlk hS ⟨σ, hF, hfr, hT⟩ dX7_back_23
  · have hF := ifp hF c7
    refine r_iconst hx hb dX7_back_10 (by decide) (by decide) (fun x10 e10 => ?_)
    have hF := bn hF e10
    exact rt_i hx hb hr hlk hS ⟨σ, hF, hfr, hT⟩ dX7_back_11
theorem k_X7_sheet : cBV yX7_sheet cX7_sheet 5 (some .int) 3 := ⟨mw_5_239, mw_6_0, mw_1_8, mw_6_1, ⟨by decide, by decide, by decide⟩⟩
set_option maxHeartbeats 4000000 in
set_option maxRecDepth 100000 in
theorem c_X7_sheet (l : Launch) (z : Zt) (σ : Sg) (h0 o0 : Nat) (g0 : zG z h0 = (17, o0)) (p1 : Int32) (p2 : Int32) (p3 : Int32) (out : (Int × Lo)) (hF : D_X7_sheet (σ o0) p1.toInt p2.toInt p3.toInt = some out) : Met l yX7_sheet (uw yX7_sheet cX7_sheet 5 (some .int)) (rmF 3 110) (PcW z [.ref h0, .int p1, .int p2, .int p3] (fun H => TY z (zA z) σ H)) (QcI z (fun r H => ∃ σ' : Sg, some (r.toInt, σ' o0) = some out ∧ FR σ σ' o0 ∧ TY z (zA z) σ' H)) 0 0 (zA z) := by
  refine Met.ofW (cc := cX7_sheet) (maxL := 5) (ret := (some .int)) (by decide) rfl ?_
  intro p e s m args below meth c s₁ B hml hv
  obtain ⟨rfl, hT, hK, hSK⟩ := hv
  have hx := B.exec
  have hb := B.bytes
  have hr := B.returns
  have hts : ∀ w ∈ lw_ok, w.before ([.ref h0, .int p1, .int p2, .int p3] : List Value).toArray s = true := fun w hw => atoms_spec (ws := uw yX7_sheet cX7_sheet 5 (some .int)) B.pre w (List.mem_cons_of_mem _ hw)
  have hown : s.vm.findClass RX7 = some m.cls := findClass_of_methodNamed B.named
  have hlk := B.notSynchronized
  have hC : CallFix p m c cX7_sheet 5 s ([.ref h0, .int p1, .int p2, .int p3] : List Value).toArray lw_ok RX7 := ⟨hx, hb, hml, hown, hts⟩
  have hS : va_S (zA z) s.heap s.heap [] := va_S.rf
  have hl := lv_entry ([.ref h0, .int p1, .int p2, .int p3]) (n := 5) (Nat.le_of_ble_eq_true rfl)
  rw [lg_entry_eq]
  generalize (lg_sl ([.ref h0, .int p1, .int p2, .int p3]) ++ List.replicate (5 - (lg_sl ([.ref h0, .int p1, .int p2, .int p3])).length) Slot.unset).toArray = ls at hl ⊢
  have hl : lv_has ls 5 [(0, .ref h0), (1, .int p1), (2, .int p2), (3, .int p3)] := hl
  show W p l e (rmF 3 110) s m ([.ref h0, .int p1, .int p2, .int p3] : List Value).toArray below meth c s.heap [] 0 0 (MQ below (QcI z (fun r H => ∃ σ' : Sg, some (r.toInt, σ' o0) = some out ∧ FR σ σ' o0 ∧ TY z (zA z) σ' H)) ([.ref h0, .int p1, .int p2, .int p3] : List Value).toArray s 0 0 (zA z)) (F0 m 0 ls [])
  have hfr : FR σ σ o0 := FR_rf σ o0
  unfold D_X7_sheet at hF
  have mx_p1 := i_mx p1
  have mx_p2 := i_mx p2
  have mx_p3 := i_mx p3
  refine lv_iload_n hx hb dX7_sheet_0 rfl (lv_at hl 1 rfl) ?_
  refine lv_iload_n hx hb dX7_sheet_1 rfl (lv_at hl 2 rfl) ?_
  obtain ⟨v2, hd2, -⟩ := bd0_s hF
  refine cl_Si (rest := []) hC hK hSK (c_X7_isSheet l z σ p1 p2 v2 hd2) k_X7_isSheet mw_6_2 ⟨rfl, rfl, Nat.le_of_ble_eq_true rfl, Nat.le_of_ble_eq_true rfl⟩ hT rfl hl.1 rfl (Nat.le_of_ble_eq_true rfl) dX7_sheet_2 ⟨Nat.zero_le _, Nat.zero_le _⟩ hS (fun _ h => h) (fun _ _ h => h) (fun r2 H locs hpo hS => ?_)
  obtain ⟨he2, hT, u2_0, u2_1⟩ := hpo
  have hF := bd0_r hF hd2 he2
  refine r_if_eq (tgt := 14) hx hb dX7_sheet_5 (by decide) (fun c5 => ?_) (fun c5 => ?_)
  · have hF := ifp hF c5
    refine r_iconst hx hb dX7_sheet_14 (by decide) (by decide) (fun x14 e14 => ?_)
    have hF := bn hF e14
    exact rt_i hx hb hr hlk hS ⟨σ, hF, hfr, hT⟩ dX7_sheet_15
  · have hF := ifn hF c5
    refine lv_iload_n hx hb dX7_sheet_8 rfl (lv_at hl 3 rfl) ?_
    refine r_bipush hx hb dX7_sheet_9 rfl (fun x9 e9 => ?_)
    have hF := bn hF e9
    refine r_icmp_le (tgt := 16) hx hb dX7_sheet_11 (by decide) (fun c11 => ?_) (fun c11 => ?_)
    · have hF := ifn hF (Int.not_lt.mpr c11)
      refine lv_iload_n hx hb dX7_sheet_16 rfl (lv_at hl 3 rfl) ?_
      refine r_if_ge (tgt := 23) hx hb dX7_sheet_17 (by decide) (fun c17 => ?_) (fun c17 => ?_)
      · have hF := ifn hF (Int.not_lt.mpr c17)
        refine lv_aload_n hx hb dX7_sheet_23 rfl (lv_at hl 0 rfl) ?_
        refine gt_Model_lanes hx hb hts ic_Model hown hK hT g0 (hts _ mw_4_91) dX7_sheet_24 (fun q24 hq24 => ?_)
        refine lv_iload_n hx hb dX7_sheet_27 rfl (lv_at hl 1 rfl) ?_
        refine lv_iload_n hx hb dX7_sheet_28 rfl (lv_at hl 2 rfl) ?_
        refine as_47 hx hb hK hT hS hq24 (by omega) (by omega) ⟨by omega, by omega⟩ dX7_sheet_29 (fun H locs hT hS => ?_)
        obtain ⟨σ29, hF, hfr, hT⟩ := wrL hF hfr hT
        refine lv_aload_n hx hb dX7_sheet_30 rfl (lv_at hl 0 rfl) ?_
        refine gt_Model_sizes hx hb hts ic_Model hown hK hT g0 (hts _ mw_4_92) dX7_sheet_31 (fun q31 hq31 => ?_)
        refine lv_iload_n hx hb dX7_sheet_34 rfl (lv_at hl 1 rfl) ?_
        refine lv_iload_n hx hb dX7_sheet_35 rfl (lv_at hl 3 rfl) ?_
        refine as_48 hx hb hK hT hS hq31 (by omega) (by omega) ⟨by omega, by omega⟩ dX7_sheet_36 (fun H locs hT hS => ?_)
        obtain ⟨σ36, hF, hfr, hT⟩ := wrL hF hfr hT
        refine r_iconst hx hb dX7_sheet_37 (by decide) (by decide) (fun x37 e37 => ?_)
        have hF := bn hF e37
        refine lv_istore (lv' := [(4, .int x37), (0, .ref h0), (1, .int p1), (2, .int p2), (3, .int p3)]) hx hb dX7_sheet_38 hl (by decide) rfl (fun ls hl => ?_)
        have J40 : ∀ (n40 : Nat) (ls : Array Slot) (H : Heap) (locs : List Loc) (y40_4 : Int32) (σj40 : Sg), (0 ≤ y40_4.toInt ∧ y40_4.toInt ≤ 40) → D_X7_sheet_40 p1.toInt n40 (σj40 o0) y40_4.toInt = some out → FR σ σj40 o0 → TY z (zA z) σj40 H → va_S (zA z) s.heap H locs → lv_has ls 5 [(0, .ref h0), (1, .int p1), (2, .int p2), (3, .int p3), (4, .int y40_4)] → W p l e (rmF 3 110) s m ([.ref h0, .int p1, .int p2, .int p3] : List Value).toArray below meth c H locs 0 0 (MQ below (QcI z (fun r H => ∃ σ' : Sg, some (r.toInt, σ' o0) = some out ∧ FR σ σ' o0 ∧ TY z (zA z) σ' H)) ([.ref h0, .int p1, .int p2, .int p3] : List Value).toArray s 0 0 (zA z)) (F0 m 40 ls []) := by
          intro n40
          induction n40 with
          | zero => intro ls H locs y40_4 σj40 j40_y40_4 hF hfr hT hS hl; exact (no_s hF).elim
          | succ n40 ih40 =>
            intro ls H locs y40_4 σj40 j40_y40_4 hF hfr hT hS hl
            rw [D_X7_sheet_40.eq_2] at hF
            refine lv_iload hx hb dX7_sheet_40 (lv_at hl 4 rfl) ?_
            refine r_bipush hx hb dX7_sheet_42 rfl (fun x42 e42 => ?_)
            have hF := bn hF e42
            refine r_icmp_ge (tgt := 66) hx hb dX7_sheet_44 (by decide) (fun c44 => ?_) (fun c44 => ?_)
            · have hF := ifn hF (Int.not_lt.mpr c44)
              refine r_iconst hx hb dX7_sheet_66 (by decide) (by decide) (fun x66 e66 => ?_)
              have hF := bn hF e66
              exact rt_i hx hb hr hlk hS ⟨σj40, hF, hfr, hT⟩ dX7_sheet_67
            · have hF := ifp hF c44
              refine lv_aload_n hx hb dX7_sheet_47 rfl (lv_at hl 0 rfl) ?_
              refine gt_Model_cells hx hb hts ic_Model hown hK hT g0 (hts _ mw_4_93) dX7_sheet_48 (fun q48 hq48 => ?_)
              refine r_bipush hx hb dX7_sheet_51 rfl (fun x51 e51 => ?_)
              have hF := bn hF e51
              refine lv_iload_n hx hb dX7_sheet_53 rfl (lv_at hl 1 rfl) ?_
              refine r_imulL (40) (by omega) hx hb dX7_sheet_54 (by omega) (by omega) (fun x54 e54 => ?_)
              have hF := bn hF e54
              refine lv_iload hx hb dX7_sheet_55 (lv_at hl 4 rfl) ?_
              refine r_iadd hx hb dX7_sheet_57 (by omega) (by omega) (fun x57 e57 => ?_)
              have hF := bn hF e57
              refine r_iconst hx hb dX7_sheet_58 (by decide) (by decide) (fun x58 e58 => ?_)
              have hF := bn hF e58
              refine as_49 hx hb hK hT hS hq48 (by omega) (by omega) dX7_sheet_59 (fun H locs hT hS => ?_)
              obtain ⟨σ59, hF, hfr, hT⟩ := wrL hF hfr hT
              refine r_iinc (lv' := fun v__ => [(4, .int v__), (0, .ref h0), (1, .int p1), (2, .int p2), (3, .int p3)]) hx hb dX7_sheet_60 hl (k := 4) rfl (by decide) (fun _ => rfl) ⟨by decide, by decide⟩ (by omega) (by omega) (fun x60 ls e60 hl => ?_)
              have hF := bn hF e60
              refine lv_goto (tgt := 40) hx hb dX7_sheet_63 (by decide) ?_
              exact ih40 ls _ _ x60 σ59 (by omega) hF hfr hT hS (lv_sub hl [1, 2, 3, 4, 0] rfl)
        exact J40 5000 ls _ _ x37 σ36 (by omega) hF hfr hT hS (lv_sub hl [1, 2, 3, 4, 0] rfl)
      · have hF := ifp hF c17
        refine r_bipush hx hb dX7_sheet_20 rfl (fun x20 e20 => ?_)
        have hF := bn hF e20
        exact rt_i hx hb hr hlk hS ⟨σ, hF, hfr, hT⟩ dX7_sheet_22
    · have hF := ifp hF c11
      refine r_iconst hx hb dX7_sheet_14 (by decide) (by decide) (fun x14 e14 => ?_)
      have hF := bn hF e14
      exact rt_i hx hb hr hlk hS ⟨σ, hF, hfr, hT⟩ dX7_sheet_15
theorem k_X7_lay : cBV yX7_lay cX7_lay 4 (some .int) 3 := ⟨mw_6_7, mw_6_8, mw_1_8, mw_6_9, ⟨by decide, by decide, by decide⟩⟩
set_option maxHeartbeats 4000000 in
set_option maxRecDepth 100000 in
theorem c_X7_lay (l : Launch) (z : Zt) (σ : Sg) (h0 o0 : Nat) (g0 : zG z h0 = (17, o0)) (p1 : Int32) (p2 : Int32) (p3 : Int32) (out : (Int × Lo)) (hF : D_X7_lay (σ o0) p1.toInt p2.toInt p3.toInt = some out) : Met l yX7_lay (uw yX7_lay cX7_lay 4 (some .int)) (rmF 3 110) (PcW z [.ref h0, .int p1, .int p2, .int p3] (fun H => TY z (zA z) σ H)) (QcI z (fun r H => ∃ σ' : Sg, some (r.toInt, σ' o0) = some out ∧ FR σ σ' o0 ∧ TY z (zA z) σ' H)) 0 0 (zA z) := by
  refine Met.ofW (cc := cX7_lay) (maxL := 4) (ret := (some .int)) (by decide) rfl ?_
  intro p e s m args below meth c s₁ B hml hv
  obtain ⟨rfl, hT, hK, hSK⟩ := hv
  have hx := B.exec
  have hb := B.bytes
  have hr := B.returns
  have hts : ∀ w ∈ lw_ok, w.before ([.ref h0, .int p1, .int p2, .int p3] : List Value).toArray s = true := fun w hw => atoms_spec (ws := uw yX7_lay cX7_lay 4 (some .int)) B.pre w (List.mem_cons_of_mem _ hw)
  have hown : s.vm.findClass RX7 = some m.cls := findClass_of_methodNamed B.named
  have hlk := B.notSynchronized
  have hC : CallFix p m c cX7_lay 4 s ([.ref h0, .int p1, .int p2, .int p3] : List Value).toArray lw_ok RX7 := ⟨hx, hb, hml, hown, hts⟩
  have hS : va_S (zA z) s.heap s.heap [] := va_S.rf
  have hl := lv_entry ([.ref h0, .int p1, .int p2, .int p3]) (n := 4) (Nat.le_of_ble_eq_true rfl)
  rw [lg_entry_eq]
  generalize (lg_sl ([.ref h0, .int p1, .int p2, .int p3]) ++ List.replicate (4 - (lg_sl ([.ref h0, .int p1, .int p2, .int p3])).length) Slot.unset).toArray = ls at hl ⊢
  have hl : lv_has ls 4 [(0, .ref h0), (1, .int p1), (2, .int p2), (3, .int p3)] := hl
  show W p l e (rmF 3 110) s m ([.ref h0, .int p1, .int p2, .int p3] : List Value).toArray below meth c s.heap [] 0 0 (MQ below (QcI z (fun r H => ∃ σ' : Sg, some (r.toInt, σ' o0) = some out ∧ FR σ σ' o0 ∧ TY z (zA z) σ' H)) ([.ref h0, .int p1, .int p2, .int p3] : List Value).toArray s 0 0 (zA z)) (F0 m 0 ls [])
  have hfr : FR σ σ o0 := FR_rf σ o0
  unfold D_X7_lay at hF
  have mx_p1 := i_mx p1
  have mx_p2 := i_mx p2
  have mx_p3 := i_mx p3
  refine lv_iload_n hx hb dX7_lay_0 rfl (lv_at hl 1 rfl) ?_
  refine r_iconst hx hb dX7_lay_1 (by decide) (by decide) (fun x1 e1 => ?_)
  have hF := bn hF e1
  obtain ⟨v2, hd2, -⟩ := bd0_s hF
  refine cl_Si (rest := []) hC hK hSK (c_X7_isSheet l z σ p1 x1 v2 hd2) k_X7_isSheet mw_6_2 ⟨rfl, rfl, Nat.le_of_ble_eq_true rfl, Nat.le_of_ble_eq_true rfl⟩ hT rfl hl.1 rfl (Nat.le_of_ble_eq_true rfl) dX7_lay_2 ⟨Nat.zero_le _, Nat.zero_le _⟩ hS (fun _ h => h) (fun _ _ h => h) (fun r2 H locs hpo hS => ?_)
  obtain ⟨he2, hT, u2_0, u2_1⟩ := hpo
  have hF := bd0_r hF hd2 he2
  refine r_if_ne (tgt := 10) hx hb dX7_lay_5 (by decide) (fun c5 => ?_) (fun c5 => ?_)
  · have hF := ifn hF c5
    refine lv_aload_n hx hb dX7_lay_10 rfl (lv_at hl 0 rfl) ?_
    refine gt_Model_lanes hx hb hts ic_Model hown hK hT g0 (hts _ mw_4_91) dX7_lay_11 (fun q11 hq11 => ?_)
    refine lv_iload_n hx hb dX7_lay_14 rfl (lv_at hl 1 rfl) ?_
    refine al_47 hx hb hK hT hq11 (by omega) (by omega) dX7_lay_15 (fun x15 e15 g15 => ?_)
    have hF := bn hF e15
    refine r_bipush hx hb dX7_lay_16 rfl (fun x16 e16 => ?_)
    have hF := bn hF e16
    refine r_icmp_ne (tgt := 24) hx hb dX7_lay_18 (by decide) (fun c18 => ?_) (fun c18 => ?_)
    · have hF := ifn hF c18
      refine lv_iload_n hx hb dX7_lay_24 rfl (lv_at hl 2 rfl) ?_
      refine r_i2l hx hb dX7_lay_25 (fun x25 e25 => ?_)
      have hF := bn hF e25
      refine r_lconst0 hx hb dX7_lay_26 (fun x26 e26 => ?_)
      have hF := bn hF e26
      refine lv_aload_n hx hb dX7_lay_27 rfl (lv_at hl 0 rfl) ?_
      refine gt_Model_sizes hx hb hts ic_Model hown hK hT g0 (hts _ mw_4_92) dX7_lay_28 (fun q28 hq28 => ?_)
      refine lv_iload_n hx hb dX7_lay_31 rfl (lv_at hl 1 rfl) ?_
      refine al_48 hx hb hK hT hq28 (by omega) (by omega) dX7_lay_32 (fun x32 e32 g32 => ?_)
      have hF := bn hF e32
      refine r_iconst hx hb dX7_lay_33 (by decide) (by decide) (fun x33 e33 => ?_)
      have hF := bn hF e33
      refine r_isub hx hb dX7_lay_34 (by omega) (by omega) (fun x34 e34 => ?_)
      have hF := bn hF e34
      refine r_i2l hx hb dX7_lay_35 (fun x35 e35 => ?_)
      have hF := bn hF e35
      obtain ⟨v36, hd36, -⟩ := bd0_s hF
      refine cl_Si (rest := []) hC hK hSK (c_X7_in l z σ x25 x26 x35 v36 hd36) k_X7_in mw_4_154 ⟨rfl, rfl, Nat.le_of_ble_eq_true rfl, Nat.le_of_ble_eq_true rfl⟩ hT rfl hl.1 rfl (Nat.le_of_ble_eq_true rfl) dX7_lay_36 ⟨Nat.zero_le _, Nat.zero_le _⟩ hS (fun _ h => h) (fun _ _ h => h) (fun r36 H locs hpo hS => ?_)
      obtain ⟨he36, hT, u36_0, u36_1⟩ := hpo
      have hF := bd0_r hF hd36 he36
      refine r_if_ne (tgt := 45) hx hb dX7_lay_39 (by decide) (fun c39 => ?_) (fun c39 => ?_)
      · have hF := ifn hF c39
        refine lv_aload_n hx hb dX7_lay_45 rfl (lv_at hl 0 rfl) ?_
        refine gt_Model_cells hx hb hts ic_Model hown hK hT g0 (hts _ mw_4_93) dX7_lay_46 (fun q46 hq46 => ?_)
        refine r_bipush hx hb dX7_lay_49 rfl (fun x49 e49 => ?_)
        have hF := bn hF e49
        refine lv_iload_n hx hb dX7_lay_51 rfl (lv_at hl 1 rfl) ?_
        refine r_imulL (40) (by omega) hx hb dX7_lay_52 (by omega) (by omega) (fun x52 e52 => ?_)
        have hF := bn hF e52
        refine lv_iload_n hx hb dX7_lay_53 rfl (lv_at hl 2 rfl) ?_
        refine r_iadd hx hb dX7_lay_54 (by omega) (by omega) (fun x54 e54 => ?_)
        have hF := bn hF e54
        refine lv_aload_n hx hb dX7_lay_55 rfl (lv_at hl 0 rfl) ?_
        refine gt_Model_lanes hx hb hts ic_Model hown hK hT g0 (hts _ mw_4_91) dX7_lay_56 (fun q56 hq56 => ?_)
        refine lv_iload_n hx hb dX7_lay_59 rfl (lv_at hl 1 rfl) ?_
        refine al_47 hx hb hK hT hq56 (by omega) (by omega) dX7_lay_60 (fun x60 e60 g60 => ?_)
        have hF := bn hF e60
        refine r_if_ne (tgt := 69) hx hb dX7_lay_61 (by decide) (fun c61 => ?_) (fun c61 => ?_)
        · have hF := ifn hF c61
          refine lv_aload_n hx hb dX7_lay_69 rfl (lv_at hl 0 rfl) ?_
          refine gt_Model_lanes hx hb hts ic_Model hown hK hT g0 (hts _ mw_4_91) dX7_lay_70 (fun q70 hq70 => ?_)
          refine lv_iload_n hx hb dX7_lay_73 rfl (lv_at hl 1 rfl) ?_
          refine al_47 hx hb hK hT hq70 (by omega) (by omega) dX7_lay_74 (fun x74 e74 g74 => ?_)
          have hF := bn hF e74
          refine r_iconst hx hb dX7_lay_75 (by decide) (by decide) (fun x75 e75 => ?_)
          have hF := bn hF e75
          refine r_icmp_ne (tgt := 84) hx hb dX7_lay_76 (by decide) (fun c76 => ?_) (fun c76 => ?_)
          · have hF := ifn hF c76
            refine lv_iload_n hx hb dX7_lay_84 rfl (lv_at hl 3 rfl) ?_
            refine as_49 hx hb hK hT hS hq46 (by omega) (by omega) dX7_lay_85 (fun H locs hT hS => ?_)
            obtain ⟨σ85, hF, hfr, hT⟩ := wrL hF hfr hT
            refine r_iconst hx hb dX7_lay_86 (by decide) (by decide) (fun x86 e86 => ?_)
            have hF := bn hF e86
            exact rt_i hx hb hr hlk hS ⟨σ85, hF, hfr, hT⟩ dX7_lay_87
          · have hF := ifp hF c76
            refine lv_iload_n hx hb dX7_lay_79 rfl (lv_at hl 3 rfl) ?_
            refine x_i2s hx hb dX7_lay_80 (fun x80 e80 => ?_)
            have hF := bn hF e80
            refine lv_goto (tgt := 85) hx hb dX7_lay_81 (by decide) ?_
            refine as_49 hx hb hK hT hS hq46 (by omega) (by omega) dX7_lay_85 (fun H locs hT hS => ?_)
            obtain ⟨σ85, hF, hfr, hT⟩ := wrL hF hfr hT
            refine r_iconst hx hb dX7_lay_86 (by decide) (by decide) (fun x86 e86 => ?_)
            have hF := bn hF e86
            exact rt_i hx hb hr hlk hS ⟨σ85, hF, hfr, hT⟩ dX7_lay_87
        · have hF := ifp hF c61
          refine lv_iload_n hx hb dX7_lay_64 rfl (lv_at hl 3 rfl) ?_
          refine x_i2b hx hb dX7_lay_65 (fun x65 e65 => ?_)
          have hF := bn hF e65
          refine lv_goto (tgt := 85) hx hb dX7_lay_66 (by decide) ?_
          refine as_49 hx hb hK hT hS hq46 (by omega) (by omega) dX7_lay_85 (fun H locs hT hS => ?_)
          obtain ⟨σ85, hF, hfr, hT⟩ := wrL hF hfr hT
          refine r_iconst hx hb dX7_lay_86 (by decide) (by decide) (fun x86 e86 => ?_)
          have hF := bn hF e86
          exact rt_i hx hb hr hlk hS ⟨σ85, hF, hfr, hT⟩ dX7_lay_87
      · have hF := ifp hF c39
        refine r_bipush hx hb dX7_lay_42 rfl (fun x42 e42 => ?_)
        have hF := bn hF e42
        exact rt_i hx hb hr hlk hS ⟨σ, hF, hfr, hT⟩ dX7_lay_44
    · have hF := ifp hF c18
      refine r_bipush hx hb dX7_lay_21 rfl (fun x21 e21 => ?_)
      have hF := bn hF e21
      exact rt_i hx hb hr hlk hS ⟨σ, hF, hfr, hT⟩ dX7_lay_23
  · have hF := ifp hF c5
    refine r_iconst hx hb dX7_lay_8 (by decide) (by decide) (fun x8 e8 => ?_)
    have hF := bn hF e8
    exact rt_i hx hb hr hlk hS ⟨σ, hF, hfr, hT⟩ dX7_lay_9
theorem k_X7_read : cBV yX7_read cX7_read 11 (some .int) 4 := ⟨mw_6_11, mw_6_12, mw_1_8, mw_6_13, ⟨by decide, by decide, by decide⟩⟩
set_option maxHeartbeats 4000000 in
set_option maxRecDepth 100000 in
theorem c_X7_read (l : Launch) (z : Zt) (σ : Sg) (h0 o0 : Nat) (g0 : zG z h0 = (17, o0)) (p1 : Int32) (p2 : Int32) (p3 : Int32) (p4 : Int32) (out : (Int × Lo)) (hF : D_X7_read (σ o0) p1.toInt p2.toInt p3.toInt p4.toInt = some out) : Met l yX7_read (uw yX7_read cX7_read 11 (some .int)) (rmF 9 243) (PcW z [.ref h0, .int p1, .int p2, .int p3, .int p4] (fun H => TY z (zA z) σ H)) (QcI z (fun r H => ∃ σ' : Sg, some (r.toInt, σ' o0) = some out ∧ FR σ σ' o0 ∧ TY z (zA z) σ' H)) 0 0 (zA z) := by
  refine Met.ofW (cc := cX7_read) (maxL := 11) (ret := (some .int)) (by decide) rfl ?_
  intro p e s m args below meth c s₁ B hml hv
  obtain ⟨rfl, hT, hK, hSK⟩ := hv
  have hx := B.exec
  have hb := B.bytes
  have hr := B.returns
  have hts : ∀ w ∈ lw_ok, w.before ([.ref h0, .int p1, .int p2, .int p3, .int p4] : List Value).toArray s = true := fun w hw => atoms_spec (ws := uw yX7_read cX7_read 11 (some .int)) B.pre w (List.mem_cons_of_mem _ hw)
  have hown : s.vm.findClass RX7 = some m.cls := findClass_of_methodNamed B.named
  have hlk := B.notSynchronized
  have hC : CallFix p m c cX7_read 11 s ([.ref h0, .int p1, .int p2, .int p3, .int p4] : List Value).toArray lw_ok RX7 := ⟨hx, hb, hml, hown, hts⟩
  have hS : va_S (zA z) s.heap s.heap [] := va_S.rf
  have hl := lv_entry ([.ref h0, .int p1, .int p2, .int p3, .int p4]) (n := 11) (Nat.le_of_ble_eq_true rfl)
  rw [lg_entry_eq]
  generalize (lg_sl ([.ref h0, .int p1, .int p2, .int p3, .int p4]) ++ List.replicate (11 - (lg_sl ([.ref h0, .int p1, .int p2, .int p3, .int p4])).length) Slot.unset).toArray = ls at hl ⊢
  have hl : lv_has ls 11 [(0, .ref h0), (1, .int p1), (2, .int p2), (3, .int p3), (4, .int p4)] := hl
  show W p l e (rmF 9 243) s m ([.ref h0, .int p1, .int p2, .int p3, .int p4] : List Value).toArray below meth c s.heap [] 0 0 (MQ below (QcI z (fun r H => ∃ σ' : Sg, some (r.toInt, σ' o0) = some out ∧ FR σ σ' o0 ∧ TY z (zA z) σ' H)) ([.ref h0, .int p1, .int p2, .int p3, .int p4] : List Value).toArray s 0 0 (zA z)) (F0 m 0 ls [])
  have hfr : FR σ σ o0 := FR_rf σ o0
  unfold D_X7_read at hF
  have mx_p1 := i_mx p1
  have mx_p2 := i_mx p2
  have mx_p3 := i_mx p3
  have mx_p4 := i_mx p4
  refine lv_iload_n hx hb dX7_read_0 rfl (lv_at hl 1 rfl) ?_
  refine lv_iload_n hx hb dX7_read_1 rfl (lv_at hl 2 rfl) ?_
  obtain ⟨v2, hd2, -⟩ := bd0_s hF
  refine cl_Si (rest := []) hC hK hSK (c_X7_isSheet l z σ p1 p2 v2 hd2) k_X7_isSheet mw_6_2 ⟨rfl, rfl, Nat.le_of_ble_eq_true rfl, Nat.le_of_ble_eq_true rfl⟩ hT rfl hl.1 rfl (Nat.le_of_ble_eq_true rfl) dX7_read_2 ⟨Nat.zero_le _, Nat.zero_le _⟩ hS (fun _ h => h) (fun _ _ h => h) (fun r2 H locs hpo hS => ?_)
  obtain ⟨he2, hT, u2_0, u2_1⟩ := hpo
  have hF := bd0_r hF hd2 he2
  refine r_if_eq (tgt := 21) hx hb dX7_read_5 (by decide) (fun c5 => ?_) (fun c5 => ?_)
  · have hF := ifp hF c5
    refine r_iconst hx hb dX7_read_21 (by decide) (by decide) (fun x21 e21 => ?_)
    have hF := bn hF e21
    exact rt_i hx hb hr hlk hS ⟨σ, hF, hfr, hT⟩ dX7_read_22
  · have hF := ifn hF c5
    refine lv_iload hx hb dX7_read_8 (lv_at hl 4 rfl) ?_
    refine r_i2l hx hb dX7_read_10 (fun x10 e10 => ?_)
    have hF := bn hF e10
    refine r_lconst0 hx hb dX7_read_11 (fun x11 e11 => ?_)
    have hF := bn hF e11
    refine r_ldc2 (20) rfl hx hb hts hown mw_6_14 dX7_read_12 (fun x12 e12 => ?_)
    have hF := bn hF e12
    obtain ⟨v15, hd15, -⟩ := bd0_s hF
    refine cl_Si (rest := []) hC hK hSK (c_X7_in l z σ x10 x11 x12 v15 hd15) k_X7_in mw_4_154 ⟨rfl, rfl, Nat.le_of_ble_eq_true rfl, Nat.le_of_ble_eq_true rfl⟩ hT rfl hl.1 rfl (Nat.le_of_ble_eq_true rfl) dX7_read_15 ⟨Nat.zero_le _, Nat.zero_le _⟩ hS (fun _ h => h) (fun _ _ h => h) (fun r15 H locs hpo hS => ?_)
    obtain ⟨he15, hT, u15_0, u15_1⟩ := hpo
    have hF := bd0_r hF hd15 he15
    refine r_if_ne (tgt := 23) hx hb dX7_read_18 (by decide) (fun c18 => ?_) (fun c18 => ?_)
    · have hF := ifn hF c18
      refine r_iconst hx hb dX7_read_23 (by decide) (by decide) (fun x23 e23 => ?_)
      have hF := bn hF e23
      refine lv_istore (lv' := [(5, .int x23), (0, .ref h0), (1, .int p1), (2, .int p2), (3, .int p3), (4, .int p4)]) hx hb dX7_read_24 hl (by decide) rfl (fun ls hl => ?_)
      have J26 : ∀ (n26 : Nat) (ls : Array Slot) (H : Heap) (locs : List Loc) (y26_5 : Int32) (σj26 : Sg), (0 ≤ y26_5.toInt ∧ y26_5.toInt ≤ 59) → D_X7_read_26 p1.toInt p2.toInt p3.toInt p4.toInt n26 (σj26 o0) y26_5.toInt = some out → FR σ σj26 o0 → TY z (zA z) σj26 H → va_S (zA z) s.heap H locs → lv_has ls 11 [(0, .ref h0), (1, .int p1), (2, .int p2), (3, .int p3), (4, .int p4), (5, .int y26_5)] → W p l e (rmF 9 243) s m ([.ref h0, .int p1, .int p2, .int p3, .int p4] : List Value).toArray below meth c H locs 0 0 (MQ below (QcI z (fun r H => ∃ σ' : Sg, some (r.toInt, σ' o0) = some out ∧ FR σ σ' o0 ∧ TY z (zA z) σ' H)) ([.ref h0, .int p1, .int p2, .int p3, .int p4] : List Value).toArray s 0 0 (zA z)) (F0 m 26 ls []) := by
        intro n26
        induction n26 with
        | zero => intro ls H locs y26_5 σj26 j26_y26_5 hF hfr hT hS hl; exact (no_s hF).elim
        | succ n26 ih26 =>
          intro ls H locs y26_5 σj26 j26_y26_5 hF hfr hT hS hl
          rw [D_X7_read_26.eq_2] at hF
          refine lv_iload hx hb dX7_read_26 (lv_at hl 5 rfl) ?_
          refine r_bipush hx hb dX7_read_28 rfl (fun x28 e28 => ?_)
          have hF := bn hF e28
          refine r_icmp_ge (tgt := 53) hx hb dX7_read_30 (by decide) (fun c30 => ?_) (fun c30 => ?_)
          · have hF := ifn hF (Int.not_lt.mpr c30)
            refine r_iconst hx hb dX7_read_53 (by decide) (by decide) (fun x53 e53 => ?_)
            have hF := bn hF e53
            refine lv_istore (lv' := [(5, .int x53), (0, .ref h0), (1, .int p1), (2, .int p2), (3, .int p3), (4, .int p4)]) hx hb dX7_read_54 hl (by decide) rfl (fun ls hl => ?_)
            refine r_iconst hx hb dX7_read_56 (by decide) (by decide) (fun x56 e56 => ?_)
            have hF := bn hF e56
            refine lv_istore (lv' := [(6, .int x56), (5, .int x53), (0, .ref h0), (1, .int p1), (2, .int p2), (3, .int p3), (4, .int p4)]) hx hb dX7_read_57 hl (by decide) rfl (fun ls hl => ?_)
            refine r_iconst hx hb dX7_read_59 (by decide) (by decide) (fun x59 e59 => ?_)
            have hF := bn hF e59
            refine lv_istore (lv' := [(7, .int x59), (6, .int x56), (5, .int x53), (0, .ref h0), (1, .int p1), (2, .int p2), (3, .int p3), (4, .int p4)]) hx hb dX7_read_60 hl (by decide) rfl (fun ls hl => ?_)
            have J62 : ∀ (n62 : Nat) (ls : Array Slot) (H : Heap) (locs : List Loc) (y62_5 : Int32) (y62_6 : Int32) (y62_7 : Int32) (σj62 : Sg), (0 ≤ y62_5.toInt ∧ y62_5.toInt ≤ 3) → (0 ≤ y62_7.toInt ∧ y62_7.toInt ≤ 20) → D_X7_read_62 p1.toInt p2.toInt p3.toInt p4.toInt n62 (σj62 o0) y62_5.toInt y62_6.toInt y62_7.toInt = some out → FR σ σj62 o0 → TY z (zA z) σj62 H → va_S (zA z) s.heap H locs → lv_has ls 11 [(0, .ref h0), (1, .int p1), (2, .int p2), (3, .int p3), (4, .int p4), (5, .int y62_5), (6, .int y62_6), (7, .int y62_7)] → W p l e (rmF 9 243) s m ([.ref h0, .int p1, .int p2, .int p3, .int p4] : List Value).toArray below meth c H locs 0 0 (MQ below (QcI z (fun r H => ∃ σ' : Sg, some (r.toInt, σ' o0) = some out ∧ FR σ σ' o0 ∧ TY z (zA z) σ' H)) ([.ref h0, .int p1, .int p2, .int p3, .int p4] : List Value).toArray s 0 0 (zA z)) (F0 m 62 ls []) := by
              intro n62
              induction n62 with
              | zero => intro ls H locs y62_5 y62_6 y62_7 σj62 j62_y62_5 j62_y62_7 hF hfr hT hS hl; exact (no_s hF).elim
              | succ n62 ih62 =>
                intro ls H locs y62_5 y62_6 y62_7 σj62 j62_y62_5 j62_y62_7 hF hfr hT hS hl
                rw [D_X7_read_62.eq_2] at hF
                refine lv_iload hx hb dX7_read_62 (lv_at hl 7 rfl) ?_
                refine lv_iload hx hb dX7_read_64 (lv_at hl 4 rfl) ?_
                have J209 : ∀ (ls : Array Slot) (H : Heap) (locs : List Loc) (σj209 : Sg), D_X7_read_209 y62_5.toInt y62_6.toInt (σj209 o0) = some out → FR σ σj209 o0 → TY z (zA z) σj209 H → va_S (zA z) s.heap H locs → lv_has ls 11 [(0, .ref h0), (1, .int p1), (2, .int p2), (3, .int p3), (4, .int p4), (5, .int y62_5), (6, .int y62_6), (7, .int y62_7)] → W p l e (rmF 9 243) s m ([.ref h0, .int p1, .int p2, .int p3, .int p4] : List Value).toArray below meth c H locs 0 0 (MQ below (QcI z (fun r H => ∃ σ' : Sg, some (r.toInt, σ' o0) = some out ∧ FR σ σ' o0 ∧ TY z (zA z) σ' H)) ([.ref h0, .int p1, .int p2, .int p3, .int p4] : List Value).toArray s 0 0 (zA z)) (F0 m 209 ls []) := by
                  intro ls H locs σj209 hF hfr hT hS hl
                  unfold D_X7_read_209 at hF
                  refine lv_aload_n hx hb dX7_read_209 rfl (lv_at hl 0 rfl) ?_
                  refine lv_iload hx hb dX7_read_210 (lv_at hl 5 rfl) ?_
                  refine pt_Model_torn hx hb hts ic_Model hown hK hT hS g0 (hts _ mw_4_94) (by omega) (by omega) dX7_read_212 (fun H locs hT hS => ?_)
                  obtain ⟨σ212, hF, hfr, hT⟩ := wrL hF hfr hT
                  refine lv_iload hx hb dX7_read_215 (lv_at hl 6 rfl) ?_
                  exact rt_i hx hb hr hlk hS ⟨σ212, hF, hfr, hT⟩ dX7_read_217
                refine r_icmp_ge (tgt := 209) hx hb dX7_read_66 (by decide) (fun c66 => ?_) (fun c66 => ?_)
                · have hF := ifn hF (Int.not_lt.mpr c66)
                  exact J209 ls _ _ σj62 hF hfr hT hS (lv_sub hl [0, 1, 2, 3, 4, 5, 6, 7] rfl)
                · have hF := ifp hF c66
                  refine lv_iload hx hb dX7_read_69 (lv_at hl 5 rfl) ?_
                  refine r_if_ne (tgt := 209) hx hb dX7_read_71 (by decide) (fun c71 => ?_) (fun c71 => ?_)
                  · have hF := ifn hF c71
                    exact J209 ls _ _ σj62 hF hfr hT hS (lv_sub hl [0, 1, 2, 3, 4, 5, 6, 7] rfl)
                  · have hF := ifp hF c71
                    refine lv_iload_n hx hb dX7_read_74 rfl (lv_at hl 3 rfl) ?_
                    refine r_i2l hx hb dX7_read_75 (fun x75 e75 => ?_)
                    have hF := bn hF e75
                    refine lv_iload hx hb dX7_read_76 (lv_at hl 7 rfl) ?_
                    refine r_i2l hx hb dX7_read_78 (fun x78 e78 => ?_)
                    have hF := bn hF e78
                    refine x_ladd hx hb dX7_read_79 (fun x79 e79 => ?_)
                    have hF := bn hF e79
                    refine lv_lstore (lv' := [(8, .long x79), (0, .ref h0), (1, .int p1), (2, .int p2), (3, .int p3), (4, .int p4), (5, .int y62_5), (6, .int y62_6), (7, .int y62_7)]) hx hb dX7_read_80 hl (by decide) rfl (fun ls hl => ?_)
                    refine lv_aload_n hx hb dX7_read_82 rfl (lv_at hl 1 rfl) ?_
                    refine gt_Model_lanes hx hb hts ic_Model hown hK hT g0 (hts _ mw_4_91) dX7_read_83 (fun q83 hq83 => ?_)
                    refine lv_iload_n hx hb dX7_read_86 rfl (lv_at hl 2 rfl) ?_
                    refine al_47 hx hb hK hT hq83 (by omega) (by omega) dX7_read_87 (fun x87 e87 g87 => ?_)
                    have hF := bn hF e87
                    refine r_bipush hx hb dX7_read_88 rfl (fun x88 e88 => ?_)
                    have hF := bn hF e88
                    have J136 : ∀ (ls : Array Slot) (H : Heap) (locs : List Loc) (t136_0 : Int32) (σj136 : Sg), (0 ≤ t136_0.toInt ∧ t136_0.toInt ≤ 3) → D_X7_read_136 (D_X7_read_62 p1.toInt p2.toInt p3.toInt p4.toInt n62) p1.toInt p3.toInt y62_6.toInt y62_7.toInt (σj136 o0) t136_0.toInt = some out → FR σ σj136 o0 → TY z (zA z) σj136 H → va_S (zA z) s.heap H locs → lv_has ls 11 [(0, .ref h0), (1, .int p1), (2, .int p2), (3, .int p3), (4, .int p4), (5, .int y62_5), (6, .int y62_6), (7, .int y62_7), (8, .long x79)] → W p l e (rmF 9 243) s m ([.ref h0, .int p1, .int p2, .int p3, .int p4] : List Value).toArray below meth c H locs 0 0 (MQ below (QcI z (fun r H => ∃ σ' : Sg, some (r.toInt, σ' o0) = some out ∧ FR σ σ' o0 ∧ TY z (zA z) σ' H)) ([.ref h0, .int p1, .int p2, .int p3, .int p4] : List Value).toArray s 0 0 (zA z)) (F0 m 136 ls [.int t136_0]) := by
                      intro ls H locs t136_0 σj136 j136_t136_0 hF hfr hT hS hl
                      unfold D_X7_read_136 at hF
                      refine lv_istore (lv' := [(5, .int t136_0), (0, .ref h0), (1, .int p1), (2, .int p2), (3, .int p3), (4, .int p4), (6, .int y62_6), (7, .int y62_7), (8, .long x79)]) hx hb dX7_read_136 hl (by decide) rfl (fun ls hl => ?_)
                      refine lv_iload hx hb dX7_read_138 (lv_at hl 0 rfl) ?_
                      have J203 : ∀ (ls : Array Slot) (H : Heap) (locs : List Loc) (y203_6 : Int32) (σj203 : Sg), D_X7_read_203 (D_X7_read_62 p1.toInt p2.toInt p3.toInt p4.toInt n62) t136_0.toInt y62_7.toInt (σj203 o0) y203_6.toInt = some out → FR σ σj203 o0 → TY z (zA z) σj203 H → va_S (zA z) s.heap H locs → lv_has ls 11 [(0, .ref h0), (1, .int p1), (2, .int p2), (3, .int p3), (4, .int p4), (5, .int t136_0), (6, .int y203_6), (7, .int y62_7), (8, .long x79)] → W p l e (rmF 9 243) s m ([.ref h0, .int p1, .int p2, .int p3, .int p4] : List Value).toArray below meth c H locs 0 0 (MQ below (QcI z (fun r H => ∃ σ' : Sg, some (r.toInt, σ' o0) = some out ∧ FR σ σ' o0 ∧ TY z (zA z) σ' H)) ([.ref h0, .int p1, .int p2, .int p3, .int p4] : List Value).toArray s 0 0 (zA z)) (F0 m 203 ls []) := by
                        intro ls H locs y203_6 σj203 hF hfr hT hS hl
                        unfold D_X7_read_203 at hF
                        refine r_iinc (lv' := fun v__ => [(7, .int v__), (0, .ref h0), (1, .int p1), (2, .int p2), (3, .int p3), (4, .int p4), (5, .int t136_0), (6, .int y203_6), (8, .long x79)]) hx hb dX7_read_203 hl (k := 7) rfl (by decide) (fun _ => rfl) ⟨by decide, by decide⟩ (by omega) (by omega) (fun x203 ls e203 hl => ?_)
                        have hF := bn hF e203
                        refine lv_goto (tgt := 62) hx hb dX7_read_206 (by decide) ?_
                        exact ih62 ls _ _ t136_0 y203_6 x203 σj203 (by omega) (by omega) hF hfr hT hS (lv_sub hl [1, 2, 3, 4, 5, 6, 7, 0] rfl)
                      refine r_if_ne (tgt := 203) hx hb dX7_read_140 (by decide) (fun c140 => ?_) (fun c140 => ?_)
                      · have hF := ifn hF c140
                        exact J203 ls _ _ y62_6 σj136 hF hfr hT hS (lv_sub hl [1, 2, 3, 4, 5, 0, 6, 7, 8] rfl)
                      · have hF := ifp hF c140
                        refine lv_aload_n hx hb dX7_read_143 rfl (lv_at hl 1 rfl) ?_
                        refine lv_aload_n hx hb dX7_read_144 rfl (lv_at hl 1 rfl) ?_
                        refine gt_Model_cells hx hb hts ic_Model hown hK hT g0 (hts _ mw_4_93) dX7_read_145 (fun q145 hq145 => ?_)
                        refine r_bipush hx hb dX7_read_148 rfl (fun x148 e148 => ?_)
                        have hF := bn hF e148
                        refine lv_iload_n hx hb dX7_read_150 rfl (lv_at hl 2 rfl) ?_
                        refine r_imulL (40) (by omega) hx hb dX7_read_151 (by omega) (by omega) (fun x151 e151 => ?_)
                        have hF := bn hF e151
                        refine lv_iload_n hx hb dX7_read_152 rfl (lv_at hl 4 rfl) ?_
                        refine x_iadd hx hb dX7_read_153 (fun x153 e153 => ?_)
                        have hF := bn hF e153
                        refine lv_iload hx hb dX7_read_154 (lv_at hl 7 rfl) ?_
                        refine x_iadd hx hb dX7_read_156 (fun x156 e156 => ?_)
                        have hF := bn hF e156
                        obtain ⟨kb157, hF⟩ := ck hF
                        refine al_49 hx hb hK hT hq145 (by omega) (by omega) dX7_read_157 (fun x157 e157 => ?_)
                        have hF := bn hF e157
                        obtain ⟨v158, s158, hd158, -⟩ := bd2_s hF
                        refine cl_Vi (rest := []) hC hK hSK (c_X7_dance l z σj136 h0 (o0) g0 x157 (v158, s158) hd158) k_X7_dance mw_6_15 ⟨rfl, rfl, Nat.le_of_ble_eq_true rfl, Nat.le_of_ble_eq_true rfl⟩ (rv_Model hK hT g0) hT rfl hl.1 rfl (Nat.le_of_ble_eq_true rfl) dX7_read_158 ⟨Nat.zero_le _, Nat.zero_le _⟩ hS (fun _ h => h) (fun _ _ h => h) (fun r158 H locs hpo hS => ?_)
                        obtain ⟨σ158, he158, hf158, hT⟩ := hpo
                        have hF := bd2_r hF hd158 he158
                        have hfr := FR_tr hf158 hfr
                        refine r_if_ge (tgt := 200) hx hb dX7_read_161 (by decide) (fun c161 => ?_) (fun c161 => ?_)
                        · have hF := ifn hF (Int.not_lt.mpr c161)
                          refine x_iinc (lv' := fun v__ => [(6, .int v__), (5, .int t136_0), (0, .ref h0), (1, .int p1), (2, .int p2), (3, .int p3), (4, .int p4), (7, .int y62_7), (8, .long x79)]) hx hb dX7_read_200 hl (k := 6) rfl (by decide) (fun _ => rfl) ⟨by decide, by decide⟩ (fun x200 ls e200 hl => ?_)
                          have hF := bn hF e200
                          exact J203 ls _ _ x200 σ158 hF hfr hT hS (lv_sub hl [2, 3, 4, 5, 6, 1, 0, 7, 8] rfl)
                        · have hF := ifp hF c161
                          refine r_iconst hx hb dX7_read_164 (by decide) (by decide) (fun x164 e164 => ?_)
                          have hF := bn hF e164
                          refine lv_istore (lv' := [(10, .int x164), (5, .int t136_0), (0, .ref h0), (1, .int p1), (2, .int p2), (3, .int p3), (4, .int p4), (6, .int y62_6), (7, .int y62_7), (8, .long x79)]) hx hb dX7_read_165 hl (by decide) rfl (fun ls hl => ?_)
                          have J167 : ∀ (n167 : Nat) (ls : Array Slot) (H : Heap) (locs : List Loc) (y167_10 : Int32) (σj167 : Sg), (0 ≤ y167_10.toInt ∧ y167_10.toInt ≤ 59) → D_X7_read_167 y62_7.toInt n167 (σj167 o0) y167_10.toInt = some out → FR σ σj167 o0 → TY z (zA z) σj167 H → va_S (zA z) s.heap H locs → lv_has ls 11 [(0, .ref h0), (1, .int p1), (2, .int p2), (3, .int p3), (4, .int p4), (5, .int t136_0), (6, .int y62_6), (7, .int y62_7), (8, .long x79), (10, .int y167_10)] → W p l e (rmF 9 243) s m ([.ref h0, .int p1, .int p2, .int p3, .int p4] : List Value).toArray below meth c H locs 0 0 (MQ below (QcI z (fun r H => ∃ σ' : Sg, some (r.toInt, σ' o0) = some out ∧ FR σ σ' o0 ∧ TY z (zA z) σ' H)) ([.ref h0, .int p1, .int p2, .int p3, .int p4] : List Value).toArray s 0 0 (zA z)) (F0 m 167 ls []) := by
                            intro n167
                            induction n167 with
                            | zero => intro ls H locs y167_10 σj167 j167_y167_10 hF hfr hT hS hl; exact (no_s hF).elim
                            | succ n167 ih167 =>
                              intro ls H locs y167_10 σj167 j167_y167_10 hF hfr hT hS hl
                              rw [D_X7_read_167.eq_2] at hF
                              refine lv_iload hx hb dX7_read_167 (lv_at hl 9 rfl) ?_
                              refine r_bipush hx hb dX7_read_169 rfl (fun x169 e169 => ?_)
                              have hF := bn hF e169
                              refine r_icmp_ge (tgt := 194) hx hb dX7_read_171 (by decide) (fun c171 => ?_) (fun c171 => ?_)
                              · have hF := ifn hF (Int.not_lt.mpr c171)
                                refine r_bipush hx hb dX7_read_194 rfl (fun x194 e194 => ?_)
                                have hF := bn hF e194
                                refine lv_iload hx hb dX7_read_196 (lv_at hl 7 rfl) ?_
                                refine r_isub hx hb dX7_read_198 (by omega) (by omega) (fun x198 e198 => ?_)
                                have hF := bn hF e198
                                exact rt_i hx hb hr hlk hS ⟨σj167, hF, hfr, hT⟩ dX7_read_199
                              · have hF := ifp hF c171
                                refine lv_aload_n hx hb dX7_read_174 rfl (lv_at hl 0 rfl) ?_
                                refine gt_Model_st hx hb hts ic_Model hown hK hT g0 (hts _ mw_4_70) dX7_read_175 (fun q175 hq175 => ?_)
                                refine lv_iload hx hb dX7_read_178 (lv_at hl 9 rfl) ?_
                                refine lv_aload_n hx hb dX7_read_180 rfl (lv_at hl 0 rfl) ?_
                                refine gt_Model_had hx hb hts ic_Model hown hK hT g0 (hts _ mw_4_95) dX7_read_181 (fun q181 hq181 => ?_)
                                refine lv_iload hx hb dX7_read_184 (lv_at hl 9 rfl) ?_
                                refine al_50 hx hb hK hT hq181 (by omega) (by omega) dX7_read_186 (fun x186 e186 g186 => ?_)
                                have hF := bn hF e186
                                refine as_40 hx hb hK hT hS hq175 (by omega) (by omega) (gd177_m (by omega) g186) dX7_read_187 (fun H locs hT hS => ?_)
                                obtain ⟨σ187, hF, hfr, hT⟩ := wrL hF hfr hT
                                refine r_iinc (lv' := fun v__ => [(10, .int v__), (0, .ref h0), (1, .int p1), (2, .int p2), (3, .int p3), (4, .int p4), (5, .int t136_0), (6, .int y62_6), (7, .int y62_7), (8, .long x79)]) hx hb dX7_read_188 hl (k := 9) rfl (by decide) (fun _ => rfl) ⟨by decide, by decide⟩ (by omega) (by omega) (fun x188 ls e188 hl => ?_)
                                have hF := bn hF e188
                                refine lv_goto (tgt := 167) hx hb dX7_read_191 (by decide) ?_
                                exact ih167 ls _ _ x188 σ187 (by omega) hF hfr hT hS (lv_sub hl [1, 2, 3, 4, 5, 6, 7, 8, 9, 0] rfl)
                          exact J167 5000 ls _ _ x164 σ158 (by omega) hF hfr hT hS (lv_sub hl [2, 3, 4, 5, 6, 1, 7, 8, 9, 0] rfl)
                    refine r_icmp_ne (tgt := 97) hx hb dX7_read_90 (by decide) (fun c90 => ?_) (fun c90 => ?_)
                    · have hF := ifn hF c90
                      refine lv_aload_n hx hb dX7_read_97 rfl (lv_at hl 1 rfl) ?_
                      refine gt_Model_lanes hx hb hts ic_Model hown hK hT g0 (hts _ mw_4_91) dX7_read_98 (fun q98 hq98 => ?_)
                      refine lv_iload_n hx hb dX7_read_101 rfl (lv_at hl 2 rfl) ?_
                      refine al_47 hx hb hK hT hq98 (by omega) (by omega) dX7_read_102 (fun x102 e102 g102 => ?_)
                      have hF := bn hF e102
                      refine lv_iload_n hx hb dX7_read_103 rfl (lv_at hl 3 rfl) ?_
                      refine r_icmp_eq (tgt := 111) hx hb dX7_read_104 (by decide) (fun c104 => ?_) (fun c104 => ?_)
                      · have hF := ifp hF c104
                        refine lv_lload hx hb dX7_read_111 (lv_at hl 0 rfl) ?_
                        refine r_lconst0 hx hb dX7_read_113 (fun x113 e113 => ?_)
                        have hF := bn hF e113
                        refine x_lcmp hx hb dX7_read_114 (fun x114 e114 f114 g114 h114 => ?_)
                        have hF := bn hF e114
                        have v114 : -1 ≤ x114.toInt ∧ x114.toInt ≤ 1 := by omega
                        have J131 : ∀ (ls : Array Slot) (H : Heap) (locs : List Loc) (σj131 : Sg), D_X7_read_131 (D_X7_read_62 p1.toInt p2.toInt p3.toInt p4.toInt n62) p1.toInt p3.toInt y62_6.toInt y62_7.toInt (σj131 o0) = some out → FR σ σj131 o0 → TY z (zA z) σj131 H → va_S (zA z) s.heap H locs → lv_has ls 11 [(0, .ref h0), (1, .int p1), (2, .int p2), (3, .int p3), (4, .int p4), (5, .int y62_5), (6, .int y62_6), (7, .int y62_7), (8, .long x79)] → W p l e (rmF 9 243) s m ([.ref h0, .int p1, .int p2, .int p3, .int p4] : List Value).toArray below meth c H locs 0 0 (MQ below (QcI z (fun r H => ∃ σ' : Sg, some (r.toInt, σ' o0) = some out ∧ FR σ σ' o0 ∧ TY z (zA z) σ' H)) ([.ref h0, .int p1, .int p2, .int p3, .int p4] : List Value).toArray s 0 0 (zA z)) (F0 m 131 ls []) := by
                          intro ls H locs σj131 hF hfr hT hS hl
                          unfold D_X7_read_131 at hF
                          refine r_iconst hx hb dX7_read_131 (by decide) (by decide) (fun x131 e131 => ?_)
                          have hF := bn hF e131
                          refine lv_goto (tgt := 136) hx hb dX7_read_132 (by decide) ?_
                          exact J136 ls _ _ x131 σj131 (by omega) hF hfr hT hS (lv_sub hl [0, 1, 2, 3, 4, 5, 6, 7, 8] rfl)
                        refine r_if_lt (tgt := 131) hx hb dX7_read_115 (by decide) (fun c115 => ?_) (fun c115 => ?_)
                        · have hF := ifp hF c115
                          exact J131 ls _ _ σj62 hF hfr hT hS (lv_sub hl [1, 2, 3, 4, 5, 6, 7, 8, 0] rfl)
                        · have hF := ifn hF (Int.not_lt.mpr c115)
                          refine lv_lload hx hb dX7_read_118 (lv_at hl 0 rfl) ?_
                          refine lv_aload_n hx hb dX7_read_120 rfl (lv_at hl 1 rfl) ?_
                          refine gt_Model_sizes hx hb hts ic_Model hown hK hT g0 (hts _ mw_4_92) dX7_read_121 (fun q121 hq121 => ?_)
                          refine lv_iload_n hx hb dX7_read_124 rfl (lv_at hl 2 rfl) ?_
                          refine al_48 hx hb hK hT hq121 (by omega) (by omega) dX7_read_125 (fun x125 e125 g125 => ?_)
                          have hF := bn hF e125
                          refine r_i2l hx hb dX7_read_126 (fun x126 e126 => ?_)
                          have hF := bn hF e126
                          refine x_lcmp hx hb dX7_read_127 (fun x127 e127 f127 g127 h127 => ?_)
                          have hF := bn hF e127
                          have v127 : -1 ≤ x127.toInt ∧ x127.toInt ≤ 1 := by omega
                          refine r_if_lt (tgt := 135) hx hb dX7_read_128 (by decide) (fun c128 => ?_) (fun c128 => ?_)
                          · have hF := ifp hF c128
                            refine r_iconst hx hb dX7_read_135 (by decide) (by decide) (fun x135 e135 => ?_)
                            have hF := bn hF e135
                            exact J136 ls _ _ x135 σj62 (by omega) hF hfr hT hS (lv_sub hl [1, 2, 3, 4, 5, 6, 7, 8, 0] rfl)
                          · have hF := ifn hF (Int.not_lt.mpr c128)
                            exact J131 ls _ _ σj62 hF hfr hT hS (lv_sub hl [1, 2, 3, 4, 5, 6, 7, 8, 0] rfl)
                      · have hF := ifn hF c104
                        refine r_iconst hx hb dX7_read_107 (by decide) (by decide) (fun x107 e107 => ?_)
                        have hF := bn hF e107
                        refine lv_goto (tgt := 136) hx hb dX7_read_108 (by decide) ?_
                        exact J136 ls _ _ x107 σj62 (by omega) hF hfr hT hS (lv_sub hl [1, 2, 3, 4, 5, 6, 7, 8, 0] rfl)
                    · have hF := ifp hF c90
                      refine r_iconst hx hb dX7_read_93 (by decide) (by decide) (fun x93 e93 => ?_)
                      have hF := bn hF e93
                      refine lv_goto (tgt := 136) hx hb dX7_read_94 (by decide) ?_
                      exact J136 ls _ _ x93 σj62 (by omega) hF hfr hT hS (lv_sub hl [1, 2, 3, 4, 5, 6, 7, 8, 0] rfl)
            exact J62 5000 ls _ _ x53 x56 x59 σj26 (by omega) (by omega) hF hfr hT hS (lv_sub hl [3, 4, 5, 6, 7, 2, 1, 0] rfl)
          · have hF := ifp hF c30
            refine lv_aload_n hx hb dX7_read_33 rfl (lv_at hl 0 rfl) ?_
            refine gt_Model_had hx hb hts ic_Model hown hK hT g0 (hts _ mw_4_95) dX7_read_34 (fun q34 hq34 => ?_)
            refine lv_iload hx hb dX7_read_37 (lv_at hl 5 rfl) ?_
            refine lv_aload_n hx hb dX7_read_39 rfl (lv_at hl 0 rfl) ?_
            refine gt_Model_st hx hb hts ic_Model hown hK hT g0 (hts _ mw_4_70) dX7_read_40 (fun q40 hq40 => ?_)
            refine lv_iload hx hb dX7_read_43 (lv_at hl 5 rfl) ?_
            refine al_40 hx hb hK hT hq40 (by omega) (by omega) dX7_read_45 (fun x45 e45 g45 => ?_)
            have hF := bn hF e45
            refine as_50 hx hb hK hT hS hq34 (by omega) (by omega) (gd177_e g45 (by omega)) dX7_read_46 (fun H locs hT hS => ?_)
            obtain ⟨σ46, hF, hfr, hT⟩ := wrL hF hfr hT
            refine r_iinc (lv' := fun v__ => [(5, .int v__), (0, .ref h0), (1, .int p1), (2, .int p2), (3, .int p3), (4, .int p4)]) hx hb dX7_read_47 hl (k := 5) rfl (by decide) (fun _ => rfl) ⟨by decide, by decide⟩ (by omega) (by omega) (fun x47 ls e47 hl => ?_)
            have hF := bn hF e47
            refine lv_goto (tgt := 26) hx hb dX7_read_50 (by decide) ?_
            exact ih26 ls _ _ x47 σ46 (by omega) hF hfr hT hS (lv_sub hl [1, 2, 3, 4, 5, 0] rfl)
      exact J26 5000 ls _ _ x23 σ (by omega) hF hfr hT hS (lv_sub hl [1, 2, 3, 4, 5, 0] rfl)
    · have hF := ifp hF c18
      refine r_iconst hx hb dX7_read_21 (by decide) (by decide) (fun x21 e21 => ?_)
      have hF := bn hF e21
      exact rt_i hx hb hr hlk hS ⟨σ, hF, hfr, hT⟩ dX7_read_22
theorem k_X7_torn : cBV yX7_torn cX7_torn 1 (some .int) 0 := ⟨mw_6_17, mw_6_18, mw_1_8, mw_6_19, ⟨by decide, by decide, by decide⟩⟩
set_option maxHeartbeats 4000000 in
set_option maxRecDepth 100000 in
theorem c_X7_torn (l : Launch) (z : Zt) (σ : Sg) (h0 o0 : Nat) (g0 : zG z h0 = (17, o0)) (out : Int) (hF : D_X7_torn (σ o0) = some out) : Met l yX7_torn (uw yX7_torn cX7_torn 1 (some .int)) (rmF 1 64) (PcW z [.ref h0] (fun H => TY z (zA z) σ H)) (QcI z (fun r H => some r.toInt = some out ∧ TY z (zA z) σ H)) 0 0 (zA z) := by
  refine Met.ofW (cc := cX7_torn) (maxL := 1) (ret := (some .int)) (by decide) rfl ?_
  intro p e s m args below meth c s₁ B hml hv
  obtain ⟨rfl, hT, hK, hSK⟩ := hv
  have hx := B.exec
  have hb := B.bytes
  have hr := B.returns
  have hts : ∀ w ∈ lw_ok, w.before ([.ref h0] : List Value).toArray s = true := fun w hw => atoms_spec (ws := uw yX7_torn cX7_torn 1 (some .int)) B.pre w (List.mem_cons_of_mem _ hw)
  have hown : s.vm.findClass RX7 = some m.cls := findClass_of_methodNamed B.named
  have hlk := B.notSynchronized
  have hC : CallFix p m c cX7_torn 1 s ([.ref h0] : List Value).toArray lw_ok RX7 := ⟨hx, hb, hml, hown, hts⟩
  have hS : va_S (zA z) s.heap s.heap [] := va_S.rf
  have hl := lv_entry ([.ref h0]) (n := 1) (Nat.le_of_ble_eq_true rfl)
  rw [lg_entry_eq]
  generalize (lg_sl ([.ref h0]) ++ List.replicate (1 - (lg_sl ([.ref h0])).length) Slot.unset).toArray = ls at hl ⊢
  have hl : lv_has ls 1 [(0, .ref h0)] := hl
  show W p l e (rmF 1 64) s m ([.ref h0] : List Value).toArray below meth c s.heap [] 0 0 (MQ below (QcI z (fun r H => some r.toInt = some out ∧ TY z (zA z) σ H)) ([.ref h0] : List Value).toArray s 0 0 (zA z)) (F0 m 0 ls [])
  unfold D_X7_torn at hF
  refine lv_aload_n hx hb dX7_torn_0 rfl (lv_at hl 0 rfl) ?_
  refine gt_Model_torn hx hb hts ic_Model hown hK hT g0 (hts _ mw_4_94) dX7_torn_1 (fun x1 e1 f1 g1 => ?_)
  have hF := bn hF e1
  exact rt_i hx hb hr hlk hS ⟨hF, hT⟩ dX7_torn_4
theorem k_X7_count : cBV yX7_count cX7_count 2 (some .int) 1 := ⟨mw_6_21, mw_6_22, mw_1_8, mw_6_23, ⟨by decide, by decide, by decide⟩⟩
set_option maxHeartbeats 4000000 in
set_option maxRecDepth 100000 in
theorem c_X7_count (l : Launch) (z : Zt) (σ : Sg) (h0 o0 : Nat) (g0 : zG z h0 = (17, o0)) (p1 : Int32) (out : (Int × Lo)) (hF : D_X7_count (σ o0) p1.toInt = some out) : Met l yX7_count (uw yX7_count cX7_count 2 (some .int)) (rmF 3 109) (PcW z [.ref h0, .int p1] (fun H => TY z (zA z) σ H)) (QcI z (fun r H => ∃ σ' : Sg, some (r.toInt, σ' o0) = some out ∧ FR σ σ' o0 ∧ TY z (zA z) σ' H)) 0 0 (zA z) := by
  refine Met.ofW (cc := cX7_count) (maxL := 2) (ret := (some .int)) (by decide) rfl ?_
  intro p e s m args below meth c s₁ B hml hv
  obtain ⟨rfl, hT, hK, hSK⟩ := hv
  have hx := B.exec
  have hb := B.bytes
  have hr := B.returns
  have hts : ∀ w ∈ lw_ok, w.before ([.ref h0, .int p1] : List Value).toArray s = true := fun w hw => atoms_spec (ws := uw yX7_count cX7_count 2 (some .int)) B.pre w (List.mem_cons_of_mem _ hw)
  have hown : s.vm.findClass RX7 = some m.cls := findClass_of_methodNamed B.named
  have hlk := B.notSynchronized
  have hC : CallFix p m c cX7_count 2 s ([.ref h0, .int p1] : List Value).toArray lw_ok RX7 := ⟨hx, hb, hml, hown, hts⟩
  have hS : va_S (zA z) s.heap s.heap [] := va_S.rf
  have hl := lv_entry ([.ref h0, .int p1]) (n := 2) (Nat.le_of_ble_eq_true rfl)
  rw [lg_entry_eq]
  generalize (lg_sl ([.ref h0, .int p1]) ++ List.replicate (2 - (lg_sl ([.ref h0, .int p1])).length) Slot.unset).toArray = ls at hl ⊢
  have hl : lv_has ls 2 [(0, .ref h0), (1, .int p1)] := hl
  show W p l e (rmF 3 109) s m ([.ref h0, .int p1] : List Value).toArray below meth c s.heap [] 0 0 (MQ below (QcI z (fun r H => ∃ σ' : Sg, some (r.toInt, σ' o0) = some out ∧ FR σ σ' o0 ∧ TY z (zA z) σ' H)) ([.ref h0, .int p1] : List Value).toArray s 0 0 (zA z)) (F0 m 0 ls [])
  have hfr : FR σ σ o0 := FR_rf σ o0
  unfold D_X7_count at hF
  have mx_p1 := i_mx p1
  refine lv_aload_n hx hb dX7_count_0 rfl (lv_at hl 0 rfl) ?_
  obtain ⟨s1, hd1, -⟩ := bd1_s hF
  refine cl_Vv (rest := []) hC hK hSK (c_X7_starts l z σ h0 (o0) g0 s1 hd1) k_X7_starts mw_4_229 ⟨rfl, rfl, Nat.le_of_ble_eq_true rfl, Nat.le_of_ble_eq_true rfl⟩ (rv_Model hK hT g0) hT rfl hl.1 rfl (Nat.le_of_ble_eq_true rfl) dX7_count_1 ⟨Nat.zero_le _, Nat.zero_le _⟩ hS (fun _ h => h) (fun _ _ h => h) (fun H locs hpo hS => ?_)
  obtain ⟨σ1, he1, hf1, hT⟩ := hpo
  have hF := bd1_r hF hd1 he1
  have hfr := FR_tr hf1 hfr
  refine lv_iload_n hx hb dX7_count_4 rfl (lv_at hl 1 rfl) ?_
  rcases (show p1.toInt = 0 ∨ p1.toInt = 1 ∨ p1.toInt = 2 ∨ p1.toInt = 3 ∨ p1.toInt = 4 ∨ p1.toInt = 5 ∨ (p1.toInt < 0 ∨ 5 < p1.toInt) by omega) with c5 | c5 | c5 | c5 | c5 | c5 | c5
  · have hF := ifp hF c5
    refine lv_tableIn (off := 39) (tgt := 44) hx hb dX7_count_5 (by omega) (by omega) (by rw [c5]; rfl) (by decide) ?_
    refine lv_aload_n hx hb dX7_count_44 rfl (lv_at hl 0 rfl) ?_
    refine gt_Model_st hx hb hts ic_Model hown hK hT g0 (hts _ mw_4_70) dX7_count_45 (fun q45 hq45 => ?_)
    refine r_bipush hx hb dX7_count_48 rfl (fun x48 e48 => ?_)
    have hF := bn hF e48
    refine al_40 hx hb hK hT hq45 (by omega) (by omega) dX7_count_50 (fun x50 e50 g50 => ?_)
    have hF := bn hF e50
    have f50 := gd59_40 (gd177_e g50 (by omega)) (by omega)
    exact rt_i hx hb hr hlk hS ⟨σ1, hF, hfr, hT⟩ dX7_count_51
  · have hF := ifn hF (by omega)
    have hF := ifp hF c5
    refine lv_tableIn (off := 47) (tgt := 52) hx hb dX7_count_5 (by omega) (by omega) (by rw [c5]; rfl) (by decide) ?_
    refine lv_aload_n hx hb dX7_count_52 rfl (lv_at hl 0 rfl) ?_
    refine gt_Model_isKept hx hb hts ic_Model hown hK hT g0 (hts _ mw_4_72) dX7_count_53 (fun q53 hq53 => ?_)
    refine r_iconst hx hb dX7_count_56 (by decide) (by decide) (fun x56 e56 => ?_)
    have hF := bn hF e56
    refine al_42 hx hb hK hT hq53 (by omega) (by omega) dX7_count_57 (fun x57 e57 g57 => ?_)
    have hF := bn hF e57
    obtain ⟨v58, hd58, -⟩ := bd0_s hF
    refine cl_Si (rest := []) hC hK hSK (c_X7_flag l z σ1 x57 v58 hd58 (by omega)) k_X7_flag mw_5_4 ⟨rfl, rfl, Nat.le_of_ble_eq_true rfl, Nat.le_of_ble_eq_true rfl⟩ hT rfl hl.1 rfl (Nat.le_of_ble_eq_true rfl) dX7_count_58 ⟨Nat.zero_le _, Nat.zero_le _⟩ hS (fun _ h => h) (fun _ _ h => h) (fun r58 H locs hpo hS => ?_)
    obtain ⟨he58, hT, u58_0⟩ := hpo
    have hF := bd0_r hF hd58 he58
    refine lv_aload_n hx hb dX7_count_61 rfl (lv_at hl 0 rfl) ?_
    refine gt_Model_isKept hx hb hts ic_Model hown hK hT g0 (hts _ mw_4_72) dX7_count_62 (fun q62 hq62 => ?_)
    refine r_iconst hx hb dX7_count_65 (by decide) (by decide) (fun x65 e65 => ?_)
    have hF := bn hF e65
    refine al_42 hx hb hK hT hq62 (by omega) (by omega) dX7_count_66 (fun x66 e66 g66 => ?_)
    have hF := bn hF e66
    obtain ⟨v67, hd67, -⟩ := bd0_s hF
    refine cl_Si (rest := [.int r58]) hC hK hSK (c_X7_flag l z σ1 x66 v67 hd67 (by omega)) k_X7_flag mw_5_4 ⟨rfl, rfl, Nat.le_of_ble_eq_true rfl, Nat.le_of_ble_eq_true rfl⟩ hT rfl hl.1 rfl (Nat.le_of_ble_eq_true rfl) dX7_count_67 ⟨Nat.zero_le _, Nat.zero_le _⟩ hS (fun _ h => h) (fun _ _ h => h) (fun r67 H locs hpo hS => ?_)
    obtain ⟨he67, hT, u67_0⟩ := hpo
    have hF := bd0_r hF hd67 he67
    refine r_iadd hx hb dX7_count_70 (by omega) (by omega) (fun x70 e70 => ?_)
    have hF := bn hF e70
    exact rt_i hx hb hr hlk hS ⟨σ1, hF, hfr, hT⟩ dX7_count_71
  · have hF := ifn hF (by omega)
    have hF := ifn hF (by omega)
    have hF := ifp hF c5
    refine lv_tableIn (off := 67) (tgt := 72) hx hb dX7_count_5 (by omega) (by omega) (by rw [c5]; rfl) (by decide) ?_
    refine lv_aload_n hx hb dX7_count_72 rfl (lv_at hl 0 rfl) ?_
    refine gt_Model_taped hx hb hts ic_Model hown hK hT g0 (hts _ mw_4_80) dX7_count_73 (fun x73 e73 f73 g73 => ?_)
    have hF := bn hF e73
    exact rt_i hx hb hr hlk hS ⟨σ1, hF, hfr, hT⟩ dX7_count_76
  · have hF := ifn hF (by omega)
    have hF := ifn hF (by omega)
    have hF := ifn hF (by omega)
    have hF := ifp hF c5
    refine lv_tableIn (off := 72) (tgt := 77) hx hb dX7_count_5 (by omega) (by omega) (by rw [c5]; rfl) (by decide) ?_
    refine lv_aload_n hx hb dX7_count_77 rfl (lv_at hl 0 rfl) ?_
    refine gt_Model_lanes hx hb hts ic_Model hown hK hT g0 (hts _ mw_4_91) dX7_count_78 (fun q78 hq78 => ?_)
    refine r_iconst hx hb dX7_count_81 (by decide) (by decide) (fun x81 e81 => ?_)
    have hF := bn hF e81
    refine al_47 hx hb hK hT hq78 (by omega) (by omega) dX7_count_82 (fun x82 e82 g82 => ?_)
    have hF := bn hF e82
    refine r_bipush hx hb dX7_count_83 rfl (fun x83 e83 => ?_)
    have hF := bn hF e83
    refine r_icmp_ne (tgt := 93) hx hb dX7_count_85 (by decide) (fun c85 => ?_) (fun c85 => ?_)
    · have hF := ifn hF c85
      refine lv_aload_n hx hb dX7_count_93 rfl (lv_at hl 0 rfl) ?_
      refine gt_Model_sizes hx hb hts ic_Model hown hK hT g0 (hts _ mw_4_92) dX7_count_94 (fun q94 hq94 => ?_)
      refine r_iconst hx hb dX7_count_97 (by decide) (by decide) (fun x97 e97 => ?_)
      have hF := bn hF e97
      refine al_48 hx hb hK hT hq94 (by omega) (by omega) dX7_count_98 (fun x98 e98 g98 => ?_)
      have hF := bn hF e98
      exact rt_i hx hb hr hlk hS ⟨σ1, hF, hfr, hT⟩ dX7_count_99
    · have hF := ifp hF c85
      refine r_bipush hx hb dX7_count_88 rfl (fun x88 e88 => ?_)
      have hF := bn hF e88
      refine lv_goto (tgt := 99) hx hb dX7_count_90 (by decide) ?_
      exact rt_i hx hb hr hlk hS ⟨σ1, hF, hfr, hT⟩ dX7_count_99
  · have hF := ifn hF (by omega)
    have hF := ifn hF (by omega)
    have hF := ifn hF (by omega)
    have hF := ifn hF (by omega)
    have hF := ifp hF c5
    refine lv_tableIn (off := 95) (tgt := 100) hx hb dX7_count_5 (by omega) (by omega) (by rw [c5]; rfl) (by decide) ?_
    refine lv_aload_n hx hb dX7_count_100 rfl (lv_at hl 0 rfl) ?_
    refine r_iconst hx hb dX7_count_101 (by decide) (by decide) (fun x101 e101 => ?_)
    have hF := bn hF e101
    obtain ⟨v102, hd102, -⟩ := bd0_s hF
    refine cl_Vi (rest := []) hC hK hSK (c_X7_allOf l z σ1 h0 (o0) g0 x101 v102 hd102 (by omega)) k_X7_allOf mw_5_117 ⟨rfl, rfl, Nat.le_of_ble_eq_true rfl, Nat.le_of_ble_eq_true rfl⟩ (rv_Model hK hT g0) hT rfl hl.1 rfl (Nat.le_of_ble_eq_true rfl) dX7_count_102 ⟨Nat.zero_le _, Nat.zero_le _⟩ hS (fun _ h => h) (fun _ _ h => h) (fun r102 H locs hpo hS => ?_)
    obtain ⟨he102, hT⟩ := hpo
    have hF := bd0_r hF hd102 he102
    exact rt_i hx hb hr hlk hS ⟨σ1, hF, hfr, hT⟩ dX7_count_105
  · have hF := ifn hF (by omega)
    have hF := ifn hF (by omega)
    have hF := ifn hF (by omega)
    have hF := ifn hF (by omega)
    have hF := ifn hF (by omega)
    have hF := ifp hF c5
    refine lv_tableIn (off := 101) (tgt := 106) hx hb dX7_count_5 (by omega) (by omega) (by rw [c5]; rfl) (by decide) ?_
    refine lv_aload_n hx hb dX7_count_106 rfl (lv_at hl 0 rfl) ?_
    refine r_iconst hx hb dX7_count_107 (by decide) (by decide) (fun x107 e107 => ?_)
    have hF := bn hF e107
    obtain ⟨v108, hd108, -⟩ := bd0_s hF
    refine cl_Vi (rest := []) hC hK hSK (c_X7_allOf l z σ1 h0 (o0) g0 x107 v108 hd108 (by omega)) k_X7_allOf mw_5_117 ⟨rfl, rfl, Nat.le_of_ble_eq_true rfl, Nat.le_of_ble_eq_true rfl⟩ (rv_Model hK hT g0) hT rfl hl.1 rfl (Nat.le_of_ble_eq_true rfl) dX7_count_108 ⟨Nat.zero_le _, Nat.zero_le _⟩ hS (fun _ h => h) (fun _ _ h => h) (fun r108 H locs hpo hS => ?_)
    obtain ⟨he108, hT⟩ := hpo
    have hF := bd0_r hF hd108 he108
    exact rt_i hx hb hr hlk hS ⟨σ1, hF, hfr, hT⟩ dX7_count_111
  · have hF := ifn hF (by omega)
    have hF := ifn hF (by omega)
    have hF := ifn hF (by omega)
    have hF := ifn hF (by omega)
    have hF := ifn hF (by omega)
    have hF := ifn hF (by omega)
    refine lv_tableOut (tgt := 112) hx hb dX7_count_5 c5 (by decide) ?_
    refine r_iconst hx hb dX7_count_112 (by decide) (by decide) (fun x112 e112 => ?_)
    have hF := bn hF e112
    exact rt_i hx hb hr hlk hS ⟨σ1, hF, hfr, hT⟩ dX7_count_113
theorem k_X7_kin : cBV yX7_kin cX7_kin 5 (some .int) 3 := ⟨mw_5_70, mw_5_71, mw_1_8, mw_5_72, ⟨by decide, by decide, by decide⟩⟩
set_option maxHeartbeats 4000000 in
set_option maxRecDepth 100000 in
theorem c_X7_kin (l : Launch) (z : Zt) (σ : Sg) (h0 o0 : Nat) (g0 : zG z h0 = (17, o0)) (p1 : Int32) (p2 : Int32) (p3 : Int32) (out : (Int × Lo)) (hF : D_X7_kin (σ o0) p1.toInt p2.toInt p3.toInt = some out) (bp3 : 0 ≤ p3.toInt ∧ p3.toInt ≤ 1) : Met l yX7_kin (uw yX7_kin cX7_kin 5 (some .int)) (rmF 3 110) (PcW z [.ref h0, .int p1, .int p2, .int p3] (fun H => TY z (zA z) σ H)) (QcI z (fun r H => ∃ σ' : Sg, some (r.toInt, σ' o0) = some out ∧ FR σ σ' o0 ∧ TY z (zA z) σ' H)) 0 0 (zA z) := by
  refine Met.ofW (cc := cX7_kin) (maxL := 5) (ret := (some .int)) (by decide) rfl ?_
  intro p e s m args below meth c s₁ B hml hv
  obtain ⟨rfl, hT, hK, hSK⟩ := hv
  have hx := B.exec
  have hb := B.bytes
  have hr := B.returns
  have hts : ∀ w ∈ lw_ok, w.before ([.ref h0, .int p1, .int p2, .int p3] : List Value).toArray s = true := fun w hw => atoms_spec (ws := uw yX7_kin cX7_kin 5 (some .int)) B.pre w (List.mem_cons_of_mem _ hw)
  have hown : s.vm.findClass RX7 = some m.cls := findClass_of_methodNamed B.named
  have hlk := B.notSynchronized
  have hC : CallFix p m c cX7_kin 5 s ([.ref h0, .int p1, .int p2, .int p3] : List Value).toArray lw_ok RX7 := ⟨hx, hb, hml, hown, hts⟩
  have hS : va_S (zA z) s.heap s.heap [] := va_S.rf
  have hl := lv_entry ([.ref h0, .int p1, .int p2, .int p3]) (n := 5) (Nat.le_of_ble_eq_true rfl)
  rw [lg_entry_eq]
  generalize (lg_sl ([.ref h0, .int p1, .int p2, .int p3]) ++ List.replicate (5 - (lg_sl ([.ref h0, .int p1, .int p2, .int p3])).length) Slot.unset).toArray = ls at hl ⊢
  have hl : lv_has ls 5 [(0, .ref h0), (1, .int p1), (2, .int p2), (3, .int p3)] := hl
  show W p l e (rmF 3 110) s m ([.ref h0, .int p1, .int p2, .int p3] : List Value).toArray below meth c s.heap [] 0 0 (MQ below (QcI z (fun r H => ∃ σ' : Sg, some (r.toInt, σ' o0) = some out ∧ FR σ σ' o0 ∧ TY z (zA z) σ' H)) ([.ref h0, .int p1, .int p2, .int p3] : List Value).toArray s 0 0 (zA z)) (F0 m 0 ls [])
  have hfr : FR σ σ o0 := FR_rf σ o0
  unfold D_X7_kin at hF
  have mx_p1 := i_mx p1
  have mx_p2 := i_mx p2
  refine lv_aload_n hx hb dX7_kin_0 rfl (lv_at hl 0 rfl) ?_
  refine lv_iload_n hx hb dX7_kin_1 rfl (lv_at hl 1 rfl) ?_
  obtain ⟨v2, hd2, -⟩ := bd0_s hF
  refine cl_Vi (rest := []) hC hK hSK (c_X7_isOne l z σ h0 (o0) g0 p1 v2 hd2) k_X7_isOne mw_5_11 ⟨rfl, rfl, Nat.le_of_ble_eq_true rfl, Nat.le_of_ble_eq_true rfl⟩ (rv_Model hK hT g0) hT rfl hl.1 rfl (Nat.le_of_ble_eq_true rfl) dX7_kin_2 ⟨Nat.zero_le _, Nat.zero_le _⟩ hS (fun _ h => h) (fun _ _ h => h) (fun r2 H locs hpo hS => ?_)
  obtain ⟨he2, hT, u2_0, u2_1⟩ := hpo
  have hF := bd0_r hF hd2 he2
  refine r_if_eq (tgt := 16) hx hb dX7_kin_5 (by decide) (fun c5 => ?_) (fun c5 => ?_)
  · have hF := ifp hF c5
    refine r_iconst hx hb dX7_kin_16 (by decide) (by decide) (fun x16 e16 => ?_)
    have hF := bn hF e16
    exact rt_i hx hb hr hlk hS ⟨σ, hF, hfr, hT⟩ dX7_kin_17
  · have hF := ifn hF c5
    refine lv_aload_n hx hb dX7_kin_8 rfl (lv_at hl 0 rfl) ?_
    refine lv_iload_n hx hb dX7_kin_9 rfl (lv_at hl 2 rfl) ?_
    obtain ⟨v10, hd10, -⟩ := bd0_s hF
    refine cl_Vi (rest := []) hC hK hSK (c_X7_isOne l z σ h0 (o0) g0 p2 v10 hd10) k_X7_isOne mw_5_11 ⟨rfl, rfl, Nat.le_of_ble_eq_true rfl, Nat.le_of_ble_eq_true rfl⟩ (rv_Model hK hT g0) hT rfl hl.1 rfl (Nat.le_of_ble_eq_true rfl) dX7_kin_10 ⟨Nat.zero_le _, Nat.zero_le _⟩ hS (fun _ h => h) (fun _ _ h => h) (fun r10 H locs hpo hS => ?_)
    obtain ⟨he10, hT, u10_0, u10_1⟩ := hpo
    have hF := bd0_r hF hd10 he10
    refine r_if_ne (tgt := 18) hx hb dX7_kin_13 (by decide) (fun c13 => ?_) (fun c13 => ?_)
    · have hF := ifn hF c13
      refine lv_aload_n hx hb dX7_kin_18 rfl (lv_at hl 0 rfl) ?_
      refine gt_Model_st hx hb hts ic_Model hown hK hT g0 (hts _ mw_4_70) dX7_kin_19 (fun q19 hq19 => ?_)
      refine r_bipush hx hb dX7_kin_22 rfl (fun x22 e22 => ?_)
      have hF := bn hF e22
      refine lv_iload_n hx hb dX7_kin_24 rfl (lv_at hl 1 rfl) ?_
      refine r_iadd hx hb dX7_kin_25 (by omega) (by omega) (fun x25 e25 => ?_)
      have hF := bn hF e25
      refine al_40 hx hb hK hT hq19 (by omega) (by omega) dX7_kin_26 (fun x26 e26 g26 => ?_)
      have hF := bn hF e26
      refine lv_iload_n hx hb dX7_kin_27 rfl (lv_at hl 2 rfl) ?_
      refine x_ishr hx hb dX7_kin_28 (fun x28 e28 => ?_)
      have hF := bn hF e28
      refine r_iconst hx hb dX7_kin_29 (by decide) (by decide) (fun x29 e29 => ?_)
      have hF := bn hF e29
      refine x_iandr hx hb dX7_kin_30 (by omega) (fun x30 e30 g30 h30 => ?_)
      have hF := bn hF e30
      refine lv_istore (lv' := [(4, .int x30), (0, .ref h0), (1, .int p1), (2, .int p2), (3, .int p3)]) hx hb dX7_kin_31 hl (by decide) rfl (fun ls hl => ?_)
      refine lv_iload_n hx hb dX7_kin_33 rfl (lv_at hl 4 rfl) ?_
      have J54 : ∀ (ls : Array Slot) (H : Heap) (locs : List Loc) (σj54 : Sg), D_X7_kin_54 p1.toInt p2.toInt p3.toInt x30.toInt (σj54 o0) = some out → FR σ σj54 o0 → TY z (zA z) σj54 H → va_S (zA z) s.heap H locs → lv_has ls 5 [(0, .ref h0), (1, .int p1), (2, .int p2), (3, .int p3), (4, .int x30)] → W p l e (rmF 3 110) s m ([.ref h0, .int p1, .int p2, .int p3] : List Value).toArray below meth c H locs 0 0 (MQ below (QcI z (fun r H => ∃ σ' : Sg, some (r.toInt, σ' o0) = some out ∧ FR σ σ' o0 ∧ TY z (zA z) σ' H)) ([.ref h0, .int p1, .int p2, .int p3] : List Value).toArray s 0 0 (zA z)) (F0 m 54 ls []) := by
        intro ls H locs σj54 hF hfr hT hS hl
        unfold D_X7_kin_54 at hF
        refine lv_aload_n hx hb dX7_kin_54 rfl (lv_at hl 0 rfl) ?_
        refine gt_Model_st hx hb hts ic_Model hown hK hT g0 (hts _ mw_4_70) dX7_kin_55 (fun q55 hq55 => ?_)
        refine r_bipush hx hb dX7_kin_58 rfl (fun x58 e58 => ?_)
        have hF := bn hF e58
        refine lv_iload_n hx hb dX7_kin_60 rfl (lv_at hl 1 rfl) ?_
        refine r_iadd hx hb dX7_kin_61 (by omega) (by omega) (fun x61 e61 => ?_)
        have hF := bn hF e61
        refine lv_iload_n hx hb dX7_kin_62 rfl (lv_at hl 3 rfl) ?_
        refine r_if_eq (tgt := 82) hx hb dX7_kin_63 (by decide) (fun c63 => ?_) (fun c63 => ?_)
        · have hF := ifp hF c63
          refine lv_aload_n hx hb dX7_kin_82 rfl (lv_at hl 0 rfl) ?_
          refine gt_Model_st hx hb hts ic_Model hown hK hT g0 (hts _ mw_4_70) dX7_kin_83 (fun q83 hq83 => ?_)
          refine r_bipush hx hb dX7_kin_86 rfl (fun x86 e86 => ?_)
          have hF := bn hF e86
          refine lv_iload_n hx hb dX7_kin_88 rfl (lv_at hl 1 rfl) ?_
          refine r_iadd hx hb dX7_kin_89 (by omega) (by omega) (fun x89 e89 => ?_)
          have hF := bn hF e89
          refine al_40 hx hb hK hT hq83 (by omega) (by omega) dX7_kin_90 (fun x90 e90 g90 => ?_)
          have hF := bn hF e90
          refine r_iconst hx hb dX7_kin_91 (by decide) (by decide) (fun x91 e91 => ?_)
          have hF := bn hF e91
          refine lv_iload_n hx hb dX7_kin_92 rfl (lv_at hl 2 rfl) ?_
          refine x_shl1 hx hb dX7_kin_93 (by omega) (by omega) (by omega) (fun x93 e93 g93 h93 => ?_)
          have hF := bn hF e93
          refine r_iconst hx hb dX7_kin_94 (by decide) (by decide) (fun x94 e94 => ?_)
          have hF := bn hF e94
          refine x_ixor hx hb dX7_kin_95 (fun x95 e95 => ?_)
          have hF := bn hF e95
          refine x_iand hx hb dX7_kin_96 (fun x96 e96 => ?_)
          have hF := bn hF e96
          refine as_40 hx hb hK hT hS hq55 (by omega) (by omega) (gd177_m (by omega) (gd59_mf (by omega))) dX7_kin_97 (fun H locs hT hS => ?_)
          obtain ⟨σ97, hF, hfr, hT⟩ := wrL hF hfr hT
          refine lv_iload hx hb dX7_kin_98 (lv_at hl 4 rfl) ?_
          exact rt_i hx hb hr hlk hS ⟨σ97, hF, hfr, hT⟩ dX7_kin_100
        · have hF := ifn hF c63
          refine lv_aload_n hx hb dX7_kin_66 rfl (lv_at hl 0 rfl) ?_
          refine gt_Model_st hx hb hts ic_Model hown hK hT g0 (hts _ mw_4_70) dX7_kin_67 (fun q67 hq67 => ?_)
          refine r_bipush hx hb dX7_kin_70 rfl (fun x70 e70 => ?_)
          have hF := bn hF e70
          refine lv_iload_n hx hb dX7_kin_72 rfl (lv_at hl 1 rfl) ?_
          refine r_iadd hx hb dX7_kin_73 (by omega) (by omega) (fun x73 e73 => ?_)
          have hF := bn hF e73
          refine al_40 hx hb hK hT hq67 (by omega) (by omega) dX7_kin_74 (fun x74 e74 g74 => ?_)
          have hF := bn hF e74
          refine r_iconst hx hb dX7_kin_75 (by decide) (by decide) (fun x75 e75 => ?_)
          have hF := bn hF e75
          refine lv_iload_n hx hb dX7_kin_76 rfl (lv_at hl 2 rfl) ?_
          refine x_shl1 hx hb dX7_kin_77 (by omega) (by omega) (by omega) (fun x77 e77 g77 h77 => ?_)
          have hF := bn hF e77
          refine x_ior hx hb dX7_kin_78 (fun x78 e78 => ?_)
          have hF := bn hF e78
          refine lv_goto (tgt := 97) hx hb dX7_kin_79 (by decide) ?_
          refine as_40 hx hb hK hT hS hq55 (by omega) (by omega) (gd177_m (by omega) (gd59_mf (by omega))) dX7_kin_97 (fun H locs hT hS => ?_)
          obtain ⟨σ97, hF, hfr, hT⟩ := wrL hF hfr hT
          refine lv_iload hx hb dX7_kin_98 (lv_at hl 4 rfl) ?_
          exact rt_i hx hb hr hlk hS ⟨σ97, hF, hfr, hT⟩ dX7_kin_100
      refine r_if_eq (tgt := 54) hx hb dX7_kin_34 (by decide) (fun c34 => ?_) (fun c34 => ?_)
      · have hF := ifp hF c34
        exact J54 ls _ _ σ hF hfr hT hS (lv_sub hl [1, 2, 3, 4, 0] rfl)
      · have hF := ifn hF c34
        refine lv_iload hx hb dX7_kin_37 (lv_at hl 0 rfl) ?_
        refine r_if_ne (tgt := 54) hx hb dX7_kin_39 (by decide) (fun c39 => ?_) (fun c39 => ?_)
        · have hF := ifn hF c39
          exact J54 ls _ _ σ hF hfr hT hS (lv_sub hl [1, 2, 3, 4, 0] rfl)
        · have hF := ifp hF c39
          refine lv_aload_n hx hb dX7_kin_42 rfl (lv_at hl 1 rfl) ?_
          obtain ⟨v43, hd43, -⟩ := bd0_s hF
          refine cl_Vi (rest := []) hC hK hSK (c_X7_kinMany l z σ h0 (o0) g0 v43 hd43) k_X7_kinMany mw_4_233 ⟨rfl, rfl, Nat.le_of_ble_eq_true rfl, Nat.le_of_ble_eq_true rfl⟩ (rv_Model hK hT g0) hT rfl hl.1 rfl (Nat.le_of_ble_eq_true rfl) dX7_kin_43 ⟨Nat.zero_le _, Nat.zero_le _⟩ hS (fun _ h => h) (fun _ _ h => h) (fun r43 H locs hpo hS => ?_)
          obtain ⟨he43, hT⟩ := hpo
          have hF := bd0_r hF hd43 he43
          refine r_bipush hx hb dX7_kin_46 rfl (fun x46 e46 => ?_)
          have hF := bn hF e46
          refine r_icmp_ne (tgt := 54) hx hb dX7_kin_48 (by decide) (fun c48 => ?_) (fun c48 => ?_)
          · have hF := ifn hF c48
            exact J54 ls _ _ σ hF hfr hT hS (lv_sub hl [1, 2, 3, 4, 0] rfl)
          · have hF := ifp hF c48
            refine r_bipush hx hb dX7_kin_51 rfl (fun x51 e51 => ?_)
            have hF := bn hF e51
            exact rt_i hx hb hr hlk hS ⟨σ, hF, hfr, hT⟩ dX7_kin_53
    · have hF := ifp hF c13
      refine r_iconst hx hb dX7_kin_16 (by decide) (by decide) (fun x16 e16 => ?_)
      have hF := bn hF e16
      exact rt_i hx hb hr hlk hS ⟨σ, hF, hfr, hT⟩ dX7_kin_17
