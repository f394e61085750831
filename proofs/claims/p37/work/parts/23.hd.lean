theorem k_X6_isNobody : cBV yX6_isNobody cX6_isNobody 2 (some .boolean) 1 := ⟨mw_2_227, ms_0_12, mw_1_1, mw_2_228, ⟨by decide, by decide, by decide⟩⟩
set_option maxHeartbeats 4000000 in
set_option maxRecDepth 100000 in
theorem c_X6_isNobody (l : Launch) (z : Zt) (σ : Sg) (h0 : Nat) (g0 : zG z h0 = (16, 0)) (p1 : Int32) (out : Int) (hF : D_X6_isNobody σ p1.toInt = some out) : Met l yX6_isNobody (uw yX6_isNobody cX6_isNobody 2 (some .boolean)) (rmF 1 64) (PcW z [.ref h0, .int p1] (fun H => TY z (zA z) σ H)) (QcI z (fun r H => some r.toInt = some out ∧ TY z (zA z) σ H ∧ (0 ≤ r.toInt ∧ r.toInt ≤ 1) ∧ (r.toInt = 0 → 0 ≤ p1.toInt ∧ p1.toInt ≤ 4))) 0 0 (zA z) := by
  refine Met.ofW (cc := cX6_isNobody) (maxL := 2) (ret := (some .boolean)) (by decide) rfl ?_
  intro p e s m args below meth c s₁ B hml hv
  obtain ⟨rfl, hT, hK, hSK⟩ := hv
  have hx := B.exec
  have hb := B.bytes
  have hr := B.returns
  have hts : ∀ w ∈ lw_ok, w.before ([.ref h0, .int p1] : List Value).toArray s = true := fun w hw => atoms_spec (ws := uw yX6_isNobody cX6_isNobody 2 (some .boolean)) B.pre w (List.mem_cons_of_mem _ hw)
  have hown : s.vm.findClass RX6 = some m.cls := findClass_of_methodNamed B.named
  have hlk := B.notSynchronized
  have hC : CallFix p m c cX6_isNobody 2 s ([.ref h0, .int p1] : List Value).toArray lw_ok RX6 := ⟨hx, hb, hml, hown, hts⟩
  have hS : va_S (zA z) s.heap s.heap [] := va_S.rf
  have hl := lv_entry ([.ref h0, .int p1]) (n := 2) (Nat.le_of_ble_eq_true rfl)
  rw [lg_entry_eq]
  generalize (lg_sl ([.ref h0, .int p1]) ++ List.replicate (2 - (lg_sl ([.ref h0, .int p1])).length) Slot.unset).toArray = ls at hl ⊢
  have hl : lv_has ls 2 [(0, .ref h0), (1, .int p1)] := hl
  show W p l e (rmF 1 64) s m ([.ref h0, .int p1] : List Value).toArray below meth c s.heap [] 0 0 (MQ below (QcI z (fun r H => some r.toInt = some out ∧ TY z (zA z) σ H ∧ (0 ≤ r.toInt ∧ r.toInt ≤ 1) ∧ (r.toInt = 0 → 0 ≤ p1.toInt ∧ p1.toInt ≤ 4))) ([.ref h0, .int p1] : List Value).toArray s 0 0 (zA z)) (F0 m 0 ls [])
  unfold D_X6_isNobody at hF
  have mx_p1 := i_mx p1
  refine lv_iload_n hx hb dX6_isNobody_0 rfl (lv_at hl 1 rfl) ?_
  have J18 : ∀ (ls : Array Slot) (H : Heap) (locs : List Loc), D_X6_isNobody_18 = some out → TY z (zA z) σ H → va_S (zA z) s.heap H locs → lv_has ls 2 [(0, .ref h0), (1, .int p1)] → W p l e (rmF 1 64) s m ([.ref h0, .int p1] : List Value).toArray below meth c H locs 0 0 (MQ below (QcI z (fun r H => some r.toInt = some out ∧ TY z (zA z) σ H ∧ (0 ≤ r.toInt ∧ r.toInt ≤ 1) ∧ (r.toInt = 0 → 0 ≤ p1.toInt ∧ p1.toInt ≤ 4))) ([.ref h0, .int p1] : List Value).toArray s 0 0 (zA z)) (F0 m 18 ls []) := by
    intro ls H locs hF hT hS hl
    unfold D_X6_isNobody_18 at hF
    refine r_iconst hx hb dX6_isNobody_18 (by decide) (by decide) (fun x18 e18 => ?_)
    have hF := bn hF e18
    refine lv_goto (tgt := 23) hx hb dX6_isNobody_19 (by decide) ?_
    exact rt_z hx hb hr hlk hS (by omega) (by omega) ⟨hF, hT, (by omega), (by omega)⟩ dX6_isNobody_23
  refine r_if_lt (tgt := 18) hx hb dX6_isNobody_1 (by decide) (fun c1 => ?_) (fun c1 => ?_)
  · have hF := ifp hF c1
    exact J18 ls _ _ hF hT hS (lv_sub hl [0, 1] rfl)
  · have hF := ifn hF (Int.not_lt.mpr c1)
    refine lv_iload_n hx hb dX6_isNobody_4 rfl (lv_at hl 1 rfl) ?_
    refine lv_aload_n hx hb dX6_isNobody_5 rfl (lv_at hl 0 rfl) ?_
    refine gt_HeelDance_now hx hb hts ic_HeelDance hown hK hT g0 (hts _ mw_2_8) dX6_isNobody_6 (fun q6 hq6 => ?_)
    refine gt_Evening_floor hx hb hts ic_Evening hown hK hT hq6 (hts _ mw_1_91) dX6_isNobody_9 (fun q9 hq9 => ?_)
    refine gt_Floor_men hx hb hts ic_Floor hown hK hT hq9 (hts _ mw_1_62) dX6_isNobody_12 (fun x12 e12 f12 g12 => ?_)
    have hF := bn hF e12
    refine r_icmp_lt (tgt := 22) hx hb dX6_isNobody_15 (by decide) (fun c15 => ?_) (fun c15 => ?_)
    · have hF := ifp hF c15
      refine r_iconst hx hb dX6_isNobody_22 (by decide) (by decide) (fun x22 e22 => ?_)
      have hF := bn hF e22
      exact rt_z hx hb hr hlk hS (by omega) (by omega) ⟨hF, hT, (by omega), (by omega)⟩ dX6_isNobody_23
    · have hF := ifn hF (Int.not_lt.mpr c15)
      exact J18 ls _ _ hF hT hS (lv_sub hl [0, 1] rfl)
theorem k_X6_isFigure : cBS yX6_isFigure cX6_isFigure 1 (some .boolean) 1 := ⟨mw_3_44, mw_1_1, mw_3_45, ⟨by decide, by decide, by decide⟩⟩
set_option maxHeartbeats 4000000 in
set_option maxRecDepth 100000 in
theorem c_X6_isFigure (l : Launch) (z : Zt) (σ : Sg) (p1 : Int32) (out : Int) (hF : D_X6_isFigure p1.toInt = some out) : Met l yX6_isFigure (uw yX6_isFigure cX6_isFigure 1 (some .boolean)) (rmF 1 64) (PcW z [.int p1] (fun H => TY z (zA z) σ H)) (QcI z (fun r H => some r.toInt = some out ∧ TY z (zA z) σ H ∧ (0 ≤ r.toInt ∧ r.toInt ≤ 1) ∧ (r.toInt ≠ 0 → 0 ≤ p1.toInt ∧ p1.toInt ≤ 3))) 0 0 (zA z) := by
  refine Met.ofW (cc := cX6_isFigure) (maxL := 1) (ret := (some .boolean)) (by decide) rfl ?_
  intro p e s m args below meth c s₁ B hml hv
  obtain ⟨rfl, hT, hK, hSK⟩ := hv
  have hx := B.exec
  have hb := B.bytes
  have hr := B.returns
  have hts : ∀ w ∈ lw_ok, w.before ([.int p1] : List Value).toArray s = true := fun w hw => atoms_spec (ws := uw yX6_isFigure cX6_isFigure 1 (some .boolean)) B.pre w (List.mem_cons_of_mem _ hw)
  have hown : s.vm.findClass RX6 = some m.cls := findClass_of_methodNamed B.named
  have hlk := B.notSynchronized
  have hC : CallFix p m c cX6_isFigure 1 s ([.int p1] : List Value).toArray lw_ok RX6 := ⟨hx, hb, hml, hown, hts⟩
  have hS : va_S (zA z) s.heap s.heap [] := va_S.rf
  have hl := lv_entry ([.int p1]) (n := 1) (Nat.le_of_ble_eq_true rfl)
  rw [lg_entry_eq]
  generalize (lg_sl ([.int p1]) ++ List.replicate (1 - (lg_sl ([.int p1])).length) Slot.unset).toArray = ls at hl ⊢
  have hl : lv_has ls 1 [(0, .int p1)] := hl
  show W p l e (rmF 1 64) s m ([.int p1] : List Value).toArray below meth c s.heap [] 0 0 (MQ below (QcI z (fun r H => some r.toInt = some out ∧ TY z (zA z) σ H ∧ (0 ≤ r.toInt ∧ r.toInt ≤ 1) ∧ (r.toInt ≠ 0 → 0 ≤ p1.toInt ∧ p1.toInt ≤ 3))) ([.int p1] : List Value).toArray s 0 0 (zA z)) (F0 m 0 ls [])
  unfold D_X6_isFigure at hF
  have mx_p1 := i_mx p1
  refine lv_iload_n hx hb dX6_isFigure_0 rfl (lv_at hl 0 rfl) ?_
  have J13 : ∀ (ls : Array Slot) (H : Heap) (locs : List Loc), D_X6_isFigure_13 = some out → TY z (zA z) σ H → va_S (zA z) s.heap H locs → lv_has ls 1 [(0, .int p1)] → W p l e (rmF 1 64) s m ([.int p1] : List Value).toArray below meth c H locs 0 0 (MQ below (QcI z (fun r H => some r.toInt = some out ∧ TY z (zA z) σ H ∧ (0 ≤ r.toInt ∧ r.toInt ≤ 1) ∧ (r.toInt ≠ 0 → 0 ≤ p1.toInt ∧ p1.toInt ≤ 3))) ([.int p1] : List Value).toArray s 0 0 (zA z)) (F0 m 13 ls []) := by
    intro ls H locs hF hT hS hl
    unfold D_X6_isFigure_13 at hF
    refine r_iconst hx hb dX6_isFigure_13 (by decide) (by decide) (fun x13 e13 => ?_)
    have hF := bn hF e13
    exact rt_z hx hb hr hlk hS (by omega) (by omega) ⟨hF, hT, (by omega), (by omega)⟩ dX6_isFigure_14
  refine r_if_lt (tgt := 13) hx hb dX6_isFigure_1 (by decide) (fun c1 => ?_) (fun c1 => ?_)
  · have hF := ifp hF c1
    exact J13 ls _ _ hF hT hS (lv_sub hl [0] rfl)
  · have hF := ifn hF (Int.not_lt.mpr c1)
    refine lv_iload_n hx hb dX6_isFigure_4 rfl (lv_at hl 0 rfl) ?_
    refine r_iconst hx hb dX6_isFigure_5 (by decide) (by decide) (fun x5 e5 => ?_)
    have hF := bn hF e5
    refine r_icmp_ge (tgt := 13) hx hb dX6_isFigure_6 (by decide) (fun c6 => ?_) (fun c6 => ?_)
    · have hF := ifn hF (Int.not_lt.mpr c6)
      exact J13 ls _ _ hF hT hS (lv_sub hl [0] rfl)
    · have hF := ifp hF c6
      refine r_iconst hx hb dX6_isFigure_9 (by decide) (by decide) (fun x9 e9 => ?_)
      have hF := bn hF e9
      refine lv_goto (tgt := 14) hx hb dX6_isFigure_10 (by decide) ?_
      exact rt_z hx hb hr hlk hS (by omega) (by omega) ⟨hF, hT, (by omega), (by omega)⟩ dX6_isFigure_14
theorem k_X6_isNoSheet : cBS yX6_isNoSheet cX6_isNoSheet 1 (some .boolean) 1 := ⟨mw_4_18, mw_1_1, mw_4_19, ⟨by decide, by decide, by decide⟩⟩
set_option maxHeartbeats 4000000 in
set_option maxRecDepth 100000 in
theorem c_X6_isNoSheet (l : Launch) (z : Zt) (σ : Sg) (p1 : Int32) (out : Int) (hF : D_X6_isNoSheet p1.toInt = some out) : Met l yX6_isNoSheet (uw yX6_isNoSheet cX6_isNoSheet 1 (some .boolean)) (rmF 1 64) (PcW z [.int p1] (fun H => TY z (zA z) σ H)) (QcI z (fun r H => some r.toInt = some out ∧ TY z (zA z) σ H ∧ (0 ≤ r.toInt ∧ r.toInt ≤ 1) ∧ (r.toInt = 0 → 0 ≤ p1.toInt ∧ p1.toInt ≤ 3))) 0 0 (zA z) := by
  refine Met.ofW (cc := cX6_isNoSheet) (maxL := 1) (ret := (some .boolean)) (by decide) rfl ?_
  intro p e s m args below meth c s₁ B hml hv
  obtain ⟨rfl, hT, hK, hSK⟩ := hv
  have hx := B.exec
  have hb := B.bytes
  have hr := B.returns
  have hts : ∀ w ∈ lw_ok, w.before ([.int p1] : List Value).toArray s = true := fun w hw => atoms_spec (ws := uw yX6_isNoSheet cX6_isNoSheet 1 (some .boolean)) B.pre w (List.mem_cons_of_mem _ hw)
  have hown : s.vm.findClass RX6 = some m.cls := findClass_of_methodNamed B.named
  have hlk := B.notSynchronized
  have hC : CallFix p m c cX6_isNoSheet 1 s ([.int p1] : List Value).toArray lw_ok RX6 := ⟨hx, hb, hml, hown, hts⟩
  have hS : va_S (zA z) s.heap s.heap [] := va_S.rf
  have hl := lv_entry ([.int p1]) (n := 1) (Nat.le_of_ble_eq_true rfl)
  rw [lg_entry_eq]
  generalize (lg_sl ([.int p1]) ++ List.replicate (1 - (lg_sl ([.int p1])).length) Slot.unset).toArray = ls at hl ⊢
  have hl : lv_has ls 1 [(0, .int p1)] := hl
  show W p l e (rmF 1 64) s m ([.int p1] : List Value).toArray below meth c s.heap [] 0 0 (MQ below (QcI z (fun r H => some r.toInt = some out ∧ TY z (zA z) σ H ∧ (0 ≤ r.toInt ∧ r.toInt ≤ 1) ∧ (r.toInt = 0 → 0 ≤ p1.toInt ∧ p1.toInt ≤ 3))) ([.int p1] : List Value).toArray s 0 0 (zA z)) (F0 m 0 ls [])
  unfold D_X6_isNoSheet at hF
  have mx_p1 := i_mx p1
  refine lv_iload_n hx hb dX6_isNoSheet_0 rfl (lv_at hl 0 rfl) ?_
  refine r_if_lt (tgt := 9) hx hb dX6_isNoSheet_1 (by decide) (fun c1 => ?_) (fun c1 => ?_)
  · have hF := ifp hF c1
    refine r_iconst hx hb dX6_isNoSheet_9 (by decide) (by decide) (fun x9 e9 => ?_)
    have hF := bn hF e9
    refine lv_goto (tgt := 14) hx hb dX6_isNoSheet_10 (by decide) ?_
    exact rt_z hx hb hr hlk hS (by omega) (by omega) ⟨hF, hT, (by omega), (by omega)⟩ dX6_isNoSheet_14
  · have hF := ifn hF (Int.not_lt.mpr c1)
    refine lv_iload_n hx hb dX6_isNoSheet_4 rfl (lv_at hl 0 rfl) ?_
    refine r_iconst hx hb dX6_isNoSheet_5 (by decide) (by decide) (fun x5 e5 => ?_)
    have hF := bn hF e5
    refine r_icmp_lt (tgt := 13) hx hb dX6_isNoSheet_6 (by decide) (fun c6 => ?_) (fun c6 => ?_)
    · have hF := ifp hF c6
      refine r_iconst hx hb dX6_isNoSheet_13 (by decide) (by decide) (fun x13 e13 => ?_)
      have hF := bn hF e13
      exact rt_z hx hb hr hlk hS (by omega) (by omega) ⟨hF, hT, (by omega), (by omega)⟩ dX6_isNoSheet_14
    · have hF := ifn hF (Int.not_lt.mpr c6)
      refine r_iconst hx hb dX6_isNoSheet_9 (by decide) (by decide) (fun x9 e9 => ?_)
      have hF := bn hF e9
      refine lv_goto (tgt := 14) hx hb dX6_isNoSheet_10 (by decide) ?_
      exact rt_z hx hb hr hlk hS (by omega) (by omega) ⟨hF, hT, (by omega), (by omega)⟩ dX6_isNoSheet_14
theorem k_X6_isNoLane : cBS yX6_isNoLane cX6_isNoLane 1 (some .boolean) 1 := ⟨mw_4_21, mw_1_1, mw_4_22, ⟨by decide, by decide, by decide⟩⟩
set_option maxHeartbeats 4000000 in
set_option maxRecDepth 100000 in
theorem c_X6_isNoLane (l : Launch) (z : Zt) (σ : Sg) (p1 : Int32) (out : Int) (hF : D_X6_isNoLane p1.toInt = some out) : Met l yX6_isNoLane (uw yX6_isNoLane cX6_isNoLane 1 (some .boolean)) (rmF 1 64) (PcW z [.int p1] (fun H => TY z (zA z) σ H)) (QcI z (fun r H => some r.toInt = some out ∧ TY z (zA z) σ H ∧ (0 ≤ r.toInt ∧ r.toInt ≤ 1) ∧ (r.toInt = 0 → 0 ≤ p1.toInt ∧ p1.toInt ≤ 2))) 0 0 (zA z) := by
  refine Met.ofW (cc := cX6_isNoLane) (maxL := 1) (ret := (some .boolean)) (by decide) rfl ?_
  intro p e s m args below meth c s₁ B hml hv
  obtain ⟨rfl, hT, hK, hSK⟩ := hv
  have hx := B.exec
  have hb := B.bytes
  have hr := B.returns
  have hts : ∀ w ∈ lw_ok, w.before ([.int p1] : List Value).toArray s = true := fun w hw => atoms_spec (ws := uw yX6_isNoLane cX6_isNoLane 1 (some .boolean)) B.pre w (List.mem_cons_of_mem _ hw)
  have hown : s.vm.findClass RX6 = some m.cls := findClass_of_methodNamed B.named
  have hlk := B.notSynchronized
  have hC : CallFix p m c cX6_isNoLane 1 s ([.int p1] : List Value).toArray lw_ok RX6 := ⟨hx, hb, hml, hown, hts⟩
  have hS : va_S (zA z) s.heap s.heap [] := va_S.rf
  have hl := lv_entry ([.int p1]) (n := 1) (Nat.le_of_ble_eq_true rfl)
  rw [lg_entry_eq]
  generalize (lg_sl ([.int p1]) ++ List.replicate (1 - (lg_sl ([.int p1])).length) Slot.unset).toArray = ls at hl ⊢
  have hl : lv_has ls 1 [(0, .int p1)] := hl
  show W p l e (rmF 1 64) s m ([.int p1] : List Value).toArray below meth c s.heap [] 0 0 (MQ below (QcI z (fun r H => some r.toInt = some out ∧ TY z (zA z) σ H ∧ (0 ≤ r.toInt ∧ r.toInt ≤ 1) ∧ (r.toInt = 0 → 0 ≤ p1.toInt ∧ p1.toInt ≤ 2))) ([.int p1] : List Value).toArray s 0 0 (zA z)) (F0 m 0 ls [])
  unfold D_X6_isNoLane at hF
  have mx_p1 := i_mx p1
  refine lv_iload_n hx hb dX6_isNoLane_0 rfl (lv_at hl 0 rfl) ?_
  refine r_if_lt (tgt := 9) hx hb dX6_isNoLane_1 (by decide) (fun c1 => ?_) (fun c1 => ?_)
  · have hF := ifp hF c1
    refine r_iconst hx hb dX6_isNoLane_9 (by decide) (by decide) (fun x9 e9 => ?_)
    have hF := bn hF e9
    refine lv_goto (tgt := 14) hx hb dX6_isNoLane_10 (by decide) ?_
    exact rt_z hx hb hr hlk hS (by omega) (by omega) ⟨hF, hT, (by omega), (by omega)⟩ dX6_isNoLane_14
  · have hF := ifn hF (Int.not_lt.mpr c1)
    refine lv_iload_n hx hb dX6_isNoLane_4 rfl (lv_at hl 0 rfl) ?_
    refine r_iconst hx hb dX6_isNoLane_5 (by decide) (by decide) (fun x5 e5 => ?_)
    have hF := bn hF e5
    refine r_icmp_lt (tgt := 13) hx hb dX6_isNoLane_6 (by decide) (fun c6 => ?_) (fun c6 => ?_)
    · have hF := ifp hF c6
      refine r_iconst hx hb dX6_isNoLane_13 (by decide) (by decide) (fun x13 e13 => ?_)
      have hF := bn hF e13
      exact rt_z hx hb hr hlk hS (by omega) (by omega) ⟨hF, hT, (by omega), (by omega)⟩ dX6_isNoLane_14
    · have hF := ifn hF (Int.not_lt.mpr c6)
      refine r_iconst hx hb dX6_isNoLane_9 (by decide) (by decide) (fun x9 e9 => ?_)
      have hF := bn hF e9
      refine lv_goto (tgt := 14) hx hb dX6_isNoLane_10 (by decide) ?_
      exact rt_z hx hb hr hlk hS (by omega) (by omega) ⟨hF, hT, (by omega), (by omega)⟩ dX6_isNoLane_14
theorem k_X6_feed : cBV yX6_feed cX6_feed 2 (some .int) 1 := ⟨mw_2_36, mw_2_37, mw_1_1, mw_2_38, ⟨by decide, by decide, by decide⟩⟩
set_option maxHeartbeats 4000000 in
set_option maxRecDepth 100000 in
theorem c_X6_feed (l : Launch) (z : Zt) (σ : Sg) (h0 : Nat) (g0 : zG z h0 = (16, 0)) (p1 : Int32) (out : (Int × Sg)) (hF : D_X6_feed σ p1.toInt = some out) : Met l yX6_feed (uw yX6_feed cX6_feed 2 (some .int)) (rmF 1 64) (PcW z [.ref h0, .int p1] (fun H => TY z (zA z) σ H)) (QcI z (fun r H => ∃ σ' : Sg, some (r.toInt, σ') = some out ∧ TY z (zA z) σ' H)) 0 0 (zA z) := by
  refine Met.ofW (cc := cX6_feed) (maxL := 2) (ret := (some .int)) (by decide) rfl ?_
  intro p e s m args below meth c s₁ B hml hv
  obtain ⟨rfl, hT, hK, hSK⟩ := hv
  have hx := B.exec
  have hb := B.bytes
  have hr := B.returns
  have hts : ∀ w ∈ lw_ok, w.before ([.ref h0, .int p1] : List Value).toArray s = true := fun w hw => atoms_spec (ws := uw yX6_feed cX6_feed 2 (some .int)) B.pre w (List.mem_cons_of_mem _ hw)
  have hown : s.vm.findClass RX6 = some m.cls := findClass_of_methodNamed B.named
  have hlk := B.notSynchronized
  have hC : CallFix p m c cX6_feed 2 s ([.ref h0, .int p1] : List Value).toArray lw_ok RX6 := ⟨hx, hb, hml, hown, hts⟩
  have hS : va_S (zA z) s.heap s.heap [] := va_S.rf
  have hl := lv_entry ([.ref h0, .int p1]) (n := 2) (Nat.le_of_ble_eq_true rfl)
  rw [lg_entry_eq]
  generalize (lg_sl ([.ref h0, .int p1]) ++ List.replicate (2 - (lg_sl ([.ref h0, .int p1])).length) Slot.unset).toArray = ls at hl ⊢
  have hl : lv_has ls 2 [(0, .ref h0), (1, .int p1)] := hl
  show W p l e (rmF 1 64) s m ([.ref h0, .int p1] : List Value).toArray below meth c s.heap [] 0 0 (MQ below (QcI z (fun r H => ∃ σ' : Sg, some (r.toInt, σ') = some out ∧ TY z (zA z) σ' H)) ([.ref h0, .int p1] : List Value).toArray s 0 0 (zA z)) (F0 m 0 ls [])
  unfold D_X6_feed at hF
  have mx_p1 := i_mx p1
  refine lv_iload_n hx hb dX6_feed_0 rfl (lv_at hl 1 rfl) ?_
  refine r_if_lt (tgt := 10) hx hb dX6_feed_1 (by decide) (fun c1 => ?_) (fun c1 => ?_)
  · have hF := ifp hF c1
    refine r_iconst hx hb dX6_feed_10 (by decide) (by decide) (fun x10 e10 => ?_)
    have hF := bn hF e10
    exact rt_i hx hb hr hlk hS ⟨σ, hF, hT⟩ dX6_feed_11
  · have hF := ifn hF (Int.not_lt.mpr c1)
    refine lv_iload_n hx hb dX6_feed_4 rfl (lv_at hl 1 rfl) ?_
    refine r_bipush hx hb dX6_feed_5 rfl (fun x5 e5 => ?_)
    have hF := bn hF e5
    refine r_icmp_le (tgt := 12) hx hb dX6_feed_7 (by decide) (fun c7 => ?_) (fun c7 => ?_)
    · have hF := ifn hF (Int.not_lt.mpr c7)
      refine lv_aload_n hx hb dX6_feed_12 rfl (lv_at hl 0 rfl) ?_
      refine gt_HeelDance_tape hx hb hts ic_HeelDance hown hK hT g0 (hts _ mw_2_7) dX6_feed_13 (fun q13 hq13 => ?_)
      refine gt_Tape_length hx hb hts ic_Tape hown hK hT hq13 (hts _ mw_1_133) dX6_feed_16 (fun x16 e16 f16 g16 => ?_)
      have hF := bn hF e16
      refine r_sipush hx hb dX6_feed_19 rfl (fun x19 e19 => ?_)
      have hF := bn hF e19
      refine r_icmp_lt (tgt := 28) hx hb dX6_feed_22 (by decide) (fun c22 => ?_) (fun c22 => ?_)
      · have hF := ifp hF c22
        refine lv_aload_n hx hb dX6_feed_28 rfl (lv_at hl 0 rfl) ?_
        refine gt_HeelDance_tape hx hb hts ic_HeelDance hown hK hT g0 (hts _ mw_2_7) dX6_feed_29 (fun q29 hq29 => ?_)
        refine gt_Tape_bytes hx hb hts ic_Tape hown hK hT hq29 (hts _ mw_1_130) dX6_feed_32 (fun q32 hq32 => ?_)
        refine lv_aload_n hx hb dX6_feed_35 rfl (lv_at hl 0 rfl) ?_
        refine gt_HeelDance_tape hx hb hts ic_HeelDance hown hK hT g0 (hts _ mw_2_7) dX6_feed_36 (fun q36 hq36 => ?_)
        refine gt_Tape_length hx hb hts ic_Tape hown hK hT hq36 (hts _ mw_1_133) dX6_feed_39 (fun x39 e39 f39 g39 => ?_)
        have hF := bn hF e39
        refine lv_iload_n hx hb dX6_feed_42 rfl (lv_at hl 1 rfl) ?_
        obtain ⟨kb43, hF⟩ := ck hF
        refine as_30 hx hb hK hT hS hq32 (by omega) (by omega) ⟨by omega, by omega⟩ dX6_feed_43 (fun H locs hT hS => ?_)
        obtain ⟨σ43, hF, hT⟩ := wrG hF hT
        refine lv_aload_n hx hb dX6_feed_44 rfl (lv_at hl 0 rfl) ?_
        refine gt_HeelDance_tape hx hb hts ic_HeelDance hown hK hT g0 (hts _ mw_2_7) dX6_feed_45 (fun q45 hq45 => ?_)
        refine lv_dup hx hb dX6_feed_48 rfl ?_
        refine gt_Tape_length hx hb hts ic_Tape hown hK hT hq45 (hts _ mw_1_133) dX6_feed_49 (fun x49 e49 f49 g49 => ?_)
        have hF := bn hF e49
        refine r_iconst hx hb dX6_feed_52 (by decide) (by decide) (fun x52 e52 => ?_)
        have hF := bn hF e52
        refine r_iadd hx hb dX6_feed_53 (by omega) (by omega) (fun x53 e53 => ?_)
        have hF := bn hF e53
        obtain ⟨k54, hF⟩ := ck hF
        refine pt_Tape_length hx hb hts ic_Tape hown hK hT hS hq45 (hts _ mw_1_133) (by omega) (by omega) dX6_feed_54 (fun H locs hT hS => ?_)
        obtain ⟨σ54, hF, hT⟩ := wrG hF hT
        refine lv_aload_n hx hb dX6_feed_57 rfl (lv_at hl 0 rfl) ?_
        refine gt_HeelDance_tape hx hb hts ic_HeelDance hown hK hT g0 (hts _ mw_2_7) dX6_feed_58 (fun q58 hq58 => ?_)
        refine gt_Tape_length hx hb hts ic_Tape hown hK hT hq58 (hts _ mw_1_133) dX6_feed_61 (fun x61 e61 f61 g61 => ?_)
        have hF := bn hF e61
        exact rt_i hx hb hr hlk hS ⟨σ54, hF, hT⟩ dX6_feed_64
      · have hF := ifn hF (Int.not_lt.mpr c22)
        refine r_bipush hx hb dX6_feed_25 rfl (fun x25 e25 => ?_)
        have hF := bn hF e25
        exact rt_i hx hb hr hlk hS ⟨σ, hF, hT⟩ dX6_feed_27
    · have hF := ifp hF c7
      refine r_iconst hx hb dX6_feed_10 (by decide) (by decide) (fun x10 e10 => ?_)
      have hF := bn hF e10
      exact rt_i hx hb hr hlk hS ⟨σ, hF, hT⟩ dX6_feed_11
theorem k_X6_end : cBV yX6_end cX6_end 3 (some .int) 1 := ⟨mw_2_40, mw_2_41, mw_1_1, mw_2_42, ⟨by decide, by decide, by decide⟩⟩
set_option maxHeartbeats 4000000 in
set_option maxRecDepth 100000 in
theorem c_X6_end (l : Launch) (z : Zt) (σ : Sg) (h0 : Nat) (g0 : zG z h0 = (16, 0)) (p1 : Int32) (out : (Int × Sg)) (hF : D_X6_end σ p1.toInt = some out) : Met l yX6_end (uw yX6_end cX6_end 3 (some .int)) (rmF 1 64) (PcW z [.ref h0, .int p1] (fun H => TY z (zA z) σ H)) (QcI z (fun r H => ∃ σ' : Sg, some (r.toInt, σ') = some out ∧ TY z (zA z) σ' H)) 0 0 (zA z) := by
  refine Met.ofW (cc := cX6_end) (maxL := 3) (ret := (some .int)) (by decide) rfl ?_
  intro p e s m args below meth c s₁ B hml hv
  obtain ⟨rfl, hT, hK, hSK⟩ := hv
  have hx := B.exec
  have hb := B.bytes
  have hr := B.returns
  have hts : ∀ w ∈ lw_ok, w.before ([.ref h0, .int p1] : List Value).toArray s = true := fun w hw => atoms_spec (ws := uw yX6_end cX6_end 3 (some .int)) B.pre w (List.mem_cons_of_mem _ hw)
  have hown : s.vm.findClass RX6 = some m.cls := findClass_of_methodNamed B.named
  have hlk := B.notSynchronized
  have hC : CallFix p m c cX6_end 3 s ([.ref h0, .int p1] : List Value).toArray lw_ok RX6 := ⟨hx, hb, hml, hown, hts⟩
  have hS : va_S (zA z) s.heap s.heap [] := va_S.rf
  have hl := lv_entry ([.ref h0, .int p1]) (n := 3) (Nat.le_of_ble_eq_true rfl)
  rw [lg_entry_eq]
  generalize (lg_sl ([.ref h0, .int p1]) ++ List.replicate (3 - (lg_sl ([.ref h0, .int p1])).length) Slot.unset).toArray = ls at hl ⊢
  have hl : lv_has ls 3 [(0, .ref h0), (1, .int p1)] := hl
  show W p l e (rmF 1 64) s m ([.ref h0, .int p1] : List Value).toArray below meth c s.heap [] 0 0 (MQ below (QcI z (fun r H => ∃ σ' : Sg, some (r.toInt, σ') = some out ∧ TY z (zA z) σ' H)) ([.ref h0, .int p1] : List Value).toArray s 0 0 (zA z)) (F0 m 0 ls [])
  unfold D_X6_end at hF
  have mx_p1 := i_mx p1
  refine lv_iload_n hx hb dX6_end_0 rfl (lv_at hl 1 rfl) ?_
  refine r_if_lt (tgt := 15) hx hb dX6_end_1 (by decide) (fun c1 => ?_) (fun c1 => ?_)
  · have hF := ifp hF c1
    refine r_iconst hx hb dX6_end_15 (by decide) (by decide) (fun x15 e15 => ?_)
    have hF := bn hF e15
    exact rt_i hx hb hr hlk hS ⟨σ, hF, hT⟩ dX6_end_16
  · have hF := ifn hF (Int.not_lt.mpr c1)
    refine lv_iload_n hx hb dX6_end_4 rfl (lv_at hl 1 rfl) ?_
    refine lv_aload_n hx hb dX6_end_5 rfl (lv_at hl 0 rfl) ?_
    refine gt_HeelDance_tape hx hb hts ic_HeelDance hown hK hT g0 (hts _ mw_2_7) dX6_end_6 (fun q6 hq6 => ?_)
    refine gt_Tape_length hx hb hts ic_Tape hown hK hT hq6 (hts _ mw_1_133) dX6_end_9 (fun x9 e9 f9 g9 => ?_)
    have hF := bn hF e9
    refine r_icmp_le (tgt := 17) hx hb dX6_end_12 (by decide) (fun c12 => ?_) (fun c12 => ?_)
    · have hF := ifn hF (Int.not_lt.mpr c12)
      refine lv_aload_n hx hb dX6_end_17 rfl (lv_at hl 0 rfl) ?_
      refine gt_HeelDance_tape hx hb hts ic_HeelDance hown hK hT g0 (hts _ mw_2_7) dX6_end_18 (fun q18 hq18 => ?_)
      refine gt_Tape_length hx hb hts ic_Tape hown hK hT hq18 (hts _ mw_1_133) dX6_end_21 (fun x21 e21 f21 g21 => ?_)
      have hF := bn hF e21
      refine lv_istore_n (lv' := [(2, .int x21), (0, .ref h0), (1, .int p1)]) hx hb dX6_end_24 rfl hl (by decide) rfl (fun ls hl => ?_)
      refine lv_aload_n hx hb dX6_end_25 rfl (lv_at hl 1 rfl) ?_
      refine gt_HeelDance_tape hx hb hts ic_HeelDance hown hK hT g0 (hts _ mw_2_7) dX6_end_26 (fun q26 hq26 => ?_)
      refine lv_iload_n hx hb dX6_end_29 rfl (lv_at hl 2 rfl) ?_
      refine pt_Tape_length hx hb hts ic_Tape hown hK hT hS hq26 (hts _ mw_1_133) (by omega) (by omega) dX6_end_30 (fun H locs hT hS => ?_)
      obtain ⟨σ30, hF, hT⟩ := wrG hF hT
      refine lv_iload_n hx hb dX6_end_33 rfl (lv_at hl 0 rfl) ?_
      exact rt_i hx hb hr hlk hS ⟨σ30, hF, hT⟩ dX6_end_34
    · have hF := ifp hF c12
      refine r_iconst hx hb dX6_end_15 (by decide) (by decide) (fun x15 e15 => ?_)
      have hF := bn hF e15
      exact rt_i hx hb hr hlk hS ⟨σ, hF, hT⟩ dX6_end_16
theorem k_X6_text : cBV yX6_text cX6_text 3 (some .int) 0 := ⟨mw_2_44, mw_2_45, mw_1_1, mw_2_46, ⟨by decide, by decide, by decide⟩⟩
set_option maxHeartbeats 4000000 in
set_option maxRecDepth 100000 in
theorem c_X6_text (l : Launch) (z : Zt) (σ : Sg) (h0 : Nat) (g0 : zG z h0 = (16, 0)) (out : (Int × Sg)) (hF : D_X6_text σ = some out) : Met l yX6_text (uw yX6_text cX6_text 3 (some .int)) (rmF 10 345) (PcW z [.ref h0] (fun H => TY z (zA z) σ H)) (QcI z (fun r H => ∃ σ' : Sg, some (r.toInt, σ') = some out ∧ TY z (zA z) σ' H)) 0 0 (zA z) := by
  refine Met.ofW (cc := cX6_text) (maxL := 3) (ret := (some .int)) (by decide) rfl ?_
  intro p e s m args below meth c s₁ B hml hv
  obtain ⟨rfl, hT, hK, hSK⟩ := hv
  have hx := B.exec
  have hb := B.bytes
  have hr := B.returns
  have hts : ∀ w ∈ lw_ok, w.before ([.ref h0] : List Value).toArray s = true := fun w hw => atoms_spec (ws := uw yX6_text cX6_text 3 (some .int)) B.pre w (List.mem_cons_of_mem _ hw)
  have hown : s.vm.findClass RX6 = some m.cls := findClass_of_methodNamed B.named
  have hlk := B.notSynchronized
  have hC : CallFix p m c cX6_text 3 s ([.ref h0] : List Value).toArray lw_ok RX6 := ⟨hx, hb, hml, hown, hts⟩
  have hS : va_S (zA z) s.heap s.heap [] := va_S.rf
  have hl := lv_entry ([.ref h0]) (n := 3) (Nat.le_of_ble_eq_true rfl)
  rw [lg_entry_eq]
  generalize (lg_sl ([.ref h0]) ++ List.replicate (3 - (lg_sl ([.ref h0])).length) Slot.unset).toArray = ls at hl ⊢
  have hl : lv_has ls 3 [(0, .ref h0)] := hl
  show W p l e (rmF 10 345) s m ([.ref h0] : List Value).toArray below meth c s.heap [] 0 0 (MQ below (QcI z (fun r H => ∃ σ' : Sg, some (r.toInt, σ') = some out ∧ TY z (zA z) σ' H)) ([.ref h0] : List Value).toArray s 0 0 (zA z)) (F0 m 0 ls [])
  unfold D_X6_text at hF
  refine lv_aload_n hx hb dX6_text_0 rfl (lv_at hl 0 rfl) ?_
  refine gt_HeelDance_tape hx hb hts ic_HeelDance hown hK hT g0 (hts _ mw_2_7) dX6_text_1 (fun q1 hq1 => ?_)
  obtain ⟨v4, s4, hd4, -⟩ := bd2_s hF
  refine cl_Vi (rest := []) hC hK hSK (c_X4_wholeText l z σ q1 (2) hq1 (v4, s4) hd4) k_X4_wholeText mw_2_47 ⟨rfl, rfl, Nat.le_of_ble_eq_true rfl, Nat.le_of_ble_eq_true rfl⟩ (rv_Tape hK hT hq1) hT rfl hl.1 rfl (Nat.le_of_ble_eq_true rfl) dX6_text_4 ⟨Nat.zero_le _, Nat.zero_le _⟩ hS (fun _ h => h) (fun _ _ h => h) (fun r4 H locs hpo hS => ?_)
  obtain ⟨σ4, he4, hf4, hT, u4_0⟩ := hpo
  have hF := bd2_r hF hd4 he4
  have hF := gsL hF hf4
  refine lv_istore_n (lv' := [(1, .int r4), (0, .ref h0)]) hx hb dX6_text_7 rfl hl (by decide) rfl (fun ls hl => ?_)
  refine lv_aload_n hx hb dX6_text_8 rfl (lv_at hl 1 rfl) ?_
  refine lv_aload_n hx hb dX6_text_9 rfl (lv_at hl 1 rfl) ?_
  refine gt_HeelDance_tape hx hb hts ic_HeelDance hown hK hT g0 (hts _ mw_2_7) dX6_text_10 (fun q10 hq10 => ?_)
  refine gt_Tape_faultFound hx hb hts ic_Tape hown hK hT hq10 (hts _ mw_1_136) dX6_text_13 (fun x13 e13 f13 g13 => ?_)
  have hF := bn hF e13
  refine pt_HeelDance_latestFault hx hb hts ic_HeelDance hown hK hT hS g0 (hts _ mw_2_14) (by omega) (by omega) dX6_text_16 (fun H locs hT hS => ?_)
  obtain ⟨σ16, hF, hT⟩ := wrG hF hT
  refine lv_aload_n hx hb dX6_text_19 rfl (lv_at hl 1 rfl) ?_
  refine gt_HeelDance_tape hx hb hts ic_HeelDance hown hK hT g0 (hts _ mw_2_7) dX6_text_20 (fun q20 hq20 => ?_)
  refine r_iconst hx hb dX6_text_23 (by decide) (by decide) (fun x23 e23 => ?_)
  have hF := bn hF e23
  refine pt_Tape_length hx hb hts ic_Tape hown hK hT hS hq20 (hts _ mw_1_133) (by omega) (by omega) dX6_text_24 (fun H locs hT hS => ?_)
  obtain ⟨σ24, hF, hT⟩ := wrG hF hT
  refine lv_aload_n hx hb dX6_text_27 rfl (lv_at hl 1 rfl) ?_
  refine gt_HeelDance_latestFault hx hb hts ic_HeelDance hown hK hT g0 (hts _ mw_2_14) dX6_text_28 (fun x28 e28 f28 g28 => ?_)
  have hF := bn hF e28
  refine r_if_eq (tgt := 45) hx hb dX6_text_31 (by decide) (fun c31 => ?_) (fun c31 => ?_)
  · have hF := ifp hF c31
    refine lv_aload_n hx hb dX6_text_45 rfl (lv_at hl 1 rfl) ?_
    refine gt_HeelDance_now hx hb hts ic_HeelDance hown hK hT g0 (hts _ mw_2_8) dX6_text_46 (fun q46 hq46 => ?_)
    refine lv_aload_n hx hb dX6_text_49 rfl (lv_at hl 1 rfl) ?_
    refine gt_HeelDance_tape hx hb hts ic_HeelDance hown hK hT g0 (hts _ mw_2_7) dX6_text_50 (fun q50 hq50 => ?_)
    refine gt_Tape_draft hx hb hts ic_Tape hown hK hT hq50 (hts _ mw_1_132) dX6_text_53 (fun q53 hq53 => ?_)
    obtain ⟨s56, hd56, -⟩ := bd1_s hF
    refine cl_Vv (rest := []) hC hK hSK (c_X0_copyFrom l z σ24 q46 (1) hq46 q53 (2) hq53 s56 hd56) k_X0_copyFrom mw_2_196 ⟨rfl, rfl, Nat.le_of_ble_eq_true rfl, Nat.le_of_ble_eq_true rfl⟩ (rv_Evening hK hT hq46) hT rfl hl.1 rfl (Nat.le_of_ble_eq_true rfl) dX6_text_56 ⟨Nat.zero_le _, Nat.zero_le _⟩ hS (fun _ h => h) (fun _ _ h => h) (fun H locs hpo hS => ?_)
    obtain ⟨σ56, he56, hT⟩ := hpo
    have hF := bd1_r hF hd56 he56
    refine r_iconst hx hb dX6_text_59 (by decide) (by decide) (fun x59 e59 => ?_)
    have hF := bn hF e59
    refine lv_istore_n (lv' := [(2, .int x59), (1, .int r4), (0, .ref h0)]) hx hb dX6_text_60 rfl hl (by decide) rfl (fun ls hl => ?_)
    have J61 : ∀ (n61 : Nat) (ls : Array Slot) (H : Heap) (locs : List Loc) (y61_2 : Int32) (σj61 : Sg), (0 ≤ y61_2.toInt ∧ y61_2.toInt ≤ 2) → D_X6_text_61 r4.toInt n61 σj61 y61_2.toInt = some out → TY z (zA z) σj61 H → va_S (zA z) s.heap H locs → lv_has ls 3 [(0, .ref h0), (1, .int r4), (2, .int y61_2)] → W p l e (rmF 10 345) s m ([.ref h0] : List Value).toArray below meth c H locs 0 0 (MQ below (QcI z (fun r H => ∃ σ' : Sg, some (r.toInt, σ') = some out ∧ TY z (zA z) σ' H)) ([.ref h0] : List Value).toArray s 0 0 (zA z)) (F0 m 61 ls []) := by
      intro n61
      induction n61 with
      | zero => intro ls H locs y61_2 σj61 j61_y61_2 hF hT hS hl; exact (no_s hF).elim
      | succ n61 ih61 =>
        intro ls H locs y61_2 σj61 j61_y61_2 hF hT hS hl
        rw [D_X6_text_61.eq_2] at hF
        refine lv_iload_n hx hb dX6_text_61 rfl (lv_at hl 2 rfl) ?_
        refine r_iconst hx hb dX6_text_62 (by decide) (by decide) (fun x62 e62 => ?_)
        have hF := bn hF e62
        refine r_icmp_ge (tgt := 79) hx hb dX6_text_63 (by decide) (fun c63 => ?_) (fun c63 => ?_)
        · have hF := ifn hF (Int.not_lt.mpr c63)
          refine lv_iload_n hx hb dX6_text_79 rfl (lv_at hl 1 rfl) ?_
          exact rt_i hx hb hr hlk hS ⟨σj61, hF, hT⟩ dX6_text_80
        · have hF := ifp hF c63
          refine lv_aload_n hx hb dX6_text_66 rfl (lv_at hl 0 rfl) ?_
          refine gt_HeelDance_kept hx hb hts ic_HeelDance hown hK hT g0 (hts _ mw_2_10) dX6_text_67 (fun q67 hq67 => ?_)
          refine lv_iload_n hx hb dX6_text_70 rfl (lv_at hl 2 rfl) ?_
          refine r_iconst hx hb dX6_text_71 (by decide) (by decide) (fun x71 e71 => ?_)
          have hF := bn hF e71
          refine as_33 hx hb hK hT hS hq67 (by omega) (by omega) ⟨by omega, by omega⟩ dX6_text_72 (fun H locs hT hS => ?_)
          obtain ⟨σ72, hF, hT⟩ := wrG hF hT
          refine r_iinc (lv' := fun v__ => [(2, .int v__), (0, .ref h0), (1, .int r4)]) hx hb dX6_text_73 hl (k := 2) rfl (by decide) (fun _ => rfl) ⟨by decide, by decide⟩ (by omega) (by omega) (fun x73 ls e73 hl => ?_)
          have hF := bn hF e73
          refine lv_goto (tgt := 61) hx hb dX6_text_76 (by decide) ?_
          exact ih61 ls _ _ x73 σ72 (by omega) hF hT hS (lv_sub hl [1, 2, 0] rfl)
    exact J61 5000 ls _ _ x59 σ56 (by omega) hF hT hS (lv_sub hl [2, 1, 0] rfl)
  · have hF := ifn hF c31
    refine r_bipush hx hb dX6_text_34 rfl (fun x34 e34 => ?_)
    have hF := bn hF e34
    refine lv_aload_n hx hb dX6_text_36 rfl (lv_at hl 1 rfl) ?_
    refine gt_HeelDance_tape hx hb hts ic_HeelDance hown hK hT g0 (hts _ mw_2_7) dX6_text_37 (fun q37 hq37 => ?_)
    refine gt_Tape_place hx hb hts ic_Tape hown hK hT hq37 (hts _ mw_1_138) dX6_text_40 (fun x40 e40 f40 g40 => ?_)
    have hF := bn hF e40
    refine r_isub hx hb dX6_text_43 (by omega) (by omega) (fun x43 e43 => ?_)
    have hF := bn hF e43
    exact rt_i hx hb hr hlk hS ⟨σ24, hF, hT⟩ dX6_text_44
theorem k_X6_fault : cBV yX6_fault cX6_fault 1 (some .int) 0 := ⟨mw_2_209, mw_2_210, mw_1_1, mw_2_211, ⟨by decide, by decide, by decide⟩⟩
set_option maxHeartbeats 4000000 in
set_option maxRecDepth 100000 in
theorem c_X6_fault (l : Launch) (z : Zt) (σ : Sg) (h0 : Nat) (g0 : zG z h0 = (16, 0)) (out : Int) (hF : D_X6_fault σ = some out) : Met l yX6_fault (uw yX6_fault cX6_fault 1 (some .int)) (rmF 1 64) (PcW z [.ref h0] (fun H => TY z (zA z) σ H)) (QcI z (fun r H => some r.toInt = some out ∧ TY z (zA z) σ H)) 0 0 (zA z) := by
  refine Met.ofW (cc := cX6_fault) (maxL := 1) (ret := (some .int)) (by decide) rfl ?_
  intro p e s m args below meth c s₁ B hml hv
  obtain ⟨rfl, hT, hK, hSK⟩ := hv
  have hx := B.exec
  have hb := B.bytes
  have hr := B.returns
  have hts : ∀ w ∈ lw_ok, w.before ([.ref h0] : List Value).toArray s = true := fun w hw => atoms_spec (ws := uw yX6_fault cX6_fault 1 (some .int)) B.pre w (List.mem_cons_of_mem _ hw)
  have hown : s.vm.findClass RX6 = some m.cls := findClass_of_methodNamed B.named
  have hlk := B.notSynchronized
  have hC : CallFix p m c cX6_fault 1 s ([.ref h0] : List Value).toArray lw_ok RX6 := ⟨hx, hb, hml, hown, hts⟩
  have hS : va_S (zA z) s.heap s.heap [] := va_S.rf
  have hl := lv_entry ([.ref h0]) (n := 1) (Nat.le_of_ble_eq_true rfl)
  rw [lg_entry_eq]
  generalize (lg_sl ([.ref h0]) ++ List.replicate (1 - (lg_sl ([.ref h0])).length) Slot.unset).toArray = ls at hl ⊢
  have hl : lv_has ls 1 [(0, .ref h0)] := hl
  show W p l e (rmF 1 64) s m ([.ref h0] : List Value).toArray below meth c s.heap [] 0 0 (MQ below (QcI z (fun r H => some r.toInt = some out ∧ TY z (zA z) σ H)) ([.ref h0] : List Value).toArray s 0 0 (zA z)) (F0 m 0 ls [])
  unfold D_X6_fault at hF
  refine lv_aload_n hx hb dX6_fault_0 rfl (lv_at hl 0 rfl) ?_
  refine gt_HeelDance_latestFault hx hb hts ic_HeelDance hown hK hT g0 (hts _ mw_2_14) dX6_fault_1 (fun x1 e1 f1 g1 => ?_)
  have hF := bn hF e1
  exact rt_i hx hb hr hlk hS ⟨hF, hT⟩ dX6_fault_4
theorem k_X6_rule : cBV yX6_rule cX6_rule 2 (some .int) 1 := ⟨mw_2_213, mw_2_214, mw_1_1, mw_2_215, ⟨by decide, by decide, by decide⟩⟩
set_option maxHeartbeats 4000000 in
set_option maxRecDepth 100000 in
theorem c_X6_rule (l : Launch) (z : Zt) (σ : Sg) (h0 : Nat) (g0 : zG z h0 = (16, 0)) (p1 : Int32) (out : Int) (hF : D_X6_rule σ p1.toInt = some out) : Met l yX6_rule (uw yX6_rule cX6_rule 2 (some .int)) (rmF 3 106) (PcW z [.ref h0, .int p1] (fun H => TY z (zA z) σ H)) (QcI z (fun r H => some r.toInt = some out ∧ TY z (zA z) σ H)) 0 0 (zA z) := by
  refine Met.ofW (cc := cX6_rule) (maxL := 2) (ret := (some .int)) (by decide) rfl ?_
  intro p e s m args below meth c s₁ B hml hv
  obtain ⟨rfl, hT, hK, hSK⟩ := hv
  have hx := B.exec
  have hb := B.bytes
  have hr := B.returns
  have hts : ∀ w ∈ lw_ok, w.before ([.ref h0, .int p1] : List Value).toArray s = true := fun w hw => atoms_spec (ws := uw yX6_rule cX6_rule 2 (some .int)) B.pre w (List.mem_cons_of_mem _ hw)
  have hown : s.vm.findClass RX6 = some m.cls := findClass_of_methodNamed B.named
  have hlk := B.notSynchronized
  have hC : CallFix p m c cX6_rule 2 s ([.ref h0, .int p1] : List Value).toArray lw_ok RX6 := ⟨hx, hb, hml, hown, hts⟩
  have hS : va_S (zA z) s.heap s.heap [] := va_S.rf
  have hl := lv_entry ([.ref h0, .int p1]) (n := 2) (Nat.le_of_ble_eq_true rfl)
  rw [lg_entry_eq]
  generalize (lg_sl ([.ref h0, .int p1]) ++ List.replicate (2 - (lg_sl ([.ref h0, .int p1])).length) Slot.unset).toArray = ls at hl ⊢
  have hl : lv_has ls 2 [(0, .ref h0), (1, .int p1)] := hl
  show W p l e (rmF 3 106) s m ([.ref h0, .int p1] : List Value).toArray below meth c s.heap [] 0 0 (MQ below (QcI z (fun r H => some r.toInt = some out ∧ TY z (zA z) σ H)) ([.ref h0, .int p1] : List Value).toArray s 0 0 (zA z)) (F0 m 0 ls [])
  unfold D_X6_rule at hF
  have mx_p1 := i_mx p1
  refine lv_iload_n hx hb dX6_rule_0 rfl (lv_at hl 1 rfl) ?_
  rcases (show p1.toInt = 0 ∨ p1.toInt = 1 ∨ p1.toInt = 2 ∨ p1.toInt = 3 ∨ p1.toInt = 4 ∨ (p1.toInt < 0 ∨ 4 < p1.toInt) by omega) with c1 | c1 | c1 | c1 | c1 | c1
  · have hF := ifp hF c1
    refine lv_tableIn (off := 35) (tgt := 36) hx hb dX6_rule_1 (by omega) (by omega) (by rw [c1]; rfl) (by decide) ?_
    refine lv_aload_n hx hb dX6_rule_36 rfl (lv_at hl 0 rfl) ?_
    refine gt_HeelDance_now hx hb hts ic_HeelDance hown hK hT g0 (hts _ mw_2_8) dX6_rule_37 (fun q37 hq37 => ?_)
    refine gt_Evening_floor hx hb hts ic_Evening hown hK hT hq37 (hts _ mw_1_91) dX6_rule_40 (fun q40 hq40 => ?_)
    refine gt_Floor_men hx hb hts ic_Floor hown hK hT hq40 (hts _ mw_1_62) dX6_rule_43 (fun x43 e43 f43 g43 => ?_)
    have hF := bn hF e43
    exact rt_i hx hb hr hlk hS ⟨hF, hT⟩ dX6_rule_46
  · have hF := ifn hF (by omega)
    have hF := ifp hF c1
    refine lv_tableIn (off := 46) (tgt := 47) hx hb dX6_rule_1 (by omega) (by omega) (by rw [c1]; rfl) (by decide) ?_
    refine lv_aload_n hx hb dX6_rule_47 rfl (lv_at hl 0 rfl) ?_
    refine gt_HeelDance_now hx hb hts ic_HeelDance hown hK hT g0 (hts _ mw_2_8) dX6_rule_48 (fun q48 hq48 => ?_)
    obtain ⟨v51, hd51, -⟩ := bd0_s hF
    refine cl_Vi (rest := []) hC hK hSK (c_X0_allKin l z σ q48 (1) hq48 v51 hd51) k_X0_allKin mw_2_216 ⟨rfl, rfl, Nat.le_of_ble_eq_true rfl, Nat.le_of_ble_eq_true rfl⟩ (rv_Evening hK hT hq48) hT rfl hl.1 rfl (Nat.le_of_ble_eq_true rfl) dX6_rule_51 ⟨Nat.zero_le _, Nat.zero_le _⟩ hS (fun _ h => h) (fun _ _ h => h) (fun r51 H locs hpo hS => ?_)
    obtain ⟨he51, hT⟩ := hpo
    have hF := bd0_r hF hd51 he51
    exact rt_i hx hb hr hlk hS ⟨hF, hT⟩ dX6_rule_54
  · have hF := ifn hF (by omega)
    have hF := ifn hF (by omega)
    have hF := ifp hF c1
    refine lv_tableIn (off := 54) (tgt := 55) hx hb dX6_rule_1 (by omega) (by omega) (by rw [c1]; rfl) (by decide) ?_
    refine lv_aload_n hx hb dX6_rule_55 rfl (lv_at hl 0 rfl) ?_
    refine gt_HeelDance_now hx hb hts ic_HeelDance hown hK hT g0 (hts _ mw_2_8) dX6_rule_56 (fun q56 hq56 => ?_)
    refine gt_Evening_figures hx hb hts ic_Evening hown hK hT hq56 (hts _ mw_1_108) dX6_rule_59 (fun x59 e59 f59 g59 => ?_)
    have hF := bn hF e59
    exact rt_i hx hb hr hlk hS ⟨hF, hT⟩ dX6_rule_62
  · have hF := ifn hF (by omega)
    have hF := ifn hF (by omega)
    have hF := ifn hF (by omega)
    have hF := ifp hF c1
    refine lv_tableIn (off := 62) (tgt := 63) hx hb dX6_rule_1 (by omega) (by omega) (by rw [c1]; rfl) (by decide) ?_
    refine lv_aload_n hx hb dX6_rule_63 rfl (lv_at hl 0 rfl) ?_
    refine gt_HeelDance_now hx hb hts ic_HeelDance hown hK hT g0 (hts _ mw_2_8) dX6_rule_64 (fun q64 hq64 => ?_)
    refine gt_Evening_floor hx hb hts ic_Evening hown hK hT hq64 (hts _ mw_1_91) dX6_rule_67 (fun q67 hq67 => ?_)
    refine gt_Floor_danced hx hb hts ic_Floor hown hK hT hq67 (hts _ mw_1_66) dX6_rule_70 (fun x70 e70 f70 g70 => ?_)
    have hF := bn hF e70
    exact rt_i hx hb hr hlk hS ⟨hF, hT⟩ dX6_rule_73
  · have hF := ifn hF (by omega)
    have hF := ifn hF (by omega)
    have hF := ifn hF (by omega)
    have hF := ifn hF (by omega)
    have hF := ifp hF c1
    refine lv_tableIn (off := 73) (tgt := 74) hx hb dX6_rule_1 (by omega) (by omega) (by rw [c1]; rfl) (by decide) ?_
    refine lv_aload_n hx hb dX6_rule_74 rfl (lv_at hl 0 rfl) ?_
    refine gt_HeelDance_now hx hb hts ic_HeelDance hown hK hT g0 (hts _ mw_2_8) dX6_rule_75 (fun q75 hq75 => ?_)
    refine gt_Evening_floor hx hb hts ic_Evening hown hK hT hq75 (hts _ mw_1_91) dX6_rule_78 (fun q78 hq78 => ?_)
    obtain ⟨v81, hd81, -⟩ := bd0_s hF
    refine cl_Vi (rest := []) hC hK hSK (c_X1_roundBits l z σ q78 (1) hq78 v81 hd81) k_X1_roundBits mw_2_217 ⟨rfl, rfl, Nat.le_of_ble_eq_true rfl, Nat.le_of_ble_eq_true rfl⟩ (rv_Floor hK hT hq78) hT rfl hl.1 rfl (Nat.le_of_ble_eq_true rfl) dX6_rule_81 ⟨Nat.zero_le _, Nat.zero_le _⟩ hS (fun _ h => h) (fun _ _ h => h) (fun r81 H locs hpo hS => ?_)
    obtain ⟨he81, hT⟩ := hpo
    have hF := bd0_r hF hd81 he81
    exact rt_i hx hb hr hlk hS ⟨hF, hT⟩ dX6_rule_84
  · have hF := ifn hF (by omega)
    have hF := ifn hF (by omega)
    have hF := ifn hF (by omega)
    have hF := ifn hF (by omega)
    have hF := ifn hF (by omega)
    refine lv_tableOut (tgt := 85) hx hb dX6_rule_1 c1 (by decide) ?_
    refine r_iconst hx hb dX6_rule_85 (by decide) (by decide) (fun x85 e85 => ?_)
    have hF := bn hF e85
    exact rt_i hx hb hr hlk hS ⟨hF, hT⟩ dX6_rule_86
theorem k_X6_man : cBV yX6_man cX6_man 4 (some .int) 2 := ⟨mw_2_222, mw_2_223, mw_1_1, mw_2_224, ⟨by decide, by decide, by decide⟩⟩
set_option maxHeartbeats 4000000 in
set_option maxRecDepth 100000 in
theorem c_X6_man (l : Launch) (z : Zt) (σ : Sg) (h0 : Nat) (g0 : zG z h0 = (16, 0)) (p1 : Int32) (p2 : Int32) (out : (Int × Sg)) (hF : D_X6_man σ p1.toInt p2.toInt = some out) : Met l yX6_man (uw yX6_man cX6_man 4 (some .int)) (rmF 3 109) (PcW z [.ref h0, .int p1, .int p2] (fun H => TY z (zA z) σ H)) (QcI z (fun r H => ∃ σ' : Sg, some (r.toInt, σ') = some out ∧ TY z (zA z) σ' H)) 0 0 (zA z) := by
  refine Met.ofW (cc := cX6_man) (maxL := 4) (ret := (some .int)) (by decide) rfl ?_
  intro p e s m args below meth c s₁ B hml hv
  obtain ⟨rfl, hT, hK, hSK⟩ := hv
  have hx := B.exec
  have hb := B.bytes
  have hr := B.returns
  have hts : ∀ w ∈ lw_ok, w.before ([.ref h0, .int p1, .int p2] : List Value).toArray s = true := fun w hw => atoms_spec (ws := uw yX6_man cX6_man 4 (some .int)) B.pre w (List.mem_cons_of_mem _ hw)
  have hown : s.vm.findClass RX6 = some m.cls := findClass_of_methodNamed B.named
  have hlk := B.notSynchronized
  have hC : CallFix p m c cX6_man 4 s ([.ref h0, .int p1, .int p2] : List Value).toArray lw_ok RX6 := ⟨hx, hb, hml, hown, hts⟩
  have hS : va_S (zA z) s.heap s.heap [] := va_S.rf
  have hl := lv_entry ([.ref h0, .int p1, .int p2]) (n := 4) (Nat.le_of_ble_eq_true rfl)
  rw [lg_entry_eq]
  generalize (lg_sl ([.ref h0, .int p1, .int p2]) ++ List.replicate (4 - (lg_sl ([.ref h0, .int p1, .int p2])).length) Slot.unset).toArray = ls at hl ⊢
  have hl : lv_has ls 4 [(0, .ref h0), (1, .int p1), (2, .int p2)] := hl
  show W p l e (rmF 3 109) s m ([.ref h0, .int p1, .int p2] : List Value).toArray below meth c s.heap [] 0 0 (MQ below (QcI z (fun r H => ∃ σ' : Sg, some (r.toInt, σ') = some out ∧ TY z (zA z) σ' H)) ([.ref h0, .int p1, .int p2] : List Value).toArray s 0 0 (zA z)) (F0 m 0 ls [])
  unfold D_X6_man at hF
  have mx_p1 := i_mx p1
  have mx_p2 := i_mx p2
  refine lv_aload_n hx hb dX6_man_0 rfl (lv_at hl 0 rfl) ?_
  refine lv_iload_n hx hb dX6_man_1 rfl (lv_at hl 1 rfl) ?_
  obtain ⟨v2, hd2, -⟩ := bd0_s hF
  refine cl_Vi (rest := []) hC hK hSK (c_X6_isNobody l z σ h0 g0 p1 v2 hd2) k_X6_isNobody mw_2_225 ⟨rfl, rfl, Nat.le_of_ble_eq_true rfl, Nat.le_of_ble_eq_true rfl⟩ (rv_HeelDance hK hT g0) hT rfl hl.1 rfl (Nat.le_of_ble_eq_true rfl) dX6_man_2 ⟨Nat.zero_le _, Nat.zero_le _⟩ hS (fun _ h => h) (fun _ _ h => h) (fun r2 H locs hpo hS => ?_)
  obtain ⟨he2, hT, u2_0, u2_1⟩ := hpo
  have hF := bd0_r hF hd2 he2
  refine r_if_eq (tgt := 10) hx hb dX6_man_5 (by decide) (fun c5 => ?_) (fun c5 => ?_)
  · have hF := ifp hF c5
    refine lv_aload_n hx hb dX6_man_10 rfl (lv_at hl 0 rfl) ?_
    refine gt_HeelDance_now hx hb hts ic_HeelDance hown hK hT g0 (hts _ mw_2_8) dX6_man_11 (fun q11 hq11 => ?_)
    refine gt_Evening_floor hx hb hts ic_Evening hown hK hT hq11 (hts _ mw_1_91) dX6_man_14 (fun q14 hq14 => ?_)
    refine lv_astore_n (lv' := [(3, .ref q14), (0, .ref h0), (1, .int p1), (2, .int p2)]) hx hb dX6_man_17 rfl hl (by decide) rfl (fun ls hl => ?_)
    refine lv_iload_n hx hb dX6_man_18 rfl (lv_at hl 3 rfl) ?_
    rcases (show p2.toInt = 0 ∨ p2.toInt = 1 ∨ p2.toInt = 2 ∨ p2.toInt = 3 ∨ p2.toInt = 4 ∨ p2.toInt = 5 ∨ p2.toInt = 6 ∨ (p2.toInt < 0 ∨ 6 < p2.toInt) by omega) with c19 | c19 | c19 | c19 | c19 | c19 | c19 | c19
    · have hF := ifp hF c19
      refine lv_tableIn (off := 41) (tgt := 60) hx hb dX6_man_19 (by omega) (by omega) (by rw [c19]; rfl) (by decide) ?_
      refine lv_aload_n hx hb dX6_man_60 rfl (lv_at hl 0 rfl) ?_
      refine gt_Floor_kind hx hb hts ic_Floor hown hK hT hq14 (hts _ mw_1_44) dX6_man_61 (fun q61 hq61 => ?_)
      refine lv_iload_n hx hb dX6_man_64 rfl (lv_at hl 2 rfl) ?_
      refine al_51 hx hb hK hT hq61 (by omega) (by omega) dX6_man_65 (fun x65 e65 => ?_)
      have hF := bn hF e65
      exact rt_i hx hb hr hlk hS ⟨σ, hF, hT⟩ dX6_man_66
    · have hF := ifn hF (by omega)
      have hF := ifp hF c19
      refine lv_tableIn (off := 48) (tgt := 67) hx hb dX6_man_19 (by omega) (by omega) (by rw [c19]; rfl) (by decide) ?_
      refine lv_aload_n hx hb dX6_man_67 rfl (lv_at hl 0 rfl) ?_
      refine gt_Floor_height hx hb hts ic_Floor hown hK hT hq14 (hts _ mw_1_46) dX6_man_68 (fun q68 hq68 => ?_)
      refine lv_iload_n hx hb dX6_man_71 rfl (lv_at hl 2 rfl) ?_
      refine al_52 hx hb hK hT hq68 (by omega) (by omega) dX6_man_72 (fun x72 e72 g72 => ?_)
      have hF := bn hF e72
      exact rt_i hx hb hr hlk hS ⟨σ, hF, hT⟩ dX6_man_73
    · have hF := ifn hF (by omega)
      have hF := ifn hF (by omega)
      have hF := ifp hF c19
      refine lv_tableIn (off := 55) (tgt := 74) hx hb dX6_man_19 (by omega) (by omega) (by rw [c19]; rfl) (by decide) ?_
      refine lv_aload_n hx hb dX6_man_74 rfl (lv_at hl 0 rfl) ?_
      refine gt_Floor_heels hx hb hts ic_Floor hown hK hT hq14 (hts _ mw_1_48) dX6_man_75 (fun q75 hq75 => ?_)
      refine lv_iload_n hx hb dX6_man_78 rfl (lv_at hl 2 rfl) ?_
      refine al_53 hx hb hK hT hq75 (by omega) (by omega) dX6_man_79 (fun x79 e79 g79 => ?_)
      have hF := bn hF e79
      exact rt_i hx hb hr hlk hS ⟨σ, hF, hT⟩ dX6_man_80
    · have hF := ifn hF (by omega)
      have hF := ifn hF (by omega)
      have hF := ifn hF (by omega)
      have hF := ifp hF c19
      refine lv_tableIn (off := 62) (tgt := 81) hx hb dX6_man_19 (by omega) (by omega) (by rw [c19]; rfl) (by decide) ?_
      refine lv_aload_n hx hb dX6_man_81 rfl (lv_at hl 0 rfl) ?_
      refine gt_Floor_heat hx hb hts ic_Floor hown hK hT hq14 (hts _ mw_1_50) dX6_man_82 (fun q82 hq82 => ?_)
      refine lv_iload_n hx hb dX6_man_85 rfl (lv_at hl 2 rfl) ?_
      refine al_54 hx hb hK hT hq82 (by omega) (by omega) dX6_man_86 (fun x86 e86 g86 => ?_)
      have hF := bn hF e86
      exact rt_i hx hb hr hlk hS ⟨σ, hF, hT⟩ dX6_man_87
    · have hF := ifn hF (by omega)
      have hF := ifn hF (by omega)
      have hF := ifn hF (by omega)
      have hF := ifn hF (by omega)
      have hF := ifp hF c19
      refine lv_tableIn (off := 69) (tgt := 88) hx hb dX6_man_19 (by omega) (by omega) (by rw [c19]; rfl) (by decide) ?_
      refine lv_aload_n hx hb dX6_man_88 rfl (lv_at hl 0 rfl) ?_
      refine lv_iload_n hx hb dX6_man_89 rfl (lv_at hl 2 rfl) ?_
      obtain ⟨v90, hd90, -⟩ := bd0_s hF
      refine cl_Vi (rest := []) hC hK hSK (c_X1_stature l z σ q14 (1) hq14 p1 v90 hd90 (by omega)) k_X1_stature mw_2_229 ⟨rfl, rfl, Nat.le_of_ble_eq_true rfl, Nat.le_of_ble_eq_true rfl⟩ (rv_Floor hK hT hq14) hT rfl hl.1 rfl (Nat.le_of_ble_eq_true rfl) dX6_man_90 ⟨Nat.zero_le _, Nat.zero_le _⟩ hS (fun _ h => h) (fun _ _ h => h) (fun r90 H locs hpo hS => ?_)
      obtain ⟨he90, hT, u90_0⟩ := hpo
      have hF := bd0_r hF hd90 he90
      refine r_iconst hx hb dX6_man_93 (by decide) (by decide) (fun x93 e93 => ?_)
      have hF := bn hF e93
      refine r_iadd hx hb dX6_man_94 (by omega) (by omega) (fun x94 e94 => ?_)
      have hF := bn hF e94
      exact rt_i hx hb hr hlk hS ⟨σ, hF, hT⟩ dX6_man_95
    · have hF := ifn hF (by omega)
      have hF := ifn hF (by omega)
      have hF := ifn hF (by omega)
      have hF := ifn hF (by omega)
      have hF := ifn hF (by omega)
      have hF := ifp hF c19
      refine lv_tableIn (off := 77) (tgt := 96) hx hb dX6_man_19 (by omega) (by omega) (by rw [c19]; rfl) (by decide) ?_
      refine lv_aload_n hx hb dX6_man_96 rfl (lv_at hl 0 rfl) ?_
      obtain ⟨s97, hd97, -⟩ := bd1_s hF
      refine cl_Vv (rest := []) hC hK hSK (c_X1_lineUp l z σ q14 (1) hq14 s97 hd97) k_X1_lineUp mw_2_233 ⟨rfl, rfl, Nat.le_of_ble_eq_true rfl, Nat.le_of_ble_eq_true rfl⟩ (rv_Floor hK hT hq14) hT rfl hl.1 rfl (Nat.le_of_ble_eq_true rfl) dX6_man_97 ⟨Nat.zero_le _, Nat.zero_le _⟩ hS (fun _ h => h) (fun _ _ h => h) (fun H locs hpo hS => ?_)
      obtain ⟨σ97, he97, hf97, hT⟩ := hpo
      have hF := bd1_r hF hd97 he97
      have hF := gsL hF hf97
      refine lv_aload_n hx hb dX6_man_100 rfl (lv_at hl 0 rfl) ?_
      refine gt_Floor_rankOf hx hb hts ic_Floor hown hK hT hq14 (hts _ mw_1_59) dX6_man_101 (fun q101 hq101 => ?_)
      refine lv_iload_n hx hb dX6_man_104 rfl (lv_at hl 2 rfl) ?_
      refine al_29 hx hb hK hT hq101 (by omega) (by omega) dX6_man_105 (fun x105 e105 g105 => ?_)
      have hF := bn hF e105
      exact rt_i hx hb hr hlk hS ⟨σ97, hF, hT⟩ dX6_man_106
    · have hF := ifn hF (by omega)
      have hF := ifn hF (by omega)
      have hF := ifn hF (by omega)
      have hF := ifn hF (by omega)
      have hF := ifn hF (by omega)
      have hF := ifn hF (by omega)
      have hF := ifp hF c19
      refine lv_tableIn (off := 88) (tgt := 107) hx hb dX6_man_19 (by omega) (by omega) (by rw [c19]; rfl) (by decide) ?_
      refine lv_aload_n hx hb dX6_man_107 rfl (lv_at hl 0 rfl) ?_
      refine lv_iload_n hx hb dX6_man_108 rfl (lv_at hl 2 rfl) ?_
      obtain ⟨v109, hd109, -⟩ := bd0_s hF
      refine cl_Vi (rest := []) hC hK hSK (c_X1_womanWith l z σ q14 (1) hq14 p1 v109 hd109) k_X1_womanWith mw_3_2 ⟨rfl, rfl, Nat.le_of_ble_eq_true rfl, Nat.le_of_ble_eq_true rfl⟩ (rv_Floor hK hT hq14) hT rfl hl.1 rfl (Nat.le_of_ble_eq_true rfl) dX6_man_109 ⟨Nat.zero_le _, Nat.zero_le _⟩ hS (fun _ h => h) (fun _ _ h => h) (fun r109 H locs hpo hS => ?_)
      obtain ⟨he109, hT⟩ := hpo
      have hF := bd0_r hF hd109 he109
      exact rt_i hx hb hr hlk hS ⟨σ, hF, hT⟩ dX6_man_112
    · have hF := ifn hF (by omega)
      have hF := ifn hF (by omega)
      have hF := ifn hF (by omega)
      have hF := ifn hF (by omega)
      have hF := ifn hF (by omega)
      have hF := ifn hF (by omega)
      have hF := ifn hF (by omega)
      refine lv_tableOut (tgt := 113) hx hb dX6_man_19 c19 (by decide) ?_
      refine r_iconst hx hb dX6_man_113 (by decide) (by decide) (fun x113 e113 => ?_)
      have hF := bn hF e113
      exact rt_i hx hb hr hlk hS ⟨σ, hF, hT⟩ dX6_man_114
  · have hF := ifn hF c5
    refine r_iconst hx hb dX6_man_8 (by decide) (by decide) (fun x8 e8 => ?_)
    have hF := bn hF e8
    exact rt_i hx hb hr hlk hS ⟨σ, hF, hT⟩ dX6_man_9
theorem k_X6_woman : cBV yX6_woman cX6_woman 2 (some .int) 1 := ⟨mw_3_7, mw_3_8, mw_1_1, mw_3_9, ⟨by decide, by decide, by decide⟩⟩
set_option maxHeartbeats 4000000 in
set_option maxRecDepth 100000 in
theorem c_X6_woman (l : Launch) (z : Zt) (σ : Sg) (h0 : Nat) (g0 : zG z h0 = (16, 0)) (p1 : Int32) (out : Int) (hF : D_X6_woman σ p1.toInt = some out) : Met l yX6_woman (uw yX6_woman cX6_woman 2 (some .int)) (rmF 2 85) (PcW z [.ref h0, .int p1] (fun H => TY z (zA z) σ H)) (QcI z (fun r H => some r.toInt = some out ∧ TY z (zA z) σ H)) 0 0 (zA z) := by
  refine Met.ofW (cc := cX6_woman) (maxL := 2) (ret := (some .int)) (by decide) rfl ?_
  intro p e s m args below meth c s₁ B hml hv
  obtain ⟨rfl, hT, hK, hSK⟩ := hv
  have hx := B.exec
  have hb := B.bytes
  have hr := B.returns
  have hts : ∀ w ∈ lw_ok, w.before ([.ref h0, .int p1] : List Value).toArray s = true := fun w hw => atoms_spec (ws := uw yX6_woman cX6_woman 2 (some .int)) B.pre w (List.mem_cons_of_mem _ hw)
  have hown : s.vm.findClass RX6 = some m.cls := findClass_of_methodNamed B.named
  have hlk := B.notSynchronized
  have hC : CallFix p m c cX6_woman 2 s ([.ref h0, .int p1] : List Value).toArray lw_ok RX6 := ⟨hx, hb, hml, hown, hts⟩
  have hS : va_S (zA z) s.heap s.heap [] := va_S.rf
  have hl := lv_entry ([.ref h0, .int p1]) (n := 2) (Nat.le_of_ble_eq_true rfl)
  rw [lg_entry_eq]
  generalize (lg_sl ([.ref h0, .int p1]) ++ List.replicate (2 - (lg_sl ([.ref h0, .int p1])).length) Slot.unset).toArray = ls at hl ⊢
  have hl : lv_has ls 2 [(0, .ref h0), (1, .int p1)] := hl
  show W p l e (rmF 2 85) s m ([.ref h0, .int p1] : List Value).toArray below meth c s.heap [] 0 0 (MQ below (QcI z (fun r H => some r.toInt = some out ∧ TY z (zA z) σ H)) ([.ref h0, .int p1] : List Value).toArray s 0 0 (zA z)) (F0 m 0 ls [])
  unfold D_X6_woman at hF
  have mx_p1 := i_mx p1
  refine lv_aload_n hx hb dX6_woman_0 rfl (lv_at hl 0 rfl) ?_
  refine lv_iload_n hx hb dX6_woman_1 rfl (lv_at hl 1 rfl) ?_
  obtain ⟨v2, hd2, -⟩ := bd0_s hF
  refine cl_Vi (rest := []) hC hK hSK (c_X6_isNobody l z σ h0 g0 p1 v2 hd2) k_X6_isNobody mw_2_225 ⟨rfl, rfl, Nat.le_of_ble_eq_true rfl, Nat.le_of_ble_eq_true rfl⟩ (rv_HeelDance hK hT g0) hT rfl hl.1 rfl (Nat.le_of_ble_eq_true rfl) dX6_woman_2 ⟨Nat.zero_le _, Nat.zero_le _⟩ hS (fun _ h => h) (fun _ _ h => h) (fun r2 H locs hpo hS => ?_)
  obtain ⟨he2, hT, u2_0, u2_1⟩ := hpo
  have hF := bd0_r hF hd2 he2
  refine r_if_eq (tgt := 12) hx hb dX6_woman_5 (by decide) (fun c5 => ?_) (fun c5 => ?_)
  · have hF := ifp hF c5
    refine lv_aload_n hx hb dX6_woman_12 rfl (lv_at hl 0 rfl) ?_
    refine gt_HeelDance_now hx hb hts ic_HeelDance hown hK hT g0 (hts _ mw_2_8) dX6_woman_13 (fun q13 hq13 => ?_)
    refine gt_Evening_floor hx hb hts ic_Evening hown hK hT hq13 (hts _ mw_1_91) dX6_woman_16 (fun q16 hq16 => ?_)
    refine gt_Floor_partner hx hb hts ic_Floor hown hK hT hq16 (hts _ mw_1_54) dX6_woman_19 (fun q19 hq19 => ?_)
    refine lv_iload_n hx hb dX6_woman_22 rfl (lv_at hl 1 rfl) ?_
    refine al_27 hx hb hK hT hq19 (by omega) (by omega) dX6_woman_23 (fun x23 e23 g23 => ?_)
    have hF := bn hF e23
    exact rt_i hx hb hr hlk hS ⟨hF, hT⟩ dX6_woman_24
  · have hF := ifn hF c5
    refine r_iconst hx hb dX6_woman_8 (by decide) (by decide) (fun x8 e8 => ?_)
    have hF := bn hF e8
    refine lv_goto (tgt := 24) hx hb dX6_woman_9 (by decide) ?_
    exact rt_i hx hb hr hlk hS ⟨hF, hT⟩ dX6_woman_24
theorem k_X6_at : cBV yX6_at cX6_at 2 (some .int) 1 := ⟨mw_3_11, mw_3_12, mw_1_1, mw_3_13, ⟨by decide, by decide, by decide⟩⟩
set_option maxHeartbeats 4000000 in
set_option maxRecDepth 100000 in
theorem c_X6_at (l : Launch) (z : Zt) (σ : Sg) (h0 : Nat) (g0 : zG z h0 = (16, 0)) (p1 : Int32) (out : (Int × Sg)) (hF : D_X6_at σ p1.toInt = some out) : Met l yX6_at (uw yX6_at cX6_at 2 (some .int)) (rmF 3 109) (PcW z [.ref h0, .int p1] (fun H => TY z (zA z) σ H)) (QcI z (fun r H => ∃ σ' : Sg, some (r.toInt, σ') = some out ∧ TY z (zA z) σ' H)) 0 0 (zA z) := by
  refine Met.ofW (cc := cX6_at) (maxL := 2) (ret := (some .int)) (by decide) rfl ?_
  intro p e s m args below meth c s₁ B hml hv
  obtain ⟨rfl, hT, hK, hSK⟩ := hv
  have hx := B.exec
  have hb := B.bytes
  have hr := B.returns
  have hts : ∀ w ∈ lw_ok, w.before ([.ref h0, .int p1] : List Value).toArray s = true := fun w hw => atoms_spec (ws := uw yX6_at cX6_at 2 (some .int)) B.pre w (List.mem_cons_of_mem _ hw)
  have hown : s.vm.findClass RX6 = some m.cls := findClass_of_methodNamed B.named
  have hlk := B.notSynchronized
  have hC : CallFix p m c cX6_at 2 s ([.ref h0, .int p1] : List Value).toArray lw_ok RX6 := ⟨hx, hb, hml, hown, hts⟩
  have hS : va_S (zA z) s.heap s.heap [] := va_S.rf
  have hl := lv_entry ([.ref h0, .int p1]) (n := 2) (Nat.le_of_ble_eq_true rfl)
  rw [lg_entry_eq]
  generalize (lg_sl ([.ref h0, .int p1]) ++ List.replicate (2 - (lg_sl ([.ref h0, .int p1])).length) Slot.unset).toArray = ls at hl ⊢
  have hl : lv_has ls 2 [(0, .ref h0), (1, .int p1)] := hl
  show W p l e (rmF 3 109) s m ([.ref h0, .int p1] : List Value).toArray below meth c s.heap [] 0 0 (MQ below (QcI z (fun r H => ∃ σ' : Sg, some (r.toInt, σ') = some out ∧ TY z (zA z) σ' H)) ([.ref h0, .int p1] : List Value).toArray s 0 0 (zA z)) (F0 m 0 ls [])
  unfold D_X6_at at hF
  have mx_p1 := i_mx p1
  refine lv_aload_n hx hb dX6_at_0 rfl (lv_at hl 0 rfl) ?_
  refine lv_iload_n hx hb dX6_at_1 rfl (lv_at hl 1 rfl) ?_
  obtain ⟨v2, hd2, -⟩ := bd0_s hF
  refine cl_Vi (rest := []) hC hK hSK (c_X6_isNobody l z σ h0 g0 p1 v2 hd2) k_X6_isNobody mw_2_225 ⟨rfl, rfl, Nat.le_of_ble_eq_true rfl, Nat.le_of_ble_eq_true rfl⟩ (rv_HeelDance hK hT g0) hT rfl hl.1 rfl (Nat.le_of_ble_eq_true rfl) dX6_at_2 ⟨Nat.zero_le _, Nat.zero_le _⟩ hS (fun _ h => h) (fun _ _ h => h) (fun r2 H locs hpo hS => ?_)
  obtain ⟨he2, hT, u2_0, u2_1⟩ := hpo
  have hF := bd0_r hF hd2 he2
  refine r_if_eq (tgt := 10) hx hb dX6_at_5 (by decide) (fun c5 => ?_) (fun c5 => ?_)
  · have hF := ifp hF c5
    refine lv_aload_n hx hb dX6_at_10 rfl (lv_at hl 0 rfl) ?_
    refine gt_HeelDance_now hx hb hts ic_HeelDance hown hK hT g0 (hts _ mw_2_8) dX6_at_11 (fun q11 hq11 => ?_)
    refine gt_Evening_floor hx hb hts ic_Evening hown hK hT hq11 (hts _ mw_1_91) dX6_at_14 (fun q14 hq14 => ?_)
    obtain ⟨s17, hd17, -⟩ := bd1_s hF
    refine cl_Vv (rest := []) hC hK hSK (c_X1_lineUp l z σ q14 (1) hq14 s17 hd17) k_X1_lineUp mw_2_233 ⟨rfl, rfl, Nat.le_of_ble_eq_true rfl, Nat.le_of_ble_eq_true rfl⟩ (rv_Floor hK hT hq14) hT rfl hl.1 rfl (Nat.le_of_ble_eq_true rfl) dX6_at_17 ⟨Nat.zero_le _, Nat.zero_le _⟩ hS (fun _ h => h) (fun _ _ h => h) (fun H locs hpo hS => ?_)
    obtain ⟨σ17, he17, hf17, hT⟩ := hpo
    have hF := bd1_r hF hd17 he17
    have hF := gsL hF hf17
    refine lv_aload_n hx hb dX6_at_20 rfl (lv_at hl 0 rfl) ?_
    refine gt_HeelDance_now hx hb hts ic_HeelDance hown hK hT g0 (hts _ mw_2_8) dX6_at_21 (fun q21 hq21 => ?_)
    refine gt_Evening_floor hx hb hts ic_Evening hown hK hT hq21 (hts _ mw_1_91) dX6_at_24 (fun q24 hq24 => ?_)
    refine gt_Floor_byRank hx hb hts ic_Floor hown hK hT hq24 (hts _ mw_1_57) dX6_at_27 (fun q27 hq27 => ?_)
    refine lv_iload_n hx hb dX6_at_30 rfl (lv_at hl 1 rfl) ?_
    refine al_28 hx hb hK hT hq27 (by omega) (by omega) dX6_at_31 (fun x31 e31 g31 => ?_)
    have hF := bn hF e31
    exact rt_i hx hb hr hlk hS ⟨σ17, hF, hT⟩ dX6_at_32
  · have hF := ifn hF c5
    refine r_iconst hx hb dX6_at_8 (by decide) (by decide) (fun x8 e8 => ?_)
    have hF := bn hF e8
    exact rt_i hx hb hr hlk hS ⟨σ, hF, hT⟩ dX6_at_9
theorem k_X6_figure : cBV yX6_figure cX6_figure 2 (some .int) 1 := ⟨mw_3_15, mw_3_16, mw_1_1, mw_3_17, ⟨by decide, by decide, by decide⟩⟩
set_option maxHeartbeats 4000000 in
set_option maxRecDepth 100000 in
theorem c_X6_figure (l : Launch) (z : Zt) (σ : Sg) (h0 : Nat) (g0 : zG z h0 = (16, 0)) (p1 : Int32) (out : Int) (hF : D_X6_figure σ p1.toInt = some out) : Met l yX6_figure (uw yX6_figure cX6_figure 2 (some .int)) (rmF 1 64) (PcW z [.ref h0, .int p1] (fun H => TY z (zA z) σ H)) (QcI z (fun r H => some r.toInt = some out ∧ TY z (zA z) σ H)) 0 0 (zA z) := by
  refine Met.ofW (cc := cX6_figure) (maxL := 2) (ret := (some .int)) (by decide) rfl ?_
  intro p e s m args below meth c s₁ B hml hv
  obtain ⟨rfl, hT, hK, hSK⟩ := hv
  have hx := B.exec
  have hb := B.bytes
  have hr := B.returns
  have hts : ∀ w ∈ lw_ok, w.before ([.ref h0, .int p1] : List Value).toArray s = true := fun w hw => atoms_spec (ws := uw yX6_figure cX6_figure 2 (some .int)) B.pre w (List.mem_cons_of_mem _ hw)
  have hown : s.vm.findClass RX6 = some m.cls := findClass_of_methodNamed B.named
  have hlk := B.notSynchronized
  have hC : CallFix p m c cX6_figure 2 s ([.ref h0, .int p1] : List Value).toArray lw_ok RX6 := ⟨hx, hb, hml, hown, hts⟩
  have hS : va_S (zA z) s.heap s.heap [] := va_S.rf
  have hl := lv_entry ([.ref h0, .int p1]) (n := 2) (Nat.le_of_ble_eq_true rfl)
  rw [lg_entry_eq]
  generalize (lg_sl ([.ref h0, .int p1]) ++ List.replicate (2 - (lg_sl ([.ref h0, .int p1])).length) Slot.unset).toArray = ls at hl ⊢
  have hl : lv_has ls 2 [(0, .ref h0), (1, .int p1)] := hl
  show W p l e (rmF 1 64) s m ([.ref h0, .int p1] : List Value).toArray below meth c s.heap [] 0 0 (MQ below (QcI z (fun r H => some r.toInt = some out ∧ TY z (zA z) σ H)) ([.ref h0, .int p1] : List Value).toArray s 0 0 (zA z)) (F0 m 0 ls [])
  unfold D_X6_figure at hF
  have mx_p1 := i_mx p1
  refine lv_iload_n hx hb dX6_figure_0 rfl (lv_at hl 1 rfl) ?_
  have J15 : ∀ (ls : Array Slot) (H : Heap) (locs : List Loc), D_X6_figure_15 = some out → TY z (zA z) σ H → va_S (zA z) s.heap H locs → lv_has ls 2 [(0, .ref h0), (1, .int p1)] → W p l e (rmF 1 64) s m ([.ref h0, .int p1] : List Value).toArray below meth c H locs 0 0 (MQ below (QcI z (fun r H => some r.toInt = some out ∧ TY z (zA z) σ H)) ([.ref h0, .int p1] : List Value).toArray s 0 0 (zA z)) (F0 m 15 ls []) := by
    intro ls H locs hF hT hS hl
    unfold D_X6_figure_15 at hF
    refine r_iconst hx hb dX6_figure_15 (by decide) (by decide) (fun x15 e15 => ?_)
    have hF := bn hF e15
    refine lv_goto (tgt := 28) hx hb dX6_figure_16 (by decide) ?_
    exact rt_i hx hb hr hlk hS ⟨hF, hT⟩ dX6_figure_28
  refine r_if_lt (tgt := 15) hx hb dX6_figure_1 (by decide) (fun c1 => ?_) (fun c1 => ?_)
  · have hF := ifp hF c1
    exact J15 ls _ _ hF hT hS (lv_sub hl [0, 1] rfl)
  · have hF := ifn hF (Int.not_lt.mpr c1)
    refine lv_iload_n hx hb dX6_figure_4 rfl (lv_at hl 1 rfl) ?_
    refine lv_aload_n hx hb dX6_figure_5 rfl (lv_at hl 0 rfl) ?_
    refine gt_HeelDance_now hx hb hts ic_HeelDance hown hK hT g0 (hts _ mw_2_8) dX6_figure_6 (fun q6 hq6 => ?_)
    refine gt_Evening_figures hx hb hts ic_Evening hown hK hT hq6 (hts _ mw_1_108) dX6_figure_9 (fun x9 e9 f9 g9 => ?_)
    have hF := bn hF e9
    refine r_icmp_lt (tgt := 19) hx hb dX6_figure_12 (by decide) (fun c12 => ?_) (fun c12 => ?_)
    · have hF := ifp hF c12
      refine lv_aload_n hx hb dX6_figure_19 rfl (lv_at hl 0 rfl) ?_
      refine gt_HeelDance_now hx hb hts ic_HeelDance hown hK hT g0 (hts _ mw_2_8) dX6_figure_20 (fun q20 hq20 => ?_)
      refine gt_Evening_program hx hb hts ic_Evening hown hK hT hq20 (hts _ mw_1_99) dX6_figure_23 (fun q23 hq23 => ?_)
      refine lv_iload_n hx hb dX6_figure_26 rfl (lv_at hl 1 rfl) ?_
      refine al_21 hx hb hK hT hq23 (by omega) (by omega) dX6_figure_27 (fun x27 e27 => ?_)
      have hF := bn hF e27
      exact rt_i hx hb hr hlk hS ⟨hF, hT⟩ dX6_figure_28
    · have hF := ifn hF (Int.not_lt.mpr c12)
      exact J15 ls _ _ hF hT hS (lv_sub hl [0, 1] rfl)
theorem k_X6_cousins : cBV yX6_cousins cX6_cousins 2 (some .int) 1 := ⟨mw_3_19, mw_3_20, mw_1_1, mw_3_21, ⟨by decide, by decide, by decide⟩⟩
set_option maxHeartbeats 4000000 in
set_option maxRecDepth 100000 in
theorem c_X6_cousins (l : Launch) (z : Zt) (σ : Sg) (h0 : Nat) (g0 : zG z h0 = (16, 0)) (p1 : Int32) (out : Int) (hF : D_X6_cousins σ p1.toInt = some out) : Met l yX6_cousins (uw yX6_cousins cX6_cousins 2 (some .int)) (rmF 2 85) (PcW z [.ref h0, .int p1] (fun H => TY z (zA z) σ H)) (QcI z (fun r H => some r.toInt = some out ∧ TY z (zA z) σ H)) 0 0 (zA z) := by
  refine Met.ofW (cc := cX6_cousins) (maxL := 2) (ret := (some .int)) (by decide) rfl ?_
  intro p e s m args below meth c s₁ B hml hv
  obtain ⟨rfl, hT, hK, hSK⟩ := hv
  have hx := B.exec
  have hb := B.bytes
  have hr := B.returns
  have hts : ∀ w ∈ lw_ok, w.before ([.ref h0, .int p1] : List Value).toArray s = true := fun w hw => atoms_spec (ws := uw yX6_cousins cX6_cousins 2 (some .int)) B.pre w (List.mem_cons_of_mem _ hw)
  have hown : s.vm.findClass RX6 = some m.cls := findClass_of_methodNamed B.named
  have hlk := B.notSynchronized
  have hC : CallFix p m c cX6_cousins 2 s ([.ref h0, .int p1] : List Value).toArray lw_ok RX6 := ⟨hx, hb, hml, hown, hts⟩
  have hS : va_S (zA z) s.heap s.heap [] := va_S.rf
  have hl := lv_entry ([.ref h0, .int p1]) (n := 2) (Nat.le_of_ble_eq_true rfl)
  rw [lg_entry_eq]
  generalize (lg_sl ([.ref h0, .int p1]) ++ List.replicate (2 - (lg_sl ([.ref h0, .int p1])).length) Slot.unset).toArray = ls at hl ⊢
  have hl : lv_has ls 2 [(0, .ref h0), (1, .int p1)] := hl
  show W p l e (rmF 2 85) s m ([.ref h0, .int p1] : List Value).toArray below meth c s.heap [] 0 0 (MQ below (QcI z (fun r H => some r.toInt = some out ∧ TY z (zA z) σ H)) ([.ref h0, .int p1] : List Value).toArray s 0 0 (zA z)) (F0 m 0 ls [])
  unfold D_X6_cousins at hF
  have mx_p1 := i_mx p1
  refine lv_aload_n hx hb dX6_cousins_0 rfl (lv_at hl 0 rfl) ?_
  refine lv_iload_n hx hb dX6_cousins_1 rfl (lv_at hl 1 rfl) ?_
  obtain ⟨v2, hd2, -⟩ := bd0_s hF
  refine cl_Vi (rest := []) hC hK hSK (c_X6_isNobody l z σ h0 g0 p1 v2 hd2) k_X6_isNobody mw_2_225 ⟨rfl, rfl, Nat.le_of_ble_eq_true rfl, Nat.le_of_ble_eq_true rfl⟩ (rv_HeelDance hK hT g0) hT rfl hl.1 rfl (Nat.le_of_ble_eq_true rfl) dX6_cousins_2 ⟨Nat.zero_le _, Nat.zero_le _⟩ hS (fun _ h => h) (fun _ _ h => h) (fun r2 H locs hpo hS => ?_)
  obtain ⟨he2, hT, u2_0, u2_1⟩ := hpo
  have hF := bd0_r hF hd2 he2
  refine r_if_eq (tgt := 12) hx hb dX6_cousins_5 (by decide) (fun c5 => ?_) (fun c5 => ?_)
  · have hF := ifp hF c5
    refine lv_aload_n hx hb dX6_cousins_12 rfl (lv_at hl 0 rfl) ?_
    refine gt_HeelDance_now hx hb hts ic_HeelDance hown hK hT g0 (hts _ mw_2_8) dX6_cousins_13 (fun q13 hq13 => ?_)
    refine gt_Evening_kin hx hb hts ic_Evening hown hK hT hq13 (hts _ mw_1_95) dX6_cousins_16 (fun q16 hq16 => ?_)
    refine lv_iload_n hx hb dX6_cousins_19 rfl (lv_at hl 1 rfl) ?_
    refine al_20 hx hb hK hT hq16 (by omega) (by omega) dX6_cousins_20 (fun x20 e20 => ?_)
    have hF := bn hF e20
    exact rt_i hx hb hr hlk hS ⟨hF, hT⟩ dX6_cousins_21
  · have hF := ifn hF c5
    refine r_iconst hx hb dX6_cousins_8 (by decide) (by decide) (fun x8 e8 => ?_)
    have hF := bn hF e8
    refine lv_goto (tgt := 21) hx hb dX6_cousins_9 (by decide) ?_
    exact rt_i hx hb hr hlk hS ⟨hF, hT⟩ dX6_cousins_21
theorem k_X6_swap : cBV yX6_swap cX6_swap 5 (some .int) 2 := ⟨mw_3_31, mw_3_32, mw_1_1, mw_3_33, ⟨by decide, by decide, by decide⟩⟩
set_option maxHeartbeats 4000000 in
set_option maxRecDepth 100000 in
theorem c_X6_swap (l : Launch) (z : Zt) (σ : Sg) (h0 : Nat) (g0 : zG z h0 = (16, 0)) (p1 : Int32) (p2 : Int32) (out : (Int × Sg)) (hF : D_X6_swap σ p1.toInt p2.toInt = some out) : Met l yX6_swap (uw yX6_swap cX6_swap 5 (some .int)) (rmF 2 85) (PcW z [.ref h0, .int p1, .int p2] (fun H => TY z (zA z) σ H)) (QcI z (fun r H => ∃ σ' : Sg, some (r.toInt, σ') = some out ∧ TY z (zA z) σ' H)) 0 0 (zA z) := by
  refine Met.ofW (cc := cX6_swap) (maxL := 5) (ret := (some .int)) (by decide) rfl ?_
  intro p e s m args below meth c s₁ B hml hv
  obtain ⟨rfl, hT, hK, hSK⟩ := hv
  have hx := B.exec
  have hb := B.bytes
  have hr := B.returns
  have hts : ∀ w ∈ lw_ok, w.before ([.ref h0, .int p1, .int p2] : List Value).toArray s = true := fun w hw => atoms_spec (ws := uw yX6_swap cX6_swap 5 (some .int)) B.pre w (List.mem_cons_of_mem _ hw)
  have hown : s.vm.findClass RX6 = some m.cls := findClass_of_methodNamed B.named
  have hlk := B.notSynchronized
  have hC : CallFix p m c cX6_swap 5 s ([.ref h0, .int p1, .int p2] : List Value).toArray lw_ok RX6 := ⟨hx, hb, hml, hown, hts⟩
  have hS : va_S (zA z) s.heap s.heap [] := va_S.rf
  have hl := lv_entry ([.ref h0, .int p1, .int p2]) (n := 5) (Nat.le_of_ble_eq_true rfl)
  rw [lg_entry_eq]
  generalize (lg_sl ([.ref h0, .int p1, .int p2]) ++ List.replicate (5 - (lg_sl ([.ref h0, .int p1, .int p2])).length) Slot.unset).toArray = ls at hl ⊢
  have hl : lv_has ls 5 [(0, .ref h0), (1, .int p1), (2, .int p2)] := hl
  show W p l e (rmF 2 85) s m ([.ref h0, .int p1, .int p2] : List Value).toArray below meth c s.heap [] 0 0 (MQ below (QcI z (fun r H => ∃ σ' : Sg, some (r.toInt, σ') = some out ∧ TY z (zA z) σ' H)) ([.ref h0, .int p1, .int p2] : List Value).toArray s 0 0 (zA z)) (F0 m 0 ls [])
  unfold D_X6_swap at hF
  have mx_p1 := i_mx p1
  have mx_p2 := i_mx p2
  refine lv_aload_n hx hb dX6_swap_0 rfl (lv_at hl 0 rfl) ?_
  refine lv_iload_n hx hb dX6_swap_1 rfl (lv_at hl 1 rfl) ?_
  obtain ⟨v2, hd2, -⟩ := bd0_s hF
  refine cl_Vi (rest := []) hC hK hSK (c_X6_isNobody l z σ h0 g0 p1 v2 hd2) k_X6_isNobody mw_2_225 ⟨rfl, rfl, Nat.le_of_ble_eq_true rfl, Nat.le_of_ble_eq_true rfl⟩ (rv_HeelDance hK hT g0) hT rfl hl.1 rfl (Nat.le_of_ble_eq_true rfl) dX6_swap_2 ⟨Nat.zero_le _, Nat.zero_le _⟩ hS (fun _ h => h) (fun _ _ h => h) (fun r2 H locs hpo hS => ?_)
  obtain ⟨he2, hT, u2_0, u2_1⟩ := hpo
  have hF := bd0_r hF hd2 he2
  refine r_if_ne (tgt := 21) hx hb dX6_swap_5 (by decide) (fun c5 => ?_) (fun c5 => ?_)
  · have hF := ifn hF c5
    refine r_iconst hx hb dX6_swap_21 (by decide) (by decide) (fun x21 e21 => ?_)
    have hF := bn hF e21
    exact rt_i hx hb hr hlk hS ⟨σ, hF, hT⟩ dX6_swap_22
  · have hF := ifp hF c5
    refine lv_aload_n hx hb dX6_swap_8 rfl (lv_at hl 0 rfl) ?_
    refine lv_iload_n hx hb dX6_swap_9 rfl (lv_at hl 2 rfl) ?_
    obtain ⟨v10, hd10, -⟩ := bd0_s hF
    refine cl_Vi (rest := []) hC hK hSK (c_X6_isNobody l z σ h0 g0 p2 v10 hd10) k_X6_isNobody mw_2_225 ⟨rfl, rfl, Nat.le_of_ble_eq_true rfl, Nat.le_of_ble_eq_true rfl⟩ (rv_HeelDance hK hT g0) hT rfl hl.1 rfl (Nat.le_of_ble_eq_true rfl) dX6_swap_10 ⟨Nat.zero_le _, Nat.zero_le _⟩ hS (fun _ h => h) (fun _ _ h => h) (fun r10 H locs hpo hS => ?_)
    obtain ⟨he10, hT, u10_0, u10_1⟩ := hpo
    have hF := bd0_r hF hd10 he10
    refine r_if_ne (tgt := 21) hx hb dX6_swap_13 (by decide) (fun c13 => ?_) (fun c13 => ?_)
    · have hF := ifn hF c13
      refine r_iconst hx hb dX6_swap_21 (by decide) (by decide) (fun x21 e21 => ?_)
      have hF := bn hF e21
      exact rt_i hx hb hr hlk hS ⟨σ, hF, hT⟩ dX6_swap_22
    · have hF := ifp hF c13
      refine lv_iload_n hx hb dX6_swap_16 rfl (lv_at hl 1 rfl) ?_
      refine lv_iload_n hx hb dX6_swap_17 rfl (lv_at hl 2 rfl) ?_
      refine r_icmp_ne (tgt := 23) hx hb dX6_swap_18 (by decide) (fun c18 => ?_) (fun c18 => ?_)
      · have hF := ifn hF c18
        refine lv_aload_n hx hb dX6_swap_23 rfl (lv_at hl 0 rfl) ?_
        refine gt_HeelDance_now hx hb hts ic_HeelDance hown hK hT g0 (hts _ mw_2_8) dX6_swap_24 (fun q24 hq24 => ?_)
        refine gt_Evening_floor hx hb hts ic_Evening hown hK hT hq24 (hts _ mw_1_91) dX6_swap_27 (fun q27 hq27 => ?_)
        refine gt_Floor_partner hx hb hts ic_Floor hown hK hT hq27 (hts _ mw_1_54) dX6_swap_30 (fun q30 hq30 => ?_)
        refine lv_astore_n (lv' := [(3, .ref q30), (0, .ref h0), (1, .int p1), (2, .int p2)]) hx hb dX6_swap_33 rfl hl (by decide) rfl (fun ls hl => ?_)
        refine lv_aload_n hx hb dX6_swap_34 rfl (lv_at hl 0 rfl) ?_
        refine lv_iload_n hx hb dX6_swap_35 rfl (lv_at hl 2 rfl) ?_
        refine al_27 hx hb hK hT hq30 (by omega) (by omega) dX6_swap_36 (fun x36 e36 g36 => ?_)
        have hF := bn hF e36
        refine lv_istore (lv' := [(4, .int x36), (3, .ref q30), (0, .ref h0), (1, .int p1), (2, .int p2)]) hx hb dX6_swap_37 hl (by decide) rfl (fun ls hl => ?_)
        refine lv_aload_n hx hb dX6_swap_39 rfl (lv_at hl 1 rfl) ?_
        refine lv_iload_n hx hb dX6_swap_40 rfl (lv_at hl 3 rfl) ?_
        refine lv_aload_n hx hb dX6_swap_41 rfl (lv_at hl 1 rfl) ?_
        refine lv_iload_n hx hb dX6_swap_42 rfl (lv_at hl 4 rfl) ?_
        refine al_27 hx hb hK hT hq30 (by omega) (by omega) dX6_swap_43 (fun x43 e43 g43 => ?_)
        have hF := bn hF e43
        refine as_27 hx hb hK hT hS hq30 (by omega) (by omega) ⟨by omega, by omega⟩ dX6_swap_44 (fun H locs hT hS => ?_)
        obtain ⟨σ44, hF, hT⟩ := wrG hF hT
        refine lv_aload_n hx hb dX6_swap_45 rfl (lv_at hl 1 rfl) ?_
        refine lv_iload_n hx hb dX6_swap_46 rfl (lv_at hl 4 rfl) ?_
        refine lv_iload hx hb dX6_swap_47 (lv_at hl 0 rfl) ?_
        refine as_27 hx hb hK hT hS hq30 (by omega) (by omega) ⟨by omega, by omega⟩ dX6_swap_49 (fun H locs hT hS => ?_)
        obtain ⟨σ49, hF, hT⟩ := wrG hF hT
        refine lv_aload_n hx hb dX6_swap_50 rfl (lv_at hl 1 rfl) ?_
        refine lv_iload_n hx hb dX6_swap_51 rfl (lv_at hl 3 rfl) ?_
        refine al_27 hx hb hK hT hq30 (by omega) (by omega) dX6_swap_52 (fun x52 e52 g52 => ?_)
        have hF := bn hF e52
        exact rt_i hx hb hr hlk hS ⟨σ49, hF, hT⟩ dX6_swap_53
      · have hF := ifp hF c18
        refine r_iconst hx hb dX6_swap_21 (by decide) (by decide) (fun x21 e21 => ?_)
        have hF := bn hF e21
        exact rt_i hx hb hr hlk hS ⟨σ, hF, hT⟩ dX6_swap_22
theorem k_X6_plan : cBV yX6_plan cX6_plan 2 (some .int) 1 := ⟨mw_3_40, mw_3_41, mw_1_1, mw_3_42, ⟨by decide, by decide, by decide⟩⟩
set_option maxHeartbeats 4000000 in
set_option maxRecDepth 100000 in
theorem c_X6_plan (l : Launch) (z : Zt) (σ : Sg) (h0 : Nat) (g0 : zG z h0 = (16, 0)) (p1 : Int32) (out : (Int × Sg)) (hF : D_X6_plan σ p1.toInt = some out) : Met l yX6_plan (uw yX6_plan cX6_plan 2 (some .int)) (rmF 2 85) (PcW z [.ref h0, .int p1] (fun H => TY z (zA z) σ H)) (QcI z (fun r H => ∃ σ' : Sg, some (r.toInt, σ') = some out ∧ TY z (zA z) σ' H)) 0 0 (zA z) := by
  refine Met.ofW (cc := cX6_plan) (maxL := 2) (ret := (some .int)) (by decide) rfl ?_
  intro p e s m args below meth c s₁ B hml hv
  obtain ⟨rfl, hT, hK, hSK⟩ := hv
  have hx := B.exec
  have hb := B.bytes
  have hr := B.returns
  have hts : ∀ w ∈ lw_ok, w.before ([.ref h0, .int p1] : List Value).toArray s = true := fun w hw => atoms_spec (ws := uw yX6_plan cX6_plan 2 (some .int)) B.pre w (List.mem_cons_of_mem _ hw)
  have hown : s.vm.findClass RX6 = some m.cls := findClass_of_methodNamed B.named
  have hlk := B.notSynchronized
  have hC : CallFix p m c cX6_plan 2 s ([.ref h0, .int p1] : List Value).toArray lw_ok RX6 := ⟨hx, hb, hml, hown, hts⟩
  have hS : va_S (zA z) s.heap s.heap [] := va_S.rf
  have hl := lv_entry ([.ref h0, .int p1]) (n := 2) (Nat.le_of_ble_eq_true rfl)
  rw [lg_entry_eq]
  generalize (lg_sl ([.ref h0, .int p1]) ++ List.replicate (2 - (lg_sl ([.ref h0, .int p1])).length) Slot.unset).toArray = ls at hl ⊢
  have hl : lv_has ls 2 [(0, .ref h0), (1, .int p1)] := hl
  show W p l e (rmF 2 85) s m ([.ref h0, .int p1] : List Value).toArray below meth c s.heap [] 0 0 (MQ below (QcI z (fun r H => ∃ σ' : Sg, some (r.toInt, σ') = some out ∧ TY z (zA z) σ' H)) ([.ref h0, .int p1] : List Value).toArray s 0 0 (zA z)) (F0 m 0 ls [])
  unfold D_X6_plan at hF
  have mx_p1 := i_mx p1
  refine lv_iload_n hx hb dX6_plan_0 rfl (lv_at hl 1 rfl) ?_
  obtain ⟨v1, hd1, -⟩ := bd0_s hF
  refine cl_Si (rest := []) hC hK hSK (c_X6_isFigure l z σ p1 v1 hd1) k_X6_isFigure mw_3_43 ⟨rfl, rfl, Nat.le_of_ble_eq_true rfl, Nat.le_of_ble_eq_true rfl⟩ hT rfl hl.1 rfl (Nat.le_of_ble_eq_true rfl) dX6_plan_1 ⟨Nat.zero_le _, Nat.zero_le _⟩ hS (fun _ h => h) (fun _ _ h => h) (fun r1 H locs hpo hS => ?_)
  obtain ⟨he1, hT, u1_0, u1_1⟩ := hpo
  have hF := bd0_r hF hd1 he1
  refine r_if_ne (tgt := 9) hx hb dX6_plan_4 (by decide) (fun c4 => ?_) (fun c4 => ?_)
  · have hF := ifn hF c4
    refine lv_aload_n hx hb dX6_plan_9 rfl (lv_at hl 0 rfl) ?_
    refine gt_HeelDance_now hx hb hts ic_HeelDance hown hK hT g0 (hts _ mw_2_8) dX6_plan_10 (fun q10 hq10 => ?_)
    refine gt_Evening_figures hx hb hts ic_Evening hown hK hT hq10 (hts _ mw_1_108) dX6_plan_13 (fun x13 e13 f13 g13 => ?_)
    have hF := bn hF e13
    refine r_bipush hx hb dX6_plan_16 rfl (fun x16 e16 => ?_)
    have hF := bn hF e16
    refine r_icmp_lt (tgt := 24) hx hb dX6_plan_18 (by decide) (fun c18 => ?_) (fun c18 => ?_)
    · have hF := ifp hF c18
      refine lv_aload_n hx hb dX6_plan_24 rfl (lv_at hl 0 rfl) ?_
      refine gt_HeelDance_now hx hb hts ic_HeelDance hown hK hT g0 (hts _ mw_2_8) dX6_plan_25 (fun q25 hq25 => ?_)
      refine lv_iload_n hx hb dX6_plan_28 rfl (lv_at hl 1 rfl) ?_
      obtain ⟨s29, hd29, -⟩ := bd1_s hF
      refine cl_Vv (rest := []) hC hK hSK (c_X0_addFigure l z σ q25 (1) hq25 p1 s29 hd29) k_X0_addFigure mw_3_46 ⟨rfl, rfl, Nat.le_of_ble_eq_true rfl, Nat.le_of_ble_eq_true rfl⟩ (rv_Evening hK hT hq25) hT rfl hl.1 rfl (Nat.le_of_ble_eq_true rfl) dX6_plan_29 ⟨Nat.zero_le _, Nat.zero_le _⟩ hS (fun _ h => h) (fun _ _ h => h) (fun H locs hpo hS => ?_)
      obtain ⟨σ29, he29, hf29, hT⟩ := hpo
      have hF := bd1_r hF hd29 he29
      have hF := gsL hF hf29
      refine lv_aload_n hx hb dX6_plan_32 rfl (lv_at hl 0 rfl) ?_
      refine gt_HeelDance_now hx hb hts ic_HeelDance hown hK hT g0 (hts _ mw_2_8) dX6_plan_33 (fun q33 hq33 => ?_)
      refine gt_Evening_figures hx hb hts ic_Evening hown hK hT hq33 (hts _ mw_1_108) dX6_plan_36 (fun x36 e36 f36 g36 => ?_)
      have hF := bn hF e36
      exact rt_i hx hb hr hlk hS ⟨σ29, hF, hT⟩ dX6_plan_39
    · have hF := ifn hF (Int.not_lt.mpr c18)
      refine r_bipush hx hb dX6_plan_21 rfl (fun x21 e21 => ?_)
      have hF := bn hF e21
      exact rt_i hx hb hr hlk hS ⟨σ, hF, hT⟩ dX6_plan_23
  · have hF := ifp hF c4
    refine r_iconst hx hb dX6_plan_7 (by decide) (by decide) (fun x7 e7 => ?_)
    have hF := bn hF e7
    exact rt_i hx hb hr hlk hS ⟨σ, hF, hT⟩ dX6_plan_8
theorem k_X6_cut : cBV yX6_cut cX6_cut 3 (some .int) 1 := ⟨mw_3_48, mw_3_49, mw_1_1, mw_3_50, ⟨by decide, by decide, by decide⟩⟩
set_option maxHeartbeats 4000000 in
set_option maxRecDepth 100000 in
theorem c_X6_cut (l : Launch) (z : Zt) (σ : Sg) (h0 : Nat) (g0 : zG z h0 = (16, 0)) (p1 : Int32) (out : (Int × Sg)) (hF : D_X6_cut σ p1.toInt = some out) : Met l yX6_cut (uw yX6_cut cX6_cut 3 (some .int)) (rmF 1 64) (PcW z [.ref h0, .int p1] (fun H => TY z (zA z) σ H)) (QcI z (fun r H => ∃ σ' : Sg, some (r.toInt, σ') = some out ∧ TY z (zA z) σ' H)) 0 0 (zA z) := by
  refine Met.ofW (cc := cX6_cut) (maxL := 3) (ret := (some .int)) (by decide) rfl ?_
  intro p e s m args below meth c s₁ B hml hv
  obtain ⟨rfl, hT, hK, hSK⟩ := hv
  have hx := B.exec
  have hb := B.bytes
  have hr := B.returns
  have hts : ∀ w ∈ lw_ok, w.before ([.ref h0, .int p1] : List Value).toArray s = true := fun w hw => atoms_spec (ws := uw yX6_cut cX6_cut 3 (some .int)) B.pre w (List.mem_cons_of_mem _ hw)
  have hown : s.vm.findClass RX6 = some m.cls := findClass_of_methodNamed B.named
  have hlk := B.notSynchronized
  have hC : CallFix p m c cX6_cut 3 s ([.ref h0, .int p1] : List Value).toArray lw_ok RX6 := ⟨hx, hb, hml, hown, hts⟩
  have hS : va_S (zA z) s.heap s.heap [] := va_S.rf
  have hl := lv_entry ([.ref h0, .int p1]) (n := 3) (Nat.le_of_ble_eq_true rfl)
  rw [lg_entry_eq]
  generalize (lg_sl ([.ref h0, .int p1]) ++ List.replicate (3 - (lg_sl ([.ref h0, .int p1])).length) Slot.unset).toArray = ls at hl ⊢
  have hl : lv_has ls 3 [(0, .ref h0), (1, .int p1)] := hl
  show W p l e (rmF 1 64) s m ([.ref h0, .int p1] : List Value).toArray below meth c s.heap [] 0 0 (MQ below (QcI z (fun r H => ∃ σ' : Sg, some (r.toInt, σ') = some out ∧ TY z (zA z) σ' H)) ([.ref h0, .int p1] : List Value).toArray s 0 0 (zA z)) (F0 m 0 ls [])
  unfold D_X6_cut at hF
  have mx_p1 := i_mx p1
  refine lv_iload_n hx hb dX6_cut_0 rfl (lv_at hl 1 rfl) ?_
  refine r_if_lt (tgt := 15) hx hb dX6_cut_1 (by decide) (fun c1 => ?_) (fun c1 => ?_)
  · have hF := ifp hF c1
    refine r_iconst hx hb dX6_cut_15 (by decide) (by decide) (fun x15 e15 => ?_)
    have hF := bn hF e15
    exact rt_i hx hb hr hlk hS ⟨σ, hF, hT⟩ dX6_cut_16
  · have hF := ifn hF (Int.not_lt.mpr c1)
    refine lv_iload_n hx hb dX6_cut_4 rfl (lv_at hl 1 rfl) ?_
    refine lv_aload_n hx hb dX6_cut_5 rfl (lv_at hl 0 rfl) ?_
    refine gt_HeelDance_now hx hb hts ic_HeelDance hown hK hT g0 (hts _ mw_2_8) dX6_cut_6 (fun q6 hq6 => ?_)
    refine gt_Evening_figures hx hb hts ic_Evening hown hK hT hq6 (hts _ mw_1_108) dX6_cut_9 (fun x9 e9 f9 g9 => ?_)
    have hF := bn hF e9
    refine r_icmp_le (tgt := 17) hx hb dX6_cut_12 (by decide) (fun c12 => ?_) (fun c12 => ?_)
    · have hF := ifn hF (Int.not_lt.mpr c12)
      refine lv_aload_n hx hb dX6_cut_17 rfl (lv_at hl 0 rfl) ?_
      refine gt_HeelDance_now hx hb hts ic_HeelDance hown hK hT g0 (hts _ mw_2_8) dX6_cut_18 (fun q18 hq18 => ?_)
      refine gt_Evening_figures hx hb hts ic_Evening hown hK hT hq18 (hts _ mw_1_108) dX6_cut_21 (fun x21 e21 f21 g21 => ?_)
      have hF := bn hF e21
      refine lv_istore_n (lv' := [(2, .int x21), (0, .ref h0), (1, .int p1)]) hx hb dX6_cut_24 rfl hl (by decide) rfl (fun ls hl => ?_)
      refine lv_aload_n hx hb dX6_cut_25 rfl (lv_at hl 1 rfl) ?_
      refine gt_HeelDance_now hx hb hts ic_HeelDance hown hK hT g0 (hts _ mw_2_8) dX6_cut_26 (fun q26 hq26 => ?_)
      refine lv_iload_n hx hb dX6_cut_29 rfl (lv_at hl 2 rfl) ?_
      refine pt_Evening_figures hx hb hts ic_Evening hown hK hT hS hq26 (hts _ mw_1_108) (by omega) (by omega) dX6_cut_30 (fun H locs hT hS => ?_)
      obtain ⟨σ30, hF, hT⟩ := wrG hF hT
      refine lv_iload_n hx hb dX6_cut_33 rfl (lv_at hl 0 rfl) ?_
      exact rt_i hx hb hr hlk hS ⟨σ30, hF, hT⟩ dX6_cut_34
    · have hF := ifp hF c12
      refine r_iconst hx hb dX6_cut_15 (by decide) (by decide) (fun x15 e15 => ?_)
      have hF := bn hF e15
      exact rt_i hx hb hr hlk hS ⟨σ, hF, hT⟩ dX6_cut_16
theorem k_X6_dance : cBV yX6_dance cX6_dance 2 (some .int) 1 := ⟨mw_3_52, mw_3_53, mw_1_1, mw_3_54, ⟨by decide, by decide, by decide⟩⟩
set_option maxHeartbeats 4000000 in
set_option maxRecDepth 100000 in
theorem c_X6_dance (l : Launch) (z : Zt) (σ : Sg) (h0 : Nat) (g0 : zG z h0 = (16, 0)) (p1 : Int32) (out : (Int × Sg)) (hF : D_X6_dance σ p1.toInt = some out) : Met l yX6_dance (uw yX6_dance cX6_dance 2 (some .int)) (rmF 4 130) (PcW z [.ref h0, .int p1] (fun H => TY z (zA z) σ H)) (QcI z (fun r H => ∃ σ' : Sg, some (r.toInt, σ') = some out ∧ TY z (zA z) σ' H)) 0 0 (zA z) := by
  refine Met.ofW (cc := cX6_dance) (maxL := 2) (ret := (some .int)) (by decide) rfl ?_
  intro p e s m args below meth c s₁ B hml hv
  obtain ⟨rfl, hT, hK, hSK⟩ := hv
  have hx := B.exec
  have hb := B.bytes
  have hr := B.returns
  have hts : ∀ w ∈ lw_ok, w.before ([.ref h0, .int p1] : List Value).toArray s = true := fun w hw => atoms_spec (ws := uw yX6_dance cX6_dance 2 (some .int)) B.pre w (List.mem_cons_of_mem _ hw)
  have hown : s.vm.findClass RX6 = some m.cls := findClass_of_methodNamed B.named
  have hlk := B.notSynchronized
  have hC : CallFix p m c cX6_dance 2 s ([.ref h0, .int p1] : List Value).toArray lw_ok RX6 := ⟨hx, hb, hml, hown, hts⟩
  have hS : va_S (zA z) s.heap s.heap [] := va_S.rf
  have hl := lv_entry ([.ref h0, .int p1]) (n := 2) (Nat.le_of_ble_eq_true rfl)
  rw [lg_entry_eq]
  generalize (lg_sl ([.ref h0, .int p1]) ++ List.replicate (2 - (lg_sl ([.ref h0, .int p1])).length) Slot.unset).toArray = ls at hl ⊢
  have hl : lv_has ls 2 [(0, .ref h0), (1, .int p1)] := hl
  show W p l e (rmF 4 130) s m ([.ref h0, .int p1] : List Value).toArray below meth c s.heap [] 0 0 (MQ below (QcI z (fun r H => ∃ σ' : Sg, some (r.toInt, σ') = some out ∧ TY z (zA z) σ' H)) ([.ref h0, .int p1] : List Value).toArray s 0 0 (zA z)) (F0 m 0 ls [])
  unfold D_X6_dance at hF
  have mx_p1 := i_mx p1
  refine lv_iload_n hx hb dX6_dance_0 rfl (lv_at hl 1 rfl) ?_
  obtain ⟨v1, hd1, -⟩ := bd0_s hF
  refine cl_Si (rest := []) hC hK hSK (c_X6_isFigure l z σ p1 v1 hd1) k_X6_isFigure mw_3_43 ⟨rfl, rfl, Nat.le_of_ble_eq_true rfl, Nat.le_of_ble_eq_true rfl⟩ hT rfl hl.1 rfl (Nat.le_of_ble_eq_true rfl) dX6_dance_1 ⟨Nat.zero_le _, Nat.zero_le _⟩ hS (fun _ h => h) (fun _ _ h => h) (fun r1 H locs hpo hS => ?_)
  obtain ⟨he1, hT, u1_0, u1_1⟩ := hpo
  have hF := bd0_r hF hd1 he1
  refine r_if_ne (tgt := 9) hx hb dX6_dance_4 (by decide) (fun c4 => ?_) (fun c4 => ?_)
  · have hF := ifn hF c4
    refine lv_aload_n hx hb dX6_dance_9 rfl (lv_at hl 0 rfl) ?_
    refine gt_HeelDance_now hx hb hts ic_HeelDance hown hK hT g0 (hts _ mw_2_8) dX6_dance_10 (fun q10 hq10 => ?_)
    refine gt_Evening_floor hx hb hts ic_Evening hown hK hT hq10 (hts _ mw_1_91) dX6_dance_13 (fun q13 hq13 => ?_)
    refine gt_Floor_men hx hb hts ic_Floor hown hK hT hq13 (hts _ mw_1_62) dX6_dance_16 (fun x16 e16 f16 g16 => ?_)
    have hF := bn hF e16
    refine r_if_ne (tgt := 25) hx hb dX6_dance_19 (by decide) (fun c19 => ?_) (fun c19 => ?_)
    · have hF := ifn hF c19
      refine lv_aload_n hx hb dX6_dance_25 rfl (lv_at hl 0 rfl) ?_
      refine gt_HeelDance_now hx hb hts ic_HeelDance hown hK hT g0 (hts _ mw_2_8) dX6_dance_26 (fun q26 hq26 => ?_)
      refine gt_Evening_floor hx hb hts ic_Evening hown hK hT hq26 (hts _ mw_1_91) dX6_dance_29 (fun q29 hq29 => ?_)
      refine lv_iload_n hx hb dX6_dance_32 rfl (lv_at hl 1 rfl) ?_
      obtain ⟨s33, hd33, -⟩ := bd1_s hF
      refine cl_Vv (rest := []) hC hK hSK (c_X1_step l z σ q29 (1) hq29 p1 s33 hd33) k_X1_step mw_3_55 ⟨rfl, rfl, Nat.le_of_ble_eq_true rfl, Nat.le_of_ble_eq_true rfl⟩ (rv_Floor hK hT hq29) hT rfl hl.1 rfl (Nat.le_of_ble_eq_true rfl) dX6_dance_33 ⟨Nat.zero_le _, Nat.zero_le _⟩ hS (fun _ h => h) (fun _ _ h => h) (fun H locs hpo hS => ?_)
      obtain ⟨σ33, he33, hf33, hT⟩ := hpo
      have hF := bd1_r hF hd33 he33
      have hF := gsL hF hf33
      refine lv_aload_n hx hb dX6_dance_36 rfl (lv_at hl 0 rfl) ?_
      refine gt_HeelDance_now hx hb hts ic_HeelDance hown hK hT g0 (hts _ mw_2_8) dX6_dance_37 (fun q37 hq37 => ?_)
      refine gt_Evening_floor hx hb hts ic_Evening hown hK hT hq37 (hts _ mw_1_91) dX6_dance_40 (fun q40 hq40 => ?_)
      obtain ⟨v43, hd43, -⟩ := bd0_s hF
      refine cl_Vi (rest := []) hC hK hSK (c_X1_roundBits l z σ33 q40 (1) hq40 v43 hd43) k_X1_roundBits mw_2_217 ⟨rfl, rfl, Nat.le_of_ble_eq_true rfl, Nat.le_of_ble_eq_true rfl⟩ (rv_Floor hK hT hq40) hT rfl hl.1 rfl (Nat.le_of_ble_eq_true rfl) dX6_dance_43 ⟨Nat.zero_le _, Nat.zero_le _⟩ hS (fun _ h => h) (fun _ _ h => h) (fun r43 H locs hpo hS => ?_)
      obtain ⟨he43, hT⟩ := hpo
      have hF := bd0_r hF hd43 he43
      obtain ⟨v46, hd46, -⟩ := bd0_s hF
      refine cl_Si (rest := []) hC hK hSK (c_bitCount l z σ33 r43 v46 hd46) k_J6_bitCount_0f7a4 mw_3_79 ⟨rfl, rfl, Nat.le_of_ble_eq_true rfl, Nat.le_of_ble_eq_true rfl⟩ hT rfl hl.1 rfl (Nat.le_of_ble_eq_true rfl) dX6_dance_46 ⟨Nat.zero_le _, Nat.zero_le _⟩ hS (fun _ h => h) (fun _ _ h => h) (fun r46 H locs hpo hS => ?_)
      obtain ⟨he46, hT, u46_0⟩ := hpo
      have hF := bd0_r hF hd46 he46
      exact rt_i hx hb hr hlk hS ⟨σ33, hF, hT⟩ dX6_dance_49
    · have hF := ifp hF c19
      refine r_bipush hx hb dX6_dance_22 rfl (fun x22 e22 => ?_)
      have hF := bn hF e22
      exact rt_i hx hb hr hlk hS ⟨σ, hF, hT⟩ dX6_dance_24
  · have hF := ifp hF c4
    refine r_iconst hx hb dX6_dance_7 (by decide) (by decide) (fun x7 e7 => ?_)
    have hF := bn hF e7
    exact rt_i hx hb hr hlk hS ⟨σ, hF, hT⟩ dX6_dance_8
theorem k_X6_meetingsBehind : cBV yX6_meetingsBehind cX6_meetingsBehind 4 (some .int) 1 := ⟨mw_3_105, ms_1_4, mw_1_1, mw_3_106, ⟨by decide, by decide, by decide⟩⟩
set_option maxHeartbeats 4000000 in
set_option maxRecDepth 100000 in
theorem c_X6_meetingsBehind (l : Launch) (z : Zt) (σ : Sg) (h0 : Nat) (g0 : zG z h0 = (16, 0)) (p1 : Int32) (out : Int) (hF : D_X6_meetingsBehind σ p1.toInt = some out) (bp1 : 0 ≤ p1.toInt ∧ p1.toInt ≤ 8) : Met l yX6_meetingsBehind (uw yX6_meetingsBehind cX6_meetingsBehind 4 (some .int)) (rmF 2 86) (PcW z [.ref h0, .int p1] (fun H => TY z (zA z) σ H)) (QcI z (fun r H => some r.toInt = some out ∧ TY z (zA z) σ H)) 0 0 (zA z) := by
  refine Met.ofW (cc := cX6_meetingsBehind) (maxL := 4) (ret := (some .int)) (by decide) rfl ?_
  intro p e s m args below meth c s₁ B hml hv
  obtain ⟨rfl, hT, hK, hSK⟩ := hv
  have hx := B.exec
  have hb := B.bytes
  have hr := B.returns
  have hts : ∀ w ∈ lw_ok, w.before ([.ref h0, .int p1] : List Value).toArray s = true := fun w hw => atoms_spec (ws := uw yX6_meetingsBehind cX6_meetingsBehind 4 (some .int)) B.pre w (List.mem_cons_of_mem _ hw)
  have hown : s.vm.findClass RX6 = some m.cls := findClass_of_methodNamed B.named
  have hlk := B.notSynchronized
  have hC : CallFix p m c cX6_meetingsBehind 4 s ([.ref h0, .int p1] : List Value).toArray lw_ok RX6 := ⟨hx, hb, hml, hown, hts⟩
  have hS : va_S (zA z) s.heap s.heap [] := va_S.rf
  have hl := lv_entry ([.ref h0, .int p1]) (n := 4) (Nat.le_of_ble_eq_true rfl)
  rw [lg_entry_eq]
  generalize (lg_sl ([.ref h0, .int p1]) ++ List.replicate (4 - (lg_sl ([.ref h0, .int p1])).length) Slot.unset).toArray = ls at hl ⊢
  have hl : lv_has ls 4 [(0, .ref h0), (1, .int p1)] := hl
  show W p l e (rmF 2 86) s m ([.ref h0, .int p1] : List Value).toArray below meth c s.heap [] 0 0 (MQ below (QcI z (fun r H => some r.toInt = some out ∧ TY z (zA z) σ H)) ([.ref h0, .int p1] : List Value).toArray s 0 0 (zA z)) (F0 m 0 ls [])
  unfold D_X6_meetingsBehind at hF
  refine r_iconst hx hb dX6_meetingsBehind_0 (by decide) (by decide) (fun x0 e0 => ?_)
  have hF := bn hF e0
  refine lv_istore_n (lv' := [(2, .int x0), (0, .ref h0), (1, .int p1)]) hx hb dX6_meetingsBehind_1 rfl hl (by decide) rfl (fun ls hl => ?_)
  refine r_iconst hx hb dX6_meetingsBehind_2 (by decide) (by decide) (fun x2 e2 => ?_)
  have hF := bn hF e2
  refine lv_istore_n (lv' := [(3, .int x2), (2, .int x0), (0, .ref h0), (1, .int p1)]) hx hb dX6_meetingsBehind_3 rfl hl (by decide) rfl (fun ls hl => ?_)
  have J4 : ∀ (n4 : Nat) (ls : Array Slot) (H : Heap) (locs : List Loc) (y4_2 : Int32) (y4_3 : Int32), (0 ≤ y4_3.toInt ∧ y4_3.toInt ≤ 5) → D_X6_meetingsBehind_4 p1.toInt σ n4 y4_2.toInt y4_3.toInt = some out → TY z (zA z) σ H → va_S (zA z) s.heap H locs → lv_has ls 4 [(0, .ref h0), (1, .int p1), (2, .int y4_2), (3, .int y4_3)] → W p l e (rmF 2 86) s m ([.ref h0, .int p1] : List Value).toArray below meth c H locs 0 0 (MQ below (QcI z (fun r H => some r.toInt = some out ∧ TY z (zA z) σ H)) ([.ref h0, .int p1] : List Value).toArray s 0 0 (zA z)) (F0 m 4 ls []) := by
    intro n4
    induction n4 with
    | zero => intro ls H locs y4_2 y4_3 j4_y4_3 hF hT hS hl; exact (no_s hF).elim
    | succ n4 ih4 =>
      intro ls H locs y4_2 y4_3 j4_y4_3 hF hT hS hl
      rw [D_X6_meetingsBehind_4.eq_2] at hF
      refine lv_iload_n hx hb dX6_meetingsBehind_4 rfl (lv_at hl 3 rfl) ?_
      refine lv_aload_n hx hb dX6_meetingsBehind_5 rfl (lv_at hl 0 rfl) ?_
      refine gt_HeelDance_now hx hb hts ic_HeelDance hown hK hT g0 (hts _ mw_2_8) dX6_meetingsBehind_6 (fun q6 hq6 => ?_)
      refine gt_Evening_floor hx hb hts ic_Evening hown hK hT hq6 (hts _ mw_1_91) dX6_meetingsBehind_9 (fun q9 hq9 => ?_)
      refine gt_Floor_men hx hb hts ic_Floor hown hK hT hq9 (hts _ mw_1_62) dX6_meetingsBehind_12 (fun x12 e12 f12 g12 => ?_)
      have hF := bn hF e12
      refine r_icmp_ge (tgt := 47) hx hb dX6_meetingsBehind_15 (by decide) (fun c15 => ?_) (fun c15 => ?_)
      · have hF := ifn hF (Int.not_lt.mpr c15)
        refine lv_iload_n hx hb dX6_meetingsBehind_47 rfl (lv_at hl 2 rfl) ?_
        exact rt_i hx hb hr hlk hS ⟨hF, hT⟩ dX6_meetingsBehind_48
      · have hF := ifp hF c15
        refine lv_aload_n hx hb dX6_meetingsBehind_18 rfl (lv_at hl 0 rfl) ?_
        refine gt_HeelDance_now hx hb hts ic_HeelDance hown hK hT g0 (hts _ mw_2_8) dX6_meetingsBehind_19 (fun q19 hq19 => ?_)
        refine lv_iload_n hx hb dX6_meetingsBehind_22 rfl (lv_at hl 3 rfl) ?_
        refine lv_aload_n hx hb dX6_meetingsBehind_23 rfl (lv_at hl 0 rfl) ?_
        refine gt_HeelDance_walk hx hb hts ic_HeelDance hown hK hT g0 (hts _ mw_2_11) dX6_meetingsBehind_24 (fun q24 hq24 => ?_)
        refine lv_iload_n hx hb dX6_meetingsBehind_27 rfl (lv_at hl 3 rfl) ?_
        refine lv_iload_n hx hb dX6_meetingsBehind_28 rfl (lv_at hl 1 rfl) ?_
        obtain ⟨v29, hd29, -⟩ := bd0_s hF
        refine cl_Vi (rest := [.int y4_3, .ref q19]) hC hK hSK (c_X5_partnerBehind l z σ q24 (5) hq24 y4_3 p1 v29 hd29 (by omega) (by omega)) k_X5_partnerBehind mw_3_107 ⟨rfl, rfl, Nat.le_of_ble_eq_true rfl, Nat.le_of_ble_eq_true rfl⟩ (rv_Walk hK hT hq24) hT rfl hl.1 rfl (Nat.le_of_ble_eq_true rfl) dX6_meetingsBehind_29 ⟨Nat.zero_le _, Nat.zero_le _⟩ hS (fun _ h => h) (fun _ _ h => h) (fun r29 H locs hpo hS => ?_)
        obtain ⟨he29, hT, u29_0⟩ := hpo
        have hF := bd0_r hF hd29 he29
        obtain ⟨v32, hd32, -⟩ := bd0_s hF
        refine cl_Vi (rest := []) hC hK hSK (c_X0_areKin l z σ q19 (1) hq19 y4_3 r29 v32 hd32 (by omega)) k_X0_areKin mw_3_38 ⟨rfl, rfl, Nat.le_of_ble_eq_true rfl, Nat.le_of_ble_eq_true rfl⟩ (rv_Evening hK hT hq19) hT rfl hl.1 rfl (Nat.le_of_ble_eq_true rfl) dX6_meetingsBehind_32 ⟨Nat.zero_le _, Nat.zero_le _⟩ hS (fun _ h => h) (fun _ _ h => h) (fun r32 H locs hpo hS => ?_)
        obtain ⟨he32, hT, u32_0⟩ := hpo
        have hF := bd0_r hF hd32 he32
        have J41 : ∀ (ls : Array Slot) (H : Heap) (locs : List Loc) (y41_2 : Int32), D_X6_meetingsBehind_41 (D_X6_meetingsBehind_4 p1.toInt σ n4) y4_3.toInt y41_2.toInt = some out → TY z (zA z) σ H → va_S (zA z) s.heap H locs → lv_has ls 4 [(0, .ref h0), (1, .int p1), (2, .int y41_2), (3, .int y4_3)] → W p l e (rmF 2 86) s m ([.ref h0, .int p1] : List Value).toArray below meth c H locs 0 0 (MQ below (QcI z (fun r H => some r.toInt = some out ∧ TY z (zA z) σ H)) ([.ref h0, .int p1] : List Value).toArray s 0 0 (zA z)) (F0 m 41 ls []) := by
          intro ls H locs y41_2 hF hT hS hl
          unfold D_X6_meetingsBehind_41 at hF
          refine r_iinc (lv' := fun v__ => [(3, .int v__), (0, .ref h0), (1, .int p1), (2, .int y41_2)]) hx hb dX6_meetingsBehind_41 hl (k := 3) rfl (by decide) (fun _ => rfl) ⟨by decide, by decide⟩ (by omega) (by omega) (fun x41 ls e41 hl => ?_)
          have hF := bn hF e41
          refine lv_goto (tgt := 4) hx hb dX6_meetingsBehind_44 (by decide) ?_
          exact ih4 ls _ _ y41_2 x41 (by omega) hF hT hS (lv_sub hl [1, 2, 3, 0] rfl)
        refine r_if_eq (tgt := 41) hx hb dX6_meetingsBehind_35 (by decide) (fun c35 => ?_) (fun c35 => ?_)
        · have hF := ifp hF c35
          exact J41 ls _ _ y4_2 hF hT hS (lv_sub hl [0, 1, 2, 3] rfl)
        · have hF := ifn hF c35
          refine x_iinc (lv' := fun v__ => [(2, .int v__), (0, .ref h0), (1, .int p1), (3, .int y4_3)]) hx hb dX6_meetingsBehind_38 hl (k := 2) rfl (by decide) (fun _ => rfl) ⟨by decide, by decide⟩ (fun x38 ls e38 hl => ?_)
          have hF := bn hF e38
          exact J41 ls _ _ x38 hF hT hS (lv_sub hl [1, 2, 0, 3] rfl)
  exact J4 5000 ls _ _ x0 x2 (by omega) hF hT hS (lv_sub hl [2, 3, 1, 0] rfl)
theorem k_X6_allMeetings : cBV yX6_allMeetings cX6_allMeetings 3 (some .int) 0 := ⟨mw_3_101, ms_1_3, mw_1_1, mw_3_102, ⟨by decide, by decide, by decide⟩⟩
set_option maxHeartbeats 4000000 in
set_option maxRecDepth 100000 in
theorem c_X6_allMeetings (l : Launch) (z : Zt) (σ : Sg) (h0 : Nat) (g0 : zG z h0 = (16, 0)) (out : Int) (hF : D_X6_allMeetings σ = some out) : Met l yX6_allMeetings (uw yX6_allMeetings cX6_allMeetings 3 (some .int)) (rmF 3 109) (PcW z [.ref h0] (fun H => TY z (zA z) σ H)) (QcI z (fun r H => some r.toInt = some out ∧ TY z (zA z) σ H)) 0 0 (zA z) := by
  refine Met.ofW (cc := cX6_allMeetings) (maxL := 3) (ret := (some .int)) (by decide) rfl ?_
  intro p e s m args below meth c s₁ B hml hv
  obtain ⟨rfl, hT, hK, hSK⟩ := hv
  have hx := B.exec
  have hb := B.bytes
  have hr := B.returns
  have hts : ∀ w ∈ lw_ok, w.before ([.ref h0] : List Value).toArray s = true := fun w hw => atoms_spec (ws := uw yX6_allMeetings cX6_allMeetings 3 (some .int)) B.pre w (List.mem_cons_of_mem _ hw)
  have hown : s.vm.findClass RX6 = some m.cls := findClass_of_methodNamed B.named
  have hlk := B.notSynchronized
  have hC : CallFix p m c cX6_allMeetings 3 s ([.ref h0] : List Value).toArray lw_ok RX6 := ⟨hx, hb, hml, hown, hts⟩
  have hS : va_S (zA z) s.heap s.heap [] := va_S.rf
  have hl := lv_entry ([.ref h0]) (n := 3) (Nat.le_of_ble_eq_true rfl)
  rw [lg_entry_eq]
  generalize (lg_sl ([.ref h0]) ++ List.replicate (3 - (lg_sl ([.ref h0])).length) Slot.unset).toArray = ls at hl ⊢
  have hl : lv_has ls 3 [(0, .ref h0)] := hl
  show W p l e (rmF 3 109) s m ([.ref h0] : List Value).toArray below meth c s.heap [] 0 0 (MQ below (QcI z (fun r H => some r.toInt = some out ∧ TY z (zA z) σ H)) ([.ref h0] : List Value).toArray s 0 0 (zA z)) (F0 m 0 ls [])
  unfold D_X6_allMeetings at hF
  refine r_iconst hx hb dX6_allMeetings_0 (by decide) (by decide) (fun x0 e0 => ?_)
  have hF := bn hF e0
  refine lv_istore_n (lv' := [(1, .int x0), (0, .ref h0)]) hx hb dX6_allMeetings_1 rfl hl (by decide) rfl (fun ls hl => ?_)
  refine r_iconst hx hb dX6_allMeetings_2 (by decide) (by decide) (fun x2 e2 => ?_)
  have hF := bn hF e2
  refine lv_istore_n (lv' := [(2, .int x2), (1, .int x0), (0, .ref h0)]) hx hb dX6_allMeetings_3 rfl hl (by decide) rfl (fun ls hl => ?_)
  have J4 : ∀ (n4 : Nat) (ls : Array Slot) (H : Heap) (locs : List Loc) (y4_1 : Int32) (y4_2 : Int32), (1 ≤ y4_2.toInt ∧ y4_2.toInt ≤ 9) → D_X6_allMeetings_4 σ n4 y4_1.toInt y4_2.toInt = some out → TY z (zA z) σ H → va_S (zA z) s.heap H locs → lv_has ls 3 [(0, .ref h0), (1, .int y4_1), (2, .int y4_2)] → W p l e (rmF 3 109) s m ([.ref h0] : List Value).toArray below meth c H locs 0 0 (MQ below (QcI z (fun r H => some r.toInt = some out ∧ TY z (zA z) σ H)) ([.ref h0] : List Value).toArray s 0 0 (zA z)) (F0 m 4 ls []) := by
    intro n4
    induction n4 with
    | zero => intro ls H locs y4_1 y4_2 j4_y4_2 hF hT hS hl; exact (no_s hF).elim
    | succ n4 ih4 =>
      intro ls H locs y4_1 y4_2 j4_y4_2 hF hT hS hl
      rw [D_X6_allMeetings_4.eq_2] at hF
      refine lv_iload_n hx hb dX6_allMeetings_4 rfl (lv_at hl 2 rfl) ?_
      refine lv_aload_n hx hb dX6_allMeetings_5 rfl (lv_at hl 0 rfl) ?_
      refine gt_HeelDance_walk hx hb hts ic_HeelDance hown hK hT g0 (hts _ mw_2_11) dX6_allMeetings_6 (fun q6 hq6 => ?_)
      refine gt_Walk_steps hx hb hts ic_Walk hown hK hT hq6 (hts _ mw_1_180) dX6_allMeetings_9 (fun x9 e9 f9 g9 => ?_)
      have hF := bn hF e9
      refine r_icmp_gt (tgt := 29) hx hb dX6_allMeetings_12 (by decide) (fun c12 => ?_) (fun c12 => ?_)
      · have hF := ifp hF c12
        refine lv_iload_n hx hb dX6_allMeetings_29 rfl (lv_at hl 1 rfl) ?_
        exact rt_i hx hb hr hlk hS ⟨hF, hT⟩ dX6_allMeetings_30
      · have hF := ifn hF (Int.not_lt.mpr c12)
        refine lv_iload_n hx hb dX6_allMeetings_15 rfl (lv_at hl 1 rfl) ?_
        refine lv_aload_n hx hb dX6_allMeetings_16 rfl (lv_at hl 0 rfl) ?_
        refine lv_iload_n hx hb dX6_allMeetings_17 rfl (lv_at hl 2 rfl) ?_
        obtain ⟨v18, hd18, -⟩ := bd0_s hF
        refine cl_Vi (rest := [.int y4_1]) hC hK hSK (c_X6_meetingsBehind l z σ h0 g0 y4_2 v18 hd18 (by omega)) k_X6_meetingsBehind mw_3_103 ⟨rfl, rfl, Nat.le_of_ble_eq_true rfl, Nat.le_of_ble_eq_true rfl⟩ (rv_HeelDance hK hT g0) hT rfl hl.1 rfl (Nat.le_of_ble_eq_true rfl) dX6_allMeetings_18 ⟨Nat.zero_le _, Nat.zero_le _⟩ hS (fun _ h => h) (fun _ _ h => h) (fun r18 H locs hpo hS => ?_)
        obtain ⟨he18, hT⟩ := hpo
        have hF := bd0_r hF hd18 he18
        refine x_iadd hx hb dX6_allMeetings_21 (fun x21 e21 => ?_)
        have hF := bn hF e21
        refine lv_istore_n (lv' := [(1, .int x21), (0, .ref h0), (2, .int y4_2)]) hx hb dX6_allMeetings_22 rfl hl (by decide) rfl (fun ls hl => ?_)
        refine r_iinc (lv' := fun v__ => [(2, .int v__), (1, .int x21), (0, .ref h0)]) hx hb dX6_allMeetings_23 hl (k := 2) rfl (by decide) (fun _ => rfl) ⟨by decide, by decide⟩ (by omega) (by omega) (fun x23 ls e23 hl => ?_)
        have hF := bn hF e23
        refine lv_goto (tgt := 4) hx hb dX6_allMeetings_26 (by decide) ?_
        exact ih4 ls _ _ x21 x23 (by omega) hF hT hS (lv_sub hl [2, 1, 0] rfl)
  exact J4 5000 ls _ _ x0 x2 (by omega) hF hT hS (lv_sub hl [2, 1, 0] rfl)
theorem k_X6_firstMeeting : cBV yX6_firstMeeting cX6_firstMeeting 2 (some .int) 0 := ⟨mw_3_114, ms_1_5, mw_1_1, mw_3_115, ⟨by decide, by decide, by decide⟩⟩
set_option maxHeartbeats 4000000 in
set_option maxRecDepth 100000 in
theorem c_X6_firstMeeting (l : Launch) (z : Zt) (σ : Sg) (h0 : Nat) (g0 : zG z h0 = (16, 0)) (out : Int) (hF : D_X6_firstMeeting σ = some out) : Met l yX6_firstMeeting (uw yX6_firstMeeting cX6_firstMeeting 2 (some .int)) (rmF 3 109) (PcW z [.ref h0] (fun H => TY z (zA z) σ H)) (QcI z (fun r H => some r.toInt = some out ∧ TY z (zA z) σ H)) 0 0 (zA z) := by
  refine Met.ofW (cc := cX6_firstMeeting) (maxL := 2) (ret := (some .int)) (by decide) rfl ?_
  intro p e s m args below meth c s₁ B hml hv
  obtain ⟨rfl, hT, hK, hSK⟩ := hv
  have hx := B.exec
  have hb := B.bytes
  have hr := B.returns
  have hts : ∀ w ∈ lw_ok, w.before ([.ref h0] : List Value).toArray s = true := fun w hw => atoms_spec (ws := uw yX6_firstMeeting cX6_firstMeeting 2 (some .int)) B.pre w (List.mem_cons_of_mem _ hw)
  have hown : s.vm.findClass RX6 = some m.cls := findClass_of_methodNamed B.named
  have hlk := B.notSynchronized
  have hC : CallFix p m c cX6_firstMeeting 2 s ([.ref h0] : List Value).toArray lw_ok RX6 := ⟨hx, hb, hml, hown, hts⟩
  have hS : va_S (zA z) s.heap s.heap [] := va_S.rf
  have hl := lv_entry ([.ref h0]) (n := 2) (Nat.le_of_ble_eq_true rfl)
  rw [lg_entry_eq]
  generalize (lg_sl ([.ref h0]) ++ List.replicate (2 - (lg_sl ([.ref h0])).length) Slot.unset).toArray = ls at hl ⊢
  have hl : lv_has ls 2 [(0, .ref h0)] := hl
  show W p l e (rmF 3 109) s m ([.ref h0] : List Value).toArray below meth c s.heap [] 0 0 (MQ below (QcI z (fun r H => some r.toInt = some out ∧ TY z (zA z) σ H)) ([.ref h0] : List Value).toArray s 0 0 (zA z)) (F0 m 0 ls [])
  unfold D_X6_firstMeeting at hF
  refine r_iconst hx hb dX6_firstMeeting_0 (by decide) (by decide) (fun x0 e0 => ?_)
  have hF := bn hF e0
  refine lv_istore_n (lv' := [(1, .int x0), (0, .ref h0)]) hx hb dX6_firstMeeting_1 rfl hl (by decide) rfl (fun ls hl => ?_)
  have J2 : ∀ (n2 : Nat) (ls : Array Slot) (H : Heap) (locs : List Loc) (y2_1 : Int32), (1 ≤ y2_1.toInt ∧ y2_1.toInt ≤ 9) → D_X6_firstMeeting_2 σ n2 y2_1.toInt = some out → TY z (zA z) σ H → va_S (zA z) s.heap H locs → lv_has ls 2 [(0, .ref h0), (1, .int y2_1)] → W p l e (rmF 3 109) s m ([.ref h0] : List Value).toArray below meth c H locs 0 0 (MQ below (QcI z (fun r H => some r.toInt = some out ∧ TY z (zA z) σ H)) ([.ref h0] : List Value).toArray s 0 0 (zA z)) (F0 m 2 ls []) := by
    intro n2
    induction n2 with
    | zero => intro ls H locs y2_1 j2_y2_1 hF hT hS hl; exact (no_s hF).elim
    | succ n2 ih2 =>
      intro ls H locs y2_1 j2_y2_1 hF hT hS hl
      rw [D_X6_firstMeeting_2.eq_2] at hF
      refine lv_iload_n hx hb dX6_firstMeeting_2 rfl (lv_at hl 1 rfl) ?_
      refine lv_aload_n hx hb dX6_firstMeeting_3 rfl (lv_at hl 0 rfl) ?_
      refine gt_HeelDance_walk hx hb hts ic_HeelDance hown hK hT g0 (hts _ mw_2_11) dX6_firstMeeting_4 (fun q4 hq4 => ?_)
      refine gt_Walk_steps hx hb hts ic_Walk hown hK hT hq4 (hts _ mw_1_180) dX6_firstMeeting_7 (fun x7 e7 f7 g7 => ?_)
      have hF := bn hF e7
      refine r_icmp_gt (tgt := 29) hx hb dX6_firstMeeting_10 (by decide) (fun c10 => ?_) (fun c10 => ?_)
      · have hF := ifp hF c10
        refine r_bipush hx hb dX6_firstMeeting_29 rfl (fun x29 e29 => ?_)
        have hF := bn hF e29
        exact rt_i hx hb hr hlk hS ⟨hF, hT⟩ dX6_firstMeeting_31
      · have hF := ifn hF (Int.not_lt.mpr c10)
        refine lv_aload_n hx hb dX6_firstMeeting_13 rfl (lv_at hl 0 rfl) ?_
        refine lv_iload_n hx hb dX6_firstMeeting_14 rfl (lv_at hl 1 rfl) ?_
        obtain ⟨v15, hd15, -⟩ := bd0_s hF
        refine cl_Vi (rest := []) hC hK hSK (c_X6_meetingsBehind l z σ h0 g0 y2_1 v15 hd15 (by omega)) k_X6_meetingsBehind mw_3_103 ⟨rfl, rfl, Nat.le_of_ble_eq_true rfl, Nat.le_of_ble_eq_true rfl⟩ (rv_HeelDance hK hT g0) hT rfl hl.1 rfl (Nat.le_of_ble_eq_true rfl) dX6_firstMeeting_15 ⟨Nat.zero_le _, Nat.zero_le _⟩ hS (fun _ h => h) (fun _ _ h => h) (fun r15 H locs hpo hS => ?_)
        obtain ⟨he15, hT⟩ := hpo
        have hF := bd0_r hF hd15 he15
        refine r_if_le (tgt := 23) hx hb dX6_firstMeeting_18 (by decide) (fun c18 => ?_) (fun c18 => ?_)
        · have hF := ifn hF (Int.not_lt.mpr c18)
          refine r_iinc (lv' := fun v__ => [(1, .int v__), (0, .ref h0)]) hx hb dX6_firstMeeting_23 hl (k := 1) rfl (by decide) (fun _ => rfl) ⟨by decide, by decide⟩ (by omega) (by omega) (fun x23 ls e23 hl => ?_)
          have hF := bn hF e23
          refine lv_goto (tgt := 2) hx hb dX6_firstMeeting_26 (by decide) ?_
          exact ih2 ls _ _ x23 (by omega) hF hT hS (lv_sub hl [1, 0] rfl)
        · have hF := ifp hF c18
          refine lv_iload_n hx hb dX6_firstMeeting_21 rfl (lv_at hl 1 rfl) ?_
          exact rt_i hx hb hr hlk hS ⟨hF, hT⟩ dX6_firstMeeting_22
  exact J2 5000 ls _ _ x0 (by omega) hF hT hS (lv_sub hl [1, 0] rfl)
theorem k_X6_sum : cBS yX6_sum cX6_sum 4 (some .int) 2 := ⟨mw_3_117, mw_1_1, mw_3_118, ⟨by decide, by decide, by decide⟩⟩
set_option maxHeartbeats 4000000 in
set_option maxRecDepth 100000 in
theorem c_sum53 (l : Launch) (z : Zt) (σ : Sg) (ra1 o0 : Nat) (hra1 : zG z ra1 = (53, o0)) (p2 : Int32) (out : Int) (hF : D_sum53 (σ o0) p2.toInt = some out) : Met l yX6_sum (uw yX6_sum cX6_sum 4 (some .int)) (rmF 1 64) (PcW z [.ref ra1, .int p2] (fun H => TY z (zA z) σ H)) (QcI z (fun r H => some r.toInt = some out ∧ TY z (zA z) σ H)) 0 0 (zA z) := by
  refine Met.ofW (cc := cX6_sum) (maxL := 4) (ret := (some .int)) (by decide) rfl ?_
  intro p e s m args below meth c s₁ B hml hv
  obtain ⟨rfl, hT, hK, hSK⟩ := hv
  have hx := B.exec
  have hb := B.bytes
  have hr := B.returns
  have hts : ∀ w ∈ lw_ok, w.before ([.ref ra1, .int p2] : List Value).toArray s = true := fun w hw => atoms_spec (ws := uw yX6_sum cX6_sum 4 (some .int)) B.pre w (List.mem_cons_of_mem _ hw)
  have hown : s.vm.findClass RX6 = some m.cls := findClass_of_methodNamed B.named
  have hlk := B.notSynchronized
  have hC : CallFix p m c cX6_sum 4 s ([.ref ra1, .int p2] : List Value).toArray lw_ok RX6 := ⟨hx, hb, hml, hown, hts⟩
  have hS : va_S (zA z) s.heap s.heap [] := va_S.rf
  have hl := lv_entry ([.ref ra1, .int p2]) (n := 4) (Nat.le_of_ble_eq_true rfl)
  rw [lg_entry_eq]
  generalize (lg_sl ([.ref ra1, .int p2]) ++ List.replicate (4 - (lg_sl ([.ref ra1, .int p2])).length) Slot.unset).toArray = ls at hl ⊢
  have hl : lv_has ls 4 [(0, .ref ra1), (1, .int p2)] := hl
  show W p l e (rmF 1 64) s m ([.ref ra1, .int p2] : List Value).toArray below meth c s.heap [] 0 0 (MQ below (QcI z (fun r H => some r.toInt = some out ∧ TY z (zA z) σ H)) ([.ref ra1, .int p2] : List Value).toArray s 0 0 (zA z)) (F0 m 0 ls [])
  unfold D_sum53 at hF
  have mx_p2 := i_mx p2
  refine r_iconst hx hb dX6_sum_0 (by decide) (by decide) (fun x0 e0 => ?_)
  have hF := bn hF e0
  refine lv_istore_n (lv' := [(2, .int x0), (0, .ref ra1), (1, .int p2)]) hx hb dX6_sum_1 rfl hl (by decide) rfl (fun ls hl => ?_)
  refine r_iconst hx hb dX6_sum_2 (by decide) (by decide) (fun x2 e2 => ?_)
  have hF := bn hF e2
  refine lv_istore_n (lv' := [(3, .int x2), (2, .int x0), (0, .ref ra1), (1, .int p2)]) hx hb dX6_sum_3 rfl hl (by decide) rfl (fun ls hl => ?_)
  have J4 : ∀ (n4 : Nat) (ls : Array Slot) (H : Heap) (locs : List Loc) (y4_2 : Int32) (y4_3 : Int32), (0 ≤ y4_3.toInt ∧ y4_3.toInt ≤ 5) → D_sum53_4 p2.toInt (σ o0) n4 y4_2.toInt y4_3.toInt = some out → TY z (zA z) σ H → va_S (zA z) s.heap H locs → lv_has ls 4 [(0, .ref ra1), (1, .int p2), (2, .int y4_2), (3, .int y4_3)] → W p l e (rmF 1 64) s m ([.ref ra1, .int p2] : List Value).toArray below meth c H locs 0 0 (MQ below (QcI z (fun r H => some r.toInt = some out ∧ TY z (zA z) σ H)) ([.ref ra1, .int p2] : List Value).toArray s 0 0 (zA z)) (F0 m 4 ls []) := by
    intro n4
    induction n4 with
    | zero => intro ls H locs y4_2 y4_3 j4_y4_3 hF hT hS hl; exact (no_s hF).elim
    | succ n4 ih4 =>
      intro ls H locs y4_2 y4_3 j4_y4_3 hF hT hS hl
      rw [D_sum53_4.eq_2] at hF
      refine lv_iload_n hx hb dX6_sum_4 rfl (lv_at hl 3 rfl) ?_
      refine lv_iload_n hx hb dX6_sum_5 rfl (lv_at hl 1 rfl) ?_
      refine r_icmp_ge (tgt := 27) hx hb dX6_sum_6 (by decide) (fun c6 => ?_) (fun c6 => ?_)
      · have hF := ifn hF (Int.not_lt.mpr c6)
        refine lv_iload_n hx hb dX6_sum_27 rfl (lv_at hl 2 rfl) ?_
        exact rt_i hx hb hr hlk hS ⟨hF, hT⟩ dX6_sum_28
      · have hF := ifp hF c6
        refine lv_iload_n hx hb dX6_sum_9 rfl (lv_at hl 3 rfl) ?_
        refine lv_aload_n hx hb dX6_sum_10 rfl (lv_at hl 0 rfl) ?_
        refine an_53 hx hb hK hT hra1 dX6_sum_11 (fun x11 e11 => ?_)
        have hF := bn hF e11
        refine r_icmp_ge (tgt := 27) hx hb dX6_sum_12 (by decide) (fun c12 => ?_) (fun c12 => ?_)
        · have hF := ifn hF (Int.not_lt.mpr c12)
          refine lv_iload_n hx hb dX6_sum_27 rfl (lv_at hl 2 rfl) ?_
          exact rt_i hx hb hr hlk hS ⟨hF, hT⟩ dX6_sum_28
        · have hF := ifp hF c12
          refine lv_iload_n hx hb dX6_sum_15 rfl (lv_at hl 2 rfl) ?_
          refine lv_aload_n hx hb dX6_sum_16 rfl (lv_at hl 0 rfl) ?_
          refine lv_iload_n hx hb dX6_sum_17 rfl (lv_at hl 3 rfl) ?_
          refine al_53 hx hb hK hT hra1 (by omega) (by omega) dX6_sum_18 (fun x18 e18 g18 => ?_)
          have hF := bn hF e18
          refine x_iadd hx hb dX6_sum_19 (fun x19 e19 => ?_)
          have hF := bn hF e19
          refine lv_istore_n (lv' := [(2, .int x19), (0, .ref ra1), (1, .int p2), (3, .int y4_3)]) hx hb dX6_sum_20 rfl hl (by decide) rfl (fun ls hl => ?_)
          refine r_iinc (lv' := fun v__ => [(3, .int v__), (2, .int x19), (0, .ref ra1), (1, .int p2)]) hx hb dX6_sum_21 hl (k := 3) rfl (by decide) (fun _ => rfl) ⟨by decide, by decide⟩ (by omega) (by omega) (fun x21 ls e21 hl => ?_)
          have hF := bn hF e21
          refine lv_goto (tgt := 4) hx hb dX6_sum_24 (by decide) ?_
          exact ih4 ls _ _ x19 x21 (by omega) hF hT hS (lv_sub hl [2, 3, 1, 0] rfl)
  exact J4 5000 ls _ _ x0 x2 (by omega) hF hT hS (lv_sub hl [2, 3, 1, 0] rfl)
set_option maxHeartbeats 4000000 in
set_option maxRecDepth 100000 in
theorem c_sum54 (l : Launch) (z : Zt) (σ : Sg) (ra1 o0 : Nat) (hra1 : zG z ra1 = (54, o0)) (p2 : Int32) (out : Int) (hF : D_sum54 (σ o0) p2.toInt = some out) : Met l yX6_sum (uw yX6_sum cX6_sum 4 (some .int)) (rmF 1 64) (PcW z [.ref ra1, .int p2] (fun H => TY z (zA z) σ H)) (QcI z (fun r H => some r.toInt = some out ∧ TY z (zA z) σ H)) 0 0 (zA z) := by
  refine Met.ofW (cc := cX6_sum) (maxL := 4) (ret := (some .int)) (by decide) rfl ?_
  intro p e s m args below meth c s₁ B hml hv
  obtain ⟨rfl, hT, hK, hSK⟩ := hv
  have hx := B.exec
  have hb := B.bytes
  have hr := B.returns
  have hts : ∀ w ∈ lw_ok, w.before ([.ref ra1, .int p2] : List Value).toArray s = true := fun w hw => atoms_spec (ws := uw yX6_sum cX6_sum 4 (some .int)) B.pre w (List.mem_cons_of_mem _ hw)
  have hown : s.vm.findClass RX6 = some m.cls := findClass_of_methodNamed B.named
  have hlk := B.notSynchronized
  have hC : CallFix p m c cX6_sum 4 s ([.ref ra1, .int p2] : List Value).toArray lw_ok RX6 := ⟨hx, hb, hml, hown, hts⟩
  have hS : va_S (zA z) s.heap s.heap [] := va_S.rf
  have hl := lv_entry ([.ref ra1, .int p2]) (n := 4) (Nat.le_of_ble_eq_true rfl)
  rw [lg_entry_eq]
  generalize (lg_sl ([.ref ra1, .int p2]) ++ List.replicate (4 - (lg_sl ([.ref ra1, .int p2])).length) Slot.unset).toArray = ls at hl ⊢
  have hl : lv_has ls 4 [(0, .ref ra1), (1, .int p2)] := hl
  show W p l e (rmF 1 64) s m ([.ref ra1, .int p2] : List Value).toArray below meth c s.heap [] 0 0 (MQ below (QcI z (fun r H => some r.toInt = some out ∧ TY z (zA z) σ H)) ([.ref ra1, .int p2] : List Value).toArray s 0 0 (zA z)) (F0 m 0 ls [])
  unfold D_sum54 at hF
  have mx_p2 := i_mx p2
  refine r_iconst hx hb dX6_sum_0 (by decide) (by decide) (fun x0 e0 => ?_)
  have hF := bn hF e0
  refine lv_istore_n (lv' := [(2, .int x0), (0, .ref ra1), (1, .int p2)]) hx hb dX6_sum_1 rfl hl (by decide) rfl (fun ls hl => ?_)
  refine r_iconst hx hb dX6_sum_2 (by decide) (by decide) (fun x2 e2 => ?_)
  have hF := bn hF e2
  refine lv_istore_n (lv' := [(3, .int x2), (2, .int x0), (0, .ref ra1), (1, .int p2)]) hx hb dX6_sum_3 rfl hl (by decide) rfl (fun ls hl => ?_)
  have J4 : ∀ (n4 : Nat) (ls : Array Slot) (H : Heap) (locs : List Loc) (y4_2 : Int32) (y4_3 : Int32), (0 ≤ y4_3.toInt ∧ y4_3.toInt ≤ 5) → D_sum54_4 p2.toInt (σ o0) n4 y4_2.toInt y4_3.toInt = some out → TY z (zA z) σ H → va_S (zA z) s.heap H locs → lv_has ls 4 [(0, .ref ra1), (1, .int p2), (2, .int y4_2), (3, .int y4_3)] → W p l e (rmF 1 64) s m ([.ref ra1, .int p2] : List Value).toArray below meth c H locs 0 0 (MQ below (QcI z (fun r H => some r.toInt = some out ∧ TY z (zA z) σ H)) ([.ref ra1, .int p2] : List Value).toArray s 0 0 (zA z)) (F0 m 4 ls []) := by
    intro n4
    induction n4 with
    | zero => intro ls H locs y4_2 y4_3 j4_y4_3 hF hT hS hl; exact (no_s hF).elim
    | succ n4 ih4 =>
      intro ls H locs y4_2 y4_3 j4_y4_3 hF hT hS hl
      rw [D_sum54_4.eq_2] at hF
      refine lv_iload_n hx hb dX6_sum_4 rfl (lv_at hl 3 rfl) ?_
      refine lv_iload_n hx hb dX6_sum_5 rfl (lv_at hl 1 rfl) ?_
      refine r_icmp_ge (tgt := 27) hx hb dX6_sum_6 (by decide) (fun c6 => ?_) (fun c6 => ?_)
      · have hF := ifn hF (Int.not_lt.mpr c6)
        refine lv_iload_n hx hb dX6_sum_27 rfl (lv_at hl 2 rfl) ?_
        exact rt_i hx hb hr hlk hS ⟨hF, hT⟩ dX6_sum_28
      · have hF := ifp hF c6
        refine lv_iload_n hx hb dX6_sum_9 rfl (lv_at hl 3 rfl) ?_
        refine lv_aload_n hx hb dX6_sum_10 rfl (lv_at hl 0 rfl) ?_
        refine an_54 hx hb hK hT hra1 dX6_sum_11 (fun x11 e11 => ?_)
        have hF := bn hF e11
        refine r_icmp_ge (tgt := 27) hx hb dX6_sum_12 (by decide) (fun c12 => ?_) (fun c12 => ?_)
        · have hF := ifn hF (Int.not_lt.mpr c12)
          refine lv_iload_n hx hb dX6_sum_27 rfl (lv_at hl 2 rfl) ?_
          exact rt_i hx hb hr hlk hS ⟨hF, hT⟩ dX6_sum_28
        · have hF := ifp hF c12
          refine lv_iload_n hx hb dX6_sum_15 rfl (lv_at hl 2 rfl) ?_
          refine lv_aload_n hx hb dX6_sum_16 rfl (lv_at hl 0 rfl) ?_
          refine lv_iload_n hx hb dX6_sum_17 rfl (lv_at hl 3 rfl) ?_
          refine al_54 hx hb hK hT hra1 (by omega) (by omega) dX6_sum_18 (fun x18 e18 g18 => ?_)
          have hF := bn hF e18
          refine x_iadd hx hb dX6_sum_19 (fun x19 e19 => ?_)
          have hF := bn hF e19
          refine lv_istore_n (lv' := [(2, .int x19), (0, .ref ra1), (1, .int p2), (3, .int y4_3)]) hx hb dX6_sum_20 rfl hl (by decide) rfl (fun ls hl => ?_)
          refine r_iinc (lv' := fun v__ => [(3, .int v__), (2, .int x19), (0, .ref ra1), (1, .int p2)]) hx hb dX6_sum_21 hl (k := 3) rfl (by decide) (fun _ => rfl) ⟨by decide, by decide⟩ (by omega) (by omega) (fun x21 ls e21 hl => ?_)
          have hF := bn hF e21
          refine lv_goto (tgt := 4) hx hb dX6_sum_24 (by decide) ?_
          exact ih4 ls _ _ x19 x21 (by omega) hF hT hS (lv_sub hl [2, 3, 1, 0] rfl)
  exact J4 5000 ls _ _ x0 x2 (by omega) hF hT hS (lv_sub hl [2, 3, 1, 0] rfl)
theorem k_X6_walkNow : cBV yX6_walkNow cX6_walkNow 1 none 0 := ⟨mw_3_86, ms_1_1, mw_1_1, mw_3_87, ⟨by decide, by decide, by decide⟩⟩
set_option maxHeartbeats 4000000 in
set_option maxRecDepth 100000 in
theorem c_X6_walkNow (l : Launch) (z : Zt) (σ : Sg) (h0 : Nat) (g0 : zG z h0 = (16, 0)) (out : Sg) (hF : D_X6_walkNow σ = some out) : Met l yX6_walkNow (uw yX6_walkNow cX6_walkNow 1 none) (rmF 5 151) (PcW z [.ref h0] (fun H => TY z (zA z) σ H)) (QcV z (fun H => ∃ σ' : Sg, some (σ') = some out ∧ TY z (zA z) σ' H)) 0 0 (zA z) := by
  refine Met.ofW (cc := cX6_walkNow) (maxL := 1) (ret := none) (by decide) rfl ?_
  intro p e s m args below meth c s₁ B hml hv
  obtain ⟨rfl, hT, hK, hSK⟩ := hv
  have hx := B.exec
  have hb := B.bytes
  have hr := B.returns
  have hts : ∀ w ∈ lw_ok, w.before ([.ref h0] : List Value).toArray s = true := fun w hw => atoms_spec (ws := uw yX6_walkNow cX6_walkNow 1 none) B.pre w (List.mem_cons_of_mem _ hw)
  have hown : s.vm.findClass RX6 = some m.cls := findClass_of_methodNamed B.named
  have hlk := B.notSynchronized
  have hC : CallFix p m c cX6_walkNow 1 s ([.ref h0] : List Value).toArray lw_ok RX6 := ⟨hx, hb, hml, hown, hts⟩
  have hS : va_S (zA z) s.heap s.heap [] := va_S.rf
  have hl := lv_entry ([.ref h0]) (n := 1) (Nat.le_of_ble_eq_true rfl)
  rw [lg_entry_eq]
  generalize (lg_sl ([.ref h0]) ++ List.replicate (1 - (lg_sl ([.ref h0])).length) Slot.unset).toArray = ls at hl ⊢
  have hl : lv_has ls 1 [(0, .ref h0)] := hl
  show W p l e (rmF 5 151) s m ([.ref h0] : List Value).toArray below meth c s.heap [] 0 0 (MQ below (QcV z (fun H => ∃ σ' : Sg, some (σ') = some out ∧ TY z (zA z) σ' H)) ([.ref h0] : List Value).toArray s 0 0 (zA z)) (F0 m 0 ls [])
  unfold D_X6_walkNow at hF
  refine lv_aload_n hx hb dX6_walkNow_0 rfl (lv_at hl 0 rfl) ?_
  refine gt_HeelDance_walk hx hb hts ic_HeelDance hown hK hT g0 (hts _ mw_2_11) dX6_walkNow_1 (fun q1 hq1 => ?_)
  refine gt_Walk_floor hx hb hts ic_Walk hown hK hT hq1 (hts _ mw_1_177) dX6_walkNow_4 (fun q4 hq4 => ?_)
  refine lv_aload_n hx hb dX6_walkNow_7 rfl (lv_at hl 0 rfl) ?_
  refine gt_HeelDance_now hx hb hts ic_HeelDance hown hK hT g0 (hts _ mw_2_8) dX6_walkNow_8 (fun q8 hq8 => ?_)
  refine gt_Evening_floor hx hb hts ic_Evening hown hK hT hq8 (hts _ mw_1_91) dX6_walkNow_11 (fun q11 hq11 => ?_)
  obtain ⟨s14, hd14, -⟩ := bd1_s hF
  refine cl_Vv (rest := []) hC hK hSK (c_X1_copyFrom l z σ q4 (5) hq4 q11 (1) hq11 s14 hd14) k_X1_copyFrom mw_3_88 ⟨rfl, rfl, Nat.le_of_ble_eq_true rfl, Nat.le_of_ble_eq_true rfl⟩ (rv_Floor hK hT hq4) hT rfl hl.1 rfl (Nat.le_of_ble_eq_true rfl) dX6_walkNow_14 ⟨Nat.zero_le _, Nat.zero_le _⟩ hS (fun _ h => h) (fun _ _ h => h) (fun H locs hpo hS => ?_)
  obtain ⟨σ14, he14, hT⟩ := hpo
  have hF := bd1_r hF hd14 he14
  refine lv_aload_n hx hb dX6_walkNow_17 rfl (lv_at hl 0 rfl) ?_
  refine gt_HeelDance_walk hx hb hts ic_HeelDance hown hK hT g0 (hts _ mw_2_11) dX6_walkNow_18 (fun q18 hq18 => ?_)
  refine lv_aload_n hx hb dX6_walkNow_21 rfl (lv_at hl 0 rfl) ?_
  refine gt_HeelDance_now hx hb hts ic_HeelDance hown hK hT g0 (hts _ mw_2_8) dX6_walkNow_22 (fun q22 hq22 => ?_)
  obtain ⟨s25, hd25, -⟩ := bd1_s hF
  refine cl_Vv (rest := []) hC hK hSK (c_X5_follow l z σ14 q18 hq18 q22 (1) hq22 s25 hd25) k_X5_follow mw_3_89 ⟨rfl, rfl, Nat.le_of_ble_eq_true rfl, Nat.le_of_ble_eq_true rfl⟩ (rv_Walk hK hT hq18) hT rfl hl.1 rfl (Nat.le_of_ble_eq_true rfl) dX6_walkNow_25 ⟨Nat.zero_le _, Nat.zero_le _⟩ hS (fun _ h => h) (fun _ _ h => h) (fun H locs hpo hS => ?_)
  obtain ⟨σ25, he25, hT⟩ := hpo
  have hF := bd1_r hF hd25 he25
  exact rt_v hx hb hr hlk hS ⟨σ25, hF, hT⟩ dX6_walkNow_28
theorem k_X6_runs : cBV yX6_runs cX6_runs 2 (some .int) 1 := ⟨mw_3_81, mw_3_82, mw_1_1, mw_3_83, ⟨by decide, by decide, by decide⟩⟩
set_option maxHeartbeats 4000000 in
set_option maxRecDepth 100000 in
theorem c_X6_runs (l : Launch) (z : Zt) (σ : Sg) (h0 : Nat) (g0 : zG z h0 = (16, 0)) (p1 : Int32) (out : (Int × Sg)) (hF : D_X6_runs σ p1.toInt = some out) : Met l yX6_runs (uw yX6_runs cX6_runs 2 (some .int)) (rmF 6 171) (PcW z [.ref h0, .int p1] (fun H => TY z (zA z) σ H)) (QcI z (fun r H => ∃ σ' : Sg, some (r.toInt, σ') = some out ∧ TY z (zA z) σ' H)) 0 0 (zA z) := by
  refine Met.ofW (cc := cX6_runs) (maxL := 2) (ret := (some .int)) (by decide) rfl ?_
  intro p e s m args below meth c s₁ B hml hv
  obtain ⟨rfl, hT, hK, hSK⟩ := hv
  have hx := B.exec
  have hb := B.bytes
  have hr := B.returns
  have hts : ∀ w ∈ lw_ok, w.before ([.ref h0, .int p1] : List Value).toArray s = true := fun w hw => atoms_spec (ws := uw yX6_runs cX6_runs 2 (some .int)) B.pre w (List.mem_cons_of_mem _ hw)
  have hown : s.vm.findClass RX6 = some m.cls := findClass_of_methodNamed B.named
  have hlk := B.notSynchronized
  have hC : CallFix p m c cX6_runs 2 s ([.ref h0, .int p1] : List Value).toArray lw_ok RX6 := ⟨hx, hb, hml, hown, hts⟩
  have hS : va_S (zA z) s.heap s.heap [] := va_S.rf
  have hl := lv_entry ([.ref h0, .int p1]) (n := 2) (Nat.le_of_ble_eq_true rfl)
  rw [lg_entry_eq]
  generalize (lg_sl ([.ref h0, .int p1]) ++ List.replicate (2 - (lg_sl ([.ref h0, .int p1])).length) Slot.unset).toArray = ls at hl ⊢
  have hl : lv_has ls 2 [(0, .ref h0), (1, .int p1)] := hl
  show W p l e (rmF 6 171) s m ([.ref h0, .int p1] : List Value).toArray below meth c s.heap [] 0 0 (MQ below (QcI z (fun r H => ∃ σ' : Sg, some (r.toInt, σ') = some out ∧ TY z (zA z) σ' H)) ([.ref h0, .int p1] : List Value).toArray s 0 0 (zA z)) (F0 m 0 ls [])
  unfold D_X6_runs at hF
  have mx_p1 := i_mx p1
  refine lv_iload_n hx hb dX6_runs_0 rfl (lv_at hl 1 rfl) ?_
  refine r_if_lt (tgt := 9) hx hb dX6_runs_1 (by decide) (fun c1 => ?_) (fun c1 => ?_)
  · have hF := ifp hF c1
    refine r_iconst hx hb dX6_runs_9 (by decide) (by decide) (fun x9 e9 => ?_)
    have hF := bn hF e9
    exact rt_i hx hb hr hlk hS ⟨σ, hF, hT⟩ dX6_runs_10
  · have hF := ifn hF (Int.not_lt.mpr c1)
    refine lv_iload_n hx hb dX6_runs_4 rfl (lv_at hl 1 rfl) ?_
    refine r_iconst hx hb dX6_runs_5 (by decide) (by decide) (fun x5 e5 => ?_)
    have hF := bn hF e5
    refine r_icmp_le (tgt := 11) hx hb dX6_runs_6 (by decide) (fun c6 => ?_) (fun c6 => ?_)
    · have hF := ifn hF (Int.not_lt.mpr c6)
      refine lv_aload_n hx hb dX6_runs_11 rfl (lv_at hl 0 rfl) ?_
      obtain ⟨s12, hd12, -⟩ := bd1_s hF
      refine cl_Vv (rest := []) hC hK hSK (c_X6_walkNow l z σ h0 g0 s12 hd12) k_X6_walkNow mw_3_84 ⟨rfl, rfl, Nat.le_of_ble_eq_true rfl, Nat.le_of_ble_eq_true rfl⟩ (rv_HeelDance hK hT g0) hT rfl hl.1 rfl (Nat.le_of_ble_eq_true rfl) dX6_runs_12 ⟨Nat.zero_le _, Nat.zero_le _⟩ hS (fun _ h => h) (fun _ _ h => h) (fun H locs hpo hS => ?_)
      obtain ⟨σ12, he12, hT⟩ := hpo
      have hF := bd1_r hF hd12 he12
      refine lv_iload_n hx hb dX6_runs_15 rfl (lv_at hl 1 rfl) ?_
      rcases (show p1.toInt = 0 ∨ p1.toInt = 1 ∨ p1.toInt = 2 ∨ p1.toInt = 3 ∨ (p1.toInt < 0 ∨ 3 < p1.toInt) by omega) with c16 | c16 | c16 | c16 | c16
      · have hF := ifp hF c16
        refine lv_tableIn (off := 32) (tgt := 48) hx hb dX6_runs_16 (by omega) (by omega) (by rw [c16]; rfl) (by decide) ?_
        refine lv_aload_n hx hb dX6_runs_48 rfl (lv_at hl 0 rfl) ?_
        refine gt_HeelDance_walk hx hb hts ic_HeelDance hown hK hT g0 (hts _ mw_2_11) dX6_runs_49 (fun q49 hq49 => ?_)
        refine gt_Walk_floor hx hb hts ic_Walk hown hK hT hq49 (hts _ mw_1_177) dX6_runs_52 (fun q52 hq52 => ?_)
        obtain ⟨v55, hd55, -⟩ := bd0_s hF
        refine cl_Vi (rest := []) hC hK hSK (c_X1_roundBits l z σ12 q52 (5) hq52 v55 hd55) k_X1_roundBits mw_2_217 ⟨rfl, rfl, Nat.le_of_ble_eq_true rfl, Nat.le_of_ble_eq_true rfl⟩ (rv_Floor hK hT hq52) hT rfl hl.1 rfl (Nat.le_of_ble_eq_true rfl) dX6_runs_55 ⟨Nat.zero_le _, Nat.zero_le _⟩ hS (fun _ h => h) (fun _ _ h => h) (fun r55 H locs hpo hS => ?_)
        obtain ⟨he55, hT⟩ := hpo
        have hF := bd0_r hF hd55 he55
        obtain ⟨v58, hd58, -⟩ := bd0_s hF
        refine cl_Si (rest := []) hC hK hSK (c_bitCount l z σ12 r55 v58 hd58) k_J6_bitCount_0f7a4 mw_3_79 ⟨rfl, rfl, Nat.le_of_ble_eq_true rfl, Nat.le_of_ble_eq_true rfl⟩ hT rfl hl.1 rfl (Nat.le_of_ble_eq_true rfl) dX6_runs_58 ⟨Nat.zero_le _, Nat.zero_le _⟩ hS (fun _ h => h) (fun _ _ h => h) (fun r58 H locs hpo hS => ?_)
        obtain ⟨he58, hT, u58_0⟩ := hpo
        have hF := bd0_r hF hd58 he58
        exact rt_i hx hb hr hlk hS ⟨σ12, hF, hT⟩ dX6_runs_61
      · have hF := ifn hF (by omega)
        have hF := ifp hF c16
        refine lv_tableIn (off := 46) (tgt := 62) hx hb dX6_runs_16 (by omega) (by omega) (by rw [c16]; rfl) (by decide) ?_
        refine lv_aload_n hx hb dX6_runs_62 rfl (lv_at hl 0 rfl) ?_
        refine gt_HeelDance_walk hx hb hts ic_HeelDance hown hK hT g0 (hts _ mw_2_11) dX6_runs_63 (fun q63 hq63 => ?_)
        refine gt_Walk_floor hx hb hts ic_Walk hown hK hT hq63 (hts _ mw_1_177) dX6_runs_66 (fun q66 hq66 => ?_)
        obtain ⟨v69, hd69, -⟩ := bd0_s hF
        refine cl_Vi (rest := []) hC hK hSK (c_X1_roundBits l z σ12 q66 (5) hq66 v69 hd69) k_X1_roundBits mw_2_217 ⟨rfl, rfl, Nat.le_of_ble_eq_true rfl, Nat.le_of_ble_eq_true rfl⟩ (rv_Floor hK hT hq66) hT rfl hl.1 rfl (Nat.le_of_ble_eq_true rfl) dX6_runs_69 ⟨Nat.zero_le _, Nat.zero_le _⟩ hS (fun _ h => h) (fun _ _ h => h) (fun r69 H locs hpo hS => ?_)
        obtain ⟨he69, hT⟩ := hpo
        have hF := bd0_r hF hd69 he69
        exact rt_i hx hb hr hlk hS ⟨σ12, hF, hT⟩ dX6_runs_72
      · have hF := ifn hF (by omega)
        have hF := ifn hF (by omega)
        have hF := ifp hF c16
        refine lv_tableIn (off := 57) (tgt := 73) hx hb dX6_runs_16 (by omega) (by omega) (by rw [c16]; rfl) (by decide) ?_
        refine lv_aload_n hx hb dX6_runs_73 rfl (lv_at hl 0 rfl) ?_
        obtain ⟨v74, hd74, -⟩ := bd0_s hF
        refine cl_Vi (rest := []) hC hK hSK (c_X6_allMeetings l z σ12 h0 g0 v74 hd74) k_X6_allMeetings mw_3_99 ⟨rfl, rfl, Nat.le_of_ble_eq_true rfl, Nat.le_of_ble_eq_true rfl⟩ (rv_HeelDance hK hT g0) hT rfl hl.1 rfl (Nat.le_of_ble_eq_true rfl) dX6_runs_74 ⟨Nat.zero_le _, Nat.zero_le _⟩ hS (fun _ h => h) (fun _ _ h => h) (fun r74 H locs hpo hS => ?_)
        obtain ⟨he74, hT⟩ := hpo
        have hF := bd0_r hF hd74 he74
        exact rt_i hx hb hr hlk hS ⟨σ12, hF, hT⟩ dX6_runs_77
      · have hF := ifn hF (by omega)
        have hF := ifn hF (by omega)
        have hF := ifn hF (by omega)
        have hF := ifp hF c16
        refine lv_tableIn (off := 62) (tgt := 78) hx hb dX6_runs_16 (by omega) (by omega) (by rw [c16]; rfl) (by decide) ?_
        refine lv_aload_n hx hb dX6_runs_78 rfl (lv_at hl 0 rfl) ?_
        obtain ⟨v79, hd79, -⟩ := bd0_s hF
        refine cl_Vi (rest := []) hC hK hSK (c_X6_firstMeeting l z σ12 h0 g0 v79 hd79) k_X6_firstMeeting mw_3_112 ⟨rfl, rfl, Nat.le_of_ble_eq_true rfl, Nat.le_of_ble_eq_true rfl⟩ (rv_HeelDance hK hT g0) hT rfl hl.1 rfl (Nat.le_of_ble_eq_true rfl) dX6_runs_79 ⟨Nat.zero_le _, Nat.zero_le _⟩ hS (fun _ h => h) (fun _ _ h => h) (fun r79 H locs hpo hS => ?_)
        obtain ⟨he79, hT⟩ := hpo
        have hF := bd0_r hF hd79 he79
        exact rt_i hx hb hr hlk hS ⟨σ12, hF, hT⟩ dX6_runs_82
      · have hF := ifn hF (by omega)
        have hF := ifn hF (by omega)
        have hF := ifn hF (by omega)
        have hF := ifn hF (by omega)
        refine lv_tableOut (tgt := 83) hx hb dX6_runs_16 c16 (by decide) ?_
        refine lv_aload_n hx hb dX6_runs_83 rfl (lv_at hl 0 rfl) ?_
        refine gt_HeelDance_walk hx hb hts ic_HeelDance hown hK hT g0 (hts _ mw_2_11) dX6_runs_84 (fun q84 hq84 => ?_)
        refine gt_Walk_floor hx hb hts ic_Walk hown hK hT hq84 (hts _ mw_1_177) dX6_runs_87 (fun q87 hq87 => ?_)
        refine gt_Floor_heels hx hb hts ic_Floor hown hK hT hq87 (hts _ mw_1_48) dX6_runs_90 (fun q90 hq90 => ?_)
        refine lv_aload_n hx hb dX6_runs_93 rfl (lv_at hl 0 rfl) ?_
        refine gt_HeelDance_walk hx hb hts ic_HeelDance hown hK hT g0 (hts _ mw_2_11) dX6_runs_94 (fun q94 hq94 => ?_)
        refine gt_Walk_floor hx hb hts ic_Walk hown hK hT hq94 (hts _ mw_1_177) dX6_runs_97 (fun q97 hq97 => ?_)
        refine gt_Floor_men hx hb hts ic_Floor hown hK hT hq97 (hts _ mw_1_62) dX6_runs_100 (fun x100 e100 f100 g100 => ?_)
        have hF := bn hF e100
        obtain ⟨v103, hd103, -⟩ := bd0_s hF
        refine cl_Si (rest := []) hC hK hSK (c_sum53 l z σ12 q90 (5) hq90 x100 v103 hd103) k_X6_sum mw_3_116 ⟨rfl, rfl, Nat.le_of_ble_eq_true rfl, Nat.le_of_ble_eq_true rfl⟩ hT rfl hl.1 rfl (Nat.le_of_ble_eq_true rfl) dX6_runs_103 ⟨Nat.zero_le _, Nat.zero_le _⟩ hS (fun _ h => h) (fun _ _ h => h) (fun r103 H locs hpo hS => ?_)
        obtain ⟨he103, hT⟩ := hpo
        have hF := bd0_r hF hd103 he103
        exact rt_i hx hb hr hlk hS ⟨σ12, hF, hT⟩ dX6_runs_106
    · have hF := ifp hF c6
      refine r_iconst hx hb dX6_runs_9 (by decide) (by decide) (fun x9 e9 => ?_)
      have hF := bn hF e9
      exact rt_i hx hb hr hlk hS ⟨σ, hF, hT⟩ dX6_runs_10
theorem k_X6_ahead : cBV yX6_ahead cX6_ahead 3 (some .int) 2 := ⟨mw_3_120, mw_3_121, mw_1_1, mw_3_122, ⟨by decide, by decide, by decide⟩⟩
set_option maxHeartbeats 4000000 in
set_option maxRecDepth 100000 in
theorem c_X6_ahead (l : Launch) (z : Zt) (σ : Sg) (h0 : Nat) (g0 : zG z h0 = (16, 0)) (p1 : Int32) (p2 : Int32) (out : (Int × Sg)) (hF : D_X6_ahead σ p1.toInt p2.toInt = some out) : Met l yX6_ahead (uw yX6_ahead cX6_ahead 3 (some .int)) (rmF 6 171) (PcW z [.ref h0, .int p1, .int p2] (fun H => TY z (zA z) σ H)) (QcI z (fun r H => ∃ σ' : Sg, some (r.toInt, σ') = some out ∧ TY z (zA z) σ' H)) 0 0 (zA z) := by
  refine Met.ofW (cc := cX6_ahead) (maxL := 3) (ret := (some .int)) (by decide) rfl ?_
  intro p e s m args below meth c s₁ B hml hv
  obtain ⟨rfl, hT, hK, hSK⟩ := hv
  have hx := B.exec
  have hb := B.bytes
  have hr := B.returns
  have hts : ∀ w ∈ lw_ok, w.before ([.ref h0, .int p1, .int p2] : List Value).toArray s = true := fun w hw => atoms_spec (ws := uw yX6_ahead cX6_ahead 3 (some .int)) B.pre w (List.mem_cons_of_mem _ hw)
  have hown : s.vm.findClass RX6 = some m.cls := findClass_of_methodNamed B.named
  have hlk := B.notSynchronized
  have hC : CallFix p m c cX6_ahead 3 s ([.ref h0, .int p1, .int p2] : List Value).toArray lw_ok RX6 := ⟨hx, hb, hml, hown, hts⟩
  have hS : va_S (zA z) s.heap s.heap [] := va_S.rf
  have hl := lv_entry ([.ref h0, .int p1, .int p2]) (n := 3) (Nat.le_of_ble_eq_true rfl)
  rw [lg_entry_eq]
  generalize (lg_sl ([.ref h0, .int p1, .int p2]) ++ List.replicate (3 - (lg_sl ([.ref h0, .int p1, .int p2])).length) Slot.unset).toArray = ls at hl ⊢
  have hl : lv_has ls 3 [(0, .ref h0), (1, .int p1), (2, .int p2)] := hl
  show W p l e (rmF 6 171) s m ([.ref h0, .int p1, .int p2] : List Value).toArray below meth c s.heap [] 0 0 (MQ below (QcI z (fun r H => ∃ σ' : Sg, some (r.toInt, σ') = some out ∧ TY z (zA z) σ' H)) ([.ref h0, .int p1, .int p2] : List Value).toArray s 0 0 (zA z)) (F0 m 0 ls [])
  unfold D_X6_ahead at hF
  have mx_p1 := i_mx p1
  have mx_p2 := i_mx p2
  refine lv_aload_n hx hb dX6_ahead_0 rfl (lv_at hl 0 rfl) ?_
  refine lv_iload_n hx hb dX6_ahead_1 rfl (lv_at hl 1 rfl) ?_
  obtain ⟨v2, hd2, -⟩ := bd0_s hF
  refine cl_Vi (rest := []) hC hK hSK (c_X6_isNobody l z σ h0 g0 p1 v2 hd2) k_X6_isNobody mw_2_225 ⟨rfl, rfl, Nat.le_of_ble_eq_true rfl, Nat.le_of_ble_eq_true rfl⟩ (rv_HeelDance hK hT g0) hT rfl hl.1 rfl (Nat.le_of_ble_eq_true rfl) dX6_ahead_2 ⟨Nat.zero_le _, Nat.zero_le _⟩ hS (fun _ h => h) (fun _ _ h => h) (fun r2 H locs hpo hS => ?_)
  obtain ⟨he2, hT, u2_0, u2_1⟩ := hpo
  have hF := bd0_r hF hd2 he2
  refine r_if_ne (tgt := 18) hx hb dX6_ahead_5 (by decide) (fun c5 => ?_) (fun c5 => ?_)
  · have hF := ifn hF c5
    refine r_iconst hx hb dX6_ahead_18 (by decide) (by decide) (fun x18 e18 => ?_)
    have hF := bn hF e18
    exact rt_i hx hb hr hlk hS ⟨σ, hF, hT⟩ dX6_ahead_19
  · have hF := ifp hF c5
    refine lv_iload_n hx hb dX6_ahead_8 rfl (lv_at hl 2 rfl) ?_
    refine r_if_lt (tgt := 18) hx hb dX6_ahead_9 (by decide) (fun c9 => ?_) (fun c9 => ?_)
    · have hF := ifp hF c9
      refine r_iconst hx hb dX6_ahead_18 (by decide) (by decide) (fun x18 e18 => ?_)
      have hF := bn hF e18
      exact rt_i hx hb hr hlk hS ⟨σ, hF, hT⟩ dX6_ahead_19
    · have hF := ifn hF (Int.not_lt.mpr c9)
      refine lv_iload_n hx hb dX6_ahead_12 rfl (lv_at hl 2 rfl) ?_
      refine r_bipush hx hb dX6_ahead_13 rfl (fun x13 e13 => ?_)
      have hF := bn hF e13
      refine r_icmp_le (tgt := 20) hx hb dX6_ahead_15 (by decide) (fun c15 => ?_) (fun c15 => ?_)
      · have hF := ifn hF (Int.not_lt.mpr c15)
        refine lv_aload_n hx hb dX6_ahead_20 rfl (lv_at hl 0 rfl) ?_
        obtain ⟨s21, hd21, -⟩ := bd1_s hF
        refine cl_Vv (rest := []) hC hK hSK (c_X6_walkNow l z σ h0 g0 s21 hd21) k_X6_walkNow mw_3_84 ⟨rfl, rfl, Nat.le_of_ble_eq_true rfl, Nat.le_of_ble_eq_true rfl⟩ (rv_HeelDance hK hT g0) hT rfl hl.1 rfl (Nat.le_of_ble_eq_true rfl) dX6_ahead_21 ⟨Nat.zero_le _, Nat.zero_le _⟩ hS (fun _ h => h) (fun _ _ h => h) (fun H locs hpo hS => ?_)
        obtain ⟨σ21, he21, hT⟩ := hpo
        have hF := bd1_r hF hd21 he21
        refine lv_aload_n hx hb dX6_ahead_24 rfl (lv_at hl 0 rfl) ?_
        refine gt_HeelDance_walk hx hb hts ic_HeelDance hown hK hT g0 (hts _ mw_2_11) dX6_ahead_25 (fun q25 hq25 => ?_)
        refine lv_iload_n hx hb dX6_ahead_28 rfl (lv_at hl 1 rfl) ?_
        refine lv_iload_n hx hb dX6_ahead_29 rfl (lv_at hl 2 rfl) ?_
        obtain ⟨v30, hd30, -⟩ := bd0_s hF
        refine cl_Vi (rest := []) hC hK hSK (c_X5_partnerBehind l z σ21 q25 (5) hq25 p1 p2 v30 hd30 (by omega) (by omega)) k_X5_partnerBehind mw_3_107 ⟨rfl, rfl, Nat.le_of_ble_eq_true rfl, Nat.le_of_ble_eq_true rfl⟩ (rv_Walk hK hT hq25) hT rfl hl.1 rfl (Nat.le_of_ble_eq_true rfl) dX6_ahead_30 ⟨Nat.zero_le _, Nat.zero_le _⟩ hS (fun _ h => h) (fun _ _ h => h) (fun r30 H locs hpo hS => ?_)
        obtain ⟨he30, hT, u30_0⟩ := hpo
        have hF := bd0_r hF hd30 he30
        exact rt_i hx hb hr hlk hS ⟨σ21, hF, hT⟩ dX6_ahead_33
      · have hF := ifp hF c15
        refine r_iconst hx hb dX6_ahead_18 (by decide) (by decide) (fun x18 e18 => ?_)
        have hF := bn hF e18
        exact rt_i hx hb hr hlk hS ⟨σ, hF, hT⟩ dX6_ahead_19
theorem k_X6_meets : cBV yX6_meets cX6_meets 4 (some .int) 2 := ⟨mw_3_124, mw_3_125, mw_1_1, mw_3_126, ⟨by decide, by decide, by decide⟩⟩
set_option maxHeartbeats 4000000 in
set_option maxRecDepth 100000 in
theorem c_X6_meets (l : Launch) (z : Zt) (σ : Sg) (h0 : Nat) (g0 : zG z h0 = (16, 0)) (p1 : Int32) (p2 : Int32) (out : (Int × Sg)) (hF : D_X6_meets σ p1.toInt p2.toInt = some out) : Met l yX6_meets (uw yX6_meets cX6_meets 4 (some .int)) (rmF 6 171) (PcW z [.ref h0, .int p1, .int p2] (fun H => TY z (zA z) σ H)) (QcI z (fun r H => ∃ σ' : Sg, some (r.toInt, σ') = some out ∧ TY z (zA z) σ' H)) 0 0 (zA z) := by
  refine Met.ofW (cc := cX6_meets) (maxL := 4) (ret := (some .int)) (by decide) rfl ?_
  intro p e s m args below meth c s₁ B hml hv
  obtain ⟨rfl, hT, hK, hSK⟩ := hv
  have hx := B.exec
  have hb := B.bytes
  have hr := B.returns
  have hts : ∀ w ∈ lw_ok, w.before ([.ref h0, .int p1, .int p2] : List Value).toArray s = true := fun w hw => atoms_spec (ws := uw yX6_meets cX6_meets 4 (some .int)) B.pre w (List.mem_cons_of_mem _ hw)
  have hown : s.vm.findClass RX6 = some m.cls := findClass_of_methodNamed B.named
  have hlk := B.notSynchronized
  have hC : CallFix p m c cX6_meets 4 s ([.ref h0, .int p1, .int p2] : List Value).toArray lw_ok RX6 := ⟨hx, hb, hml, hown, hts⟩
  have hS : va_S (zA z) s.heap s.heap [] := va_S.rf
  have hl := lv_entry ([.ref h0, .int p1, .int p2]) (n := 4) (Nat.le_of_ble_eq_true rfl)
  rw [lg_entry_eq]
  generalize (lg_sl ([.ref h0, .int p1, .int p2]) ++ List.replicate (4 - (lg_sl ([.ref h0, .int p1, .int p2])).length) Slot.unset).toArray = ls at hl ⊢
  have hl : lv_has ls 4 [(0, .ref h0), (1, .int p1), (2, .int p2)] := hl
  show W p l e (rmF 6 171) s m ([.ref h0, .int p1, .int p2] : List Value).toArray below meth c s.heap [] 0 0 (MQ below (QcI z (fun r H => ∃ σ' : Sg, some (r.toInt, σ') = some out ∧ TY z (zA z) σ' H)) ([.ref h0, .int p1, .int p2] : List Value).toArray s 0 0 (zA z)) (F0 m 0 ls [])
  unfold D_X6_meets at hF
  have mx_p1 := i_mx p1
  have mx_p2 := i_mx p2
  refine lv_aload_n hx hb dX6_meets_0 rfl (lv_at hl 0 rfl) ?_
  refine lv_iload_n hx hb dX6_meets_1 rfl (lv_at hl 1 rfl) ?_
  obtain ⟨v2, hd2, -⟩ := bd0_s hF
  refine cl_Vi (rest := []) hC hK hSK (c_X6_isNobody l z σ h0 g0 p1 v2 hd2) k_X6_isNobody mw_2_225 ⟨rfl, rfl, Nat.le_of_ble_eq_true rfl, Nat.le_of_ble_eq_true rfl⟩ (rv_HeelDance hK hT g0) hT rfl hl.1 rfl (Nat.le_of_ble_eq_true rfl) dX6_meets_2 ⟨Nat.zero_le _, Nat.zero_le _⟩ hS (fun _ h => h) (fun _ _ h => h) (fun r2 H locs hpo hS => ?_)
  obtain ⟨he2, hT, u2_0, u2_1⟩ := hpo
  have hF := bd0_r hF hd2 he2
  refine r_if_ne (tgt := 16) hx hb dX6_meets_5 (by decide) (fun c5 => ?_) (fun c5 => ?_)
  · have hF := ifn hF c5
    refine r_iconst hx hb dX6_meets_16 (by decide) (by decide) (fun x16 e16 => ?_)
    have hF := bn hF e16
    exact rt_i hx hb hr hlk hS ⟨σ, hF, hT⟩ dX6_meets_17
  · have hF := ifp hF c5
    refine lv_aload_n hx hb dX6_meets_8 rfl (lv_at hl 0 rfl) ?_
    refine lv_iload_n hx hb dX6_meets_9 rfl (lv_at hl 2 rfl) ?_
    obtain ⟨v10, hd10, -⟩ := bd0_s hF
    refine cl_Vi (rest := []) hC hK hSK (c_X6_isNobody l z σ h0 g0 p2 v10 hd10) k_X6_isNobody mw_2_225 ⟨rfl, rfl, Nat.le_of_ble_eq_true rfl, Nat.le_of_ble_eq_true rfl⟩ (rv_HeelDance hK hT g0) hT rfl hl.1 rfl (Nat.le_of_ble_eq_true rfl) dX6_meets_10 ⟨Nat.zero_le _, Nat.zero_le _⟩ hS (fun _ h => h) (fun _ _ h => h) (fun r10 H locs hpo hS => ?_)
    obtain ⟨he10, hT, u10_0, u10_1⟩ := hpo
    have hF := bd0_r hF hd10 he10
    refine r_if_eq (tgt := 18) hx hb dX6_meets_13 (by decide) (fun c13 => ?_) (fun c13 => ?_)
    · have hF := ifp hF c13
      refine lv_aload_n hx hb dX6_meets_18 rfl (lv_at hl 0 rfl) ?_
      obtain ⟨s19, hd19, -⟩ := bd1_s hF
      refine cl_Vv (rest := []) hC hK hSK (c_X6_walkNow l z σ h0 g0 s19 hd19) k_X6_walkNow mw_3_84 ⟨rfl, rfl, Nat.le_of_ble_eq_true rfl, Nat.le_of_ble_eq_true rfl⟩ (rv_HeelDance hK hT g0) hT rfl hl.1 rfl (Nat.le_of_ble_eq_true rfl) dX6_meets_19 ⟨Nat.zero_le _, Nat.zero_le _⟩ hS (fun _ h => h) (fun _ _ h => h) (fun H locs hpo hS => ?_)
      obtain ⟨σ19, he19, hT⟩ := hpo
      have hF := bd1_r hF hd19 he19
      refine r_iconst hx hb dX6_meets_22 (by decide) (by decide) (fun x22 e22 => ?_)
      have hF := bn hF e22
      refine lv_istore_n (lv' := [(3, .int x22), (0, .ref h0), (1, .int p1), (2, .int p2)]) hx hb dX6_meets_23 rfl hl (by decide) rfl (fun ls hl => ?_)
      have J24 : ∀ (n24 : Nat) (ls : Array Slot) (H : Heap) (locs : List Loc) (y24_3 : Int32) (σj24 : Sg), (0 ≤ y24_3.toInt ∧ y24_3.toInt ≤ 9) → D_X6_meets_24 p1.toInt p2.toInt n24 σj24 y24_3.toInt = some out → TY z (zA z) σj24 H → va_S (zA z) s.heap H locs → lv_has ls 4 [(0, .ref h0), (1, .int p1), (2, .int p2), (3, .int y24_3)] → W p l e (rmF 6 171) s m ([.ref h0, .int p1, .int p2] : List Value).toArray below meth c H locs 0 0 (MQ below (QcI z (fun r H => ∃ σ' : Sg, some (r.toInt, σ') = some out ∧ TY z (zA z) σ' H)) ([.ref h0, .int p1, .int p2] : List Value).toArray s 0 0 (zA z)) (F0 m 24 ls []) := by
        intro n24
        induction n24 with
        | zero => intro ls H locs y24_3 σj24 j24_y24_3 hF hT hS hl; exact (no_s hF).elim
        | succ n24 ih24 =>
          intro ls H locs y24_3 σj24 j24_y24_3 hF hT hS hl
          rw [D_X6_meets_24.eq_2] at hF
          refine lv_iload_n hx hb dX6_meets_24 rfl (lv_at hl 3 rfl) ?_
          refine lv_aload_n hx hb dX6_meets_25 rfl (lv_at hl 0 rfl) ?_
          refine gt_HeelDance_walk hx hb hts ic_HeelDance hown hK hT g0 (hts _ mw_2_11) dX6_meets_26 (fun q26 hq26 => ?_)
          refine gt_Walk_steps hx hb hts ic_Walk hown hK hT hq26 (hts _ mw_1_180) dX6_meets_29 (fun x29 e29 f29 g29 => ?_)
          have hF := bn hF e29
          refine r_icmp_gt (tgt := 56) hx hb dX6_meets_32 (by decide) (fun c32 => ?_) (fun c32 => ?_)
          · have hF := ifp hF c32
            refine r_bipush hx hb dX6_meets_56 rfl (fun x56 e56 => ?_)
            have hF := bn hF e56
            exact rt_i hx hb hr hlk hS ⟨σj24, hF, hT⟩ dX6_meets_58
          · have hF := ifn hF (Int.not_lt.mpr c32)
            refine lv_aload_n hx hb dX6_meets_35 rfl (lv_at hl 0 rfl) ?_
            refine gt_HeelDance_walk hx hb hts ic_HeelDance hown hK hT g0 (hts _ mw_2_11) dX6_meets_36 (fun q36 hq36 => ?_)
            refine lv_iload_n hx hb dX6_meets_39 rfl (lv_at hl 1 rfl) ?_
            refine lv_iload_n hx hb dX6_meets_40 rfl (lv_at hl 3 rfl) ?_
            obtain ⟨v41, hd41, -⟩ := bd0_s hF
            refine cl_Vi (rest := []) hC hK hSK (c_X5_partnerBehind l z σj24 q36 (5) hq36 p1 y24_3 v41 hd41 (by omega) (by omega)) k_X5_partnerBehind mw_3_107 ⟨rfl, rfl, Nat.le_of_ble_eq_true rfl, Nat.le_of_ble_eq_true rfl⟩ (rv_Walk hK hT hq36) hT rfl hl.1 rfl (Nat.le_of_ble_eq_true rfl) dX6_meets_41 ⟨Nat.zero_le _, Nat.zero_le _⟩ hS (fun _ h => h) (fun _ _ h => h) (fun r41 H locs hpo hS => ?_)
            obtain ⟨he41, hT, u41_0⟩ := hpo
            have hF := bd0_r hF hd41 he41
            refine lv_iload_n hx hb dX6_meets_44 rfl (lv_at hl 2 rfl) ?_
            refine r_icmp_ne (tgt := 50) hx hb dX6_meets_45 (by decide) (fun c45 => ?_) (fun c45 => ?_)
            · have hF := ifn hF c45
              refine r_iinc (lv' := fun v__ => [(3, .int v__), (0, .ref h0), (1, .int p1), (2, .int p2)]) hx hb dX6_meets_50 hl (k := 3) rfl (by decide) (fun _ => rfl) ⟨by decide, by decide⟩ (by omega) (by omega) (fun x50 ls e50 hl => ?_)
              have hF := bn hF e50
              refine lv_goto (tgt := 24) hx hb dX6_meets_53 (by decide) ?_
              exact ih24 ls _ _ x50 σj24 (by omega) hF hT hS (lv_sub hl [1, 2, 3, 0] rfl)
            · have hF := ifp hF c45
              refine lv_iload_n hx hb dX6_meets_48 rfl (lv_at hl 3 rfl) ?_
              exact rt_i hx hb hr hlk hS ⟨σj24, hF, hT⟩ dX6_meets_49
      exact J24 5000 ls _ _ x22 σ19 (by omega) hF hT hS (lv_sub hl [1, 2, 3, 0] rfl)
    · have hF := ifn hF c13
      refine r_iconst hx hb dX6_meets_16 (by decide) (by decide) (fun x16 e16 => ?_)
      have hF := bn hF e16
      exact rt_i hx hb hr hlk hS ⟨σ, hF, hT⟩ dX6_meets_17
theorem k_X6_never : cBV yX6_never cX6_never 4 (some .int) 1 := ⟨mw_3_128, mw_3_129, mw_1_1, mw_3_130, ⟨by decide, by decide, by decide⟩⟩
set_option maxHeartbeats 4000000 in
set_option maxRecDepth 100000 in
theorem c_X6_never (l : Launch) (z : Zt) (σ : Sg) (h0 : Nat) (g0 : zG z h0 = (16, 0)) (p1 : Int32) (out : (Int × Sg)) (hF : D_X6_never σ p1.toInt = some out) : Met l yX6_never (uw yX6_never cX6_never 4 (some .int)) (rmF 6 171) (PcW z [.ref h0, .int p1] (fun H => TY z (zA z) σ H)) (QcI z (fun r H => ∃ σ' : Sg, some (r.toInt, σ') = some out ∧ TY z (zA z) σ' H)) 0 0 (zA z) := by
  refine Met.ofW (cc := cX6_never) (maxL := 4) (ret := (some .int)) (by decide) rfl ?_
  intro p e s m args below meth c s₁ B hml hv
  obtain ⟨rfl, hT, hK, hSK⟩ := hv
  have hx := B.exec
  have hb := B.bytes
  have hr := B.returns
  have hts : ∀ w ∈ lw_ok, w.before ([.ref h0, .int p1] : List Value).toArray s = true := fun w hw => atoms_spec (ws := uw yX6_never cX6_never 4 (some .int)) B.pre w (List.mem_cons_of_mem _ hw)
  have hown : s.vm.findClass RX6 = some m.cls := findClass_of_methodNamed B.named
  have hlk := B.notSynchronized
  have hC : CallFix p m c cX6_never 4 s ([.ref h0, .int p1] : List Value).toArray lw_ok RX6 := ⟨hx, hb, hml, hown, hts⟩
  have hS : va_S (zA z) s.heap s.heap [] := va_S.rf
  have hl := lv_entry ([.ref h0, .int p1]) (n := 4) (Nat.le_of_ble_eq_true rfl)
  rw [lg_entry_eq]
  generalize (lg_sl ([.ref h0, .int p1]) ++ List.replicate (4 - (lg_sl ([.ref h0, .int p1])).length) Slot.unset).toArray = ls at hl ⊢
  have hl : lv_has ls 4 [(0, .ref h0), (1, .int p1)] := hl
  show W p l e (rmF 6 171) s m ([.ref h0, .int p1] : List Value).toArray below meth c s.heap [] 0 0 (MQ below (QcI z (fun r H => ∃ σ' : Sg, some (r.toInt, σ') = some out ∧ TY z (zA z) σ' H)) ([.ref h0, .int p1] : List Value).toArray s 0 0 (zA z)) (F0 m 0 ls [])
  unfold D_X6_never at hF
  have mx_p1 := i_mx p1
  refine lv_aload_n hx hb dX6_never_0 rfl (lv_at hl 0 rfl) ?_
  refine lv_iload_n hx hb dX6_never_1 rfl (lv_at hl 1 rfl) ?_
  obtain ⟨v2, hd2, -⟩ := bd0_s hF
  refine cl_Vi (rest := []) hC hK hSK (c_X6_isNobody l z σ h0 g0 p1 v2 hd2) k_X6_isNobody mw_2_225 ⟨rfl, rfl, Nat.le_of_ble_eq_true rfl, Nat.le_of_ble_eq_true rfl⟩ (rv_HeelDance hK hT g0) hT rfl hl.1 rfl (Nat.le_of_ble_eq_true rfl) dX6_never_2 ⟨Nat.zero_le _, Nat.zero_le _⟩ hS (fun _ h => h) (fun _ _ h => h) (fun r2 H locs hpo hS => ?_)
  obtain ⟨he2, hT, u2_0, u2_1⟩ := hpo
  have hF := bd0_r hF hd2 he2
  refine r_if_eq (tgt := 10) hx hb dX6_never_5 (by decide) (fun c5 => ?_) (fun c5 => ?_)
  · have hF := ifp hF c5
    refine lv_aload_n hx hb dX6_never_10 rfl (lv_at hl 0 rfl) ?_
    obtain ⟨s11, hd11, -⟩ := bd1_s hF
    refine cl_Vv (rest := []) hC hK hSK (c_X6_walkNow l z σ h0 g0 s11 hd11) k_X6_walkNow mw_3_84 ⟨rfl, rfl, Nat.le_of_ble_eq_true rfl, Nat.le_of_ble_eq_true rfl⟩ (rv_HeelDance hK hT g0) hT rfl hl.1 rfl (Nat.le_of_ble_eq_true rfl) dX6_never_11 ⟨Nat.zero_le _, Nat.zero_le _⟩ hS (fun _ h => h) (fun _ _ h => h) (fun H locs hpo hS => ?_)
    obtain ⟨σ11, he11, hT⟩ := hpo
    have hF := bd1_r hF hd11 he11
    refine r_iconst hx hb dX6_never_14 (by decide) (by decide) (fun x14 e14 => ?_)
    have hF := bn hF e14
    refine lv_aload_n hx hb dX6_never_15 rfl (lv_at hl 0 rfl) ?_
    refine gt_HeelDance_now hx hb hts ic_HeelDance hown hK hT g0 (hts _ mw_2_8) dX6_never_16 (fun q16 hq16 => ?_)
    refine gt_Evening_floor hx hb hts ic_Evening hown hK hT hq16 (hts _ mw_1_91) dX6_never_19 (fun q19 hq19 => ?_)
    refine gt_Floor_men hx hb hts ic_Floor hown hK hT hq19 (hts _ mw_1_62) dX6_never_22 (fun x22 e22 f22 g22 => ?_)
    have hF := bn hF e22
    refine x_shl1 hx hb dX6_never_25 (by omega) (by omega) (by omega) (fun x25 e25 g25 h25 => ?_)
    have hF := bn hF e25
    refine r_iconst hx hb dX6_never_26 (by decide) (by decide) (fun x26 e26 => ?_)
    have hF := bn hF e26
    refine r_isub hx hb dX6_never_27 (by omega) (by omega) (fun x27 e27 => ?_)
    have hF := bn hF e27
    refine lv_istore_n (lv' := [(2, .int x27), (0, .ref h0), (1, .int p1)]) hx hb dX6_never_28 rfl hl (by decide) rfl (fun ls hl => ?_)
    refine r_iconst hx hb dX6_never_29 (by decide) (by decide) (fun x29 e29 => ?_)
    have hF := bn hF e29
    refine lv_istore_n (lv' := [(3, .int x29), (2, .int x27), (0, .ref h0), (1, .int p1)]) hx hb dX6_never_30 rfl hl (by decide) rfl (fun ls hl => ?_)
    have J31 : ∀ (n31 : Nat) (ls : Array Slot) (H : Heap) (locs : List Loc) (y31_2 : Int32) (y31_3 : Int32) (σj31 : Sg), (0 ≤ y31_3.toInt ∧ y31_3.toInt ≤ 9) → D_X6_never_31 p1.toInt n31 σj31 y31_2.toInt y31_3.toInt = some out → TY z (zA z) σj31 H → va_S (zA z) s.heap H locs → lv_has ls 4 [(0, .ref h0), (1, .int p1), (2, .int y31_2), (3, .int y31_3)] → W p l e (rmF 6 171) s m ([.ref h0, .int p1] : List Value).toArray below meth c H locs 0 0 (MQ below (QcI z (fun r H => ∃ σ' : Sg, some (r.toInt, σ') = some out ∧ TY z (zA z) σ' H)) ([.ref h0, .int p1] : List Value).toArray s 0 0 (zA z)) (F0 m 31 ls []) := by
      intro n31
      induction n31 with
      | zero => intro ls H locs y31_2 y31_3 σj31 j31_y31_3 hF hT hS hl; exact (no_s hF).elim
      | succ n31 ih31 =>
        intro ls H locs y31_2 y31_3 σj31 j31_y31_3 hF hT hS hl
        rw [D_X6_never_31.eq_2] at hF
        refine lv_iload_n hx hb dX6_never_31 rfl (lv_at hl 3 rfl) ?_
        refine lv_aload_n hx hb dX6_never_32 rfl (lv_at hl 0 rfl) ?_
        refine gt_HeelDance_walk hx hb hts ic_HeelDance hown hK hT g0 (hts _ mw_2_11) dX6_never_33 (fun q33 hq33 => ?_)
        refine gt_Walk_steps hx hb hts ic_Walk hown hK hT hq33 (hts _ mw_1_180) dX6_never_36 (fun x36 e36 f36 g36 => ?_)
        have hF := bn hF e36
        refine r_icmp_gt (tgt := 64) hx hb dX6_never_39 (by decide) (fun c39 => ?_) (fun c39 => ?_)
        · have hF := ifp hF c39
          refine lv_iload_n hx hb dX6_never_64 rfl (lv_at hl 2 rfl) ?_
          exact rt_i hx hb hr hlk hS ⟨σj31, hF, hT⟩ dX6_never_65
        · have hF := ifn hF (Int.not_lt.mpr c39)
          refine lv_iload_n hx hb dX6_never_42 rfl (lv_at hl 2 rfl) ?_
          refine r_iconst hx hb dX6_never_43 (by decide) (by decide) (fun x43 e43 => ?_)
          have hF := bn hF e43
          refine lv_aload_n hx hb dX6_never_44 rfl (lv_at hl 0 rfl) ?_
          refine gt_HeelDance_walk hx hb hts ic_HeelDance hown hK hT g0 (hts _ mw_2_11) dX6_never_45 (fun q45 hq45 => ?_)
          refine lv_iload_n hx hb dX6_never_48 rfl (lv_at hl 1 rfl) ?_
          refine lv_iload_n hx hb dX6_never_49 rfl (lv_at hl 3 rfl) ?_
          obtain ⟨v50, hd50, -⟩ := bd0_s hF
          refine cl_Vi (rest := [.int x43, .int y31_2]) hC hK hSK (c_X5_partnerBehind l z σj31 q45 (5) hq45 p1 y31_3 v50 hd50 (by omega) (by omega)) k_X5_partnerBehind mw_3_107 ⟨rfl, rfl, Nat.le_of_ble_eq_true rfl, Nat.le_of_ble_eq_true rfl⟩ (rv_Walk hK hT hq45) hT rfl hl.1 rfl (Nat.le_of_ble_eq_true rfl) dX6_never_50 ⟨Nat.zero_le _, Nat.zero_le _⟩ hS (fun _ h => h) (fun _ _ h => h) (fun r50 H locs hpo hS => ?_)
          obtain ⟨he50, hT, u50_0⟩ := hpo
          have hF := bd0_r hF hd50 he50
          refine x_shl1 hx hb dX6_never_53 (by omega) (by omega) (by omega) (fun x53 e53 g53 h53 => ?_)
          have hF := bn hF e53
          refine r_iconst hx hb dX6_never_54 (by decide) (by decide) (fun x54 e54 => ?_)
          have hF := bn hF e54
          refine x_ixor hx hb dX6_never_55 (fun x55 e55 => ?_)
          have hF := bn hF e55
          refine x_iand hx hb dX6_never_56 (fun x56 e56 => ?_)
          have hF := bn hF e56
          refine lv_istore_n (lv' := [(2, .int x56), (0, .ref h0), (1, .int p1), (3, .int y31_3)]) hx hb dX6_never_57 rfl hl (by decide) rfl (fun ls hl => ?_)
          refine r_iinc (lv' := fun v__ => [(3, .int v__), (2, .int x56), (0, .ref h0), (1, .int p1)]) hx hb dX6_never_58 hl (k := 3) rfl (by decide) (fun _ => rfl) ⟨by decide, by decide⟩ (by omega) (by omega) (fun x58 ls e58 hl => ?_)
          have hF := bn hF e58
          refine lv_goto (tgt := 31) hx hb dX6_never_61 (by decide) ?_
          exact ih31 ls _ _ x56 x58 σj31 (by omega) hF hT hS (lv_sub hl [2, 3, 1, 0] rfl)
    exact J31 5000 ls _ _ x27 x29 σ11 (by omega) hF hT hS (lv_sub hl [2, 3, 1, 0] rfl)
  · have hF := ifn hF c5
    refine r_iconst hx hb dX6_never_8 (by decide) (by decide) (fun x8 e8 => ?_)
    have hF := bn hF e8
    exact rt_i hx hb hr hlk hS ⟨σ, hF, hT⟩ dX6_never_9
theorem k_X6_period : cBV yX6_period cX6_period 4 (some .int) 1 := ⟨mw_3_132, mw_3_133, mw_1_1, mw_3_134, ⟨by decide, by decide, by decide⟩⟩
set_option maxHeartbeats 4000000 in
set_option maxRecDepth 100000 in
theorem c_X6_period (l : Launch) (z : Zt) (σ : Sg) (h0 : Nat) (g0 : zG z h0 = (16, 0)) (p1 : Int32) (out : (Int × Sg)) (hF : D_X6_period σ p1.toInt = some out) : Met l yX6_period (uw yX6_period cX6_period 4 (some .int)) (rmF 3 109) (PcW z [.ref h0, .int p1] (fun H => TY z (zA z) σ H)) (QcI z (fun r H => ∃ σ' : Sg, some (r.toInt, σ') = some out ∧ TY z (zA z) σ' H)) 0 0 (zA z) := by
  refine Met.ofW (cc := cX6_period) (maxL := 4) (ret := (some .int)) (by decide) rfl ?_
  intro p e s m args below meth c s₁ B hml hv
  obtain ⟨rfl, hT, hK, hSK⟩ := hv
  have hx := B.exec
  have hb := B.bytes
  have hr := B.returns
  have hts : ∀ w ∈ lw_ok, w.before ([.ref h0, .int p1] : List Value).toArray s = true := fun w hw => atoms_spec (ws := uw yX6_period cX6_period 4 (some .int)) B.pre w (List.mem_cons_of_mem _ hw)
  have hown : s.vm.findClass RX6 = some m.cls := findClass_of_methodNamed B.named
  have hlk := B.notSynchronized
  have hC : CallFix p m c cX6_period 4 s ([.ref h0, .int p1] : List Value).toArray lw_ok RX6 := ⟨hx, hb, hml, hown, hts⟩
  have hS : va_S (zA z) s.heap s.heap [] := va_S.rf
  have hl := lv_entry ([.ref h0, .int p1]) (n := 4) (Nat.le_of_ble_eq_true rfl)
  rw [lg_entry_eq]
  generalize (lg_sl ([.ref h0, .int p1]) ++ List.replicate (4 - (lg_sl ([.ref h0, .int p1])).length) Slot.unset).toArray = ls at hl ⊢
  have hl : lv_has ls 4 [(0, .ref h0), (1, .int p1)] := hl
  show W p l e (rmF 3 109) s m ([.ref h0, .int p1] : List Value).toArray below meth c s.heap [] 0 0 (MQ below (QcI z (fun r H => ∃ σ' : Sg, some (r.toInt, σ') = some out ∧ TY z (zA z) σ' H)) ([.ref h0, .int p1] : List Value).toArray s 0 0 (zA z)) (F0 m 0 ls [])
  unfold D_X6_period at hF
  have mx_p1 := i_mx p1
  refine lv_iload_n hx hb dX6_period_0 rfl (lv_at hl 1 rfl) ?_
  obtain ⟨v1, hd1, -⟩ := bd0_s hF
  refine cl_Si (rest := []) hC hK hSK (c_X6_isFigure l z σ p1 v1 hd1) k_X6_isFigure mw_3_43 ⟨rfl, rfl, Nat.le_of_ble_eq_true rfl, Nat.le_of_ble_eq_true rfl⟩ hT rfl hl.1 rfl (Nat.le_of_ble_eq_true rfl) dX6_period_1 ⟨Nat.zero_le _, Nat.zero_le _⟩ hS (fun _ h => h) (fun _ _ h => h) (fun r1 H locs hpo hS => ?_)
  obtain ⟨he1, hT, u1_0, u1_1⟩ := hpo
  have hF := bd0_r hF hd1 he1
  refine r_if_ne (tgt := 9) hx hb dX6_period_4 (by decide) (fun c4 => ?_) (fun c4 => ?_)
  · have hF := ifn hF c4
    refine lv_aload_n hx hb dX6_period_9 rfl (lv_at hl 0 rfl) ?_
    refine gt_HeelDance_now hx hb hts ic_HeelDance hown hK hT g0 (hts _ mw_2_8) dX6_period_10 (fun q10 hq10 => ?_)
    refine gt_Evening_floor hx hb hts ic_Evening hown hK hT hq10 (hts _ mw_1_91) dX6_period_13 (fun q13 hq13 => ?_)
    refine gt_Floor_men hx hb hts ic_Floor hown hK hT hq13 (hts _ mw_1_62) dX6_period_16 (fun x16 e16 f16 g16 => ?_)
    have hF := bn hF e16
    refine r_if_ne (tgt := 25) hx hb dX6_period_19 (by decide) (fun c19 => ?_) (fun c19 => ?_)
    · have hF := ifn hF c19
      refine lv_aload_n hx hb dX6_period_25 rfl (lv_at hl 0 rfl) ?_
      refine gt_HeelDance_walk hx hb hts ic_HeelDance hown hK hT g0 (hts _ mw_2_11) dX6_period_26 (fun q26 hq26 => ?_)
      refine gt_Walk_floor hx hb hts ic_Walk hown hK hT hq26 (hts _ mw_1_177) dX6_period_29 (fun q29 hq29 => ?_)
      refine lv_astore_n (lv' := [(2, .ref q29), (0, .ref h0), (1, .int p1)]) hx hb dX6_period_32 rfl hl (by decide) rfl (fun ls hl => ?_)
      refine lv_aload_n hx hb dX6_period_33 rfl (lv_at hl 0 rfl) ?_
      refine lv_aload_n hx hb dX6_period_34 rfl (lv_at hl 1 rfl) ?_
      refine gt_HeelDance_now hx hb hts ic_HeelDance hown hK hT g0 (hts _ mw_2_8) dX6_period_35 (fun q35 hq35 => ?_)
      refine gt_Evening_floor hx hb hts ic_Evening hown hK hT hq35 (hts _ mw_1_91) dX6_period_38 (fun q38 hq38 => ?_)
      obtain ⟨s41, hd41, -⟩ := bd1_s hF
      refine cl_Vv (rest := []) hC hK hSK (c_X1_copyFrom l z σ q29 (5) hq29 q38 (1) hq38 s41 hd41) k_X1_copyFrom mw_3_88 ⟨rfl, rfl, Nat.le_of_ble_eq_true rfl, Nat.le_of_ble_eq_true rfl⟩ (rv_Floor hK hT hq29) hT rfl hl.1 rfl (Nat.le_of_ble_eq_true rfl) dX6_period_41 ⟨Nat.zero_le _, Nat.zero_le _⟩ hS (fun _ h => h) (fun _ _ h => h) (fun H locs hpo hS => ?_)
      obtain ⟨σ41, he41, hT⟩ := hpo
      have hF := bd1_r hF hd41 he41
      refine lv_aload_n hx hb dX6_period_44 rfl (lv_at hl 0 rfl) ?_
      obtain ⟨s45, hd45, -⟩ := bd1_s hF
      refine cl_Vv (rest := []) hC hK hSK (c_X1_lineUp l z σ41 q29 (5) hq29 s45 hd45) k_X1_lineUp mw_2_233 ⟨rfl, rfl, Nat.le_of_ble_eq_true rfl, Nat.le_of_ble_eq_true rfl⟩ (rv_Floor hK hT hq29) hT rfl hl.1 rfl (Nat.le_of_ble_eq_true rfl) dX6_period_45 ⟨Nat.zero_le _, Nat.zero_le _⟩ hS (fun _ h => h) (fun _ _ h => h) (fun H locs hpo hS => ?_)
      obtain ⟨σ45, he45, hf45, hT⟩ := hpo
      have hF := bd1_r hF hd45 he45
      have hF := gsL hF hf45
      refine r_iconst hx hb dX6_period_48 (by decide) (by decide) (fun x48 e48 => ?_)
      have hF := bn hF e48
      refine lv_istore_n (lv' := [(3, .int x48), (2, .ref q29), (0, .ref h0), (1, .int p1)]) hx hb dX6_period_49 rfl hl (by decide) rfl (fun ls hl => ?_)
      have J50 : ∀ (n50 : Nat) (ls : Array Slot) (H : Heap) (locs : List Loc) (y50_3 : Int32) (σj50 : Sg), (1 ≤ y50_3.toInt ∧ y50_3.toInt ≤ 61) → D_X6_period_50 p1.toInt n50 σj50 y50_3.toInt = some out → TY z (zA z) σj50 H → va_S (zA z) s.heap H locs → lv_has ls 4 [(0, .ref h0), (1, .int p1), (2, .ref q29), (3, .int y50_3)] → W p l e (rmF 3 109) s m ([.ref h0, .int p1] : List Value).toArray below meth c H locs 0 0 (MQ below (QcI z (fun r H => ∃ σ' : Sg, some (r.toInt, σ') = some out ∧ TY z (zA z) σ' H)) ([.ref h0, .int p1] : List Value).toArray s 0 0 (zA z)) (F0 m 50 ls []) := by
        intro n50
        induction n50 with
        | zero => intro ls H locs y50_3 σj50 j50_y50_3 hF hT hS hl; exact (no_s hF).elim
        | succ n50 ih50 =>
          intro ls H locs y50_3 σj50 j50_y50_3 hF hT hS hl
          rw [D_X6_period_50.eq_2] at hF
          refine lv_iload_n hx hb dX6_period_50 rfl (lv_at hl 3 rfl) ?_
          refine r_bipush hx hb dX6_period_51 rfl (fun x51 e51 => ?_)
          have hF := bn hF e51
          refine r_icmp_gt (tgt := 83) hx hb dX6_period_53 (by decide) (fun c53 => ?_) (fun c53 => ?_)
          · have hF := ifp hF c53
            refine r_bipush hx hb dX6_period_83 rfl (fun x83 e83 => ?_)
            have hF := bn hF e83
            exact rt_i hx hb hr hlk hS ⟨σj50, hF, hT⟩ dX6_period_85
          · have hF := ifn hF (Int.not_lt.mpr c53)
            refine lv_aload_n hx hb dX6_period_56 rfl (lv_at hl 2 rfl) ?_
            refine lv_iload_n hx hb dX6_period_57 rfl (lv_at hl 1 rfl) ?_
            obtain ⟨s58, hd58, -⟩ := bd1_s hF
            refine cl_Vv (rest := []) hC hK hSK (c_X1_change l z σj50 q29 (5) hq29 p1 s58 hd58) k_X1_change mw_3_135 ⟨rfl, rfl, Nat.le_of_ble_eq_true rfl, Nat.le_of_ble_eq_true rfl⟩ (rv_Floor hK hT hq29) hT rfl hl.1 rfl (Nat.le_of_ble_eq_true rfl) dX6_period_58 ⟨Nat.zero_le _, Nat.zero_le _⟩ hS (fun _ h => h) (fun _ _ h => h) (fun H locs hpo hS => ?_)
            obtain ⟨σ58, he58, hf58, hT⟩ := hpo
            have hF := bd1_r hF hd58 he58
            have hF := gsL hF hf58
            refine lv_aload_n hx hb dX6_period_61 rfl (lv_at hl 2 rfl) ?_
            refine lv_aload_n hx hb dX6_period_62 rfl (lv_at hl 0 rfl) ?_
            refine gt_HeelDance_now hx hb hts ic_HeelDance hown hK hT g0 (hts _ mw_2_8) dX6_period_63 (fun q63 hq63 => ?_)
            refine gt_Evening_floor hx hb hts ic_Evening hown hK hT hq63 (hts _ mw_1_91) dX6_period_66 (fun q66 hq66 => ?_)
            obtain ⟨v69, hd69, -⟩ := bd0_s hF
            refine cl_Vi (rest := []) hC hK hSK (c_X1_isPairedAs l z σ58 q29 (5) hq29 q66 (1) hq66 v69 hd69) k_X1_isPairedAs mw_3_136 ⟨rfl, rfl, Nat.le_of_ble_eq_true rfl, Nat.le_of_ble_eq_true rfl⟩ (rv_Floor hK hT hq29) hT rfl hl.1 rfl (Nat.le_of_ble_eq_true rfl) dX6_period_69 ⟨Nat.zero_le _, Nat.zero_le _⟩ hS (fun _ h => h) (fun _ _ h => h) (fun r69 H locs hpo hS => ?_)
            obtain ⟨he69, hT, u69_0⟩ := hpo
            have hF := bd0_r hF hd69 he69
            refine r_if_eq (tgt := 77) hx hb dX6_period_72 (by decide) (fun c72 => ?_) (fun c72 => ?_)
            · have hF := ifp hF c72
              refine r_iinc (lv' := fun v__ => [(3, .int v__), (0, .ref h0), (1, .int p1), (2, .ref q29)]) hx hb dX6_period_77 hl (k := 3) rfl (by decide) (fun _ => rfl) ⟨by decide, by decide⟩ (by omega) (by omega) (fun x77 ls e77 hl => ?_)
              have hF := bn hF e77
              refine lv_goto (tgt := 50) hx hb dX6_period_80 (by decide) ?_
              exact ih50 ls _ _ x77 σ58 (by omega) hF hT hS (lv_sub hl [1, 2, 3, 0] rfl)
            · have hF := ifn hF c72
              refine lv_iload_n hx hb dX6_period_75 rfl (lv_at hl 3 rfl) ?_
              exact rt_i hx hb hr hlk hS ⟨σ58, hF, hT⟩ dX6_period_76
      exact J50 5000 ls _ _ x48 σ45 (by omega) hF hT hS (lv_sub hl [2, 3, 1, 0] rfl)
    · have hF := ifp hF c19
      refine r_bipush hx hb dX6_period_22 rfl (fun x22 e22 => ?_)
      have hF := bn hF e22
      exact rt_i hx hb hr hlk hS ⟨σ, hF, hT⟩ dX6_period_24
  · have hF := ifp hF c4
    refine r_iconst hx hb dX6_period_7 (by decide) (by decide) (fun x7 e7 => ?_)
    have hF := bn hF e7
    exact rt_i hx hb hr hlk hS ⟨σ, hF, hT⟩ dX6_period_8
theorem k_X6_placeIn : cBS yX6_placeIn cX6_placeIn 4 (some .int) 3 := ⟨mw_3_168, mw_1_1, mw_3_169, ⟨by decide, by decide, by decide⟩⟩
set_option maxHeartbeats 4000000 in
set_option maxRecDepth 100000 in
theorem c_placeIn57 (l : Launch) (z : Zt) (σ : Sg) (ra1 o0 : Nat) (hra1 : zG z ra1 = (57, o0)) (p2 : Int32) (p3 : Int32) (out : Int) (hF : D_placeIn57 (σ o0) p2.toInt p3.toInt = some out) : Met l yX6_placeIn (uw yX6_placeIn cX6_placeIn 4 (some .int)) (rmF 1 64) (PcW z [.ref ra1, .int p2, .int p3] (fun H => TY z (zA z) σ H)) (QcI z (fun r H => some r.toInt = some out ∧ TY z (zA z) σ H)) 0 0 (zA z) := by
  refine Met.ofW (cc := cX6_placeIn) (maxL := 4) (ret := (some .int)) (by decide) rfl ?_
  intro p e s m args below meth c s₁ B hml hv
  obtain ⟨rfl, hT, hK, hSK⟩ := hv
  have hx := B.exec
  have hb := B.bytes
  have hr := B.returns
  have hts : ∀ w ∈ lw_ok, w.before ([.ref ra1, .int p2, .int p3] : List Value).toArray s = true := fun w hw => atoms_spec (ws := uw yX6_placeIn cX6_placeIn 4 (some .int)) B.pre w (List.mem_cons_of_mem _ hw)
  have hown : s.vm.findClass RX6 = some m.cls := findClass_of_methodNamed B.named
  have hlk := B.notSynchronized
  have hC : CallFix p m c cX6_placeIn 4 s ([.ref ra1, .int p2, .int p3] : List Value).toArray lw_ok RX6 := ⟨hx, hb, hml, hown, hts⟩
  have hS : va_S (zA z) s.heap s.heap [] := va_S.rf
  have hl := lv_entry ([.ref ra1, .int p2, .int p3]) (n := 4) (Nat.le_of_ble_eq_true rfl)
  rw [lg_entry_eq]
  generalize (lg_sl ([.ref ra1, .int p2, .int p3]) ++ List.replicate (4 - (lg_sl ([.ref ra1, .int p2, .int p3])).length) Slot.unset).toArray = ls at hl ⊢
  have hl : lv_has ls 4 [(0, .ref ra1), (1, .int p2), (2, .int p3)] := hl
  show W p l e (rmF 1 64) s m ([.ref ra1, .int p2, .int p3] : List Value).toArray below meth c s.heap [] 0 0 (MQ below (QcI z (fun r H => some r.toInt = some out ∧ TY z (zA z) σ H)) ([.ref ra1, .int p2, .int p3] : List Value).toArray s 0 0 (zA z)) (F0 m 0 ls [])
  unfold D_placeIn57 at hF
  have mx_p2 := i_mx p2
  have mx_p3 := i_mx p3
  refine lv_iload_n hx hb dX6_placeIn_0 rfl (lv_at hl 2 rfl) ?_
  refine r_bipush hx hb dX6_placeIn_1 rfl (fun x1 e1 => ?_)
  have hF := bn hF e1
  refine x_isub hx hb dX6_placeIn_3 (fun x3 e3 => ?_)
  have hF := bn hF e3
  refine lv_istore_n (lv' := [(3, .int x3), (0, .ref ra1), (1, .int p2), (2, .int p3)]) hx hb dX6_placeIn_4 rfl hl (by decide) rfl (fun ls hl => ?_)
  refine lv_iload_n hx hb dX6_placeIn_5 rfl (lv_at hl 0 rfl) ?_
  have J20 : ∀ (ls : Array Slot) (H : Heap) (locs : List Loc), D_placeIn57_20 = some out → TY z (zA z) σ H → va_S (zA z) s.heap H locs → lv_has ls 4 [(0, .ref ra1), (1, .int p2), (2, .int p3), (3, .int x3)] → W p l e (rmF 1 64) s m ([.ref ra1, .int p2, .int p3] : List Value).toArray below meth c H locs 0 0 (MQ below (QcI z (fun r H => some r.toInt = some out ∧ TY z (zA z) σ H)) ([.ref ra1, .int p2, .int p3] : List Value).toArray s 0 0 (zA z)) (F0 m 20 ls []) := by
    intro ls H locs hF hT hS hl
    unfold D_placeIn57_20 at hF
    refine r_bipush hx hb dX6_placeIn_20 rfl (fun x20 e20 => ?_)
    have hF := bn hF e20
    refine lv_goto (tgt := 28) hx hb dX6_placeIn_22 (by decide) ?_
    exact rt_i hx hb hr hlk hS ⟨hF, hT⟩ dX6_placeIn_28
  refine r_if_lt (tgt := 20) hx hb dX6_placeIn_6 (by decide) (fun c6 => ?_) (fun c6 => ?_)
  · have hF := ifp hF c6
    exact J20 ls _ _ hF hT hS (lv_sub hl [1, 2, 3, 0] rfl)
  · have hF := ifn hF (Int.not_lt.mpr c6)
    refine lv_iload_n hx hb dX6_placeIn_9 rfl (lv_at hl 0 rfl) ?_
    refine lv_iload_n hx hb dX6_placeIn_10 rfl (lv_at hl 2 rfl) ?_
    refine r_icmp_ge (tgt := 20) hx hb dX6_placeIn_11 (by decide) (fun c11 => ?_) (fun c11 => ?_)
    · have hF := ifn hF (Int.not_lt.mpr c11)
      exact J20 ls _ _ hF hT hS (lv_sub hl [1, 2, 3, 0] rfl)
    · have hF := ifp hF c11
      refine lv_iload_n hx hb dX6_placeIn_14 rfl (lv_at hl 0 rfl) ?_
      refine lv_aload_n hx hb dX6_placeIn_15 rfl (lv_at hl 1 rfl) ?_
      refine an_57 hx hb hK hT hra1 dX6_placeIn_16 (fun x16 e16 => ?_)
      have hF := bn hF e16
      refine r_icmp_lt (tgt := 25) hx hb dX6_placeIn_17 (by decide) (fun c17 => ?_) (fun c17 => ?_)
      · have hF := ifp hF c17
        refine lv_aload_n hx hb dX6_placeIn_25 rfl (lv_at hl 1 rfl) ?_
        refine lv_iload_n hx hb dX6_placeIn_26 rfl (lv_at hl 0 rfl) ?_
        refine al_57 hx hb hK hT hra1 (by omega) (by omega) dX6_placeIn_27 (fun x27 e27 => ?_)
        have hF := bn hF e27
        exact rt_i hx hb hr hlk hS ⟨hF, hT⟩ dX6_placeIn_28
      · have hF := ifn hF (Int.not_lt.mpr c17)
        exact J20 ls _ _ hF hT hS (lv_sub hl [1, 2, 3, 0] rfl)
set_option maxHeartbeats 4000000 in
set_option maxRecDepth 100000 in
theorem c_placeIn58 (l : Launch) (z : Zt) (σ : Sg) (ra1 o0 : Nat) (hra1 : zG z ra1 = (58, o0)) (p2 : Int32) (p3 : Int32) (out : Int) (hF : D_placeIn58 (σ o0) p2.toInt p3.toInt = some out) : Met l yX6_placeIn (uw yX6_placeIn cX6_placeIn 4 (some .int)) (rmF 1 64) (PcW z [.ref ra1, .int p2, .int p3] (fun H => TY z (zA z) σ H)) (QcI z (fun r H => some r.toInt = some out ∧ TY z (zA z) σ H)) 0 0 (zA z) := by
  refine Met.ofW (cc := cX6_placeIn) (maxL := 4) (ret := (some .int)) (by decide) rfl ?_
  intro p e s m args below meth c s₁ B hml hv
  obtain ⟨rfl, hT, hK, hSK⟩ := hv
  have hx := B.exec
  have hb := B.bytes
  have hr := B.returns
  have hts : ∀ w ∈ lw_ok, w.before ([.ref ra1, .int p2, .int p3] : List Value).toArray s = true := fun w hw => atoms_spec (ws := uw yX6_placeIn cX6_placeIn 4 (some .int)) B.pre w (List.mem_cons_of_mem _ hw)
  have hown : s.vm.findClass RX6 = some m.cls := findClass_of_methodNamed B.named
  have hlk := B.notSynchronized
  have hC : CallFix p m c cX6_placeIn 4 s ([.ref ra1, .int p2, .int p3] : List Value).toArray lw_ok RX6 := ⟨hx, hb, hml, hown, hts⟩
  have hS : va_S (zA z) s.heap s.heap [] := va_S.rf
  have hl := lv_entry ([.ref ra1, .int p2, .int p3]) (n := 4) (Nat.le_of_ble_eq_true rfl)
  rw [lg_entry_eq]
  generalize (lg_sl ([.ref ra1, .int p2, .int p3]) ++ List.replicate (4 - (lg_sl ([.ref ra1, .int p2, .int p3])).length) Slot.unset).toArray = ls at hl ⊢
  have hl : lv_has ls 4 [(0, .ref ra1), (1, .int p2), (2, .int p3)] := hl
  show W p l e (rmF 1 64) s m ([.ref ra1, .int p2, .int p3] : List Value).toArray below meth c s.heap [] 0 0 (MQ below (QcI z (fun r H => some r.toInt = some out ∧ TY z (zA z) σ H)) ([.ref ra1, .int p2, .int p3] : List Value).toArray s 0 0 (zA z)) (F0 m 0 ls [])
  unfold D_placeIn58 at hF
  have mx_p2 := i_mx p2
  have mx_p3 := i_mx p3
  refine lv_iload_n hx hb dX6_placeIn_0 rfl (lv_at hl 2 rfl) ?_
  refine r_bipush hx hb dX6_placeIn_1 rfl (fun x1 e1 => ?_)
  have hF := bn hF e1
  refine x_isub hx hb dX6_placeIn_3 (fun x3 e3 => ?_)
  have hF := bn hF e3
  refine lv_istore_n (lv' := [(3, .int x3), (0, .ref ra1), (1, .int p2), (2, .int p3)]) hx hb dX6_placeIn_4 rfl hl (by decide) rfl (fun ls hl => ?_)
  refine lv_iload_n hx hb dX6_placeIn_5 rfl (lv_at hl 0 rfl) ?_
  have J20 : ∀ (ls : Array Slot) (H : Heap) (locs : List Loc), D_placeIn58_20 = some out → TY z (zA z) σ H → va_S (zA z) s.heap H locs → lv_has ls 4 [(0, .ref ra1), (1, .int p2), (2, .int p3), (3, .int x3)] → W p l e (rmF 1 64) s m ([.ref ra1, .int p2, .int p3] : List Value).toArray below meth c H locs 0 0 (MQ below (QcI z (fun r H => some r.toInt = some out ∧ TY z (zA z) σ H)) ([.ref ra1, .int p2, .int p3] : List Value).toArray s 0 0 (zA z)) (F0 m 20 ls []) := by
    intro ls H locs hF hT hS hl
    unfold D_placeIn58_20 at hF
    refine r_bipush hx hb dX6_placeIn_20 rfl (fun x20 e20 => ?_)
    have hF := bn hF e20
    refine lv_goto (tgt := 28) hx hb dX6_placeIn_22 (by decide) ?_
    exact rt_i hx hb hr hlk hS ⟨hF, hT⟩ dX6_placeIn_28
  refine r_if_lt (tgt := 20) hx hb dX6_placeIn_6 (by decide) (fun c6 => ?_) (fun c6 => ?_)
  · have hF := ifp hF c6
    exact J20 ls _ _ hF hT hS (lv_sub hl [1, 2, 3, 0] rfl)
  · have hF := ifn hF (Int.not_lt.mpr c6)
    refine lv_iload_n hx hb dX6_placeIn_9 rfl (lv_at hl 0 rfl) ?_
    refine lv_iload_n hx hb dX6_placeIn_10 rfl (lv_at hl 2 rfl) ?_
    refine r_icmp_ge (tgt := 20) hx hb dX6_placeIn_11 (by decide) (fun c11 => ?_) (fun c11 => ?_)
    · have hF := ifn hF (Int.not_lt.mpr c11)
      exact J20 ls _ _ hF hT hS (lv_sub hl [1, 2, 3, 0] rfl)
    · have hF := ifp hF c11
      refine lv_iload_n hx hb dX6_placeIn_14 rfl (lv_at hl 0 rfl) ?_
      refine lv_aload_n hx hb dX6_placeIn_15 rfl (lv_at hl 1 rfl) ?_
      refine an_58 hx hb hK hT hra1 dX6_placeIn_16 (fun x16 e16 => ?_)
      have hF := bn hF e16
      refine r_icmp_lt (tgt := 25) hx hb dX6_placeIn_17 (by decide) (fun c17 => ?_) (fun c17 => ?_)
      · have hF := ifp hF c17
        refine lv_aload_n hx hb dX6_placeIn_25 rfl (lv_at hl 1 rfl) ?_
        refine lv_iload_n hx hb dX6_placeIn_26 rfl (lv_at hl 0 rfl) ?_
        refine al_58 hx hb hK hT hra1 (by omega) (by omega) dX6_placeIn_27 (fun x27 e27 => ?_)
        have hF := bn hF e27
        exact rt_i hx hb hr hlk hS ⟨hF, hT⟩ dX6_placeIn_28
      · have hF := ifn hF (Int.not_lt.mpr c17)
        exact J20 ls _ _ hF hT hS (lv_sub hl [1, 2, 3, 0] rfl)
theorem k_X6_best : cBV yX6_best cX6_best 3 (some .int) 2 := ⟨mw_3_141, mw_3_142, mw_1_1, mw_3_143, ⟨by decide, by decide, by decide⟩⟩
set_option maxHeartbeats 4000000 in
set_option maxRecDepth 100000 in
theorem c_X6_best (l : Launch) (z : Zt) (σ : Sg) (h0 : Nat) (g0 : zG z h0 = (16, 0)) (p1 : Int32) (p2 : Int32) (out : (Int × Sg)) (hF : D_X6_best σ p1.toInt p2.toInt = some out) : Met l yX6_best (uw yX6_best cX6_best 3 (some .int)) (rmF 12 335) (PcW z [.ref h0, .int p1, .int p2] (fun H => TY z (zA z) σ H)) (QcI z (fun r H => ∃ σ' : Sg, some (r.toInt, σ') = some out ∧ TY z (zA z) σ' H)) 0 0 (zA z) := by
  refine Met.ofW (cc := cX6_best) (maxL := 3) (ret := (some .int)) (by decide) rfl ?_
  intro p e s m args below meth c s₁ B hml hv
  obtain ⟨rfl, hT, hK, hSK⟩ := hv
  have hx := B.exec
  have hb := B.bytes
  have hr := B.returns
  have hts : ∀ w ∈ lw_ok, w.before ([.ref h0, .int p1, .int p2] : List Value).toArray s = true := fun w hw => atoms_spec (ws := uw yX6_best cX6_best 3 (some .int)) B.pre w (List.mem_cons_of_mem _ hw)
  have hown : s.vm.findClass RX6 = some m.cls := findClass_of_methodNamed B.named
  have hlk := B.notSynchronized
  have hC : CallFix p m c cX6_best 3 s ([.ref h0, .int p1, .int p2] : List Value).toArray lw_ok RX6 := ⟨hx, hb, hml, hown, hts⟩
  have hS : va_S (zA z) s.heap s.heap [] := va_S.rf
  have hl := lv_entry ([.ref h0, .int p1, .int p2]) (n := 3) (Nat.le_of_ble_eq_true rfl)
  rw [lg_entry_eq]
  generalize (lg_sl ([.ref h0, .int p1, .int p2]) ++ List.replicate (3 - (lg_sl ([.ref h0, .int p1, .int p2])).length) Slot.unset).toArray = ls at hl ⊢
  have hl : lv_has ls 3 [(0, .ref h0), (1, .int p1), (2, .int p2)] := hl
  show W p l e (rmF 12 335) s m ([.ref h0, .int p1, .int p2] : List Value).toArray below meth c s.heap [] 0 0 (MQ below (QcI z (fun r H => ∃ σ' : Sg, some (r.toInt, σ') = some out ∧ TY z (zA z) σ' H)) ([.ref h0, .int p1, .int p2] : List Value).toArray s 0 0 (zA z)) (F0 m 0 ls [])
  unfold D_X6_best at hF
  have mx_p1 := i_mx p1
  have mx_p2 := i_mx p2
  refine lv_iload_n hx hb dX6_best_0 rfl (lv_at hl 1 rfl) ?_
  refine r_if_lt (tgt := 19) hx hb dX6_best_1 (by decide) (fun c1 => ?_) (fun c1 => ?_)
  · have hF := ifp hF c1
    refine r_iconst hx hb dX6_best_19 (by decide) (by decide) (fun x19 e19 => ?_)
    have hF := bn hF e19
    exact rt_i hx hb hr hlk hS ⟨σ, hF, hT⟩ dX6_best_20
  · have hF := ifn hF (Int.not_lt.mpr c1)
    refine lv_iload_n hx hb dX6_best_4 rfl (lv_at hl 1 rfl) ?_
    refine r_iconst hx hb dX6_best_5 (by decide) (by decide) (fun x5 e5 => ?_)
    have hF := bn hF e5
    refine r_icmp_gt (tgt := 19) hx hb dX6_best_6 (by decide) (fun c6 => ?_) (fun c6 => ?_)
    · have hF := ifp hF c6
      refine r_iconst hx hb dX6_best_19 (by decide) (by decide) (fun x19 e19 => ?_)
      have hF := bn hF e19
      exact rt_i hx hb hr hlk hS ⟨σ, hF, hT⟩ dX6_best_20
    · have hF := ifn hF (Int.not_lt.mpr c6)
      refine lv_iload_n hx hb dX6_best_9 rfl (lv_at hl 2 rfl) ?_
      have J21 : ∀ (ls : Array Slot) (H : Heap) (locs : List Loc) (σj21 : Sg), (0 ≤ p2.toInt) → D_X6_best_21 p1.toInt p2.toInt σj21 = some out → TY z (zA z) σj21 H → va_S (zA z) s.heap H locs → lv_has ls 3 [(0, .ref h0), (1, .int p1), (2, .int p2)] → W p l e (rmF 12 335) s m ([.ref h0, .int p1, .int p2] : List Value).toArray below meth c H locs 0 0 (MQ below (QcI z (fun r H => ∃ σ' : Sg, some (r.toInt, σ') = some out ∧ TY z (zA z) σ' H)) ([.ref h0, .int p1, .int p2] : List Value).toArray s 0 0 (zA z)) (F0 m 21 ls []) := by
        intro ls H locs σj21 j21_p2 hF hT hS hl
        unfold D_X6_best_21 at hF
        refine lv_aload_n hx hb dX6_best_21 rfl (lv_at hl 0 rfl) ?_
        refine gt_HeelDance_search hx hb hts ic_HeelDance hown hK hT g0 (hts _ mw_2_12) dX6_best_22 (fun q22 hq22 => ?_)
        refine lv_aload_n hx hb dX6_best_25 rfl (lv_at hl 0 rfl) ?_
        refine gt_HeelDance_now hx hb hts ic_HeelDance hown hK hT g0 (hts _ mw_2_8) dX6_best_26 (fun q26 hq26 => ?_)
        refine lv_iload_n hx hb dX6_best_29 rfl (lv_at hl 1 rfl) ?_
        refine r_iconst hx hb dX6_best_30 (by decide) (by decide) (fun x30 e30 => ?_)
        have hF := bn hF e30
        obtain ⟨s31, hd31, -⟩ := bd1_s hF
        refine cl_Vv (rest := []) hC hK hSK (c_X2_over l z σj21 q22 hq22 q26 (1) hq26 p1 x30 s31 hd31 (by omega) (by omega)) k_X2_over mw_3_144 ⟨rfl, rfl, Nat.le_of_ble_eq_true rfl, Nat.le_of_ble_eq_true rfl⟩ (rv_Search hK hT hq22) hT rfl hl.1 rfl (Nat.le_of_ble_eq_true rfl) dX6_best_31 ⟨Nat.zero_le _, Nat.zero_le _⟩ hS (fun _ h => h) (fun _ _ h => h) (fun H locs hpo hS => ?_)
        obtain ⟨σ31, he31, hT⟩ := hpo
        have hF := bd1_r hF hd31 he31
        refine lv_aload_n hx hb dX6_best_34 rfl (lv_at hl 0 rfl) ?_
        refine gt_HeelDance_search hx hb hts ic_HeelDance hown hK hT g0 (hts _ mw_2_12) dX6_best_35 (fun q35 hq35 => ?_)
        refine gt_Search_found hx hb hts ic_Search hown hK hT hq35 (hts _ mw_1_207) dX6_best_38 (fun x38 e38 f38 g38 => ?_)
        have hF := bn hF e38
        refine r_if_ne (tgt := 47) hx hb dX6_best_41 (by decide) (fun c41 => ?_) (fun c41 => ?_)
        · have hF := ifn hF c41
          refine lv_iload_n hx hb dX6_best_47 rfl (lv_at hl 2 rfl) ?_
          refine r_if_ne (tgt := 61) hx hb dX6_best_48 (by decide) (fun c48 => ?_) (fun c48 => ?_)
          · have hF := ifn hF c48
            refine lv_aload_n hx hb dX6_best_61 rfl (lv_at hl 0 rfl) ?_
            refine gt_HeelDance_search hx hb hts ic_HeelDance hown hK hT g0 (hts _ mw_2_12) dX6_best_62 (fun q62 hq62 => ?_)
            refine gt_Search_bestRow hx hb hts ic_Search hown hK hT hq62 (hts _ mw_1_203) dX6_best_65 (fun q65 hq65 => ?_)
            refine lv_iload_n hx hb dX6_best_68 rfl (lv_at hl 1 rfl) ?_
            refine lv_iload_n hx hb dX6_best_69 rfl (lv_at hl 2 rfl) ?_
            obtain ⟨v70, hd70, -⟩ := bd0_s hF
            refine cl_Si (rest := []) hC hK hSK (c_placeIn58 l z σ31 q65 (0) hq65 p1 p2 v70 hd70) k_X6_placeIn mw_3_167 ⟨rfl, rfl, Nat.le_of_ble_eq_true rfl, Nat.le_of_ble_eq_true rfl⟩ hT rfl hl.1 rfl (Nat.le_of_ble_eq_true rfl) dX6_best_70 ⟨Nat.zero_le _, Nat.zero_le _⟩ hS (fun _ h => h) (fun _ _ h => h) (fun r70 H locs hpo hS => ?_)
            obtain ⟨he70, hT⟩ := hpo
            have hF := bd0_r hF hd70 he70
            exact rt_i hx hb hr hlk hS ⟨σ31, hF, hT⟩ dX6_best_73
          · have hF := ifp hF c48
            refine lv_aload_n hx hb dX6_best_51 rfl (lv_at hl 0 rfl) ?_
            refine gt_HeelDance_search hx hb hts ic_HeelDance hown hK hT g0 (hts _ mw_2_12) dX6_best_52 (fun q52 hq52 => ?_)
            refine gt_Search_most hx hb hts ic_Search hown hK hT hq52 (hts _ mw_1_209) dX6_best_55 (fun x55 e55 f55 g55 => ?_)
            have hF := bn hF e55
            refine lv_goto (tgt := 73) hx hb dX6_best_58 (by decide) ?_
            exact rt_i hx hb hr hlk hS ⟨σ31, hF, hT⟩ dX6_best_73
        · have hF := ifp hF c41
          refine r_bipush hx hb dX6_best_44 rfl (fun x44 e44 => ?_)
          have hF := bn hF e44
          exact rt_i hx hb hr hlk hS ⟨σ31, hF, hT⟩ dX6_best_46
      refine r_if_eq (tgt := 21) hx hb dX6_best_10 (by decide) (fun c10 => ?_) (fun c10 => ?_)
      · have hF := ifp hF c10
        exact J21 ls _ _ σ (by omega) hF hT hS (lv_sub hl [0, 1, 2] rfl)
      · have hF := ifn hF c10
        refine lv_iload_n hx hb dX6_best_13 rfl (lv_at hl 2 rfl) ?_
        refine r_bipush hx hb dX6_best_14 rfl (fun x14 e14 => ?_)
        have hF := bn hF e14
        refine r_icmp_ge (tgt := 21) hx hb dX6_best_16 (by decide) (fun c16 => ?_) (fun c16 => ?_)
        · have hF := ifn hF (Int.not_lt.mpr c16)
          exact J21 ls _ _ σ (by omega) hF hT hS (lv_sub hl [0, 1, 2] rfl)
        · have hF := ifp hF c16
          refine r_iconst hx hb dX6_best_19 (by decide) (by decide) (fun x19 e19 => ?_)
          have hF := bn hF e19
          exact rt_i hx hb hr hlk hS ⟨σ, hF, hT⟩ dX6_best_20
theorem k_X6_orders : cBV yX6_orders cX6_orders 2 (some .int) 1 := ⟨mw_3_171, mw_3_172, mw_1_1, mw_3_173, ⟨by decide, by decide, by decide⟩⟩
set_option maxHeartbeats 4000000 in
set_option maxRecDepth 100000 in
theorem c_X6_orders (l : Launch) (z : Zt) (σ : Sg) (h0 : Nat) (g0 : zG z h0 = (16, 0)) (p1 : Int32) (out : (Int × Sg)) (hF : D_X6_orders σ p1.toInt = some out) : Met l yX6_orders (uw yX6_orders cX6_orders 2 (some .int)) (rmF 12 335) (PcW z [.ref h0, .int p1] (fun H => TY z (zA z) σ H)) (QcI z (fun r H => ∃ σ' : Sg, some (r.toInt, σ') = some out ∧ TY z (zA z) σ' H)) 0 0 (zA z) := by
  refine Met.ofW (cc := cX6_orders) (maxL := 2) (ret := (some .int)) (by decide) rfl ?_
  intro p e s m args below meth c s₁ B hml hv
  obtain ⟨rfl, hT, hK, hSK⟩ := hv
  have hx := B.exec
  have hb := B.bytes
  have hr := B.returns
  have hts : ∀ w ∈ lw_ok, w.before ([.ref h0, .int p1] : List Value).toArray s = true := fun w hw => atoms_spec (ws := uw yX6_orders cX6_orders 2 (some .int)) B.pre w (List.mem_cons_of_mem _ hw)
  have hown : s.vm.findClass RX6 = some m.cls := findClass_of_methodNamed B.named
  have hlk := B.notSynchronized
  have hC : CallFix p m c cX6_orders 2 s ([.ref h0, .int p1] : List Value).toArray lw_ok RX6 := ⟨hx, hb, hml, hown, hts⟩
  have hS : va_S (zA z) s.heap s.heap [] := va_S.rf
  have hl := lv_entry ([.ref h0, .int p1]) (n := 2) (Nat.le_of_ble_eq_true rfl)
  rw [lg_entry_eq]
  generalize (lg_sl ([.ref h0, .int p1]) ++ List.replicate (2 - (lg_sl ([.ref h0, .int p1])).length) Slot.unset).toArray = ls at hl ⊢
  have hl : lv_has ls 2 [(0, .ref h0), (1, .int p1)] := hl
  show W p l e (rmF 12 335) s m ([.ref h0, .int p1] : List Value).toArray below meth c s.heap [] 0 0 (MQ below (QcI z (fun r H => ∃ σ' : Sg, some (r.toInt, σ') = some out ∧ TY z (zA z) σ' H)) ([.ref h0, .int p1] : List Value).toArray s 0 0 (zA z)) (F0 m 0 ls [])
  unfold D_X6_orders at hF
  have mx_p1 := i_mx p1
  refine lv_iload_n hx hb dX6_orders_0 rfl (lv_at hl 1 rfl) ?_
  refine r_if_lt (tgt := 15) hx hb dX6_orders_1 (by decide) (fun c1 => ?_) (fun c1 => ?_)
  · have hF := ifp hF c1
    refine r_iconst hx hb dX6_orders_15 (by decide) (by decide) (fun x15 e15 => ?_)
    have hF := bn hF e15
    exact rt_i hx hb hr hlk hS ⟨σ, hF, hT⟩ dX6_orders_16
  · have hF := ifn hF (Int.not_lt.mpr c1)
    refine lv_iload_n hx hb dX6_orders_4 rfl (lv_at hl 1 rfl) ?_
    refine r_iconst hx hb dX6_orders_5 (by decide) (by decide) (fun x5 e5 => ?_)
    have hF := bn hF e5
    have J17 : ∀ (ls : Array Slot) (H : Heap) (locs : List Loc) (σj17 : Sg), D_X6_orders_17 p1.toInt σj17 = some out → TY z (zA z) σj17 H → va_S (zA z) s.heap H locs → lv_has ls 2 [(0, .ref h0), (1, .int p1)] → W p l e (rmF 12 335) s m ([.ref h0, .int p1] : List Value).toArray below meth c H locs 0 0 (MQ below (QcI z (fun r H => ∃ σ' : Sg, some (r.toInt, σ') = some out ∧ TY z (zA z) σ' H)) ([.ref h0, .int p1] : List Value).toArray s 0 0 (zA z)) (F0 m 17 ls []) := by
      intro ls H locs σj17 hF hT hS hl
      unfold D_X6_orders_17 at hF
      refine lv_aload_n hx hb dX6_orders_17 rfl (lv_at hl 0 rfl) ?_
      refine gt_HeelDance_now hx hb hts ic_HeelDance hown hK hT g0 (hts _ mw_2_8) dX6_orders_18 (fun q18 hq18 => ?_)
      refine gt_Evening_figures hx hb hts ic_Evening hown hK hT hq18 (hts _ mw_1_108) dX6_orders_21 (fun x21 e21 f21 g21 => ?_)
      have hF := bn hF e21
      refine r_iconst hx hb dX6_orders_24 (by decide) (by decide) (fun x24 e24 => ?_)
      have hF := bn hF e24
      refine r_icmp_le (tgt := 31) hx hb dX6_orders_25 (by decide) (fun c25 => ?_) (fun c25 => ?_)
      · have hF := ifn hF (Int.not_lt.mpr c25)
        refine lv_aload_n hx hb dX6_orders_31 rfl (lv_at hl 0 rfl) ?_
        refine gt_HeelDance_search hx hb hts ic_HeelDance hown hK hT g0 (hts _ mw_2_12) dX6_orders_32 (fun q32 hq32 => ?_)
        refine lv_aload_n hx hb dX6_orders_35 rfl (lv_at hl 0 rfl) ?_
        refine gt_HeelDance_now hx hb hts ic_HeelDance hown hK hT g0 (hts _ mw_2_8) dX6_orders_36 (fun q36 hq36 => ?_)
        refine lv_aload_n hx hb dX6_orders_39 rfl (lv_at hl 0 rfl) ?_
        refine gt_HeelDance_now hx hb hts ic_HeelDance hown hK hT g0 (hts _ mw_2_8) dX6_orders_40 (fun q40 hq40 => ?_)
        refine gt_Evening_figures hx hb hts ic_Evening hown hK hT hq40 (hts _ mw_1_108) dX6_orders_43 (fun x43 e43 f43 g43 => ?_)
        have hF := bn hF e43
        refine r_iconst hx hb dX6_orders_46 (by decide) (by decide) (fun x46 e46 => ?_)
        have hF := bn hF e46
        obtain ⟨s47, hd47, -⟩ := bd1_s hF
        refine cl_Vv (rest := []) hC hK hSK (c_X2_over l z σj17 q32 hq32 q36 (1) hq36 x43 x46 s47 hd47 (by omega) (by omega)) k_X2_over mw_3_144 ⟨rfl, rfl, Nat.le_of_ble_eq_true rfl, Nat.le_of_ble_eq_true rfl⟩ (rv_Search hK hT hq32) hT rfl hl.1 rfl (Nat.le_of_ble_eq_true rfl) dX6_orders_47 ⟨Nat.zero_le _, Nat.zero_le _⟩ hS (fun _ h => h) (fun _ _ h => h) (fun H locs hpo hS => ?_)
        obtain ⟨σ47, he47, hT⟩ := hpo
        have hF := bd1_r hF hd47 he47
        refine lv_iload_n hx hb dX6_orders_50 rfl (lv_at hl 1 rfl) ?_
        refine r_if_ne (tgt := 62) hx hb dX6_orders_51 (by decide) (fun c51 => ?_) (fun c51 => ?_)
        · have hF := ifn hF c51
          refine lv_aload_n hx hb dX6_orders_62 rfl (lv_at hl 0 rfl) ?_
          refine gt_HeelDance_search hx hb hts ic_HeelDance hown hK hT g0 (hts _ mw_2_12) dX6_orders_63 (fun q63 hq63 => ?_)
          refine gt_Search_found hx hb hts ic_Search hown hK hT hq63 (hts _ mw_1_207) dX6_orders_66 (fun x66 e66 f66 g66 => ?_)
          have hF := bn hF e66
          refine r_if_ne (tgt := 75) hx hb dX6_orders_69 (by decide) (fun c69 => ?_) (fun c69 => ?_)
          · have hF := ifn hF c69
            refine lv_iload_n hx hb dX6_orders_75 rfl (lv_at hl 1 rfl) ?_
            refine r_iconst hx hb dX6_orders_76 (by decide) (by decide) (fun x76 e76 => ?_)
            have hF := bn hF e76
            refine r_icmp_ne (tgt := 90) hx hb dX6_orders_77 (by decide) (fun c77 => ?_) (fun c77 => ?_)
            · have hF := ifn hF c77
              refine lv_aload_n hx hb dX6_orders_90 rfl (lv_at hl 0 rfl) ?_
              refine gt_HeelDance_search hx hb hts ic_HeelDance hown hK hT g0 (hts _ mw_2_12) dX6_orders_91 (fun q91 hq91 => ?_)
              refine gt_Search_firstRow hx hb hts ic_Search hown hK hT hq91 (hts _ mw_1_201) dX6_orders_94 (fun q94 hq94 => ?_)
              refine lv_aload_n hx hb dX6_orders_97 rfl (lv_at hl 0 rfl) ?_
              refine gt_HeelDance_now hx hb hts ic_HeelDance hown hK hT g0 (hts _ mw_2_8) dX6_orders_98 (fun q98 hq98 => ?_)
              refine gt_Evening_figures hx hb hts ic_Evening hown hK hT hq98 (hts _ mw_1_108) dX6_orders_101 (fun x101 e101 f101 g101 => ?_)
              have hF := bn hF e101
              refine lv_iload_n hx hb dX6_orders_104 rfl (lv_at hl 1 rfl) ?_
              obtain ⟨v105, hd105, -⟩ := bd0_s hF
              refine cl_Si (rest := []) hC hK hSK (c_placeIn57 l z σ47 q94 (0) hq94 x101 p1 v105 hd105) k_X6_placeIn mw_3_167 ⟨rfl, rfl, Nat.le_of_ble_eq_true rfl, Nat.le_of_ble_eq_true rfl⟩ hT rfl hl.1 rfl (Nat.le_of_ble_eq_true rfl) dX6_orders_105 ⟨Nat.zero_le _, Nat.zero_le _⟩ hS (fun _ h => h) (fun _ _ h => h) (fun r105 H locs hpo hS => ?_)
              obtain ⟨he105, hT⟩ := hpo
              have hF := bd0_r hF hd105 he105
              exact rt_i hx hb hr hlk hS ⟨σ47, hF, hT⟩ dX6_orders_108
            · have hF := ifp hF c77
              refine lv_aload_n hx hb dX6_orders_80 rfl (lv_at hl 0 rfl) ?_
              refine gt_HeelDance_search hx hb hts ic_HeelDance hown hK hT g0 (hts _ mw_2_12) dX6_orders_81 (fun q81 hq81 => ?_)
              refine gt_Search_most hx hb hts ic_Search hown hK hT hq81 (hts _ mw_1_209) dX6_orders_84 (fun x84 e84 f84 g84 => ?_)
              have hF := bn hF e84
              refine lv_goto (tgt := 108) hx hb dX6_orders_87 (by decide) ?_
              exact rt_i hx hb hr hlk hS ⟨σ47, hF, hT⟩ dX6_orders_108
          · have hF := ifp hF c69
            refine r_bipush hx hb dX6_orders_72 rfl (fun x72 e72 => ?_)
            have hF := bn hF e72
            exact rt_i hx hb hr hlk hS ⟨σ47, hF, hT⟩ dX6_orders_74
        · have hF := ifp hF c51
          refine lv_aload_n hx hb dX6_orders_54 rfl (lv_at hl 0 rfl) ?_
          refine gt_HeelDance_search hx hb hts ic_HeelDance hown hK hT g0 (hts _ mw_2_12) dX6_orders_55 (fun q55 hq55 => ?_)
          refine gt_Search_found hx hb hts ic_Search hown hK hT hq55 (hts _ mw_1_207) dX6_orders_58 (fun x58 e58 f58 g58 => ?_)
          have hF := bn hF e58
          exact rt_i hx hb hr hlk hS ⟨σ47, hF, hT⟩ dX6_orders_61
      · have hF := ifp hF c25
        refine r_bipush hx hb dX6_orders_28 rfl (fun x28 e28 => ?_)
        have hF := bn hF e28
        exact rt_i hx hb hr hlk hS ⟨σj17, hF, hT⟩ dX6_orders_30
    refine r_icmp_le (tgt := 17) hx hb dX6_orders_6 (by decide) (fun c6 => ?_) (fun c6 => ?_)
    · have hF := ifn hF (Int.not_lt.mpr c6)
      exact J17 ls _ _ σ hF hT hS (lv_sub hl [0, 1] rfl)
    · have hF := ifp hF c6
      refine lv_iload_n hx hb dX6_orders_9 rfl (lv_at hl 1 rfl) ?_
      refine r_bipush hx hb dX6_orders_10 rfl (fun x10 e10 => ?_)
      have hF := bn hF e10
      refine r_icmp_ge (tgt := 17) hx hb dX6_orders_12 (by decide) (fun c12 => ?_) (fun c12 => ?_)
      · have hF := ifn hF (Int.not_lt.mpr c12)
        exact J17 ls _ _ σ hF hT hS (lv_sub hl [0, 1] rfl)
      · have hF := ifp hF c12
        refine r_iconst hx hb dX6_orders_15 (by decide) (by decide) (fun x15 e15 => ?_)
        have hF := bn hF e15
        exact rt_i hx hb hr hlk hS ⟨σ, hF, hT⟩ dX6_orders_16
theorem k_X6_roundRepeating : cBV yX6_roundRepeating cX6_roundRepeating 4 (some .int) 1 := ⟨mw_3_180, ms_1_8, mw_1_1, mw_3_181, ⟨by decide, by decide, by decide⟩⟩
set_option maxHeartbeats 4000000 in
set_option maxRecDepth 100000 in
theorem c_X6_roundRepeating (l : Launch) (z : Zt) (σ : Sg) (h0 : Nat) (g0 : zG z h0 = (16, 0)) (p1 : Int32) (out : (Int × Sg)) (hF : D_X6_roundRepeating σ p1.toInt = some out) : Met l yX6_roundRepeating (uw yX6_roundRepeating cX6_roundRepeating 4 (some .int)) (rmF 4 130) (PcW z [.ref h0, .int p1] (fun H => TY z (zA z) σ H)) (QcI z (fun r H => ∃ σ' : Sg, some (r.toInt, σ') = some out ∧ TY z (zA z) σ' H)) 0 0 (zA z) := by
  refine Met.ofW (cc := cX6_roundRepeating) (maxL := 4) (ret := (some .int)) (by decide) rfl ?_
  intro p e s m args below meth c s₁ B hml hv
  obtain ⟨rfl, hT, hK, hSK⟩ := hv
  have hx := B.exec
  have hb := B.bytes
  have hr := B.returns
  have hts : ∀ w ∈ lw_ok, w.before ([.ref h0, .int p1] : List Value).toArray s = true := fun w hw => atoms_spec (ws := uw yX6_roundRepeating cX6_roundRepeating 4 (some .int)) B.pre w (List.mem_cons_of_mem _ hw)
  have hown : s.vm.findClass RX6 = some m.cls := findClass_of_methodNamed B.named
  have hlk := B.notSynchronized
  have hC : CallFix p m c cX6_roundRepeating 4 s ([.ref h0, .int p1] : List Value).toArray lw_ok RX6 := ⟨hx, hb, hml, hown, hts⟩
  have hS : va_S (zA z) s.heap s.heap [] := va_S.rf
  have hl := lv_entry ([.ref h0, .int p1]) (n := 4) (Nat.le_of_ble_eq_true rfl)
  rw [lg_entry_eq]
  generalize (lg_sl ([.ref h0, .int p1]) ++ List.replicate (4 - (lg_sl ([.ref h0, .int p1])).length) Slot.unset).toArray = ls at hl ⊢
  have hl : lv_has ls 4 [(0, .ref h0), (1, .int p1)] := hl
  show W p l e (rmF 4 130) s m ([.ref h0, .int p1] : List Value).toArray below meth c s.heap [] 0 0 (MQ below (QcI z (fun r H => ∃ σ' : Sg, some (r.toInt, σ') = some out ∧ TY z (zA z) σ' H)) ([.ref h0, .int p1] : List Value).toArray s 0 0 (zA z)) (F0 m 0 ls [])
  unfold D_X6_roundRepeating at hF
  have mx_p1 := i_mx p1
  refine lv_aload_n hx hb dX6_roundRepeating_0 rfl (lv_at hl 0 rfl) ?_
  refine gt_HeelDance_walk hx hb hts ic_HeelDance hown hK hT g0 (hts _ mw_2_11) dX6_roundRepeating_1 (fun q1 hq1 => ?_)
  refine gt_Walk_floor hx hb hts ic_Walk hown hK hT hq1 (hts _ mw_1_177) dX6_roundRepeating_4 (fun q4 hq4 => ?_)
  refine lv_astore_n (lv' := [(2, .ref q4), (0, .ref h0), (1, .int p1)]) hx hb dX6_roundRepeating_7 rfl hl (by decide) rfl (fun ls hl => ?_)
  refine lv_aload_n hx hb dX6_roundRepeating_8 rfl (lv_at hl 0 rfl) ?_
  refine lv_aload_n hx hb dX6_roundRepeating_9 rfl (lv_at hl 1 rfl) ?_
  refine gt_HeelDance_now hx hb hts ic_HeelDance hown hK hT g0 (hts _ mw_2_8) dX6_roundRepeating_10 (fun q10 hq10 => ?_)
  refine gt_Evening_floor hx hb hts ic_Evening hown hK hT hq10 (hts _ mw_1_91) dX6_roundRepeating_13 (fun q13 hq13 => ?_)
  obtain ⟨s16, hd16, -⟩ := bd1_s hF
  refine cl_Vv (rest := []) hC hK hSK (c_X1_copyFrom l z σ q4 (5) hq4 q13 (1) hq13 s16 hd16) k_X1_copyFrom mw_3_88 ⟨rfl, rfl, Nat.le_of_ble_eq_true rfl, Nat.le_of_ble_eq_true rfl⟩ (rv_Floor hK hT hq4) hT rfl hl.1 rfl (Nat.le_of_ble_eq_true rfl) dX6_roundRepeating_16 ⟨Nat.zero_le _, Nat.zero_le _⟩ hS (fun _ h => h) (fun _ _ h => h) (fun H locs hpo hS => ?_)
  obtain ⟨σ16, he16, hT⟩ := hpo
  have hF := bd1_r hF hd16 he16
  refine r_iconst hx hb dX6_roundRepeating_19 (by decide) (by decide) (fun x19 e19 => ?_)
  have hF := bn hF e19
  refine lv_istore_n (lv' := [(3, .int x19), (2, .ref q4), (0, .ref h0), (1, .int p1)]) hx hb dX6_roundRepeating_20 rfl hl (by decide) rfl (fun ls hl => ?_)
  have J21 : ∀ (n21 : Nat) (ls : Array Slot) (H : Heap) (locs : List Loc) (y21_3 : Int32) (σj21 : Sg), (0 ≤ y21_3.toInt ∧ y21_3.toInt ≤ 8) → D_X6_roundRepeating_21 p1.toInt n21 σj21 y21_3.toInt = some out → TY z (zA z) σj21 H → va_S (zA z) s.heap H locs → lv_has ls 4 [(0, .ref h0), (1, .int p1), (2, .ref q4), (3, .int y21_3)] → W p l e (rmF 4 130) s m ([.ref h0, .int p1] : List Value).toArray below meth c H locs 0 0 (MQ below (QcI z (fun r H => ∃ σ' : Sg, some (r.toInt, σ') = some out ∧ TY z (zA z) σ' H)) ([.ref h0, .int p1] : List Value).toArray s 0 0 (zA z)) (F0 m 21 ls []) := by
    intro n21
    induction n21 with
    | zero => intro ls H locs y21_3 σj21 j21_y21_3 hF hT hS hl; exact (no_s hF).elim
    | succ n21 ih21 =>
      intro ls H locs y21_3 σj21 j21_y21_3 hF hT hS hl
      rw [D_X6_roundRepeating_21.eq_2] at hF
      refine lv_iload_n hx hb dX6_roundRepeating_21 rfl (lv_at hl 3 rfl) ?_
      refine lv_aload_n hx hb dX6_roundRepeating_22 rfl (lv_at hl 0 rfl) ?_
      refine gt_HeelDance_now hx hb hts ic_HeelDance hown hK hT g0 (hts _ mw_2_8) dX6_roundRepeating_23 (fun q23 hq23 => ?_)
      refine gt_Evening_figures hx hb hts ic_Evening hown hK hT hq23 (hts _ mw_1_108) dX6_roundRepeating_26 (fun x26 e26 f26 g26 => ?_)
      have hF := bn hF e26
      refine r_icmp_ge (tgt := 73) hx hb dX6_roundRepeating_29 (by decide) (fun c29 => ?_) (fun c29 => ?_)
      · have hF := ifn hF (Int.not_lt.mpr c29)
        refine lv_aload_n hx hb dX6_roundRepeating_73 rfl (lv_at hl 2 rfl) ?_
        obtain ⟨v74, hd74, -⟩ := bd0_s hF
        refine cl_Vi (rest := []) hC hK hSK (c_X1_roundBits l z σj21 q4 (5) hq4 v74 hd74) k_X1_roundBits mw_2_217 ⟨rfl, rfl, Nat.le_of_ble_eq_true rfl, Nat.le_of_ble_eq_true rfl⟩ (rv_Floor hK hT hq4) hT rfl hl.1 rfl (Nat.le_of_ble_eq_true rfl) dX6_roundRepeating_74 ⟨Nat.zero_le _, Nat.zero_le _⟩ hS (fun _ h => h) (fun _ _ h => h) (fun r74 H locs hpo hS => ?_)
        obtain ⟨he74, hT⟩ := hpo
        have hF := bd0_r hF hd74 he74
        exact rt_i hx hb hr hlk hS ⟨σj21, hF, hT⟩ dX6_roundRepeating_77
      · have hF := ifp hF c29
        refine lv_aload_n hx hb dX6_roundRepeating_32 rfl (lv_at hl 2 rfl) ?_
        refine lv_aload_n hx hb dX6_roundRepeating_33 rfl (lv_at hl 0 rfl) ?_
        refine gt_HeelDance_now hx hb hts ic_HeelDance hown hK hT g0 (hts _ mw_2_8) dX6_roundRepeating_34 (fun q34 hq34 => ?_)
        refine gt_Evening_program hx hb hts ic_Evening hown hK hT hq34 (hts _ mw_1_99) dX6_roundRepeating_37 (fun q37 hq37 => ?_)
        refine lv_iload_n hx hb dX6_roundRepeating_40 rfl (lv_at hl 3 rfl) ?_
        refine al_21 hx hb hK hT hq37 (by omega) (by omega) dX6_roundRepeating_41 (fun x41 e41 => ?_)
        have hF := bn hF e41
        obtain ⟨s42, hd42, -⟩ := bd1_s hF
        refine cl_Vv (rest := []) hC hK hSK (c_X1_step l z σj21 q4 (5) hq4 x41 s42 hd42) k_X1_step mw_3_55 ⟨rfl, rfl, Nat.le_of_ble_eq_true rfl, Nat.le_of_ble_eq_true rfl⟩ (rv_Floor hK hT hq4) hT rfl hl.1 rfl (Nat.le_of_ble_eq_true rfl) dX6_roundRepeating_42 ⟨Nat.zero_le _, Nat.zero_le _⟩ hS (fun _ h => h) (fun _ _ h => h) (fun H locs hpo hS => ?_)
        obtain ⟨σ42, he42, hf42, hT⟩ := hpo
        have hF := bd1_r hF hd42 he42
        have hF := gsL hF hf42
        refine lv_iload_n hx hb dX6_roundRepeating_45 rfl (lv_at hl 1 rfl) ?_
        refine lv_iload_n hx hb dX6_roundRepeating_46 rfl (lv_at hl 3 rfl) ?_
        refine x_ishr hx hb dX6_roundRepeating_47 (fun x47 e47 => ?_)
        have hF := bn hF e47
        refine r_iconst hx hb dX6_roundRepeating_48 (by decide) (by decide) (fun x48 e48 => ?_)
        have hF := bn hF e48
        refine x_iandr hx hb dX6_roundRepeating_49 (by omega) (fun x49 e49 g49 h49 => ?_)
        have hF := bn hF e49
        refine r_iconst hx hb dX6_roundRepeating_50 (by decide) (by decide) (fun x50 e50 => ?_)
        have hF := bn hF e50
        have J67 : ∀ (ls : Array Slot) (H : Heap) (locs : List Loc) (σj67 : Sg), D_X6_roundRepeating_67 (D_X6_roundRepeating_21 p1.toInt n21) y21_3.toInt σj67 = some out → TY z (zA z) σj67 H → va_S (zA z) s.heap H locs → lv_has ls 4 [(0, .ref h0), (1, .int p1), (2, .ref q4), (3, .int y21_3)] → W p l e (rmF 4 130) s m ([.ref h0, .int p1] : List Value).toArray below meth c H locs 0 0 (MQ below (QcI z (fun r H => ∃ σ' : Sg, some (r.toInt, σ') = some out ∧ TY z (zA z) σ' H)) ([.ref h0, .int p1] : List Value).toArray s 0 0 (zA z)) (F0 m 67 ls []) := by
          intro ls H locs σj67 hF hT hS hl
          unfold D_X6_roundRepeating_67 at hF
          refine r_iinc (lv' := fun v__ => [(3, .int v__), (0, .ref h0), (1, .int p1), (2, .ref q4)]) hx hb dX6_roundRepeating_67 hl (k := 3) rfl (by decide) (fun _ => rfl) ⟨by decide, by decide⟩ (by omega) (by omega) (fun x67 ls e67 hl => ?_)
          have hF := bn hF e67
          refine lv_goto (tgt := 21) hx hb dX6_roundRepeating_70 (by decide) ?_
          exact ih21 ls _ _ x67 σj67 (by omega) hF hT hS (lv_sub hl [1, 2, 3, 0] rfl)
        refine r_icmp_ne (tgt := 67) hx hb dX6_roundRepeating_51 (by decide) (fun c51 => ?_) (fun c51 => ?_)
        · have hF := ifn hF c51
          exact J67 ls _ _ σ42 hF hT hS (lv_sub hl [0, 1, 2, 3] rfl)
        · have hF := ifp hF c51
          refine lv_aload_n hx hb dX6_roundRepeating_54 rfl (lv_at hl 2 rfl) ?_
          refine lv_aload_n hx hb dX6_roundRepeating_55 rfl (lv_at hl 0 rfl) ?_
          refine gt_HeelDance_now hx hb hts ic_HeelDance hown hK hT g0 (hts _ mw_2_8) dX6_roundRepeating_56 (fun q56 hq56 => ?_)
          refine gt_Evening_program hx hb hts ic_Evening hown hK hT hq56 (hts _ mw_1_99) dX6_roundRepeating_59 (fun q59 hq59 => ?_)
          refine lv_iload_n hx hb dX6_roundRepeating_62 rfl (lv_at hl 3 rfl) ?_
          refine al_21 hx hb hK hT hq59 (by omega) (by omega) dX6_roundRepeating_63 (fun x63 e63 => ?_)
          have hF := bn hF e63
          obtain ⟨s64, hd64, -⟩ := bd1_s hF
          refine cl_Vv (rest := []) hC hK hSK (c_X1_step l z σ42 q4 (5) hq4 x63 s64 hd64) k_X1_step mw_3_55 ⟨rfl, rfl, Nat.le_of_ble_eq_true rfl, Nat.le_of_ble_eq_true rfl⟩ (rv_Floor hK hT hq4) hT rfl hl.1 rfl (Nat.le_of_ble_eq_true rfl) dX6_roundRepeating_64 ⟨Nat.zero_le _, Nat.zero_le _⟩ hS (fun _ h => h) (fun _ _ h => h) (fun H locs hpo hS => ?_)
          obtain ⟨σ64, he64, hf64, hT⟩ := hpo
          have hF := bd1_r hF hd64 he64
          have hF := gsL hF hf64
          exact J67 ls _ _ σ64 hF hT hS (lv_sub hl [0, 1, 2, 3] rfl)
  exact J21 5000 ls _ _ x19 σ16 (by omega) hF hT hS (lv_sub hl [2, 3, 1, 0] rfl)
theorem k_X6_again : cBV yX6_again cX6_again 6 (some .int) 1 := ⟨mw_3_175, mw_3_176, mw_1_1, mw_3_177, ⟨by decide, by decide, by decide⟩⟩
set_option maxHeartbeats 4000000 in
set_option maxRecDepth 100000 in
theorem c_X6_again (l : Launch) (z : Zt) (σ : Sg) (h0 : Nat) (g0 : zG z h0 = (16, 0)) (p1 : Int32) (out : (Int × Sg)) (hF : D_X6_again σ p1.toInt = some out) : Met l yX6_again (uw yX6_again cX6_again 6 (some .int)) (rmF 5 153) (PcW z [.ref h0, .int p1] (fun H => TY z (zA z) σ H)) (QcI z (fun r H => ∃ σ' : Sg, some (r.toInt, σ') = some out ∧ TY z (zA z) σ' H)) 0 0 (zA z) := by
  refine Met.ofW (cc := cX6_again) (maxL := 6) (ret := (some .int)) (by decide) rfl ?_
  intro p e s m args below meth c s₁ B hml hv
  obtain ⟨rfl, hT, hK, hSK⟩ := hv
  have hx := B.exec
  have hb := B.bytes
  have hr := B.returns
  have hts : ∀ w ∈ lw_ok, w.before ([.ref h0, .int p1] : List Value).toArray s = true := fun w hw => atoms_spec (ws := uw yX6_again cX6_again 6 (some .int)) B.pre w (List.mem_cons_of_mem _ hw)
  have hown : s.vm.findClass RX6 = some m.cls := findClass_of_methodNamed B.named
  have hlk := B.notSynchronized
  have hC : CallFix p m c cX6_again 6 s ([.ref h0, .int p1] : List Value).toArray lw_ok RX6 := ⟨hx, hb, hml, hown, hts⟩
  have hS : va_S (zA z) s.heap s.heap [] := va_S.rf
  have hl := lv_entry ([.ref h0, .int p1]) (n := 6) (Nat.le_of_ble_eq_true rfl)
  rw [lg_entry_eq]
  generalize (lg_sl ([.ref h0, .int p1]) ++ List.replicate (6 - (lg_sl ([.ref h0, .int p1])).length) Slot.unset).toArray = ls at hl ⊢
  have hl : lv_has ls 6 [(0, .ref h0), (1, .int p1)] := hl
  show W p l e (rmF 5 153) s m ([.ref h0, .int p1] : List Value).toArray below meth c s.heap [] 0 0 (MQ below (QcI z (fun r H => ∃ σ' : Sg, some (r.toInt, σ') = some out ∧ TY z (zA z) σ' H)) ([.ref h0, .int p1] : List Value).toArray s 0 0 (zA z)) (F0 m 0 ls [])
  unfold D_X6_again at hF
  have mx_p1 := i_mx p1
  refine lv_iload_n hx hb dX6_again_0 rfl (lv_at hl 1 rfl) ?_
  refine r_if_lt (tgt := 9) hx hb dX6_again_1 (by decide) (fun c1 => ?_) (fun c1 => ?_)
  · have hF := ifp hF c1
    refine r_iconst hx hb dX6_again_9 (by decide) (by decide) (fun x9 e9 => ?_)
    have hF := bn hF e9
    exact rt_i hx hb hr hlk hS ⟨σ, hF, hT⟩ dX6_again_10
  · have hF := ifn hF (Int.not_lt.mpr c1)
    refine lv_iload_n hx hb dX6_again_4 rfl (lv_at hl 1 rfl) ?_
    refine r_iconst hx hb dX6_again_5 (by decide) (by decide) (fun x5 e5 => ?_)
    have hF := bn hF e5
    refine r_icmp_le (tgt := 11) hx hb dX6_again_6 (by decide) (fun c6 => ?_) (fun c6 => ?_)
    · have hF := ifn hF (Int.not_lt.mpr c6)
      refine lv_aload_n hx hb dX6_again_11 rfl (lv_at hl 0 rfl) ?_
      refine r_iconst hx hb dX6_again_12 (by decide) (by decide) (fun x12 e12 => ?_)
      have hF := bn hF e12
      obtain ⟨v13, s13, hd13, -⟩ := bd2_s hF
      refine cl_Vi (rest := []) hC hK hSK (c_X6_roundRepeating l z σ h0 g0 x12 (v13, s13) hd13) k_X6_roundRepeating mw_3_178 ⟨rfl, rfl, Nat.le_of_ble_eq_true rfl, Nat.le_of_ble_eq_true rfl⟩ (rv_HeelDance hK hT g0) hT rfl hl.1 rfl (Nat.le_of_ble_eq_true rfl) dX6_again_13 ⟨Nat.zero_le _, Nat.zero_le _⟩ hS (fun _ h => h) (fun _ _ h => h) (fun r13 H locs hpo hS => ?_)
      obtain ⟨σ13, he13, hT⟩ := hpo
      have hF := bd2_r hF hd13 he13
      obtain ⟨v16, hd16, -⟩ := bd0_s hF
      refine cl_Si (rest := []) hC hK hSK (c_bitCount l z σ13 r13 v16 hd16) k_J6_bitCount_0f7a4 mw_3_79 ⟨rfl, rfl, Nat.le_of_ble_eq_true rfl, Nat.le_of_ble_eq_true rfl⟩ hT rfl hl.1 rfl (Nat.le_of_ble_eq_true rfl) dX6_again_16 ⟨Nat.zero_le _, Nat.zero_le _⟩ hS (fun _ h => h) (fun _ _ h => h) (fun r16 H locs hpo hS => ?_)
      obtain ⟨he16, hT, u16_0⟩ := hpo
      have hF := bd0_r hF hd16 he16
      refine lv_istore_n (lv' := [(2, .int r16), (0, .ref h0), (1, .int p1)]) hx hb dX6_again_19 rfl hl (by decide) rfl (fun ls hl => ?_)
      refine r_bipush hx hb dX6_again_20 rfl (fun x20 e20 => ?_)
      have hF := bn hF e20
      refine lv_istore_n (lv' := [(3, .int x20), (2, .int r16), (0, .ref h0), (1, .int p1)]) hx hb dX6_again_22 rfl hl (by decide) rfl (fun ls hl => ?_)
      refine r_iconst hx hb dX6_again_23 (by decide) (by decide) (fun x23 e23 => ?_)
      have hF := bn hF e23
      refine lv_istore (lv' := [(4, .int x23), (3, .int x20), (2, .int r16), (0, .ref h0), (1, .int p1)]) hx hb dX6_again_24 hl (by decide) rfl (fun ls hl => ?_)
      have J26 : ∀ (n26 : Nat) (ls : Array Slot) (H : Heap) (locs : List Loc) (y26_2 : Int32) (y26_3 : Int32) (y26_4 : Int32) (σj26 : Sg), (0 ≤ y26_2.toInt ∧ y26_2.toInt ≤ 32) → (-4 ≤ y26_3.toInt ∧ y26_3.toInt ≤ 7) → (0 ≤ y26_4.toInt ∧ y26_4.toInt ≤ 8) → D_X6_again_26 p1.toInt n26 σj26 y26_2.toInt y26_3.toInt y26_4.toInt = some out → TY z (zA z) σj26 H → va_S (zA z) s.heap H locs → lv_has ls 6 [(0, .ref h0), (1, .int p1), (2, .int y26_2), (3, .int y26_3), (4, .int y26_4)] → W p l e (rmF 5 153) s m ([.ref h0, .int p1] : List Value).toArray below meth c H locs 0 0 (MQ below (QcI z (fun r H => ∃ σ' : Sg, some (r.toInt, σ') = some out ∧ TY z (zA z) σ' H)) ([.ref h0, .int p1] : List Value).toArray s 0 0 (zA z)) (F0 m 26 ls []) := by
        intro n26
        induction n26 with
        | zero => intro ls H locs y26_2 y26_3 y26_4 σj26 j26_y26_2 j26_y26_3 j26_y26_4 hF hT hS hl; exact (no_s hF).elim
        | succ n26 ih26 =>
          intro ls H locs y26_2 y26_3 y26_4 σj26 j26_y26_2 j26_y26_3 j26_y26_4 hF hT hS hl
          rw [D_X6_again_26.eq_2] at hF
          refine lv_iload hx hb dX6_again_26 (lv_at hl 4 rfl) ?_
          refine lv_aload_n hx hb dX6_again_28 rfl (lv_at hl 0 rfl) ?_
          refine gt_HeelDance_now hx hb hts ic_HeelDance hown hK hT g0 (hts _ mw_2_8) dX6_again_29 (fun q29 hq29 => ?_)
          refine gt_Evening_figures hx hb hts ic_Evening hown hK hT hq29 (hts _ mw_1_108) dX6_again_32 (fun x32 e32 f32 g32 => ?_)
          have hF := bn hF e32
          refine r_icmp_ge (tgt := 69) hx hb dX6_again_35 (by decide) (fun c35 => ?_) (fun c35 => ?_)
          · have hF := ifn hF (Int.not_lt.mpr c35)
            refine lv_iload_n hx hb dX6_again_69 rfl (lv_at hl 3 rfl) ?_
            refine r_bipush hx hb dX6_again_70 rfl (fun x70 e70 => ?_)
            have hF := bn hF e70
            have J79 : ∀ (ls : Array Slot) (H : Heap) (locs : List Loc) (σj79 : Sg), D_X6_again_79 y26_3.toInt σj79 = some out → TY z (zA z) σj79 H → va_S (zA z) s.heap H locs → lv_has ls 6 [(0, .ref h0), (1, .int p1), (2, .int y26_2), (3, .int y26_3), (4, .int y26_4)] → W p l e (rmF 5 153) s m ([.ref h0, .int p1] : List Value).toArray below meth c H locs 0 0 (MQ below (QcI z (fun r H => ∃ σ' : Sg, some (r.toInt, σ') = some out ∧ TY z (zA z) σ' H)) ([.ref h0, .int p1] : List Value).toArray s 0 0 (zA z)) (F0 m 79 ls []) := by
              intro ls H locs σj79 hF hT hS hl
              unfold D_X6_again_79 at hF
              refine lv_iload_n hx hb dX6_again_79 rfl (lv_at hl 3 rfl) ?_
              refine lv_goto (tgt := 84) hx hb dX6_again_80 (by decide) ?_
              exact rt_i hx hb hr hlk hS ⟨σj79, hF, hT⟩ dX6_again_84
            refine r_icmp_eq (tgt := 79) hx hb dX6_again_72 (by decide) (fun c72 => ?_) (fun c72 => ?_)
            · have hF := ifp hF c72
              exact J79 ls _ _ σj26 hF hT hS (lv_sub hl [0, 1, 2, 3, 4] rfl)
            · have hF := ifn hF c72
              refine lv_iload_n hx hb dX6_again_75 rfl (lv_at hl 1 rfl) ?_
              refine r_if_ne (tgt := 83) hx hb dX6_again_76 (by decide) (fun c76 => ?_) (fun c76 => ?_)
              · have hF := ifn hF c76
                refine lv_iload_n hx hb dX6_again_83 rfl (lv_at hl 2 rfl) ?_
                exact rt_i hx hb hr hlk hS ⟨σj26, hF, hT⟩ dX6_again_84
              · have hF := ifp hF c76
                exact J79 ls _ _ σj26 hF hT hS (lv_sub hl [0, 1, 2, 3, 4] rfl)
          · have hF := ifp hF c35
            refine lv_aload_n hx hb dX6_again_38 rfl (lv_at hl 0 rfl) ?_
            refine r_iconst hx hb dX6_again_39 (by decide) (by decide) (fun x39 e39 => ?_)
            have hF := bn hF e39
            refine lv_iload hx hb dX6_again_40 (lv_at hl 4 rfl) ?_
            refine x_shl1 hx hb dX6_again_42 (by omega) (by omega) (by omega) (fun x42 e42 g42 h42 => ?_)
            have hF := bn hF e42
            obtain ⟨v43, s43, hd43, -⟩ := bd2_s hF
            refine cl_Vi (rest := []) hC hK hSK (c_X6_roundRepeating l z σj26 h0 g0 x42 (v43, s43) hd43) k_X6_roundRepeating mw_3_178 ⟨rfl, rfl, Nat.le_of_ble_eq_true rfl, Nat.le_of_ble_eq_true rfl⟩ (rv_HeelDance hK hT g0) hT rfl hl.1 rfl (Nat.le_of_ble_eq_true rfl) dX6_again_43 ⟨Nat.zero_le _, Nat.zero_le _⟩ hS (fun _ h => h) (fun _ _ h => h) (fun r43 H locs hpo hS => ?_)
            obtain ⟨σ43, he43, hT⟩ := hpo
            have hF := bd2_r hF hd43 he43
            obtain ⟨v46, hd46, -⟩ := bd0_s hF
            refine cl_Si (rest := []) hC hK hSK (c_bitCount l z σ43 r43 v46 hd46) k_J6_bitCount_0f7a4 mw_3_79 ⟨rfl, rfl, Nat.le_of_ble_eq_true rfl, Nat.le_of_ble_eq_true rfl⟩ hT rfl hl.1 rfl (Nat.le_of_ble_eq_true rfl) dX6_again_46 ⟨Nat.zero_le _, Nat.zero_le _⟩ hS (fun _ h => h) (fun _ _ h => h) (fun r46 H locs hpo hS => ?_)
            obtain ⟨he46, hT, u46_0⟩ := hpo
            have hF := bd0_r hF hd46 he46
            refine lv_istore (lv' := [(5, .int r46), (0, .ref h0), (1, .int p1), (2, .int y26_2), (3, .int y26_3), (4, .int y26_4)]) hx hb dX6_again_49 hl (by decide) rfl (fun ls hl => ?_)
            refine lv_iload hx hb dX6_again_51 (lv_at hl 0 rfl) ?_
            refine lv_iload_n hx hb dX6_again_53 rfl (lv_at hl 3 rfl) ?_
            have J63 : ∀ (ls : Array Slot) (H : Heap) (locs : List Loc) (y63_2 : Int32) (y63_3 : Int32) (σj63 : Sg), (0 ≤ y63_2.toInt ∧ y63_2.toInt ≤ 32) → (-4 ≤ y63_3.toInt ∧ y63_3.toInt ≤ 7) → D_X6_again_63 (D_X6_again_26 p1.toInt n26) y26_4.toInt σj63 y63_2.toInt y63_3.toInt = some out → TY z (zA z) σj63 H → va_S (zA z) s.heap H locs → lv_has ls 6 [(0, .ref h0), (1, .int p1), (2, .int y63_2), (3, .int y63_3), (4, .int y26_4), (5, .int r46)] → W p l e (rmF 5 153) s m ([.ref h0, .int p1] : List Value).toArray below meth c H locs 0 0 (MQ below (QcI z (fun r H => ∃ σ' : Sg, some (r.toInt, σ') = some out ∧ TY z (zA z) σ' H)) ([.ref h0, .int p1] : List Value).toArray s 0 0 (zA z)) (F0 m 63 ls []) := by
              intro ls H locs y63_2 y63_3 σj63 j63_y63_2 j63_y63_3 hF hT hS hl
              unfold D_X6_again_63 at hF
              refine r_iinc (lv' := fun v__ => [(4, .int v__), (0, .ref h0), (1, .int p1), (2, .int y63_2), (3, .int y63_3), (5, .int r46)]) hx hb dX6_again_63 hl (k := 4) rfl (by decide) (fun _ => rfl) ⟨by decide, by decide⟩ (by omega) (by omega) (fun x63 ls e63 hl => ?_)
              have hF := bn hF e63
              refine lv_goto (tgt := 26) hx hb dX6_again_66 (by decide) ?_
              exact ih26 ls _ _ y63_2 y63_3 x63 σj63 (by omega) (by omega) (by omega) hF hT hS (lv_sub hl [1, 2, 3, 4, 0] rfl)
            refine r_icmp_le (tgt := 63) hx hb dX6_again_54 (by decide) (fun c54 => ?_) (fun c54 => ?_)
            · have hF := ifn hF (Int.not_lt.mpr c54)
              exact J63 ls _ _ y26_2 y26_3 σ43 (by omega) (by omega) hF hT hS (lv_sub hl [1, 2, 3, 4, 5, 0] rfl)
            · have hF := ifp hF c54
              refine lv_iload hx hb dX6_again_57 (lv_at hl 0 rfl) ?_
              refine lv_istore_n (lv' := [(2, .int r46), (5, .int r46), (0, .ref h0), (1, .int p1), (3, .int y26_3), (4, .int y26_4)]) hx hb dX6_again_59 rfl hl (by decide) rfl (fun ls hl => ?_)
              refine lv_iload hx hb dX6_again_60 (lv_at hl 5 rfl) ?_
              refine lv_istore_n (lv' := [(3, .int y26_4), (2, .int r46), (5, .int r46), (0, .ref h0), (1, .int p1), (4, .int y26_4)]) hx hb dX6_again_62 rfl hl (by decide) rfl (fun ls hl => ?_)
              exact J63 ls _ _ r46 y26_4 σ43 (by omega) (by omega) hF hT hS (lv_sub hl [3, 4, 1, 0, 5, 2] rfl)
      exact J26 5000 ls _ _ r16 x20 x23 σ13 (by omega) (by omega) (by omega) hF hT hS (lv_sub hl [3, 4, 2, 1, 0] rfl)
    · have hF := ifp hF c6
      refine r_iconst hx hb dX6_again_9 (by decide) (by decide) (fun x9 e9 => ?_)
      have hF := bn hF e9
      exact rt_i hx hb hr hlk hS ⟨σ, hF, hT⟩ dX6_again_10
theorem k_X6_coins : cBV yX6_coins cX6_coins 6 (some .int) 1 := ⟨mw_3_183, mw_3_184, mw_1_1, mw_3_185, ⟨by decide, by decide, by decide⟩⟩
set_option maxHeartbeats 4000000 in
set_option maxRecDepth 100000 in
theorem c_X6_coins (l : Launch) (z : Zt) (σ : Sg) (h0 : Nat) (g0 : zG z h0 = (16, 0)) (p1 : Int32) (out : (Int × Sg)) (hF : D_X6_coins σ p1.toInt = some out) : Met l yX6_coins (uw yX6_coins cX6_coins 6 (some .int)) (rmF 5 153) (PcW z [.ref h0, .int p1] (fun H => TY z (zA z) σ H)) (QcI z (fun r H => ∃ σ' : Sg, some (r.toInt, σ') = some out ∧ TY z (zA z) σ' H)) 0 0 (zA z) := by
  refine Met.ofW (cc := cX6_coins) (maxL := 6) (ret := (some .int)) (by decide) rfl ?_
  intro p e s m args below meth c s₁ B hml hv
  obtain ⟨rfl, hT, hK, hSK⟩ := hv
  have hx := B.exec
  have hb := B.bytes
  have hr := B.returns
  have hts : ∀ w ∈ lw_ok, w.before ([.ref h0, .int p1] : List Value).toArray s = true := fun w hw => atoms_spec (ws := uw yX6_coins cX6_coins 6 (some .int)) B.pre w (List.mem_cons_of_mem _ hw)
  have hown : s.vm.findClass RX6 = some m.cls := findClass_of_methodNamed B.named
  have hlk := B.notSynchronized
  have hC : CallFix p m c cX6_coins 6 s ([.ref h0, .int p1] : List Value).toArray lw_ok RX6 := ⟨hx, hb, hml, hown, hts⟩
  have hS : va_S (zA z) s.heap s.heap [] := va_S.rf
  have hl := lv_entry ([.ref h0, .int p1]) (n := 6) (Nat.le_of_ble_eq_true rfl)
  rw [lg_entry_eq]
  generalize (lg_sl ([.ref h0, .int p1]) ++ List.replicate (6 - (lg_sl ([.ref h0, .int p1])).length) Slot.unset).toArray = ls at hl ⊢
  have hl : lv_has ls 6 [(0, .ref h0), (1, .int p1)] := hl
  show W p l e (rmF 5 153) s m ([.ref h0, .int p1] : List Value).toArray below meth c s.heap [] 0 0 (MQ below (QcI z (fun r H => ∃ σ' : Sg, some (r.toInt, σ') = some out ∧ TY z (zA z) σ' H)) ([.ref h0, .int p1] : List Value).toArray s 0 0 (zA z)) (F0 m 0 ls [])
  unfold D_X6_coins at hF
  have mx_p1 := i_mx p1
  refine lv_iload_n hx hb dX6_coins_0 rfl (lv_at hl 1 rfl) ?_
  refine r_if_lt (tgt := 20) hx hb dX6_coins_1 (by decide) (fun c1 => ?_) (fun c1 => ?_)
  · have hF := ifp hF c1
    refine r_iconst hx hb dX6_coins_20 (by decide) (by decide) (fun x20 e20 => ?_)
    have hF := bn hF e20
    exact rt_i hx hb hr hlk hS ⟨σ, hF, hT⟩ dX6_coins_21
  · have hF := ifn hF (Int.not_lt.mpr c1)
    refine lv_iload_n hx hb dX6_coins_4 rfl (lv_at hl 1 rfl) ?_
    refine r_iconst hx hb dX6_coins_5 (by decide) (by decide) (fun x5 e5 => ?_)
    have hF := bn hF e5
    refine lv_aload_n hx hb dX6_coins_6 rfl (lv_at hl 0 rfl) ?_
    refine gt_HeelDance_now hx hb hts ic_HeelDance hown hK hT g0 (hts _ mw_2_8) dX6_coins_7 (fun q7 hq7 => ?_)
    refine gt_Evening_floor hx hb hts ic_Evening hown hK hT hq7 (hts _ mw_1_91) dX6_coins_10 (fun q10 hq10 => ?_)
    refine gt_Floor_men hx hb hts ic_Floor hown hK hT hq10 (hts _ mw_1_62) dX6_coins_13 (fun x13 e13 f13 g13 => ?_)
    have hF := bn hF e13
    refine x_shl1 hx hb dX6_coins_16 (by omega) (by omega) (by omega) (fun x16 e16 g16 h16 => ?_)
    have hF := bn hF e16
    refine r_icmp_lt (tgt := 22) hx hb dX6_coins_17 (by decide) (fun c17 => ?_) (fun c17 => ?_)
    · have hF := ifp hF c17
      refine lv_aload_n hx hb dX6_coins_22 rfl (lv_at hl 0 rfl) ?_
      refine gt_HeelDance_now hx hb hts ic_HeelDance hown hK hT g0 (hts _ mw_2_8) dX6_coins_23 (fun q23 hq23 => ?_)
      refine gt_Evening_figures hx hb hts ic_Evening hown hK hT hq23 (hts _ mw_1_108) dX6_coins_26 (fun x26 e26 f26 g26 => ?_)
      have hF := bn hF e26
      refine r_iconst hx hb dX6_coins_29 (by decide) (by decide) (fun x29 e29 => ?_)
      have hF := bn hF e29
      refine r_icmp_le (tgt := 36) hx hb dX6_coins_30 (by decide) (fun c30 => ?_) (fun c30 => ?_)
      · have hF := ifn hF (Int.not_lt.mpr c30)
        refine r_bipush hx hb dX6_coins_36 rfl (fun x36 e36 => ?_)
        have hF := bn hF e36
        refine lv_istore_n (lv' := [(2, .int x36), (0, .ref h0), (1, .int p1)]) hx hb dX6_coins_38 rfl hl (by decide) rfl (fun ls hl => ?_)
        refine r_iconst hx hb dX6_coins_39 (by decide) (by decide) (fun x39 e39 => ?_)
        have hF := bn hF e39
        refine lv_istore_n (lv' := [(3, .int x39), (2, .int x36), (0, .ref h0), (1, .int p1)]) hx hb dX6_coins_40 rfl hl (by decide) rfl (fun ls hl => ?_)
        have J41 : ∀ (n41 : Nat) (ls : Array Slot) (H : Heap) (locs : List Loc) (y41_2 : Int32) (y41_3 : Int32) (σj41 : Sg), (-4 ≤ y41_2.toInt ∧ y41_2.toInt ≤ 32) → (0 ≤ y41_3.toInt ∧ y41_3.toInt ≤ 256) → D_X6_coins_41 p1.toInt n41 σj41 y41_2.toInt y41_3.toInt = some out → TY z (zA z) σj41 H → va_S (zA z) s.heap H locs → lv_has ls 6 [(0, .ref h0), (1, .int p1), (2, .int y41_2), (3, .int y41_3)] → W p l e (rmF 5 153) s m ([.ref h0, .int p1] : List Value).toArray below meth c H locs 0 0 (MQ below (QcI z (fun r H => ∃ σ' : Sg, some (r.toInt, σ') = some out ∧ TY z (zA z) σ' H)) ([.ref h0, .int p1] : List Value).toArray s 0 0 (zA z)) (F0 m 41 ls []) := by
          intro n41
          induction n41 with
          | zero => intro ls H locs y41_2 y41_3 σj41 j41_y41_2 j41_y41_3 hF hT hS hl; exact (no_s hF).elim
          | succ n41 ih41 =>
            intro ls H locs y41_2 y41_3 σj41 j41_y41_2 j41_y41_3 hF hT hS hl
            rw [D_X6_coins_41.eq_2] at hF
            refine lv_iload_n hx hb dX6_coins_41 rfl (lv_at hl 3 rfl) ?_
            refine r_iconst hx hb dX6_coins_42 (by decide) (by decide) (fun x42 e42 => ?_)
            have hF := bn hF e42
            refine lv_aload_n hx hb dX6_coins_43 rfl (lv_at hl 0 rfl) ?_
            refine gt_HeelDance_now hx hb hts ic_HeelDance hown hK hT g0 (hts _ mw_2_8) dX6_coins_44 (fun q44 hq44 => ?_)
            refine gt_Evening_figures hx hb hts ic_Evening hown hK hT hq44 (hts _ mw_1_108) dX6_coins_47 (fun x47 e47 f47 g47 => ?_)
            have hF := bn hF e47
            refine x_shl1 hx hb dX6_coins_50 (by omega) (by omega) (by omega) (fun x50 e50 g50 h50 => ?_)
            have hF := bn hF e50
            refine r_icmp_ge (tgt := 104) hx hb dX6_coins_51 (by decide) (fun c51 => ?_) (fun c51 => ?_)
            · have hF := ifn hF (Int.not_lt.mpr c51)
              refine lv_iload_n hx hb dX6_coins_104 rfl (lv_at hl 2 rfl) ?_
              exact rt_i hx hb hr hlk hS ⟨σj41, hF, hT⟩ dX6_coins_105
            · have hF := ifp hF c51
              refine lv_iload_n hx hb dX6_coins_54 rfl (lv_at hl 3 rfl) ?_
              obtain ⟨v55, hd55, -⟩ := bd0_s hF
              refine cl_Si (rest := []) hC hK hSK (c_bitCount l z σj41 y41_3 v55 hd55) k_J6_bitCount_0f7a4 mw_3_79 ⟨rfl, rfl, Nat.le_of_ble_eq_true rfl, Nat.le_of_ble_eq_true rfl⟩ hT rfl hl.1 rfl (Nat.le_of_ble_eq_true rfl) dX6_coins_55 ⟨Nat.zero_le _, Nat.zero_le _⟩ hS (fun _ h => h) (fun _ _ h => h) (fun r55 H locs hpo hS => ?_)
              obtain ⟨he55, hT, u55_0⟩ := hpo
              have hF := bd0_r hF hd55 he55
              refine lv_istore (lv' := [(4, .int r55), (0, .ref h0), (1, .int p1), (2, .int y41_2), (3, .int y41_3)]) hx hb dX6_coins_58 hl (by decide) rfl (fun ls hl => ?_)
              refine lv_iload_n hx hb dX6_coins_60 rfl (lv_at hl 3 rfl) ?_
              refine r_bipush hx hb dX6_coins_61 rfl (fun x61 e61 => ?_)
              have hF := bn hF e61
              have J77 : ∀ (ls : Array Slot) (H : Heap) (locs : List Loc) (t77_0 : Int32) (σj77 : Sg), (0 ≤ t77_0.toInt ∧ t77_0.toInt ≤ 1) → D_X6_coins_77 (D_X6_coins_41 p1.toInt n41) p1.toInt r55.toInt y41_2.toInt y41_3.toInt σj77 t77_0.toInt = some out → TY z (zA z) σj77 H → va_S (zA z) s.heap H locs → lv_has ls 6 [(0, .ref h0), (1, .int p1), (2, .int y41_2), (3, .int y41_3), (4, .int r55)] → W p l e (rmF 5 153) s m ([.ref h0, .int p1] : List Value).toArray below meth c H locs 0 0 (MQ below (QcI z (fun r H => ∃ σ' : Sg, some (r.toInt, σ') = some out ∧ TY z (zA z) σ' H)) ([.ref h0, .int p1] : List Value).toArray s 0 0 (zA z)) (F0 m 77 ls [.int t77_0]) := by
                intro ls H locs t77_0 σj77 j77_t77_0 hF hT hS hl
                unfold D_X6_coins_77 at hF
                refine lv_istore (lv' := [(5, .int t77_0), (0, .ref h0), (1, .int p1), (2, .int y41_2), (3, .int y41_3), (4, .int r55)]) hx hb dX6_coins_77 hl (by decide) rfl (fun ls hl => ?_)
                refine lv_iload hx hb dX6_coins_79 (lv_at hl 0 rfl) ?_
                have J98 : ∀ (ls : Array Slot) (H : Heap) (locs : List Loc) (y98_2 : Int32) (σj98 : Sg), (-4 ≤ y98_2.toInt ∧ y98_2.toInt ≤ 32) → D_X6_coins_98 (D_X6_coins_41 p1.toInt n41) y41_3.toInt σj98 y98_2.toInt = some out → TY z (zA z) σj98 H → va_S (zA z) s.heap H locs → lv_has ls 6 [(0, .ref h0), (1, .int p1), (2, .int y98_2), (3, .int y41_3), (4, .int r55), (5, .int t77_0)] → W p l e (rmF 5 153) s m ([.ref h0, .int p1] : List Value).toArray below meth c H locs 0 0 (MQ below (QcI z (fun r H => ∃ σ' : Sg, some (r.toInt, σ') = some out ∧ TY z (zA z) σ' H)) ([.ref h0, .int p1] : List Value).toArray s 0 0 (zA z)) (F0 m 98 ls []) := by
                  intro ls H locs y98_2 σj98 j98_y98_2 hF hT hS hl
                  unfold D_X6_coins_98 at hF
                  refine r_iinc (lv' := fun v__ => [(3, .int v__), (0, .ref h0), (1, .int p1), (2, .int y98_2), (4, .int r55), (5, .int t77_0)]) hx hb dX6_coins_98 hl (k := 3) rfl (by decide) (fun _ => rfl) ⟨by decide, by decide⟩ (by omega) (by omega) (fun x98 ls e98 hl => ?_)
                  have hF := bn hF e98
                  refine lv_goto (tgt := 41) hx hb dX6_coins_101 (by decide) ?_
                  exact ih41 ls _ _ y98_2 x98 σj98 (by omega) (by omega) hF hT hS (lv_sub hl [1, 2, 3, 0] rfl)
                refine r_if_eq (tgt := 98) hx hb dX6_coins_81 (by decide) (fun c81 => ?_) (fun c81 => ?_)
                · have hF := ifp hF c81
                  exact J98 ls _ _ y41_2 σj77 (by omega) hF hT hS (lv_sub hl [1, 2, 3, 4, 5, 0] rfl)
                · have hF := ifn hF c81
                  refine lv_aload_n hx hb dX6_coins_84 rfl (lv_at hl 1 rfl) ?_
                  refine lv_iload_n hx hb dX6_coins_85 rfl (lv_at hl 4 rfl) ?_
                  obtain ⟨v86, s86, hd86, -⟩ := bd2_s hF
                  refine cl_Vi (rest := []) hC hK hSK (c_X6_roundRepeating l z σj77 h0 g0 y41_3 (v86, s86) hd86) k_X6_roundRepeating mw_3_178 ⟨rfl, rfl, Nat.le_of_ble_eq_true rfl, Nat.le_of_ble_eq_true rfl⟩ (rv_HeelDance hK hT g0) hT rfl hl.1 rfl (Nat.le_of_ble_eq_true rfl) dX6_coins_86 ⟨Nat.zero_le _, Nat.zero_le _⟩ hS (fun _ h => h) (fun _ _ h => h) (fun r86 H locs hpo hS => ?_)
                  obtain ⟨σ86, he86, hT⟩ := hpo
                  have hF := bd2_r hF hd86 he86
                  refine lv_iload_n hx hb dX6_coins_89 rfl (lv_at hl 2 rfl) ?_
                  refine x_iandr hx hb dX6_coins_90 (by omega) (fun x90 e90 g90 h90 => ?_)
                  have hF := bn hF e90
                  refine lv_iload_n hx hb dX6_coins_91 rfl (lv_at hl 2 rfl) ?_
                  refine r_icmp_ne (tgt := 98) hx hb dX6_coins_92 (by decide) (fun c92 => ?_) (fun c92 => ?_)
                  · have hF := ifn hF c92
                    exact J98 ls _ _ y41_2 σ86 (by omega) hF hT hS (lv_sub hl [1, 2, 3, 4, 5, 0] rfl)
                  · have hF := ifp hF c92
                    refine lv_iload hx hb dX6_coins_95 (lv_at hl 5 rfl) ?_
                    refine lv_istore_n (lv' := [(2, .int r55), (5, .int t77_0), (0, .ref h0), (1, .int p1), (3, .int y41_3), (4, .int r55)]) hx hb dX6_coins_97 rfl hl (by decide) rfl (fun ls hl => ?_)
                    exact J98 ls _ _ r55 σ86 (by omega) hF hT hS (lv_sub hl [2, 3, 0, 4, 5, 1] rfl)
              have J72 : ∀ (ls : Array Slot) (H : Heap) (locs : List Loc) (σj72 : Sg), D_X6_coins_72 (D_X6_coins_41 p1.toInt n41) p1.toInt r55.toInt y41_2.toInt y41_3.toInt σj72 = some out → TY z (zA z) σj72 H → va_S (zA z) s.heap H locs → lv_has ls 6 [(0, .ref h0), (1, .int p1), (2, .int y41_2), (3, .int y41_3), (4, .int r55)] → W p l e (rmF 5 153) s m ([.ref h0, .int p1] : List Value).toArray below meth c H locs 0 0 (MQ below (QcI z (fun r H => ∃ σ' : Sg, some (r.toInt, σ') = some out ∧ TY z (zA z) σ' H)) ([.ref h0, .int p1] : List Value).toArray s 0 0 (zA z)) (F0 m 72 ls []) := by
                intro ls H locs σj72 hF hT hS hl
                unfold D_X6_coins_72 at hF
                refine r_iconst hx hb dX6_coins_72 (by decide) (by decide) (fun x72 e72 => ?_)
                have hF := bn hF e72
                refine lv_goto (tgt := 77) hx hb dX6_coins_73 (by decide) ?_
                exact J77 ls _ _ x72 σj72 (by omega) hF hT hS (lv_sub hl [0, 1, 2, 3, 4] rfl)
              refine r_icmp_eq (tgt := 72) hx hb dX6_coins_63 (by decide) (fun c63 => ?_) (fun c63 => ?_)
              · have hF := ifp hF c63
                exact J72 ls _ _ σj41 hF hT hS (lv_sub hl [1, 2, 3, 4, 0] rfl)
              · have hF := ifn hF c63
                refine lv_iload hx hb dX6_coins_66 (lv_at hl 0 rfl) ?_
                refine lv_iload_n hx hb dX6_coins_68 rfl (lv_at hl 3 rfl) ?_
                refine r_icmp_ge (tgt := 76) hx hb dX6_coins_69 (by decide) (fun c69 => ?_) (fun c69 => ?_)
                · have hF := ifn hF (Int.not_lt.mpr c69)
                  refine r_iconst hx hb dX6_coins_76 (by decide) (by decide) (fun x76 e76 => ?_)
                  have hF := bn hF e76
                  exact J77 ls _ _ x76 σj41 (by omega) hF hT hS (lv_sub hl [1, 2, 3, 4, 0] rfl)
                · have hF := ifp hF c69
                  exact J72 ls _ _ σj41 hF hT hS (lv_sub hl [1, 2, 3, 4, 0] rfl)
        exact J41 5000 ls _ _ x36 x39 σ (by omega) (by omega) hF hT hS (lv_sub hl [2, 3, 1, 0] rfl)
      · have hF := ifp hF c30
        refine r_bipush hx hb dX6_coins_33 rfl (fun x33 e33 => ?_)
        have hF := bn hF e33
        exact rt_i hx hb hr hlk hS ⟨σ, hF, hT⟩ dX6_coins_35
    · have hF := ifn hF (Int.not_lt.mpr c17)
      refine r_iconst hx hb dX6_coins_20 (by decide) (by decide) (fun x20 e20 => ?_)
      have hF := bn hF e20
      exact rt_i hx hb hr hlk hS ⟨σ, hF, hT⟩ dX6_coins_21
theorem k_X6_greatestCommon : cBS yX6_greatestCommon cX6_greatestCommon 11 (some .long) 2 := ⟨mw_3_206, mw_1_1, mw_3_207, ⟨by decide, by decide, by decide⟩⟩
set_option maxHeartbeats 4000000 in
set_option maxRecDepth 100000 in
theorem c_X6_greatestCommon (l : Launch) (z : Zt) (σ : Sg) (p1 : Int64) (p2 : Int64) (out : Int) (hF : D_X6_greatestCommon p1.toInt p2.toInt = some out) : Met l yX6_greatestCommon (uw yX6_greatestCommon cX6_greatestCommon 11 (some .long)) (rmF 1 64) (PcW z [.long p1, .long p2] (fun H => TY z (zA z) σ H)) (QcL z (fun r H => some r.toInt = some out ∧ TY z (zA z) σ H)) 0 0 (zA z) := by
  refine Met.ofW (cc := cX6_greatestCommon) (maxL := 11) (ret := (some .long)) (by decide) rfl ?_
  intro p e s m args below meth c s₁ B hml hv
  obtain ⟨rfl, hT, hK, hSK⟩ := hv
  have hx := B.exec
  have hb := B.bytes
  have hr := B.returns
  have hts : ∀ w ∈ lw_ok, w.before ([.long p1, .long p2] : List Value).toArray s = true := fun w hw => atoms_spec (ws := uw yX6_greatestCommon cX6_greatestCommon 11 (some .long)) B.pre w (List.mem_cons_of_mem _ hw)
  have hown : s.vm.findClass RX6 = some m.cls := findClass_of_methodNamed B.named
  have hlk := B.notSynchronized
  have hC : CallFix p m c cX6_greatestCommon 11 s ([.long p1, .long p2] : List Value).toArray lw_ok RX6 := ⟨hx, hb, hml, hown, hts⟩
  have hS : va_S (zA z) s.heap s.heap [] := va_S.rf
  have hl := lv_entry ([.long p1, .long p2]) (n := 11) (Nat.le_of_ble_eq_true rfl)
  rw [lg_entry_eq]
  generalize (lg_sl ([.long p1, .long p2]) ++ List.replicate (11 - (lg_sl ([.long p1, .long p2])).length) Slot.unset).toArray = ls at hl ⊢
  have hl : lv_has ls 11 [(0, .long p1), (2, .long p2)] := hl
  show W p l e (rmF 1 64) s m ([.long p1, .long p2] : List Value).toArray below meth c s.heap [] 0 0 (MQ below (QcL z (fun r H => some r.toInt = some out ∧ TY z (zA z) σ H)) ([.long p1, .long p2] : List Value).toArray s 0 0 (zA z)) (F0 m 0 ls [])
  unfold D_X6_greatestCommon at hF
  refine lv_lload_n hx hb dX6_greatestCommon_0 rfl (lv_at hl 0 rfl) ?_
  refine lv_lstore (lv' := [(4, .long p1), (0, .long p1), (2, .long p2)]) hx hb dX6_greatestCommon_1 hl (by decide) rfl (fun ls hl => ?_)
  refine lv_lload_n hx hb dX6_greatestCommon_3 rfl (lv_at hl 2 rfl) ?_
  refine lv_lstore (lv' := [(6, .long p2), (4, .long p1), (0, .long p1), (2, .long p2)]) hx hb dX6_greatestCommon_4 hl (by decide) rfl (fun ls hl => ?_)
  refine r_iconst hx hb dX6_greatestCommon_6 (by decide) (by decide) (fun x6 e6 => ?_)
  have hF := bn hF e6
  refine lv_istore (lv' := [(8, .int x6), (6, .long p2), (4, .long p1), (0, .long p1), (2, .long p2)]) hx hb dX6_greatestCommon_7 hl (by decide) rfl (fun ls hl => ?_)
  have J9 : ∀ (n9 : Nat) (ls : Array Slot) (H : Heap) (locs : List Loc) (y9_4 : Int64) (y9_6 : Int64) (y9_8 : Int32), (0 ≤ y9_8.toInt ∧ y9_8.toInt ≤ 100) → D_X6_greatestCommon_9 n9 y9_4.toInt y9_6.toInt y9_8.toInt = some out → TY z (zA z) σ H → va_S (zA z) s.heap H locs → lv_has ls 11 [(0, .long p1), (2, .long p2), (4, .long y9_4), (6, .long y9_6), (8, .int y9_8)] → W p l e (rmF 1 64) s m ([.long p1, .long p2] : List Value).toArray below meth c H locs 0 0 (MQ below (QcL z (fun r H => some r.toInt = some out ∧ TY z (zA z) σ H)) ([.long p1, .long p2] : List Value).toArray s 0 0 (zA z)) (F0 m 9 ls []) := by
    intro n9
    induction n9 with
    | zero => intro ls H locs y9_4 y9_6 y9_8 j9_y9_8 hF hT hS hl; exact (no_s hF).elim
    | succ n9 ih9 =>
      intro ls H locs y9_4 y9_6 y9_8 j9_y9_8 hF hT hS hl
      rw [D_X6_greatestCommon_9.eq_2] at hF
      refine lv_iload hx hb dX6_greatestCommon_9 (lv_at hl 4 rfl) ?_
      refine r_bipush hx hb dX6_greatestCommon_11 rfl (fun x11 e11 => ?_)
      have hF := bn hF e11
      refine r_icmp_ge (tgt := 44) hx hb dX6_greatestCommon_13 (by decide) (fun c13 => ?_) (fun c13 => ?_)
      · have hF := ifn hF (Int.not_lt.mpr c13)
        refine lv_lload hx hb dX6_greatestCommon_44 (lv_at hl 2 rfl) ?_
        exact rt_l hx hb hr hlk hS ⟨hF, hT⟩ dX6_greatestCommon_46
      · have hF := ifp hF c13
        refine lv_lload hx hb dX6_greatestCommon_16 (lv_at hl 3 rfl) ?_
        refine r_lconst0 hx hb dX6_greatestCommon_18 (fun x18 e18 => ?_)
        have hF := bn hF e18
        refine x_lcmp hx hb dX6_greatestCommon_19 (fun x19 e19 f19 g19 h19 => ?_)
        have hF := bn hF e19
        have v19 : -1 ≤ x19.toInt ∧ x19.toInt ≤ 1 := by omega
        refine r_if_eq (tgt := 44) hx hb dX6_greatestCommon_20 (by decide) (fun c20 => ?_) (fun c20 => ?_)
        · have hF := ifp hF c20
          refine lv_lload hx hb dX6_greatestCommon_44 (lv_at hl 2 rfl) ?_
          exact rt_l hx hb hr hlk hS ⟨hF, hT⟩ dX6_greatestCommon_46
        · have hF := ifn hF c20
          refine lv_lload hx hb dX6_greatestCommon_23 (lv_at hl 2 rfl) ?_
          refine lv_lload hx hb dX6_greatestCommon_25 (lv_at hl 3 rfl) ?_
          obtain ⟨kz27, hF⟩ := ck hF
          refine x_lrem hx hb dX6_greatestCommon_27 kz27 (fun x27 e27 => ?_)
          have hF := bn hF e27
          refine lv_lstore (lv' := [(9, .long x27), (0, .long p1), (2, .long p2), (4, .long y9_4), (6, .long y9_6), (8, .int y9_8)]) hx hb dX6_greatestCommon_28 hl (by decide) rfl (fun ls hl => ?_)
          refine lv_lload hx hb dX6_greatestCommon_30 (lv_at hl 4 rfl) ?_
          refine lv_lstore (lv' := [(4, .long y9_6), (9, .long x27), (0, .long p1), (2, .long p2), (6, .long y9_6), (8, .int y9_8)]) hx hb dX6_greatestCommon_32 hl (by decide) rfl (fun ls hl => ?_)
          refine lv_lload hx hb dX6_greatestCommon_34 (lv_at hl 1 rfl) ?_
          refine lv_lstore (lv' := [(6, .long x27), (4, .long y9_6), (9, .long x27), (0, .long p1), (2, .long p2), (8, .int y9_8)]) hx hb dX6_greatestCommon_36 hl (by decide) rfl (fun ls hl => ?_)
          refine r_iinc (lv' := fun v__ => [(8, .int v__), (6, .long x27), (4, .long y9_6), (9, .long x27), (0, .long p1), (2, .long p2)]) hx hb dX6_greatestCommon_38 hl (k := 5) rfl (by decide) (fun _ => rfl) ⟨by decide, by decide⟩ (by omega) (by omega) (fun x38 ls e38 hl => ?_)
          have hF := bn hF e38
          refine lv_goto (tgt := 9) hx hb dX6_greatestCommon_41 (by decide) ?_
          exact ih9 ls _ _ y9_6 x27 x38 (by omega) hF hT hS (lv_sub hl [4, 5, 2, 1, 0] rfl)
  exact J9 5000 ls _ _ p1 p2 x6 (by omega) hF hT hS (lv_sub hl [3, 4, 2, 1, 0] rfl)
theorem k_X6_fraction : cBS yX6_fraction cX6_fraction 7 (some .long) 3 := ⟨mw_3_203, mw_1_1, mw_3_204, ⟨by decide, by decide, by decide⟩⟩
set_option maxHeartbeats 4000000 in
set_option maxRecDepth 100000 in
theorem c_X6_fraction (l : Launch) (z : Zt) (σ : Sg) (p1 : Int64) (p2 : Int64) (p3 : Int32) (out : Int) (hF : D_X6_fraction p1.toInt p2.toInt p3.toInt = some out) : Met l yX6_fraction (uw yX6_fraction cX6_fraction 7 (some .long)) (rmF 2 94) (PcW z [.long p1, .long p2, .int p3] (fun H => TY z (zA z) σ H)) (QcL z (fun r H => some r.toInt = some out ∧ TY z (zA z) σ H)) 0 0 (zA z) := by
  refine Met.ofW (cc := cX6_fraction) (maxL := 7) (ret := (some .long)) (by decide) rfl ?_
  intro p e s m args below meth c s₁ B hml hv
  obtain ⟨rfl, hT, hK, hSK⟩ := hv
  have hx := B.exec
  have hb := B.bytes
  have hr := B.returns
  have hts : ∀ w ∈ lw_ok, w.before ([.long p1, .long p2, .int p3] : List Value).toArray s = true := fun w hw => atoms_spec (ws := uw yX6_fraction cX6_fraction 7 (some .long)) B.pre w (List.mem_cons_of_mem _ hw)
  have hown : s.vm.findClass RX6 = some m.cls := findClass_of_methodNamed B.named
  have hlk := B.notSynchronized
  have hC : CallFix p m c cX6_fraction 7 s ([.long p1, .long p2, .int p3] : List Value).toArray lw_ok RX6 := ⟨hx, hb, hml, hown, hts⟩
  have hS : va_S (zA z) s.heap s.heap [] := va_S.rf
  have hl := lv_entry ([.long p1, .long p2, .int p3]) (n := 7) (Nat.le_of_ble_eq_true rfl)
  rw [lg_entry_eq]
  generalize (lg_sl ([.long p1, .long p2, .int p3]) ++ List.replicate (7 - (lg_sl ([.long p1, .long p2, .int p3])).length) Slot.unset).toArray = ls at hl ⊢
  have hl : lv_has ls 7 [(0, .long p1), (2, .long p2), (4, .int p3)] := hl
  show W p l e (rmF 2 94) s m ([.long p1, .long p2, .int p3] : List Value).toArray below meth c s.heap [] 0 0 (MQ below (QcL z (fun r H => some r.toInt = some out ∧ TY z (zA z) σ H)) ([.long p1, .long p2, .int p3] : List Value).toArray s 0 0 (zA z)) (F0 m 0 ls [])
  unfold D_X6_fraction at hF
  have mx_p3 := i_mx p3
  refine lv_lload_n hx hb dX6_fraction_0 rfl (lv_at hl 0 rfl) ?_
  refine lv_lload_n hx hb dX6_fraction_1 rfl (lv_at hl 1 rfl) ?_
  obtain ⟨v2, hd2, -⟩ := bd0_s hF
  refine cl_Sl (rest := []) hC hK hSK (c_X6_greatestCommon l z σ p1 p2 v2 hd2) k_X6_greatestCommon mw_3_205 ⟨rfl, rfl, Nat.le_of_ble_eq_true rfl, Nat.le_of_ble_eq_true rfl⟩ hT rfl hl.1 rfl (Nat.le_of_ble_eq_true rfl) dX6_fraction_2 ⟨Nat.zero_le _, Nat.zero_le _⟩ hS (fun _ h => h) (fun _ _ h => h) (fun r2 H locs hpo hS => ?_)
  obtain ⟨he2, hT⟩ := hpo
  have hF := bd0_r hF hd2 he2
  refine lv_lstore (lv' := [(5, .long r2), (0, .long p1), (2, .long p2), (4, .int p3)]) hx hb dX6_fraction_5 hl (by decide) rfl (fun ls hl => ?_)
  refine lv_lload hx hb dX6_fraction_7 (lv_at hl 0 rfl) ?_
  refine r_lconst0 hx hb dX6_fraction_9 (fun x9 e9 => ?_)
  have hF := bn hF e9
  refine x_lcmp hx hb dX6_fraction_10 (fun x10 e10 f10 g10 h10 => ?_)
  have hF := bn hF e10
  have v10 : -1 ≤ x10.toInt ∧ x10.toInt ≤ 1 := by omega
  refine r_if_ne (tgt := 18) hx hb dX6_fraction_11 (by decide) (fun c11 => ?_) (fun c11 => ?_)
  · have hF := ifn hF c11
    refine lv_iload hx hb dX6_fraction_18 (lv_at hl 3 rfl) ?_
    refine r_if_ne (tgt := 30) hx hb dX6_fraction_20 (by decide) (fun c20 => ?_) (fun c20 => ?_)
    · have hF := ifn hF c20
      refine lv_lload_n hx hb dX6_fraction_30 rfl (lv_at hl 2 rfl) ?_
      refine lv_lload hx hb dX6_fraction_31 (lv_at hl 0 rfl) ?_
      obtain ⟨kz33, hF⟩ := ck hF
      refine x_ldiv hx hb dX6_fraction_33 kz33 (fun x33 e33 => ?_)
      have hF := bn hF e33
      exact rt_l hx hb hr hlk hS ⟨hF, hT⟩ dX6_fraction_34
    · have hF := ifp hF c20
      refine lv_lload_n hx hb dX6_fraction_23 rfl (lv_at hl 1 rfl) ?_
      refine lv_lload hx hb dX6_fraction_24 (lv_at hl 0 rfl) ?_
      obtain ⟨kz26, hF⟩ := ck hF
      refine x_ldiv hx hb dX6_fraction_26 kz26 (fun x26 e26 => ?_)
      have hF := bn hF e26
      refine lv_goto (tgt := 34) hx hb dX6_fraction_27 (by decide) ?_
      exact rt_l hx hb hr hlk hS ⟨hF, hT⟩ dX6_fraction_34
  · have hF := ifp hF c11
    refine r_ldc2 (-1) rfl hx hb hts hown mw_3_190 dX6_fraction_14 (fun x14 e14 => ?_)
    have hF := bn hF e14
    exact rt_l hx hb hr hlk hS ⟨hF, hT⟩ dX6_fraction_17
theorem k_X6_power : cBS yX6_power cX6_power 5 (some .long) 2 := ⟨mw_3_196, mw_1_1, mw_3_197, ⟨by decide, by decide, by decide⟩⟩
set_option maxHeartbeats 4000000 in
set_option maxRecDepth 100000 in
theorem c_X6_power (l : Launch) (z : Zt) (σ : Sg) (p1 : Int32) (p2 : Int32) (out : Int) (hF : D_X6_power p1.toInt p2.toInt = some out) : Met l yX6_power (uw yX6_power cX6_power 5 (some .long)) (rmF 1 64) (PcW z [.int p1, .int p2] (fun H => TY z (zA z) σ H)) (QcL z (fun r H => some r.toInt = some out ∧ TY z (zA z) σ H)) 0 0 (zA z) := by
  refine Met.ofW (cc := cX6_power) (maxL := 5) (ret := (some .long)) (by decide) rfl ?_
  intro p e s m args below meth c s₁ B hml hv
  obtain ⟨rfl, hT, hK, hSK⟩ := hv
  have hx := B.exec
  have hb := B.bytes
  have hr := B.returns
  have hts : ∀ w ∈ lw_ok, w.before ([.int p1, .int p2] : List Value).toArray s = true := fun w hw => atoms_spec (ws := uw yX6_power cX6_power 5 (some .long)) B.pre w (List.mem_cons_of_mem _ hw)
  have hown : s.vm.findClass RX6 = some m.cls := findClass_of_methodNamed B.named
  have hlk := B.notSynchronized
  have hC : CallFix p m c cX6_power 5 s ([.int p1, .int p2] : List Value).toArray lw_ok RX6 := ⟨hx, hb, hml, hown, hts⟩
  have hS : va_S (zA z) s.heap s.heap [] := va_S.rf
  have hl := lv_entry ([.int p1, .int p2]) (n := 5) (Nat.le_of_ble_eq_true rfl)
  rw [lg_entry_eq]
  generalize (lg_sl ([.int p1, .int p2]) ++ List.replicate (5 - (lg_sl ([.int p1, .int p2])).length) Slot.unset).toArray = ls at hl ⊢
  have hl : lv_has ls 5 [(0, .int p1), (1, .int p2)] := hl
  show W p l e (rmF 1 64) s m ([.int p1, .int p2] : List Value).toArray below meth c s.heap [] 0 0 (MQ below (QcL z (fun r H => some r.toInt = some out ∧ TY z (zA z) σ H)) ([.int p1, .int p2] : List Value).toArray s 0 0 (zA z)) (F0 m 0 ls [])
  unfold D_X6_power at hF
  have mx_p1 := i_mx p1
  have mx_p2 := i_mx p2
  refine r_lconst1 hx hb dX6_power_0 (fun x0 e0 => ?_)
  have hF := bn hF e0
  refine lv_lstore_n (lv' := [(2, .long x0), (0, .int p1), (1, .int p2)]) hx hb dX6_power_1 rfl hl (by decide) rfl (fun ls hl => ?_)
  refine r_iconst hx hb dX6_power_2 (by decide) (by decide) (fun x2 e2 => ?_)
  have hF := bn hF e2
  refine lv_istore (lv' := [(4, .int x2), (2, .long x0), (0, .int p1), (1, .int p2)]) hx hb dX6_power_3 hl (by decide) rfl (fun ls hl => ?_)
  have J5 : ∀ (n5 : Nat) (ls : Array Slot) (H : Heap) (locs : List Loc) (y5_2 : Int64) (y5_4 : Int32), (0 ≤ y5_4.toInt) → D_X6_power_5 p1.toInt p2.toInt n5 y5_2.toInt y5_4.toInt = some out → TY z (zA z) σ H → va_S (zA z) s.heap H locs → lv_has ls 5 [(0, .int p1), (1, .int p2), (2, .long y5_2), (4, .int y5_4)] → W p l e (rmF 1 64) s m ([.int p1, .int p2] : List Value).toArray below meth c H locs 0 0 (MQ below (QcL z (fun r H => some r.toInt = some out ∧ TY z (zA z) σ H)) ([.int p1, .int p2] : List Value).toArray s 0 0 (zA z)) (F0 m 5 ls []) := by
    intro n5
    induction n5 with
    | zero => intro ls H locs y5_2 y5_4 j5_y5_4 hF hT hS hl; exact (no_s hF).elim
    | succ n5 ih5 =>
      intro ls H locs y5_2 y5_4 j5_y5_4 hF hT hS hl
      rw [D_X6_power_5.eq_2] at hF
      refine lv_iload hx hb dX6_power_5 (lv_at hl 3 rfl) ?_
      refine lv_iload_n hx hb dX6_power_7 rfl (lv_at hl 1 rfl) ?_
      refine r_icmp_ge (tgt := 22) hx hb dX6_power_8 (by decide) (fun c8 => ?_) (fun c8 => ?_)
      · have hF := ifn hF (Int.not_lt.mpr c8)
        refine lv_lload_n hx hb dX6_power_22 rfl (lv_at hl 2 rfl) ?_
        exact rt_l hx hb hr hlk hS ⟨hF, hT⟩ dX6_power_23
      · have hF := ifp hF c8
        refine lv_lload_n hx hb dX6_power_11 rfl (lv_at hl 2 rfl) ?_
        refine lv_iload_n hx hb dX6_power_12 rfl (lv_at hl 0 rfl) ?_
        refine r_i2l hx hb dX6_power_13 (fun x13 e13 => ?_)
        have hF := bn hF e13
        refine x_lmul hx hb dX6_power_14 (fun x14 e14 => ?_)
        have hF := bn hF e14
        refine lv_lstore_n (lv' := [(2, .long x14), (0, .int p1), (1, .int p2), (4, .int y5_4)]) hx hb dX6_power_15 rfl hl (by decide) rfl (fun ls hl => ?_)
        refine r_iinc (lv' := fun v__ => [(4, .int v__), (2, .long x14), (0, .int p1), (1, .int p2)]) hx hb dX6_power_16 hl (k := 3) rfl (by decide) (fun _ => rfl) ⟨by decide, by decide⟩ (by omega) (by omega) (fun x16 ls e16 hl => ?_)
        have hF := bn hF e16
        refine lv_goto (tgt := 5) hx hb dX6_power_19 (by decide) ?_
        exact ih5 ls _ _ x14 x16 (by omega) hF hT hS (lv_sub hl [2, 3, 1, 0] rfl)
  exact J5 5000 ls _ _ x0 x2 (by omega) hF hT hS (lv_sub hl [2, 3, 1, 0] rfl)
theorem k_X6_roundWithBroken : cBV yX6_roundWithBroken cX6_roundWithBroken 3 (some .int) 1 := ⟨mw_3_200, ms_1_10, mw_1_1, mw_3_201, ⟨by decide, by decide, by decide⟩⟩
set_option maxHeartbeats 4000000 in
set_option maxRecDepth 100000 in
theorem c_X6_roundWithBroken (l : Launch) (z : Zt) (σ : Sg) (h0 : Nat) (g0 : zG z h0 = (16, 0)) (p1 : Int32) (out : (Int × Sg)) (hF : D_X6_roundWithBroken σ p1.toInt = some out) : Met l yX6_roundWithBroken (uw yX6_roundWithBroken cX6_roundWithBroken 3 (some .int)) (rmF 5 151) (PcW z [.ref h0, .int p1] (fun H => TY z (zA z) σ H)) (QcI z (fun r H => ∃ σ' : Sg, some (r.toInt, σ') = some out ∧ TY z (zA z) σ' H)) 0 0 (zA z) := by
  refine Met.ofW (cc := cX6_roundWithBroken) (maxL := 3) (ret := (some .int)) (by decide) rfl ?_
  intro p e s m args below meth c s₁ B hml hv
  obtain ⟨rfl, hT, hK, hSK⟩ := hv
  have hx := B.exec
  have hb := B.bytes
  have hr := B.returns
  have hts : ∀ w ∈ lw_ok, w.before ([.ref h0, .int p1] : List Value).toArray s = true := fun w hw => atoms_spec (ws := uw yX6_roundWithBroken cX6_roundWithBroken 3 (some .int)) B.pre w (List.mem_cons_of_mem _ hw)
  have hown : s.vm.findClass RX6 = some m.cls := findClass_of_methodNamed B.named
  have hlk := B.notSynchronized
  have hC : CallFix p m c cX6_roundWithBroken 3 s ([.ref h0, .int p1] : List Value).toArray lw_ok RX6 := ⟨hx, hb, hml, hown, hts⟩
  have hS : va_S (zA z) s.heap s.heap [] := va_S.rf
  have hl := lv_entry ([.ref h0, .int p1]) (n := 3) (Nat.le_of_ble_eq_true rfl)
  rw [lg_entry_eq]
  generalize (lg_sl ([.ref h0, .int p1]) ++ List.replicate (3 - (lg_sl ([.ref h0, .int p1])).length) Slot.unset).toArray = ls at hl ⊢
  have hl : lv_has ls 3 [(0, .ref h0), (1, .int p1)] := hl
  show W p l e (rmF 5 151) s m ([.ref h0, .int p1] : List Value).toArray below meth c s.heap [] 0 0 (MQ below (QcI z (fun r H => ∃ σ' : Sg, some (r.toInt, σ') = some out ∧ TY z (zA z) σ' H)) ([.ref h0, .int p1] : List Value).toArray s 0 0 (zA z)) (F0 m 0 ls [])
  unfold D_X6_roundWithBroken at hF
  have mx_p1 := i_mx p1
  refine lv_aload_n hx hb dX6_roundWithBroken_0 rfl (lv_at hl 0 rfl) ?_
  refine gt_HeelDance_walk hx hb hts ic_HeelDance hown hK hT g0 (hts _ mw_2_11) dX6_roundWithBroken_1 (fun q1 hq1 => ?_)
  refine gt_Walk_floor hx hb hts ic_Walk hown hK hT hq1 (hts _ mw_1_177) dX6_roundWithBroken_4 (fun q4 hq4 => ?_)
  refine lv_aload_n hx hb dX6_roundWithBroken_7 rfl (lv_at hl 0 rfl) ?_
  refine gt_HeelDance_now hx hb hts ic_HeelDance hown hK hT g0 (hts _ mw_2_8) dX6_roundWithBroken_8 (fun q8 hq8 => ?_)
  refine gt_Evening_floor hx hb hts ic_Evening hown hK hT hq8 (hts _ mw_1_91) dX6_roundWithBroken_11 (fun q11 hq11 => ?_)
  obtain ⟨s14, hd14, -⟩ := bd1_s hF
  refine cl_Vv (rest := []) hC hK hSK (c_X1_copyFrom l z σ q4 (5) hq4 q11 (1) hq11 s14 hd14) k_X1_copyFrom mw_3_88 ⟨rfl, rfl, Nat.le_of_ble_eq_true rfl, Nat.le_of_ble_eq_true rfl⟩ (rv_Floor hK hT hq4) hT rfl hl.1 rfl (Nat.le_of_ble_eq_true rfl) dX6_roundWithBroken_14 ⟨Nat.zero_le _, Nat.zero_le _⟩ hS (fun _ h => h) (fun _ _ h => h) (fun H locs hpo hS => ?_)
  obtain ⟨σ14, he14, hT⟩ := hpo
  have hF := bd1_r hF hd14 he14
  refine r_iconst hx hb dX6_roundWithBroken_17 (by decide) (by decide) (fun x17 e17 => ?_)
  have hF := bn hF e17
  refine lv_istore_n (lv' := [(2, .int x17), (0, .ref h0), (1, .int p1)]) hx hb dX6_roundWithBroken_18 rfl hl (by decide) rfl (fun ls hl => ?_)
  have J19 : ∀ (n19 : Nat) (ls : Array Slot) (H : Heap) (locs : List Loc) (y19_2 : Int32) (σj19 : Sg), (0 ≤ y19_2.toInt ∧ y19_2.toInt ≤ 5) → D_X6_roundWithBroken_19 p1.toInt n19 σj19 y19_2.toInt = some out → TY z (zA z) σj19 H → va_S (zA z) s.heap H locs → lv_has ls 3 [(0, .ref h0), (1, .int p1), (2, .int y19_2)] → W p l e (rmF 5 151) s m ([.ref h0, .int p1] : List Value).toArray below meth c H locs 0 0 (MQ below (QcI z (fun r H => ∃ σ' : Sg, some (r.toInt, σ') = some out ∧ TY z (zA z) σ' H)) ([.ref h0, .int p1] : List Value).toArray s 0 0 (zA z)) (F0 m 19 ls []) := by
    intro n19
    induction n19 with
    | zero => intro ls H locs y19_2 σj19 j19_y19_2 hF hT hS hl; exact (no_s hF).elim
    | succ n19 ih19 =>
      intro ls H locs y19_2 σj19 j19_y19_2 hF hT hS hl
      rw [D_X6_roundWithBroken_19.eq_2] at hF
      refine lv_iload_n hx hb dX6_roundWithBroken_19 rfl (lv_at hl 2 rfl) ?_
      refine lv_aload_n hx hb dX6_roundWithBroken_20 rfl (lv_at hl 0 rfl) ?_
      refine gt_HeelDance_now hx hb hts ic_HeelDance hown hK hT g0 (hts _ mw_2_8) dX6_roundWithBroken_21 (fun q21 hq21 => ?_)
      refine gt_Evening_floor hx hb hts ic_Evening hown hK hT hq21 (hts _ mw_1_91) dX6_roundWithBroken_24 (fun q24 hq24 => ?_)
      refine gt_Floor_men hx hb hts ic_Floor hown hK hT hq24 (hts _ mw_1_62) dX6_roundWithBroken_27 (fun x27 e27 f27 g27 => ?_)
      have hF := bn hF e27
      refine r_icmp_ge (tgt := 61) hx hb dX6_roundWithBroken_30 (by decide) (fun c30 => ?_) (fun c30 => ?_)
      · have hF := ifn hF (Int.not_lt.mpr c30)
        refine lv_aload_n hx hb dX6_roundWithBroken_61 rfl (lv_at hl 0 rfl) ?_
        refine gt_HeelDance_walk hx hb hts ic_HeelDance hown hK hT g0 (hts _ mw_2_11) dX6_roundWithBroken_62 (fun q62 hq62 => ?_)
        refine lv_aload_n hx hb dX6_roundWithBroken_65 rfl (lv_at hl 0 rfl) ?_
        refine gt_HeelDance_now hx hb hts ic_HeelDance hown hK hT g0 (hts _ mw_2_8) dX6_roundWithBroken_66 (fun q66 hq66 => ?_)
        obtain ⟨s69, hd69, -⟩ := bd1_s hF
        refine cl_Vv (rest := []) hC hK hSK (c_X5_follow l z σj19 q62 hq62 q66 (1) hq66 s69 hd69) k_X5_follow mw_3_89 ⟨rfl, rfl, Nat.le_of_ble_eq_true rfl, Nat.le_of_ble_eq_true rfl⟩ (rv_Walk hK hT hq62) hT rfl hl.1 rfl (Nat.le_of_ble_eq_true rfl) dX6_roundWithBroken_69 ⟨Nat.zero_le _, Nat.zero_le _⟩ hS (fun _ h => h) (fun _ _ h => h) (fun H locs hpo hS => ?_)
        obtain ⟨σ69, he69, hT⟩ := hpo
        have hF := bd1_r hF hd69 he69
        refine lv_aload_n hx hb dX6_roundWithBroken_72 rfl (lv_at hl 0 rfl) ?_
        refine gt_HeelDance_walk hx hb hts ic_HeelDance hown hK hT g0 (hts _ mw_2_11) dX6_roundWithBroken_73 (fun q73 hq73 => ?_)
        refine gt_Walk_floor hx hb hts ic_Walk hown hK hT hq73 (hts _ mw_1_177) dX6_roundWithBroken_76 (fun q76 hq76 => ?_)
        obtain ⟨v79, hd79, -⟩ := bd0_s hF
        refine cl_Vi (rest := []) hC hK hSK (c_X1_roundBits l z σ69 q76 (5) hq76 v79 hd79) k_X1_roundBits mw_2_217 ⟨rfl, rfl, Nat.le_of_ble_eq_true rfl, Nat.le_of_ble_eq_true rfl⟩ (rv_Floor hK hT hq76) hT rfl hl.1 rfl (Nat.le_of_ble_eq_true rfl) dX6_roundWithBroken_79 ⟨Nat.zero_le _, Nat.zero_le _⟩ hS (fun _ h => h) (fun _ _ h => h) (fun r79 H locs hpo hS => ?_)
        obtain ⟨he79, hT⟩ := hpo
        have hF := bd0_r hF hd79 he79
        exact rt_i hx hb hr hlk hS ⟨σ69, hF, hT⟩ dX6_roundWithBroken_82
      · have hF := ifp hF c30
        refine lv_iload_n hx hb dX6_roundWithBroken_33 rfl (lv_at hl 1 rfl) ?_
        refine lv_iload_n hx hb dX6_roundWithBroken_34 rfl (lv_at hl 2 rfl) ?_
        refine x_ishr hx hb dX6_roundWithBroken_35 (fun x35 e35 => ?_)
        have hF := bn hF e35
        refine r_iconst hx hb dX6_roundWithBroken_36 (by decide) (by decide) (fun x36 e36 => ?_)
        have hF := bn hF e36
        refine x_iandr hx hb dX6_roundWithBroken_37 (by omega) (fun x37 e37 g37 h37 => ?_)
        have hF := bn hF e37
        refine r_iconst hx hb dX6_roundWithBroken_38 (by decide) (by decide) (fun x38 e38 => ?_)
        have hF := bn hF e38
        have J55 : ∀ (ls : Array Slot) (H : Heap) (locs : List Loc) (σj55 : Sg), D_X6_roundWithBroken_55 (D_X6_roundWithBroken_19 p1.toInt n19) y19_2.toInt σj55 = some out → TY z (zA z) σj55 H → va_S (zA z) s.heap H locs → lv_has ls 3 [(0, .ref h0), (1, .int p1), (2, .int y19_2)] → W p l e (rmF 5 151) s m ([.ref h0, .int p1] : List Value).toArray below meth c H locs 0 0 (MQ below (QcI z (fun r H => ∃ σ' : Sg, some (r.toInt, σ') = some out ∧ TY z (zA z) σ' H)) ([.ref h0, .int p1] : List Value).toArray s 0 0 (zA z)) (F0 m 55 ls []) := by
          intro ls H locs σj55 hF hT hS hl
          unfold D_X6_roundWithBroken_55 at hF
          refine r_iinc (lv' := fun v__ => [(2, .int v__), (0, .ref h0), (1, .int p1)]) hx hb dX6_roundWithBroken_55 hl (k := 2) rfl (by decide) (fun _ => rfl) ⟨by decide, by decide⟩ (by omega) (by omega) (fun x55 ls e55 hl => ?_)
          have hF := bn hF e55
          refine lv_goto (tgt := 19) hx hb dX6_roundWithBroken_58 (by decide) ?_
          exact ih19 ls _ _ x55 σj55 (by omega) hF hT hS (lv_sub hl [1, 2, 0] rfl)
        refine r_icmp_ne (tgt := 55) hx hb dX6_roundWithBroken_39 (by decide) (fun c39 => ?_) (fun c39 => ?_)
        · have hF := ifn hF c39
          exact J55 ls _ _ σj19 hF hT hS (lv_sub hl [0, 1, 2] rfl)
        · have hF := ifp hF c39
          refine lv_aload_n hx hb dX6_roundWithBroken_42 rfl (lv_at hl 0 rfl) ?_
          refine gt_HeelDance_walk hx hb hts ic_HeelDance hown hK hT g0 (hts _ mw_2_11) dX6_roundWithBroken_43 (fun q43 hq43 => ?_)
          refine gt_Walk_floor hx hb hts ic_Walk hown hK hT hq43 (hts _ mw_1_177) dX6_roundWithBroken_46 (fun q46 hq46 => ?_)
          refine gt_Floor_heels hx hb hts ic_Floor hown hK hT hq46 (hts _ mw_1_48) dX6_roundWithBroken_49 (fun q49 hq49 => ?_)
          refine lv_iload_n hx hb dX6_roundWithBroken_52 rfl (lv_at hl 2 rfl) ?_
          refine r_iconst hx hb dX6_roundWithBroken_53 (by decide) (by decide) (fun x53 e53 => ?_)
          have hF := bn hF e53
          refine as_53 hx hb hK hT hS hq49 (by omega) (by omega) ⟨by omega, by omega⟩ dX6_roundWithBroken_54 (fun H locs hT hS => ?_)
          obtain ⟨σ54, hF, hT⟩ := wrG hF hT
          exact J55 ls _ _ σ54 hF hT hS (lv_sub hl [0, 1, 2] rfl)
  exact J19 5000 ls _ _ x17 σ14 (by omega) hF hT hS (lv_sub hl [1, 2, 0] rfl)
theorem k_X6_weighed : cBV yX6_weighed cX6_weighed 10 (some .long) 2 := ⟨mw_3_193, ms_1_9, mw_1_1, mw_3_194, ⟨by decide, by decide, by decide⟩⟩
set_option maxHeartbeats 4000000 in
set_option maxRecDepth 100000 in
theorem c_X6_weighed (l : Launch) (z : Zt) (σ : Sg) (h0 : Nat) (g0 : zG z h0 = (16, 0)) (p1 : Int32) (p2 : Int32) (out : (Int × Sg)) (hF : D_X6_weighed σ p1.toInt p2.toInt = some out) : Met l yX6_weighed (uw yX6_weighed cX6_weighed 10 (some .long)) (rmF 6 173) (PcW z [.ref h0, .int p1, .int p2] (fun H => TY z (zA z) σ H)) (QcL z (fun r H => ∃ σ' : Sg, some (r.toInt, σ') = some out ∧ TY z (zA z) σ' H)) 0 0 (zA z) := by
  refine Met.ofW (cc := cX6_weighed) (maxL := 10) (ret := (some .long)) (by decide) rfl ?_
  intro p e s m args below meth c s₁ B hml hv
  obtain ⟨rfl, hT, hK, hSK⟩ := hv
  have hx := B.exec
  have hb := B.bytes
  have hr := B.returns
  have hts : ∀ w ∈ lw_ok, w.before ([.ref h0, .int p1, .int p2] : List Value).toArray s = true := fun w hw => atoms_spec (ws := uw yX6_weighed cX6_weighed 10 (some .long)) B.pre w (List.mem_cons_of_mem _ hw)
  have hown : s.vm.findClass RX6 = some m.cls := findClass_of_methodNamed B.named
  have hlk := B.notSynchronized
  have hC : CallFix p m c cX6_weighed 10 s ([.ref h0, .int p1, .int p2] : List Value).toArray lw_ok RX6 := ⟨hx, hb, hml, hown, hts⟩
  have hS : va_S (zA z) s.heap s.heap [] := va_S.rf
  have hl := lv_entry ([.ref h0, .int p1, .int p2]) (n := 10) (Nat.le_of_ble_eq_true rfl)
  rw [lg_entry_eq]
  generalize (lg_sl ([.ref h0, .int p1, .int p2]) ++ List.replicate (10 - (lg_sl ([.ref h0, .int p1, .int p2])).length) Slot.unset).toArray = ls at hl ⊢
  have hl : lv_has ls 10 [(0, .ref h0), (1, .int p1), (2, .int p2)] := hl
  show W p l e (rmF 6 173) s m ([.ref h0, .int p1, .int p2] : List Value).toArray below meth c s.heap [] 0 0 (MQ below (QcL z (fun r H => ∃ σ' : Sg, some (r.toInt, σ') = some out ∧ TY z (zA z) σ' H)) ([.ref h0, .int p1, .int p2] : List Value).toArray s 0 0 (zA z)) (F0 m 0 ls [])
  unfold D_X6_weighed at hF
  have mx_p1 := i_mx p1
  have mx_p2 := i_mx p2
  refine lv_aload_n hx hb dX6_weighed_0 rfl (lv_at hl 0 rfl) ?_
  refine gt_HeelDance_now hx hb hts ic_HeelDance hown hK hT g0 (hts _ mw_2_8) dX6_weighed_1 (fun q1 hq1 => ?_)
  refine gt_Evening_floor hx hb hts ic_Evening hown hK hT hq1 (hts _ mw_1_91) dX6_weighed_4 (fun q4 hq4 => ?_)
  refine gt_Floor_men hx hb hts ic_Floor hown hK hT hq4 (hts _ mw_1_62) dX6_weighed_7 (fun x7 e7 f7 g7 => ?_)
  have hF := bn hF e7
  refine lv_istore_n (lv' := [(3, .int x7), (0, .ref h0), (1, .int p1), (2, .int p2)]) hx hb dX6_weighed_10 rfl hl (by decide) rfl (fun ls hl => ?_)
  refine r_lconst0 hx hb dX6_weighed_11 (fun x11 e11 => ?_)
  have hF := bn hF e11
  refine lv_lstore (lv' := [(4, .long x11), (3, .int x7), (0, .ref h0), (1, .int p1), (2, .int p2)]) hx hb dX6_weighed_12 hl (by decide) rfl (fun ls hl => ?_)
  refine r_iconst hx hb dX6_weighed_14 (by decide) (by decide) (fun x14 e14 => ?_)
  have hF := bn hF e14
  refine lv_istore (lv' := [(6, .int x14), (4, .long x11), (3, .int x7), (0, .ref h0), (1, .int p1), (2, .int p2)]) hx hb dX6_weighed_15 hl (by decide) rfl (fun ls hl => ?_)
  have J17 : ∀ (n17 : Nat) (ls : Array Slot) (H : Heap) (locs : List Loc) (y17_4 : Int64) (y17_6 : Int32) (σj17 : Sg), (0 ≤ y17_6.toInt ∧ y17_6.toInt ≤ 256) → D_X6_weighed_17 p1.toInt p2.toInt x7.toInt n17 σj17 y17_4.toInt y17_6.toInt = some out → TY z (zA z) σj17 H → va_S (zA z) s.heap H locs → lv_has ls 10 [(0, .ref h0), (1, .int p1), (2, .int p2), (3, .int x7), (4, .long y17_4), (6, .int y17_6)] → W p l e (rmF 6 173) s m ([.ref h0, .int p1, .int p2] : List Value).toArray below meth c H locs 0 0 (MQ below (QcL z (fun r H => ∃ σ' : Sg, some (r.toInt, σ') = some out ∧ TY z (zA z) σ' H)) ([.ref h0, .int p1, .int p2] : List Value).toArray s 0 0 (zA z)) (F0 m 17 ls []) := by
    intro n17
    induction n17 with
    | zero => intro ls H locs y17_4 y17_6 σj17 j17_y17_6 hF hT hS hl; exact (no_s hF).elim
    | succ n17 ih17 =>
      intro ls H locs y17_4 y17_6 σj17 j17_y17_6 hF hT hS hl
      rw [D_X6_weighed_17.eq_2] at hF
      refine lv_iload hx hb dX6_weighed_17 (lv_at hl 5 rfl) ?_
      refine r_iconst hx hb dX6_weighed_19 (by decide) (by decide) (fun x19 e19 => ?_)
      have hF := bn hF e19
      refine lv_iload_n hx hb dX6_weighed_20 rfl (lv_at hl 3 rfl) ?_
      refine x_shl1 hx hb dX6_weighed_21 (by omega) (by omega) (by omega) (fun x21 e21 g21 h21 => ?_)
      have hF := bn hF e21
      refine r_icmp_ge (tgt := 85) hx hb dX6_weighed_22 (by decide) (fun c22 => ?_) (fun c22 => ?_)
      · have hF := ifn hF (Int.not_lt.mpr c22)
        refine lv_lload hx hb dX6_weighed_85 (lv_at hl 4 rfl) ?_
        exact rt_l hx hb hr hlk hS ⟨σj17, hF, hT⟩ dX6_weighed_87
      · have hF := ifp hF c22
        refine lv_iload hx hb dX6_weighed_25 (lv_at hl 5 rfl) ?_
        obtain ⟨v27, hd27, -⟩ := bd0_s hF
        refine cl_Si (rest := []) hC hK hSK (c_bitCount l z σj17 y17_6 v27 hd27) k_J6_bitCount_0f7a4 mw_3_79 ⟨rfl, rfl, Nat.le_of_ble_eq_true rfl, Nat.le_of_ble_eq_true rfl⟩ hT rfl hl.1 rfl (Nat.le_of_ble_eq_true rfl) dX6_weighed_27 ⟨Nat.zero_le _, Nat.zero_le _⟩ hS (fun _ h => h) (fun _ _ h => h) (fun r27 H locs hpo hS => ?_)
        obtain ⟨he27, hT, u27_0⟩ := hpo
        have hF := bd0_r hF hd27 he27
        refine lv_istore (lv' := [(7, .int r27), (0, .ref h0), (1, .int p1), (2, .int p2), (3, .int x7), (4, .long y17_4), (6, .int y17_6)]) hx hb dX6_weighed_30 hl (by decide) rfl (fun ls hl => ?_)
        refine lv_iload_n hx hb dX6_weighed_32 rfl (lv_at hl 2 rfl) ?_
        refine lv_iload hx hb dX6_weighed_33 (lv_at hl 0 rfl) ?_
        obtain ⟨v35, hd35, -⟩ := bd0_s hF
        refine cl_Sl (rest := []) hC hK hSK (c_X6_power l z σj17 p1 r27 v35 hd35) k_X6_power mw_3_195 ⟨rfl, rfl, Nat.le_of_ble_eq_true rfl, Nat.le_of_ble_eq_true rfl⟩ hT rfl hl.1 rfl (Nat.le_of_ble_eq_true rfl) dX6_weighed_35 ⟨Nat.zero_le _, Nat.zero_le _⟩ hS (fun _ h => h) (fun _ _ h => h) (fun r35 H locs hpo hS => ?_)
        obtain ⟨he35, hT⟩ := hpo
        have hF := bd0_r hF hd35 he35
        refine r_bipush hx hb dX6_weighed_38 rfl (fun x38 e38 => ?_)
        have hF := bn hF e38
        refine lv_iload_n hx hb dX6_weighed_40 rfl (lv_at hl 2 rfl) ?_
        refine x_isub hx hb dX6_weighed_41 (fun x41 e41 => ?_)
        have hF := bn hF e41
        refine lv_iload_n hx hb dX6_weighed_42 rfl (lv_at hl 4 rfl) ?_
        refine lv_iload hx hb dX6_weighed_43 (lv_at hl 0 rfl) ?_
        refine r_isub hx hb dX6_weighed_45 (by omega) (by omega) (fun x45 e45 => ?_)
        have hF := bn hF e45
        obtain ⟨v46, hd46, -⟩ := bd0_s hF
        refine cl_Sl (rest := [.long r35]) hC hK hSK (c_X6_power l z σj17 x41 x45 v46 hd46) k_X6_power mw_3_195 ⟨rfl, rfl, Nat.le_of_ble_eq_true rfl, Nat.le_of_ble_eq_true rfl⟩ hT rfl hl.1 rfl (Nat.le_of_ble_eq_true rfl) dX6_weighed_46 ⟨Nat.zero_le _, Nat.zero_le _⟩ hS (fun _ h => h) (fun _ _ h => h) (fun r46 H locs hpo hS => ?_)
        obtain ⟨he46, hT⟩ := hpo
        have hF := bd0_r hF hd46 he46
        refine x_lmul hx hb dX6_weighed_49 (fun x49 e49 => ?_)
        have hF := bn hF e49
        refine lv_lstore (lv' := [(8, .long x49), (7, .int r27), (0, .ref h0), (1, .int p1), (2, .int p2), (3, .int x7), (4, .long y17_4), (6, .int y17_6)]) hx hb dX6_weighed_50 hl (by decide) rfl (fun ls hl => ?_)
        refine lv_lload hx hb dX6_weighed_52 (lv_at hl 0 rfl) ?_
        refine r_lconst0 hx hb dX6_weighed_54 (fun x54 e54 => ?_)
        have hF := bn hF e54
        refine x_lcmp hx hb dX6_weighed_55 (fun x55 e55 f55 g55 h55 => ?_)
        have hF := bn hF e55
        have v55 : -1 ≤ x55.toInt ∧ x55.toInt ≤ 1 := by omega
        have J79 : ∀ (ls : Array Slot) (H : Heap) (locs : List Loc) (y79_4 : Int64) (σj79 : Sg), D_X6_weighed_79 (D_X6_weighed_17 p1.toInt p2.toInt x7.toInt n17) y17_6.toInt σj79 y79_4.toInt = some out → TY z (zA z) σj79 H → va_S (zA z) s.heap H locs → lv_has ls 10 [(0, .ref h0), (1, .int p1), (2, .int p2), (3, .int x7), (4, .long y79_4), (6, .int y17_6), (7, .int r27), (8, .long x49)] → W p l e (rmF 6 173) s m ([.ref h0, .int p1, .int p2] : List Value).toArray below meth c H locs 0 0 (MQ below (QcL z (fun r H => ∃ σ' : Sg, some (r.toInt, σ') = some out ∧ TY z (zA z) σ' H)) ([.ref h0, .int p1, .int p2] : List Value).toArray s 0 0 (zA z)) (F0 m 79 ls []) := by
          intro ls H locs y79_4 σj79 hF hT hS hl
          unfold D_X6_weighed_79 at hF
          refine r_iinc (lv' := fun v__ => [(6, .int v__), (0, .ref h0), (1, .int p1), (2, .int p2), (3, .int x7), (4, .long y79_4), (7, .int r27), (8, .long x49)]) hx hb dX6_weighed_79 hl (k := 5) rfl (by decide) (fun _ => rfl) ⟨by decide, by decide⟩ (by omega) (by omega) (fun x79 ls e79 hl => ?_)
          have hF := bn hF e79
          refine lv_goto (tgt := 17) hx hb dX6_weighed_82 (by decide) ?_
          exact ih17 ls _ _ y79_4 x79 σj79 (by omega) hF hT hS (lv_sub hl [1, 2, 3, 4, 5, 0] rfl)
        refine r_if_eq (tgt := 79) hx hb dX6_weighed_56 (by decide) (fun c56 => ?_) (fun c56 => ?_)
        · have hF := ifp hF c56
          exact J79 ls _ _ y17_4 σj17 hF hT hS (lv_sub hl [2, 3, 4, 5, 6, 7, 1, 0] rfl)
        · have hF := ifn hF c56
          refine lv_lload hx hb dX6_weighed_59 (lv_at hl 6 rfl) ?_
          refine lv_lload hx hb dX6_weighed_61 (lv_at hl 0 rfl) ?_
          refine lv_aload_n hx hb dX6_weighed_63 rfl (lv_at hl 2 rfl) ?_
          refine lv_iload hx hb dX6_weighed_64 (lv_at hl 7 rfl) ?_
          obtain ⟨v66, s66, hd66, -⟩ := bd2_s hF
          refine cl_Vi (rest := [.long x49, .long y17_4]) hC hK hSK (c_X6_roundWithBroken l z σj17 h0 g0 y17_6 (v66, s66) hd66) k_X6_roundWithBroken mw_3_198 ⟨rfl, rfl, Nat.le_of_ble_eq_true rfl, Nat.le_of_ble_eq_true rfl⟩ (rv_HeelDance hK hT g0) hT rfl hl.1 rfl (Nat.le_of_ble_eq_true rfl) dX6_weighed_66 ⟨Nat.zero_le _, Nat.zero_le _⟩ hS (fun _ h => h) (fun _ _ h => h) (fun r66 H locs hpo hS => ?_)
          obtain ⟨σ66, he66, hT⟩ := hpo
          have hF := bd2_r hF hd66 he66
          refine lv_iload_n hx hb dX6_weighed_69 rfl (lv_at hl 4 rfl) ?_
          refine x_iand hx hb dX6_weighed_70 (fun x70 e70 => ?_)
          have hF := bn hF e70
          obtain ⟨v71, hd71, -⟩ := bd0_s hF
          refine cl_Si (rest := [.long x49, .long y17_4]) hC hK hSK (c_bitCount l z σ66 x70 v71 hd71) k_J6_bitCount_0f7a4 mw_3_79 ⟨rfl, rfl, Nat.le_of_ble_eq_true rfl, Nat.le_of_ble_eq_true rfl⟩ hT rfl hl.1 rfl (Nat.le_of_ble_eq_true rfl) dX6_weighed_71 ⟨Nat.zero_le _, Nat.zero_le _⟩ hS (fun _ h => h) (fun _ _ h => h) (fun r71 H locs hpo hS => ?_)
          obtain ⟨he71, hT, u71_0⟩ := hpo
          have hF := bd0_r hF hd71 he71
          refine r_i2l hx hb dX6_weighed_74 (fun x74 e74 => ?_)
          have hF := bn hF e74
          refine x_lmul hx hb dX6_weighed_75 (fun x75 e75 => ?_)
          have hF := bn hF e75
          refine x_ladd hx hb dX6_weighed_76 (fun x76 e76 => ?_)
          have hF := bn hF e76
          refine lv_lstore (lv' := [(4, .long x76), (8, .long x49), (7, .int r27), (0, .ref h0), (1, .int p1), (2, .int p2), (3, .int x7), (6, .int y17_6)]) hx hb dX6_weighed_77 hl (by decide) rfl (fun ls hl => ?_)
          exact J79 ls _ _ x76 σ66 hF hT hS (lv_sub hl [3, 4, 5, 6, 0, 7, 2, 1] rfl)
  exact J17 5000 ls _ _ x11 x14 σ (by omega) hF hT hS (lv_sub hl [3, 4, 5, 2, 1, 0] rfl)
theorem k_X6_luck : cBV yX6_luck cX6_luck 4 (some .long) 3 := ⟨mw_3_187, mw_3_188, mw_1_1, mw_3_189, ⟨by decide, by decide, by decide⟩⟩
set_option maxHeartbeats 4000000 in
set_option maxRecDepth 100000 in
theorem c_X6_luck (l : Launch) (z : Zt) (σ : Sg) (h0 : Nat) (g0 : zG z h0 = (16, 0)) (p1 : Int32) (p2 : Int32) (p3 : Int32) (out : (Int × Sg)) (hF : D_X6_luck σ p1.toInt p2.toInt p3.toInt = some out) : Met l yX6_luck (uw yX6_luck cX6_luck 4 (some .long)) (rmF 7 202) (PcW z [.ref h0, .int p1, .int p2, .int p3] (fun H => TY z (zA z) σ H)) (QcL z (fun r H => ∃ σ' : Sg, some (r.toInt, σ') = some out ∧ TY z (zA z) σ' H)) 0 0 (zA z) := by
  refine Met.ofW (cc := cX6_luck) (maxL := 4) (ret := (some .long)) (by decide) rfl ?_
  intro p e s m args below meth c s₁ B hml hv
  obtain ⟨rfl, hT, hK, hSK⟩ := hv
  have hx := B.exec
  have hb := B.bytes
  have hr := B.returns
  have hts : ∀ w ∈ lw_ok, w.before ([.ref h0, .int p1, .int p2, .int p3] : List Value).toArray s = true := fun w hw => atoms_spec (ws := uw yX6_luck cX6_luck 4 (some .long)) B.pre w (List.mem_cons_of_mem _ hw)
  have hown : s.vm.findClass RX6 = some m.cls := findClass_of_methodNamed B.named
  have hlk := B.notSynchronized
  have hC : CallFix p m c cX6_luck 4 s ([.ref h0, .int p1, .int p2, .int p3] : List Value).toArray lw_ok RX6 := ⟨hx, hb, hml, hown, hts⟩
  have hS : va_S (zA z) s.heap s.heap [] := va_S.rf
  have hl := lv_entry ([.ref h0, .int p1, .int p2, .int p3]) (n := 4) (Nat.le_of_ble_eq_true rfl)
  rw [lg_entry_eq]
  generalize (lg_sl ([.ref h0, .int p1, .int p2, .int p3]) ++ List.replicate (4 - (lg_sl ([.ref h0, .int p1, .int p2, .int p3])).length) Slot.unset).toArray = ls at hl ⊢
  have hl : lv_has ls 4 [(0, .ref h0), (1, .int p1), (2, .int p2), (3, .int p3)] := hl
  show W p l e (rmF 7 202) s m ([.ref h0, .int p1, .int p2, .int p3] : List Value).toArray below meth c s.heap [] 0 0 (MQ below (QcL z (fun r H => ∃ σ' : Sg, some (r.toInt, σ') = some out ∧ TY z (zA z) σ' H)) ([.ref h0, .int p1, .int p2, .int p3] : List Value).toArray s 0 0 (zA z)) (F0 m 0 ls [])
  unfold D_X6_luck at hF
  have mx_p1 := i_mx p1
  have mx_p2 := i_mx p2
  have mx_p3 := i_mx p3
  refine lv_iload_n hx hb dX6_luck_0 rfl (lv_at hl 1 rfl) ?_
  refine r_if_lt (tgt := 27) hx hb dX6_luck_1 (by decide) (fun c1 => ?_) (fun c1 => ?_)
  · have hF := ifp hF c1
    refine r_ldc2 (-1) rfl hx hb hts hown mw_3_190 dX6_luck_27 (fun x27 e27 => ?_)
    have hF := bn hF e27
    exact rt_l hx hb hr hlk hS ⟨σ, hF, hT⟩ dX6_luck_30
  · have hF := ifn hF (Int.not_lt.mpr c1)
    refine lv_iload_n hx hb dX6_luck_4 rfl (lv_at hl 1 rfl) ?_
    refine r_bipush hx hb dX6_luck_5 rfl (fun x5 e5 => ?_)
    have hF := bn hF e5
    refine r_icmp_gt (tgt := 27) hx hb dX6_luck_7 (by decide) (fun c7 => ?_) (fun c7 => ?_)
    · have hF := ifp hF c7
      refine r_ldc2 (-1) rfl hx hb hts hown mw_3_190 dX6_luck_27 (fun x27 e27 => ?_)
      have hF := bn hF e27
      exact rt_l hx hb hr hlk hS ⟨σ, hF, hT⟩ dX6_luck_30
    · have hF := ifn hF (Int.not_lt.mpr c7)
      refine lv_aload_n hx hb dX6_luck_10 rfl (lv_at hl 0 rfl) ?_
      refine lv_iload_n hx hb dX6_luck_11 rfl (lv_at hl 2 rfl) ?_
      obtain ⟨v12, hd12, -⟩ := bd0_s hF
      refine cl_Vi (rest := []) hC hK hSK (c_X6_isNobody l z σ h0 g0 p2 v12 hd12) k_X6_isNobody mw_2_225 ⟨rfl, rfl, Nat.le_of_ble_eq_true rfl, Nat.le_of_ble_eq_true rfl⟩ (rv_HeelDance hK hT g0) hT rfl hl.1 rfl (Nat.le_of_ble_eq_true rfl) dX6_luck_12 ⟨Nat.zero_le _, Nat.zero_le _⟩ hS (fun _ h => h) (fun _ _ h => h) (fun r12 H locs hpo hS => ?_)
      obtain ⟨he12, hT, u12_0, u12_1⟩ := hpo
      have hF := bd0_r hF hd12 he12
      refine r_if_ne (tgt := 27) hx hb dX6_luck_15 (by decide) (fun c15 => ?_) (fun c15 => ?_)
      · have hF := ifn hF c15
        refine r_ldc2 (-1) rfl hx hb hts hown mw_3_190 dX6_luck_27 (fun x27 e27 => ?_)
        have hF := bn hF e27
        exact rt_l hx hb hr hlk hS ⟨σ, hF, hT⟩ dX6_luck_30
      · have hF := ifp hF c15
        refine lv_iload_n hx hb dX6_luck_18 rfl (lv_at hl 3 rfl) ?_
        refine r_if_lt (tgt := 27) hx hb dX6_luck_19 (by decide) (fun c19 => ?_) (fun c19 => ?_)
        · have hF := ifp hF c19
          refine r_ldc2 (-1) rfl hx hb hts hown mw_3_190 dX6_luck_27 (fun x27 e27 => ?_)
          have hF := bn hF e27
          exact rt_l hx hb hr hlk hS ⟨σ, hF, hT⟩ dX6_luck_30
        · have hF := ifn hF (Int.not_lt.mpr c19)
          refine lv_iload_n hx hb dX6_luck_22 rfl (lv_at hl 3 rfl) ?_
          refine r_iconst hx hb dX6_luck_23 (by decide) (by decide) (fun x23 e23 => ?_)
          have hF := bn hF e23
          refine r_icmp_le (tgt := 31) hx hb dX6_luck_24 (by decide) (fun c24 => ?_) (fun c24 => ?_)
          · have hF := ifn hF (Int.not_lt.mpr c24)
            refine lv_aload_n hx hb dX6_luck_31 rfl (lv_at hl 0 rfl) ?_
            refine lv_iload_n hx hb dX6_luck_32 rfl (lv_at hl 1 rfl) ?_
            refine r_iconst hx hb dX6_luck_33 (by decide) (by decide) (fun x33 e33 => ?_)
            have hF := bn hF e33
            refine lv_iload_n hx hb dX6_luck_34 rfl (lv_at hl 2 rfl) ?_
            refine x_shl1 hx hb dX6_luck_35 (by omega) (by omega) (by omega) (fun x35 e35 g35 h35 => ?_)
            have hF := bn hF e35
            obtain ⟨v36, s36, hd36, -⟩ := bd2_s hF
            refine cl_Vl (rest := []) hC hK hSK (c_X6_weighed l z σ h0 g0 p1 x35 (v36, s36) hd36) k_X6_weighed mw_3_191 ⟨rfl, rfl, Nat.le_of_ble_eq_true rfl, Nat.le_of_ble_eq_true rfl⟩ (rv_HeelDance hK hT g0) hT rfl hl.1 rfl (Nat.le_of_ble_eq_true rfl) dX6_luck_36 ⟨Nat.zero_le _, Nat.zero_le _⟩ hS (fun _ h => h) (fun _ _ h => h) (fun r36 H locs hpo hS => ?_)
            obtain ⟨σ36, he36, hT⟩ := hpo
            have hF := bd2_r hF hd36 he36
            refine r_bipush hx hb dX6_luck_39 rfl (fun x39 e39 => ?_)
            have hF := bn hF e39
            refine lv_aload_n hx hb dX6_luck_41 rfl (lv_at hl 0 rfl) ?_
            refine gt_HeelDance_now hx hb hts ic_HeelDance hown hK hT g0 (hts _ mw_2_8) dX6_luck_42 (fun q42 hq42 => ?_)
            refine gt_Evening_floor hx hb hts ic_Evening hown hK hT hq42 (hts _ mw_1_91) dX6_luck_45 (fun q45 hq45 => ?_)
            refine gt_Floor_men hx hb hts ic_Floor hown hK hT hq45 (hts _ mw_1_62) dX6_luck_48 (fun x48 e48 f48 g48 => ?_)
            have hF := bn hF e48
            obtain ⟨v51, hd51, -⟩ := bd0_s hF
            refine cl_Sl (rest := [.long r36]) hC hK hSK (c_X6_power l z σ36 x39 x48 v51 hd51) k_X6_power mw_3_195 ⟨rfl, rfl, Nat.le_of_ble_eq_true rfl, Nat.le_of_ble_eq_true rfl⟩ hT rfl hl.1 rfl (Nat.le_of_ble_eq_true rfl) dX6_luck_51 ⟨Nat.zero_le _, Nat.zero_le _⟩ hS (fun _ h => h) (fun _ _ h => h) (fun r51 H locs hpo hS => ?_)
            obtain ⟨he51, hT⟩ := hpo
            have hF := bd0_r hF hd51 he51
            refine lv_iload_n hx hb dX6_luck_54 rfl (lv_at hl 3 rfl) ?_
            obtain ⟨v55, hd55, -⟩ := bd0_s hF
            refine cl_Sl (rest := []) hC hK hSK (c_X6_fraction l z σ36 r36 r51 p3 v55 hd55) k_X6_fraction mw_3_202 ⟨rfl, rfl, Nat.le_of_ble_eq_true rfl, Nat.le_of_ble_eq_true rfl⟩ hT rfl hl.1 rfl (Nat.le_of_ble_eq_true rfl) dX6_luck_55 ⟨Nat.zero_le _, Nat.zero_le _⟩ hS (fun _ h => h) (fun _ _ h => h) (fun r55 H locs hpo hS => ?_)
            obtain ⟨he55, hT⟩ := hpo
            have hF := bd0_r hF hd55 he55
            exact rt_l hx hb hr hlk hS ⟨σ36, hF, hT⟩ dX6_luck_58
          · have hF := ifp hF c24
            refine r_ldc2 (-1) rfl hx hb hts hown mw_3_190 dX6_luck_27 (fun x27 e27 => ?_)
            have hF := bn hF e27
            exact rt_l hx hb hr hlk hS ⟨σ, hF, hT⟩ dX6_luck_30
theorem k_X6_mean : cBV yX6_mean cX6_mean 4 (some .long) 2 := ⟨mw_3_209, mw_3_210, mw_1_1, mw_3_211, ⟨by decide, by decide, by decide⟩⟩
set_option maxHeartbeats 4000000 in
set_option maxRecDepth 100000 in
theorem c_X6_mean (l : Launch) (z : Zt) (σ : Sg) (h0 : Nat) (g0 : zG z h0 = (16, 0)) (p1 : Int32) (p2 : Int32) (out : (Int × Sg)) (hF : D_X6_mean σ p1.toInt p2.toInt = some out) : Met l yX6_mean (uw yX6_mean cX6_mean 4 (some .long)) (rmF 7 202) (PcW z [.ref h0, .int p1, .int p2] (fun H => TY z (zA z) σ H)) (QcL z (fun r H => ∃ σ' : Sg, some (r.toInt, σ') = some out ∧ TY z (zA z) σ' H)) 0 0 (zA z) := by
  refine Met.ofW (cc := cX6_mean) (maxL := 4) (ret := (some .long)) (by decide) rfl ?_
  intro p e s m args below meth c s₁ B hml hv
  obtain ⟨rfl, hT, hK, hSK⟩ := hv
  have hx := B.exec
  have hb := B.bytes
  have hr := B.returns
  have hts : ∀ w ∈ lw_ok, w.before ([.ref h0, .int p1, .int p2] : List Value).toArray s = true := fun w hw => atoms_spec (ws := uw yX6_mean cX6_mean 4 (some .long)) B.pre w (List.mem_cons_of_mem _ hw)
  have hown : s.vm.findClass RX6 = some m.cls := findClass_of_methodNamed B.named
  have hlk := B.notSynchronized
  have hC : CallFix p m c cX6_mean 4 s ([.ref h0, .int p1, .int p2] : List Value).toArray lw_ok RX6 := ⟨hx, hb, hml, hown, hts⟩
  have hS : va_S (zA z) s.heap s.heap [] := va_S.rf
  have hl := lv_entry ([.ref h0, .int p1, .int p2]) (n := 4) (Nat.le_of_ble_eq_true rfl)
  rw [lg_entry_eq]
  generalize (lg_sl ([.ref h0, .int p1, .int p2]) ++ List.replicate (4 - (lg_sl ([.ref h0, .int p1, .int p2])).length) Slot.unset).toArray = ls at hl ⊢
  have hl : lv_has ls 4 [(0, .ref h0), (1, .int p1), (2, .int p2)] := hl
  show W p l e (rmF 7 202) s m ([.ref h0, .int p1, .int p2] : List Value).toArray below meth c s.heap [] 0 0 (MQ below (QcL z (fun r H => ∃ σ' : Sg, some (r.toInt, σ') = some out ∧ TY z (zA z) σ' H)) ([.ref h0, .int p1, .int p2] : List Value).toArray s 0 0 (zA z)) (F0 m 0 ls [])
  unfold D_X6_mean at hF
  have mx_p1 := i_mx p1
  have mx_p2 := i_mx p2
  refine lv_iload_n hx hb dX6_mean_0 rfl (lv_at hl 1 rfl) ?_
  refine r_if_lt (tgt := 19) hx hb dX6_mean_1 (by decide) (fun c1 => ?_) (fun c1 => ?_)
  · have hF := ifp hF c1
    refine r_ldc2 (-1) rfl hx hb hts hown mw_3_190 dX6_mean_19 (fun x19 e19 => ?_)
    have hF := bn hF e19
    exact rt_l hx hb hr hlk hS ⟨σ, hF, hT⟩ dX6_mean_22
  · have hF := ifn hF (Int.not_lt.mpr c1)
    refine lv_iload_n hx hb dX6_mean_4 rfl (lv_at hl 1 rfl) ?_
    refine r_bipush hx hb dX6_mean_5 rfl (fun x5 e5 => ?_)
    have hF := bn hF e5
    refine r_icmp_gt (tgt := 19) hx hb dX6_mean_7 (by decide) (fun c7 => ?_) (fun c7 => ?_)
    · have hF := ifp hF c7
      refine r_ldc2 (-1) rfl hx hb hts hown mw_3_190 dX6_mean_19 (fun x19 e19 => ?_)
      have hF := bn hF e19
      exact rt_l hx hb hr hlk hS ⟨σ, hF, hT⟩ dX6_mean_22
    · have hF := ifn hF (Int.not_lt.mpr c7)
      refine lv_iload_n hx hb dX6_mean_10 rfl (lv_at hl 2 rfl) ?_
      refine r_if_lt (tgt := 19) hx hb dX6_mean_11 (by decide) (fun c11 => ?_) (fun c11 => ?_)
      · have hF := ifp hF c11
        refine r_ldc2 (-1) rfl hx hb hts hown mw_3_190 dX6_mean_19 (fun x19 e19 => ?_)
        have hF := bn hF e19
        exact rt_l hx hb hr hlk hS ⟨σ, hF, hT⟩ dX6_mean_22
      · have hF := ifn hF (Int.not_lt.mpr c11)
        refine lv_iload_n hx hb dX6_mean_14 rfl (lv_at hl 2 rfl) ?_
        refine r_iconst hx hb dX6_mean_15 (by decide) (by decide) (fun x15 e15 => ?_)
        have hF := bn hF e15
        refine r_icmp_le (tgt := 23) hx hb dX6_mean_16 (by decide) (fun c16 => ?_) (fun c16 => ?_)
        · have hF := ifn hF (Int.not_lt.mpr c16)
          refine r_iconst hx hb dX6_mean_23 (by decide) (by decide) (fun x23 e23 => ?_)
          have hF := bn hF e23
          refine lv_aload_n hx hb dX6_mean_24 rfl (lv_at hl 0 rfl) ?_
          refine gt_HeelDance_now hx hb hts ic_HeelDance hown hK hT g0 (hts _ mw_2_8) dX6_mean_25 (fun q25 hq25 => ?_)
          refine gt_Evening_floor hx hb hts ic_Evening hown hK hT hq25 (hts _ mw_1_91) dX6_mean_28 (fun q28 hq28 => ?_)
          refine gt_Floor_men hx hb hts ic_Floor hown hK hT hq28 (hts _ mw_1_62) dX6_mean_31 (fun x31 e31 f31 g31 => ?_)
          have hF := bn hF e31
          refine x_shl1 hx hb dX6_mean_34 (by omega) (by omega) (by omega) (fun x34 e34 g34 h34 => ?_)
          have hF := bn hF e34
          refine r_iconst hx hb dX6_mean_35 (by decide) (by decide) (fun x35 e35 => ?_)
          have hF := bn hF e35
          refine r_isub hx hb dX6_mean_36 (by omega) (by omega) (fun x36 e36 => ?_)
          have hF := bn hF e36
          refine lv_istore_n (lv' := [(3, .int x36), (0, .ref h0), (1, .int p1), (2, .int p2)]) hx hb dX6_mean_37 rfl hl (by decide) rfl (fun ls hl => ?_)
          refine lv_aload_n hx hb dX6_mean_38 rfl (lv_at hl 1 rfl) ?_
          refine lv_iload_n hx hb dX6_mean_39 rfl (lv_at hl 2 rfl) ?_
          refine lv_iload_n hx hb dX6_mean_40 rfl (lv_at hl 0 rfl) ?_
          obtain ⟨v41, s41, hd41, -⟩ := bd2_s hF
          refine cl_Vl (rest := []) hC hK hSK (c_X6_weighed l z σ h0 g0 p1 x36 (v41, s41) hd41) k_X6_weighed mw_3_191 ⟨rfl, rfl, Nat.le_of_ble_eq_true rfl, Nat.le_of_ble_eq_true rfl⟩ (rv_HeelDance hK hT g0) hT rfl hl.1 rfl (Nat.le_of_ble_eq_true rfl) dX6_mean_41 ⟨Nat.zero_le _, Nat.zero_le _⟩ hS (fun _ h => h) (fun _ _ h => h) (fun r41 H locs hpo hS => ?_)
          obtain ⟨σ41, he41, hT⟩ := hpo
          have hF := bd2_r hF hd41 he41
          refine r_bipush hx hb dX6_mean_44 rfl (fun x44 e44 => ?_)
          have hF := bn hF e44
          refine lv_aload_n hx hb dX6_mean_46 rfl (lv_at hl 1 rfl) ?_
          refine gt_HeelDance_now hx hb hts ic_HeelDance hown hK hT g0 (hts _ mw_2_8) dX6_mean_47 (fun q47 hq47 => ?_)
          refine gt_Evening_floor hx hb hts ic_Evening hown hK hT hq47 (hts _ mw_1_91) dX6_mean_50 (fun q50 hq50 => ?_)
          refine gt_Floor_men hx hb hts ic_Floor hown hK hT hq50 (hts _ mw_1_62) dX6_mean_53 (fun x53 e53 f53 g53 => ?_)
          have hF := bn hF e53
          obtain ⟨v56, hd56, -⟩ := bd0_s hF
          refine cl_Sl (rest := [.long r41]) hC hK hSK (c_X6_power l z σ41 x44 x53 v56 hd56) k_X6_power mw_3_195 ⟨rfl, rfl, Nat.le_of_ble_eq_true rfl, Nat.le_of_ble_eq_true rfl⟩ hT rfl hl.1 rfl (Nat.le_of_ble_eq_true rfl) dX6_mean_56 ⟨Nat.zero_le _, Nat.zero_le _⟩ hS (fun _ h => h) (fun _ _ h => h) (fun r56 H locs hpo hS => ?_)
          obtain ⟨he56, hT⟩ := hpo
          have hF := bd0_r hF hd56 he56
          refine lv_iload_n hx hb dX6_mean_59 rfl (lv_at hl 3 rfl) ?_
          obtain ⟨v60, hd60, -⟩ := bd0_s hF
          refine cl_Sl (rest := []) hC hK hSK (c_X6_fraction l z σ41 r41 r56 p2 v60 hd60) k_X6_fraction mw_3_202 ⟨rfl, rfl, Nat.le_of_ble_eq_true rfl, Nat.le_of_ble_eq_true rfl⟩ hT rfl hl.1 rfl (Nat.le_of_ble_eq_true rfl) dX6_mean_60 ⟨Nat.zero_le _, Nat.zero_le _⟩ hS (fun _ h => h) (fun _ _ h => h) (fun r60 H locs hpo hS => ?_)
          obtain ⟨he60, hT⟩ := hpo
          have hF := bd0_r hF hd60 he60
          exact rt_l hx hb hr hlk hS ⟨σ41, hF, hT⟩ dX6_mean_63
        · have hF := ifp hF c16
          refine r_ldc2 (-1) rfl hx hb hts hown mw_3_190 dX6_mean_19 (fun x19 e19 => ?_)
          have hF := bn hF e19
          exact rt_l hx hb hr hlk hS ⟨σ, hF, hT⟩ dX6_mean_22
theorem k_X6_see : cBV yX6_see cX6_see 4 (some .int) 3 := ⟨mw_3_213, mw_3_214, mw_1_1, mw_3_215, ⟨by decide, by decide, by decide⟩⟩
set_option maxHeartbeats 4000000 in
set_option maxRecDepth 100000 in
theorem c_X6_see (l : Launch) (z : Zt) (σ : Sg) (h0 : Nat) (g0 : zG z h0 = (16, 0)) (p1 : Int32) (p2 : Int32) (p3 : Int32) (out : (Int × Sg)) (hF : D_X6_see σ p1.toInt p2.toInt p3.toInt = some out) : Met l yX6_see (uw yX6_see cX6_see 4 (some .int)) (rmF 2 87) (PcW z [.ref h0, .int p1, .int p2, .int p3] (fun H => TY z (zA z) σ H)) (QcI z (fun r H => ∃ σ' : Sg, some (r.toInt, σ') = some out ∧ TY z (zA z) σ' H)) 0 0 (zA z) := by
  refine Met.ofW (cc := cX6_see) (maxL := 4) (ret := (some .int)) (by decide) rfl ?_
  intro p e s m args below meth c s₁ B hml hv
  obtain ⟨rfl, hT, hK, hSK⟩ := hv
  have hx := B.exec
  have hb := B.bytes
  have hr := B.returns
  have hts : ∀ w ∈ lw_ok, w.before ([.ref h0, .int p1, .int p2, .int p3] : List Value).toArray s = true := fun w hw => atoms_spec (ws := uw yX6_see cX6_see 4 (some .int)) B.pre w (List.mem_cons_of_mem _ hw)
  have hown : s.vm.findClass RX6 = some m.cls := findClass_of_methodNamed B.named
  have hlk := B.notSynchronized
  have hC : CallFix p m c cX6_see 4 s ([.ref h0, .int p1, .int p2, .int p3] : List Value).toArray lw_ok RX6 := ⟨hx, hb, hml, hown, hts⟩
  have hS : va_S (zA z) s.heap s.heap [] := va_S.rf
  have hl := lv_entry ([.ref h0, .int p1, .int p2, .int p3]) (n := 4) (Nat.le_of_ble_eq_true rfl)
  rw [lg_entry_eq]
  generalize (lg_sl ([.ref h0, .int p1, .int p2, .int p3]) ++ List.replicate (4 - (lg_sl ([.ref h0, .int p1, .int p2, .int p3])).length) Slot.unset).toArray = ls at hl ⊢
  have hl : lv_has ls 4 [(0, .ref h0), (1, .int p1), (2, .int p2), (3, .int p3)] := hl
  show W p l e (rmF 2 87) s m ([.ref h0, .int p1, .int p2, .int p3] : List Value).toArray below meth c s.heap [] 0 0 (MQ below (QcI z (fun r H => ∃ σ' : Sg, some (r.toInt, σ') = some out ∧ TY z (zA z) σ' H)) ([.ref h0, .int p1, .int p2, .int p3] : List Value).toArray s 0 0 (zA z)) (F0 m 0 ls [])
  unfold D_X6_see at hF
  have mx_p1 := i_mx p1
  have mx_p2 := i_mx p2
  have mx_p3 := i_mx p3
  refine lv_aload_n hx hb dX6_see_0 rfl (lv_at hl 0 rfl) ?_
  refine lv_iload_n hx hb dX6_see_1 rfl (lv_at hl 1 rfl) ?_
  obtain ⟨v2, hd2, -⟩ := bd0_s hF
  refine cl_Vi (rest := []) hC hK hSK (c_X6_isNobody l z σ h0 g0 p1 v2 hd2) k_X6_isNobody mw_2_225 ⟨rfl, rfl, Nat.le_of_ble_eq_true rfl, Nat.le_of_ble_eq_true rfl⟩ (rv_HeelDance hK hT g0) hT rfl hl.1 rfl (Nat.le_of_ble_eq_true rfl) dX6_see_2 ⟨Nat.zero_le _, Nat.zero_le _⟩ hS (fun _ h => h) (fun _ _ h => h) (fun r2 H locs hpo hS => ?_)
  obtain ⟨he2, hT, u2_0, u2_1⟩ := hpo
  have hF := bd0_r hF hd2 he2
  refine r_if_ne (tgt := 26) hx hb dX6_see_5 (by decide) (fun c5 => ?_) (fun c5 => ?_)
  · have hF := ifn hF c5
    refine r_iconst hx hb dX6_see_26 (by decide) (by decide) (fun x26 e26 => ?_)
    have hF := bn hF e26
    exact rt_i hx hb hr hlk hS ⟨σ, hF, hT⟩ dX6_see_27
  · have hF := ifp hF c5
    refine lv_iload_n hx hb dX6_see_8 rfl (lv_at hl 2 rfl) ?_
    refine r_if_lt (tgt := 26) hx hb dX6_see_9 (by decide) (fun c9 => ?_) (fun c9 => ?_)
    · have hF := ifp hF c9
      refine r_iconst hx hb dX6_see_26 (by decide) (by decide) (fun x26 e26 => ?_)
      have hF := bn hF e26
      exact rt_i hx hb hr hlk hS ⟨σ, hF, hT⟩ dX6_see_27
    · have hF := ifn hF (Int.not_lt.mpr c9)
      refine lv_iload_n hx hb dX6_see_12 rfl (lv_at hl 2 rfl) ?_
      refine r_bipush hx hb dX6_see_13 rfl (fun x13 e13 => ?_)
      have hF := bn hF e13
      refine r_icmp_gt (tgt := 26) hx hb dX6_see_15 (by decide) (fun c15 => ?_) (fun c15 => ?_)
      · have hF := ifp hF c15
        refine r_iconst hx hb dX6_see_26 (by decide) (by decide) (fun x26 e26 => ?_)
        have hF := bn hF e26
        exact rt_i hx hb hr hlk hS ⟨σ, hF, hT⟩ dX6_see_27
      · have hF := ifn hF (Int.not_lt.mpr c15)
        refine lv_aload_n hx hb dX6_see_18 rfl (lv_at hl 0 rfl) ?_
        refine lv_iload_n hx hb dX6_see_19 rfl (lv_at hl 3 rfl) ?_
        obtain ⟨v20, hd20, -⟩ := bd0_s hF
        refine cl_Vi (rest := []) hC hK hSK (c_X6_isNobody l z σ h0 g0 p3 v20 hd20) k_X6_isNobody mw_2_225 ⟨rfl, rfl, Nat.le_of_ble_eq_true rfl, Nat.le_of_ble_eq_true rfl⟩ (rv_HeelDance hK hT g0) hT rfl hl.1 rfl (Nat.le_of_ble_eq_true rfl) dX6_see_20 ⟨Nat.zero_le _, Nat.zero_le _⟩ hS (fun _ h => h) (fun _ _ h => h) (fun r20 H locs hpo hS => ?_)
        obtain ⟨he20, hT, u20_0, u20_1⟩ := hpo
        have hF := bd0_r hF hd20 he20
        refine r_if_eq (tgt := 28) hx hb dX6_see_23 (by decide) (fun c23 => ?_) (fun c23 => ?_)
        · have hF := ifp hF c23
          refine lv_aload_n hx hb dX6_see_28 rfl (lv_at hl 0 rfl) ?_
          refine gt_HeelDance_now hx hb hts ic_HeelDance hown hK hT g0 (hts _ mw_2_8) dX6_see_29 (fun q29 hq29 => ?_)
          refine gt_Evening_seen hx hb hts ic_Evening hown hK hT hq29 (hts _ mw_1_111) dX6_see_32 (fun x32 e32 f32 g32 => ?_)
          have hF := bn hF e32
          refine r_bipush hx hb dX6_see_35 rfl (fun x35 e35 => ?_)
          have hF := bn hF e35
          refine r_icmp_lt (tgt := 43) hx hb dX6_see_37 (by decide) (fun c37 => ?_) (fun c37 => ?_)
          · have hF := ifp hF c37
            refine lv_aload_n hx hb dX6_see_43 rfl (lv_at hl 0 rfl) ?_
            refine gt_HeelDance_now hx hb hts ic_HeelDance hown hK hT g0 (hts _ mw_2_8) dX6_see_44 (fun q44 hq44 => ?_)
            refine lv_iload_n hx hb dX6_see_47 rfl (lv_at hl 1 rfl) ?_
            refine lv_iload_n hx hb dX6_see_48 rfl (lv_at hl 2 rfl) ?_
            refine lv_iload_n hx hb dX6_see_49 rfl (lv_at hl 3 rfl) ?_
            obtain ⟨s50, hd50, -⟩ := bd1_s hF
            refine cl_Vv (rest := []) hC hK hSK (c_X0_addSeen l z σ q44 (1) hq44 p1 p2 p3 s50 hd50 (by omega) (by omega)) k_X0_addSeen mw_3_216 ⟨rfl, rfl, Nat.le_of_ble_eq_true rfl, Nat.le_of_ble_eq_true rfl⟩ (rv_Evening hK hT hq44) hT rfl hl.1 rfl (Nat.le_of_ble_eq_true rfl) dX6_see_50 ⟨Nat.zero_le _, Nat.zero_le _⟩ hS (fun _ h => h) (fun _ _ h => h) (fun H locs hpo hS => ?_)
            obtain ⟨σ50, he50, hf50, hT⟩ := hpo
            have hF := bd1_r hF hd50 he50
            have hF := gsL hF hf50
            refine lv_aload_n hx hb dX6_see_53 rfl (lv_at hl 0 rfl) ?_
            refine gt_HeelDance_now hx hb hts ic_HeelDance hown hK hT g0 (hts _ mw_2_8) dX6_see_54 (fun q54 hq54 => ?_)
            refine gt_Evening_seen hx hb hts ic_Evening hown hK hT hq54 (hts _ mw_1_111) dX6_see_57 (fun x57 e57 f57 g57 => ?_)
            have hF := bn hF e57
            exact rt_i hx hb hr hlk hS ⟨σ50, hF, hT⟩ dX6_see_60
          · have hF := ifn hF (Int.not_lt.mpr c37)
            refine r_bipush hx hb dX6_see_40 rfl (fun x40 e40 => ?_)
            have hF := bn hF e40
            exact rt_i hx hb hr hlk hS ⟨σ, hF, hT⟩ dX6_see_42
        · have hF := ifn hF c23
          refine r_iconst hx hb dX6_see_26 (by decide) (by decide) (fun x26 e26 => ?_)
          have hF := bn hF e26
          exact rt_i hx hb hr hlk hS ⟨σ, hF, hT⟩ dX6_see_27
theorem k_X6_forget : cBV yX6_forget cX6_forget 3 (some .int) 1 := ⟨mw_3_221, mw_3_222, mw_1_1, mw_3_223, ⟨by decide, by decide, by decide⟩⟩
set_option maxHeartbeats 4000000 in
set_option maxRecDepth 100000 in
theorem c_X6_forget (l : Launch) (z : Zt) (σ : Sg) (h0 : Nat) (g0 : zG z h0 = (16, 0)) (p1 : Int32) (out : (Int × Sg)) (hF : D_X6_forget σ p1.toInt = some out) : Met l yX6_forget (uw yX6_forget cX6_forget 3 (some .int)) (rmF 1 64) (PcW z [.ref h0, .int p1] (fun H => TY z (zA z) σ H)) (QcI z (fun r H => ∃ σ' : Sg, some (r.toInt, σ') = some out ∧ TY z (zA z) σ' H)) 0 0 (zA z) := by
  refine Met.ofW (cc := cX6_forget) (maxL := 3) (ret := (some .int)) (by decide) rfl ?_
  intro p e s m args below meth c s₁ B hml hv
  obtain ⟨rfl, hT, hK, hSK⟩ := hv
  have hx := B.exec
  have hb := B.bytes
  have hr := B.returns
  have hts : ∀ w ∈ lw_ok, w.before ([.ref h0, .int p1] : List Value).toArray s = true := fun w hw => atoms_spec (ws := uw yX6_forget cX6_forget 3 (some .int)) B.pre w (List.mem_cons_of_mem _ hw)
  have hown : s.vm.findClass RX6 = some m.cls := findClass_of_methodNamed B.named
  have hlk := B.notSynchronized
  have hC : CallFix p m c cX6_forget 3 s ([.ref h0, .int p1] : List Value).toArray lw_ok RX6 := ⟨hx, hb, hml, hown, hts⟩
  have hS : va_S (zA z) s.heap s.heap [] := va_S.rf
  have hl := lv_entry ([.ref h0, .int p1]) (n := 3) (Nat.le_of_ble_eq_true rfl)
  rw [lg_entry_eq]
  generalize (lg_sl ([.ref h0, .int p1]) ++ List.replicate (3 - (lg_sl ([.ref h0, .int p1])).length) Slot.unset).toArray = ls at hl ⊢
  have hl : lv_has ls 3 [(0, .ref h0), (1, .int p1)] := hl
  show W p l e (rmF 1 64) s m ([.ref h0, .int p1] : List Value).toArray below meth c s.heap [] 0 0 (MQ below (QcI z (fun r H => ∃ σ' : Sg, some (r.toInt, σ') = some out ∧ TY z (zA z) σ' H)) ([.ref h0, .int p1] : List Value).toArray s 0 0 (zA z)) (F0 m 0 ls [])
  unfold D_X6_forget at hF
  have mx_p1 := i_mx p1
  refine lv_iload_n hx hb dX6_forget_0 rfl (lv_at hl 1 rfl) ?_
  refine r_if_lt (tgt := 15) hx hb dX6_forget_1 (by decide) (fun c1 => ?_) (fun c1 => ?_)
  · have hF := ifp hF c1
    refine r_iconst hx hb dX6_forget_15 (by decide) (by decide) (fun x15 e15 => ?_)
    have hF := bn hF e15
    exact rt_i hx hb hr hlk hS ⟨σ, hF, hT⟩ dX6_forget_16
  · have hF := ifn hF (Int.not_lt.mpr c1)
    refine lv_iload_n hx hb dX6_forget_4 rfl (lv_at hl 1 rfl) ?_
    refine lv_aload_n hx hb dX6_forget_5 rfl (lv_at hl 0 rfl) ?_
    refine gt_HeelDance_now hx hb hts ic_HeelDance hown hK hT g0 (hts _ mw_2_8) dX6_forget_6 (fun q6 hq6 => ?_)
    refine gt_Evening_seen hx hb hts ic_Evening hown hK hT hq6 (hts _ mw_1_111) dX6_forget_9 (fun x9 e9 f9 g9 => ?_)
    have hF := bn hF e9
    refine r_icmp_le (tgt := 17) hx hb dX6_forget_12 (by decide) (fun c12 => ?_) (fun c12 => ?_)
    · have hF := ifn hF (Int.not_lt.mpr c12)
      refine lv_aload_n hx hb dX6_forget_17 rfl (lv_at hl 0 rfl) ?_
      refine gt_HeelDance_now hx hb hts ic_HeelDance hown hK hT g0 (hts _ mw_2_8) dX6_forget_18 (fun q18 hq18 => ?_)
      refine gt_Evening_seen hx hb hts ic_Evening hown hK hT hq18 (hts _ mw_1_111) dX6_forget_21 (fun x21 e21 f21 g21 => ?_)
      have hF := bn hF e21
      refine lv_istore_n (lv' := [(2, .int x21), (0, .ref h0), (1, .int p1)]) hx hb dX6_forget_24 rfl hl (by decide) rfl (fun ls hl => ?_)
      refine lv_aload_n hx hb dX6_forget_25 rfl (lv_at hl 1 rfl) ?_
      refine gt_HeelDance_now hx hb hts ic_HeelDance hown hK hT g0 (hts _ mw_2_8) dX6_forget_26 (fun q26 hq26 => ?_)
      refine lv_iload_n hx hb dX6_forget_29 rfl (lv_at hl 2 rfl) ?_
      refine pt_Evening_seen hx hb hts ic_Evening hown hK hT hS hq26 (hts _ mw_1_111) (by omega) (by omega) dX6_forget_30 (fun H locs hT hS => ?_)
      obtain ⟨σ30, hF, hT⟩ := wrG hF hT
      refine lv_iload_n hx hb dX6_forget_33 rfl (lv_at hl 0 rfl) ?_
      exact rt_i hx hb hr hlk hS ⟨σ30, hF, hT⟩ dX6_forget_34
    · have hF := ifp hF c12
      refine r_iconst hx hb dX6_forget_15 (by decide) (by decide) (fun x15 e15 => ?_)
      have hF := bn hF e15
      exact rt_i hx hb hr hlk hS ⟨σ, hF, hT⟩ dX6_forget_16
theorem k_X6_walkIsAsSeen : cBV yX6_walkIsAsSeen cX6_walkIsAsSeen 2 (some .boolean) 0 := ⟨mw_3_230, ms_1_11, mw_1_1, mw_3_231, ⟨by decide, by decide, by decide⟩⟩
set_option maxHeartbeats 4000000 in
set_option maxRecDepth 100000 in
theorem c_X6_walkIsAsSeen (l : Launch) (z : Zt) (σ : Sg) (h0 : Nat) (g0 : zG z h0 = (16, 0)) (out : (Int × Sg)) (hF : D_X6_walkIsAsSeen σ = some out) : Met l yX6_walkIsAsSeen (uw yX6_walkIsAsSeen cX6_walkIsAsSeen 2 (some .boolean)) (rmF 5 151) (PcW z [.ref h0] (fun H => TY z (zA z) σ H)) (QcI z (fun r H => ∃ σ' : Sg, some (r.toInt, σ') = some out ∧ TY z (zA z) σ' H ∧ (0 ≤ r.toInt ∧ r.toInt ≤ 1))) 0 0 (zA z) := by
  refine Met.ofW (cc := cX6_walkIsAsSeen) (maxL := 2) (ret := (some .boolean)) (by decide) rfl ?_
  intro p e s m args below meth c s₁ B hml hv
  obtain ⟨rfl, hT, hK, hSK⟩ := hv
  have hx := B.exec
  have hb := B.bytes
  have hr := B.returns
  have hts : ∀ w ∈ lw_ok, w.before ([.ref h0] : List Value).toArray s = true := fun w hw => atoms_spec (ws := uw yX6_walkIsAsSeen cX6_walkIsAsSeen 2 (some .boolean)) B.pre w (List.mem_cons_of_mem _ hw)
  have hown : s.vm.findClass RX6 = some m.cls := findClass_of_methodNamed B.named
  have hlk := B.notSynchronized
  have hC : CallFix p m c cX6_walkIsAsSeen 2 s ([.ref h0] : List Value).toArray lw_ok RX6 := ⟨hx, hb, hml, hown, hts⟩
  have hS : va_S (zA z) s.heap s.heap [] := va_S.rf
  have hl := lv_entry ([.ref h0]) (n := 2) (Nat.le_of_ble_eq_true rfl)
  rw [lg_entry_eq]
  generalize (lg_sl ([.ref h0]) ++ List.replicate (2 - (lg_sl ([.ref h0])).length) Slot.unset).toArray = ls at hl ⊢
  have hl : lv_has ls 2 [(0, .ref h0)] := hl
  show W p l e (rmF 5 151) s m ([.ref h0] : List Value).toArray below meth c s.heap [] 0 0 (MQ below (QcI z (fun r H => ∃ σ' : Sg, some (r.toInt, σ') = some out ∧ TY z (zA z) σ' H ∧ (0 ≤ r.toInt ∧ r.toInt ≤ 1))) ([.ref h0] : List Value).toArray s 0 0 (zA z)) (F0 m 0 ls [])
  unfold D_X6_walkIsAsSeen at hF
  refine lv_aload_n hx hb dX6_walkIsAsSeen_0 rfl (lv_at hl 0 rfl) ?_
  refine gt_HeelDance_walk hx hb hts ic_HeelDance hown hK hT g0 (hts _ mw_2_11) dX6_walkIsAsSeen_1 (fun q1 hq1 => ?_)
  refine lv_aload_n hx hb dX6_walkIsAsSeen_4 rfl (lv_at hl 0 rfl) ?_
  refine gt_HeelDance_now hx hb hts ic_HeelDance hown hK hT g0 (hts _ mw_2_8) dX6_walkIsAsSeen_5 (fun q5 hq5 => ?_)
  obtain ⟨s8, hd8, -⟩ := bd1_s hF
  refine cl_Vv (rest := []) hC hK hSK (c_X5_follow l z σ q1 hq1 q5 (1) hq5 s8 hd8) k_X5_follow mw_3_89 ⟨rfl, rfl, Nat.le_of_ble_eq_true rfl, Nat.le_of_ble_eq_true rfl⟩ (rv_Walk hK hT hq1) hT rfl hl.1 rfl (Nat.le_of_ble_eq_true rfl) dX6_walkIsAsSeen_8 ⟨Nat.zero_le _, Nat.zero_le _⟩ hS (fun _ h => h) (fun _ _ h => h) (fun H locs hpo hS => ?_)
  obtain ⟨σ8, he8, hT⟩ := hpo
  have hF := bd1_r hF hd8 he8
  refine r_iconst hx hb dX6_walkIsAsSeen_11 (by decide) (by decide) (fun x11 e11 => ?_)
  have hF := bn hF e11
  refine lv_istore_n (lv' := [(1, .int x11), (0, .ref h0)]) hx hb dX6_walkIsAsSeen_12 rfl hl (by decide) rfl (fun ls hl => ?_)
  have J13 : ∀ (n13 : Nat) (ls : Array Slot) (H : Heap) (locs : List Loc) (y13_1 : Int32) (σj13 : Sg), (0 ≤ y13_1.toInt ∧ y13_1.toInt ≤ 6) → D_X6_walkIsAsSeen_13 n13 σj13 y13_1.toInt = some out → TY z (zA z) σj13 H → va_S (zA z) s.heap H locs → lv_has ls 2 [(0, .ref h0), (1, .int y13_1)] → W p l e (rmF 5 151) s m ([.ref h0] : List Value).toArray below meth c H locs 0 0 (MQ below (QcI z (fun r H => ∃ σ' : Sg, some (r.toInt, σ') = some out ∧ TY z (zA z) σ' H ∧ (0 ≤ r.toInt ∧ r.toInt ≤ 1))) ([.ref h0] : List Value).toArray s 0 0 (zA z)) (F0 m 13 ls []) := by
    intro n13
    induction n13 with
    | zero => intro ls H locs y13_1 σj13 j13_y13_1 hF hT hS hl; exact (no_s hF).elim
    | succ n13 ih13 =>
      intro ls H locs y13_1 σj13 j13_y13_1 hF hT hS hl
      rw [D_X6_walkIsAsSeen_13.eq_2] at hF
      refine lv_iload_n hx hb dX6_walkIsAsSeen_13 rfl (lv_at hl 1 rfl) ?_
      refine lv_aload_n hx hb dX6_walkIsAsSeen_14 rfl (lv_at hl 0 rfl) ?_
      refine gt_HeelDance_now hx hb hts ic_HeelDance hown hK hT g0 (hts _ mw_2_8) dX6_walkIsAsSeen_15 (fun q15 hq15 => ?_)
      refine gt_Evening_seen hx hb hts ic_Evening hown hK hT hq15 (hts _ mw_1_111) dX6_walkIsAsSeen_18 (fun x18 e18 f18 g18 => ?_)
      have hF := bn hF e18
      refine r_icmp_ge (tgt := 69) hx hb dX6_walkIsAsSeen_21 (by decide) (fun c21 => ?_) (fun c21 => ?_)
      · have hF := ifn hF (Int.not_lt.mpr c21)
        refine r_iconst hx hb dX6_walkIsAsSeen_69 (by decide) (by decide) (fun x69 e69 => ?_)
        have hF := bn hF e69
        exact rt_z hx hb hr hlk hS (by omega) (by omega) ⟨σj13, hF, hT, (by omega)⟩ dX6_walkIsAsSeen_70
      · have hF := ifp hF c21
        refine lv_aload_n hx hb dX6_walkIsAsSeen_24 rfl (lv_at hl 0 rfl) ?_
        refine gt_HeelDance_walk hx hb hts ic_HeelDance hown hK hT g0 (hts _ mw_2_11) dX6_walkIsAsSeen_25 (fun q25 hq25 => ?_)
        refine lv_aload_n hx hb dX6_walkIsAsSeen_28 rfl (lv_at hl 0 rfl) ?_
        refine gt_HeelDance_now hx hb hts ic_HeelDance hown hK hT g0 (hts _ mw_2_8) dX6_walkIsAsSeen_29 (fun q29 hq29 => ?_)
        refine gt_Evening_seenWoman hx hb hts ic_Evening hown hK hT hq29 (hts _ mw_1_101) dX6_walkIsAsSeen_32 (fun q32 hq32 => ?_)
        refine lv_iload_n hx hb dX6_walkIsAsSeen_35 rfl (lv_at hl 1 rfl) ?_
        refine al_25 hx hb hK hT hq32 (by omega) (by omega) dX6_walkIsAsSeen_36 (fun x36 e36 g36 => ?_)
        have hF := bn hF e36
        refine lv_aload_n hx hb dX6_walkIsAsSeen_37 rfl (lv_at hl 0 rfl) ?_
        refine gt_HeelDance_now hx hb hts ic_HeelDance hown hK hT g0 (hts _ mw_2_8) dX6_walkIsAsSeen_38 (fun q38 hq38 => ?_)
        refine gt_Evening_seenBehind hx hb hts ic_Evening hown hK hT hq38 (hts _ mw_1_103) dX6_walkIsAsSeen_41 (fun q41 hq41 => ?_)
        refine lv_iload_n hx hb dX6_walkIsAsSeen_44 rfl (lv_at hl 1 rfl) ?_
        refine al_26 hx hb hK hT hq41 (by omega) (by omega) dX6_walkIsAsSeen_45 (fun x45 e45 g45 => ?_)
        have hF := bn hF e45
        obtain ⟨v46, hd46, -⟩ := bd0_s hF
        refine cl_Vi (rest := []) hC hK hSK (c_X5_partnerBehind l z σj13 q25 (5) hq25 x36 x45 v46 hd46 (by omega) (by omega)) k_X5_partnerBehind mw_3_107 ⟨rfl, rfl, Nat.le_of_ble_eq_true rfl, Nat.le_of_ble_eq_true rfl⟩ (rv_Walk hK hT hq25) hT rfl hl.1 rfl (Nat.le_of_ble_eq_true rfl) dX6_walkIsAsSeen_46 ⟨Nat.zero_le _, Nat.zero_le _⟩ hS (fun _ h => h) (fun _ _ h => h) (fun r46 H locs hpo hS => ?_)
        obtain ⟨he46, hT, u46_0⟩ := hpo
        have hF := bd0_r hF hd46 he46
        refine lv_aload_n hx hb dX6_walkIsAsSeen_49 rfl (lv_at hl 0 rfl) ?_
        refine gt_HeelDance_now hx hb hts ic_HeelDance hown hK hT g0 (hts _ mw_2_8) dX6_walkIsAsSeen_50 (fun q50 hq50 => ?_)
        refine gt_Evening_seenMan hx hb hts ic_Evening hown hK hT hq50 (hts _ mw_1_105) dX6_walkIsAsSeen_53 (fun q53 hq53 => ?_)
        refine lv_iload_n hx hb dX6_walkIsAsSeen_56 rfl (lv_at hl 1 rfl) ?_
        refine al_22 hx hb hK hT hq53 (by omega) (by omega) dX6_walkIsAsSeen_57 (fun x57 e57 => ?_)
        have hF := bn hF e57
        refine r_icmp_eq (tgt := 63) hx hb dX6_walkIsAsSeen_58 (by decide) (fun c58 => ?_) (fun c58 => ?_)
        · have hF := ifp hF c58
          refine r_iinc (lv' := fun v__ => [(1, .int v__), (0, .ref h0)]) hx hb dX6_walkIsAsSeen_63 hl (k := 1) rfl (by decide) (fun _ => rfl) ⟨by decide, by decide⟩ (by omega) (by omega) (fun x63 ls e63 hl => ?_)
          have hF := bn hF e63
          refine lv_goto (tgt := 13) hx hb dX6_walkIsAsSeen_66 (by decide) ?_
          exact ih13 ls _ _ x63 σj13 (by omega) hF hT hS (lv_sub hl [1, 0] rfl)
        · have hF := ifn hF c58
          refine r_iconst hx hb dX6_walkIsAsSeen_61 (by decide) (by decide) (fun x61 e61 => ?_)
          have hF := bn hF e61
          exact rt_z hx hb hr hlk hS (by omega) (by omega) ⟨σj13, hF, hT, (by omega)⟩ dX6_walkIsAsSeen_62
  exact J13 5000 ls _ _ x11 σ8 (by omega) hF hT hS (lv_sub hl [1, 0] rfl)
theorem k_X6_bent : cBV yX6_bent cX6_bent 3 (some .int) 0 := ⟨mw_3_225, mw_3_226, mw_1_1, mw_3_227, ⟨by decide, by decide, by decide⟩⟩
set_option maxHeartbeats 4000000 in
set_option maxRecDepth 100000 in
theorem c_X6_bent (l : Launch) (z : Zt) (σ : Sg) (h0 : Nat) (g0 : zG z h0 = (16, 0)) (out : (Int × Sg)) (hF : D_X6_bent σ = some out) : Met l yX6_bent (uw yX6_bent cX6_bent 3 (some .int)) (rmF 6 172) (PcW z [.ref h0] (fun H => TY z (zA z) σ H)) (QcI z (fun r H => ∃ σ' : Sg, some (r.toInt, σ') = some out ∧ TY z (zA z) σ' H)) 0 0 (zA z) := by
  refine Met.ofW (cc := cX6_bent) (maxL := 3) (ret := (some .int)) (by decide) rfl ?_
  intro p e s m args below meth c s₁ B hml hv
  obtain ⟨rfl, hT, hK, hSK⟩ := hv
  have hx := B.exec
  have hb := B.bytes
  have hr := B.returns
  have hts : ∀ w ∈ lw_ok, w.before ([.ref h0] : List Value).toArray s = true := fun w hw => atoms_spec (ws := uw yX6_bent cX6_bent 3 (some .int)) B.pre w (List.mem_cons_of_mem _ hw)
  have hown : s.vm.findClass RX6 = some m.cls := findClass_of_methodNamed B.named
  have hlk := B.notSynchronized
  have hC : CallFix p m c cX6_bent 3 s ([.ref h0] : List Value).toArray lw_ok RX6 := ⟨hx, hb, hml, hown, hts⟩
  have hS : va_S (zA z) s.heap s.heap [] := va_S.rf
  have hl := lv_entry ([.ref h0]) (n := 3) (Nat.le_of_ble_eq_true rfl)
  rw [lg_entry_eq]
  generalize (lg_sl ([.ref h0]) ++ List.replicate (3 - (lg_sl ([.ref h0])).length) Slot.unset).toArray = ls at hl ⊢
  have hl : lv_has ls 3 [(0, .ref h0)] := hl
  show W p l e (rmF 6 172) s m ([.ref h0] : List Value).toArray below meth c s.heap [] 0 0 (MQ below (QcI z (fun r H => ∃ σ' : Sg, some (r.toInt, σ') = some out ∧ TY z (zA z) σ' H)) ([.ref h0] : List Value).toArray s 0 0 (zA z)) (F0 m 0 ls [])
  unfold D_X6_bent at hF
  refine r_iconst hx hb dX6_bent_0 (by decide) (by decide) (fun x0 e0 => ?_)
  have hF := bn hF e0
  refine lv_istore_n (lv' := [(1, .int x0), (0, .ref h0)]) hx hb dX6_bent_1 rfl hl (by decide) rfl (fun ls hl => ?_)
  refine r_iconst hx hb dX6_bent_2 (by decide) (by decide) (fun x2 e2 => ?_)
  have hF := bn hF e2
  refine lv_istore_n (lv' := [(2, .int x2), (1, .int x0), (0, .ref h0)]) hx hb dX6_bent_3 rfl hl (by decide) rfl (fun ls hl => ?_)
  have J4 : ∀ (n4 : Nat) (ls : Array Slot) (H : Heap) (locs : List Loc) (y4_1 : Int32) (y4_2 : Int32) (σj4 : Sg), (0 ≤ y4_2.toInt ∧ y4_2.toInt ≤ 5) → D_X6_bent_4 n4 σj4 y4_1.toInt y4_2.toInt = some out → TY z (zA z) σj4 H → va_S (zA z) s.heap H locs → lv_has ls 3 [(0, .ref h0), (1, .int y4_1), (2, .int y4_2)] → W p l e (rmF 6 172) s m ([.ref h0] : List Value).toArray below meth c H locs 0 0 (MQ below (QcI z (fun r H => ∃ σ' : Sg, some (r.toInt, σ') = some out ∧ TY z (zA z) σ' H)) ([.ref h0] : List Value).toArray s 0 0 (zA z)) (F0 m 4 ls []) := by
    intro n4
    induction n4 with
    | zero => intro ls H locs y4_1 y4_2 σj4 j4_y4_2 hF hT hS hl; exact (no_s hF).elim
    | succ n4 ih4 =>
      intro ls H locs y4_1 y4_2 σj4 j4_y4_2 hF hT hS hl
      rw [D_X6_bent_4.eq_2] at hF
      refine lv_iload_n hx hb dX6_bent_4 rfl (lv_at hl 2 rfl) ?_
      refine lv_aload_n hx hb dX6_bent_5 rfl (lv_at hl 0 rfl) ?_
      refine gt_HeelDance_now hx hb hts ic_HeelDance hown hK hT g0 (hts _ mw_2_8) dX6_bent_6 (fun q6 hq6 => ?_)
      refine gt_Evening_floor hx hb hts ic_Evening hown hK hT hq6 (hts _ mw_1_91) dX6_bent_9 (fun q9 hq9 => ?_)
      refine gt_Floor_men hx hb hts ic_Floor hown hK hT hq9 (hts _ mw_1_62) dX6_bent_12 (fun x12 e12 f12 g12 => ?_)
      have hF := bn hF e12
      refine r_icmp_ge (tgt := 67) hx hb dX6_bent_15 (by decide) (fun c15 => ?_) (fun c15 => ?_)
      · have hF := ifn hF (Int.not_lt.mpr c15)
        refine lv_iload_n hx hb dX6_bent_67 rfl (lv_at hl 1 rfl) ?_
        exact rt_i hx hb hr hlk hS ⟨σj4, hF, hT⟩ dX6_bent_68
      · have hF := ifp hF c15
        refine lv_aload_n hx hb dX6_bent_18 rfl (lv_at hl 0 rfl) ?_
        refine gt_HeelDance_walk hx hb hts ic_HeelDance hown hK hT g0 (hts _ mw_2_11) dX6_bent_19 (fun q19 hq19 => ?_)
        refine gt_Walk_floor hx hb hts ic_Walk hown hK hT hq19 (hts _ mw_1_177) dX6_bent_22 (fun q22 hq22 => ?_)
        refine lv_aload_n hx hb dX6_bent_25 rfl (lv_at hl 0 rfl) ?_
        refine gt_HeelDance_now hx hb hts ic_HeelDance hown hK hT g0 (hts _ mw_2_8) dX6_bent_26 (fun q26 hq26 => ?_)
        refine gt_Evening_floor hx hb hts ic_Evening hown hK hT hq26 (hts _ mw_1_91) dX6_bent_29 (fun q29 hq29 => ?_)
        obtain ⟨s32, hd32, -⟩ := bd1_s hF
        refine cl_Vv (rest := []) hC hK hSK (c_X1_copyFrom l z σj4 q22 (5) hq22 q29 (1) hq29 s32 hd32) k_X1_copyFrom mw_3_88 ⟨rfl, rfl, Nat.le_of_ble_eq_true rfl, Nat.le_of_ble_eq_true rfl⟩ (rv_Floor hK hT hq22) hT rfl hl.1 rfl (Nat.le_of_ble_eq_true rfl) dX6_bent_32 ⟨Nat.zero_le _, Nat.zero_le _⟩ hS (fun _ h => h) (fun _ _ h => h) (fun H locs hpo hS => ?_)
        obtain ⟨σ32, he32, hT⟩ := hpo
        have hF := bd1_r hF hd32 he32
        refine lv_aload_n hx hb dX6_bent_35 rfl (lv_at hl 0 rfl) ?_
        refine gt_HeelDance_walk hx hb hts ic_HeelDance hown hK hT g0 (hts _ mw_2_11) dX6_bent_36 (fun q36 hq36 => ?_)
        refine gt_Walk_floor hx hb hts ic_Walk hown hK hT hq36 (hts _ mw_1_177) dX6_bent_39 (fun q39 hq39 => ?_)
        refine gt_Floor_kind hx hb hts ic_Floor hown hK hT hq39 (hts _ mw_1_44) dX6_bent_42 (fun q42 hq42 => ?_)
        refine lv_iload_n hx hb dX6_bent_45 rfl (lv_at hl 2 rfl) ?_
        refine r_iconst hx hb dX6_bent_46 (by decide) (by decide) (fun x46 e46 => ?_)
        have hF := bn hF e46
        refine as_51 hx hb hK hT hS hq42 (by omega) (by omega) dX6_bent_47 (fun H locs hT hS => ?_)
        obtain ⟨σ47, hF, hT⟩ := wrG hF hT
        refine lv_aload_n hx hb dX6_bent_48 rfl (lv_at hl 0 rfl) ?_
        obtain ⟨v49, s49, hd49, -⟩ := bd2_s hF
        refine cl_Vi (rest := []) hC hK hSK (c_X6_walkIsAsSeen l z σ47 h0 g0 (v49, s49) hd49) k_X6_walkIsAsSeen mw_3_228 ⟨rfl, rfl, Nat.le_of_ble_eq_true rfl, Nat.le_of_ble_eq_true rfl⟩ (rv_HeelDance hK hT g0) hT rfl hl.1 rfl (Nat.le_of_ble_eq_true rfl) dX6_bent_49 ⟨Nat.zero_le _, Nat.zero_le _⟩ hS (fun _ h => h) (fun _ _ h => h) (fun r49 H locs hpo hS => ?_)
        obtain ⟨σ49, he49, hT, u49_0⟩ := hpo
        have hF := bd2_r hF hd49 he49
        have J61 : ∀ (ls : Array Slot) (H : Heap) (locs : List Loc) (y61_1 : Int32) (σj61 : Sg), D_X6_bent_61 (D_X6_bent_4 n4) y4_2.toInt σj61 y61_1.toInt = some out → TY z (zA z) σj61 H → va_S (zA z) s.heap H locs → lv_has ls 3 [(0, .ref h0), (1, .int y61_1), (2, .int y4_2)] → W p l e (rmF 6 172) s m ([.ref h0] : List Value).toArray below meth c H locs 0 0 (MQ below (QcI z (fun r H => ∃ σ' : Sg, some (r.toInt, σ') = some out ∧ TY z (zA z) σ' H)) ([.ref h0] : List Value).toArray s 0 0 (zA z)) (F0 m 61 ls []) := by
          intro ls H locs y61_1 σj61 hF hT hS hl
          unfold D_X6_bent_61 at hF
          refine r_iinc (lv' := fun v__ => [(2, .int v__), (0, .ref h0), (1, .int y61_1)]) hx hb dX6_bent_61 hl (k := 2) rfl (by decide) (fun _ => rfl) ⟨by decide, by decide⟩ (by omega) (by omega) (fun x61 ls e61 hl => ?_)
          have hF := bn hF e61
          refine lv_goto (tgt := 4) hx hb dX6_bent_64 (by decide) ?_
          exact ih4 ls _ _ y61_1 x61 σj61 (by omega) hF hT hS (lv_sub hl [1, 2, 0] rfl)
        refine r_if_eq (tgt := 61) hx hb dX6_bent_52 (by decide) (fun c52 => ?_) (fun c52 => ?_)
        · have hF := ifp hF c52
          exact J61 ls _ _ y4_1 σ49 hF hT hS (lv_sub hl [0, 1, 2] rfl)
        · have hF := ifn hF c52
          refine lv_iload_n hx hb dX6_bent_55 rfl (lv_at hl 1 rfl) ?_
          refine r_iconst hx hb dX6_bent_56 (by decide) (by decide) (fun x56 e56 => ?_)
          have hF := bn hF e56
          refine lv_iload_n hx hb dX6_bent_57 rfl (lv_at hl 2 rfl) ?_
          refine x_shl1 hx hb dX6_bent_58 (by omega) (by omega) (by omega) (fun x58 e58 g58 h58 => ?_)
          have hF := bn hF e58
          refine x_ior hx hb dX6_bent_59 (fun x59 e59 => ?_)
          have hF := bn hF e59
          refine lv_istore_n (lv' := [(1, .int x59), (0, .ref h0), (2, .int y4_2)]) hx hb dX6_bent_60 rfl hl (by decide) rfl (fun ls hl => ?_)
          exact J61 ls _ _ x59 σ49 hF hT hS (lv_sub hl [1, 0, 2] rfl)
  exact J4 5000 ls _ _ x0 x2 σ (by omega) hF hT hS (lv_sub hl [2, 1, 0] rfl)
theorem k_X6_heights : cBV yX6_heights cX6_heights 4 (some .int) 1 := ⟨mw_3_233, mw_3_234, mw_1_1, mw_3_235, ⟨by decide, by decide, by decide⟩⟩
set_option maxHeartbeats 4000000 in
set_option maxRecDepth 100000 in
theorem c_X6_heights (l : Launch) (z : Zt) (σ : Sg) (h0 : Nat) (g0 : zG z h0 = (16, 0)) (p1 : Int32) (out : (Int × Sg)) (hF : D_X6_heights σ p1.toInt = some out) : Met l yX6_heights (uw yX6_heights cX6_heights 4 (some .int)) (rmF 6 172) (PcW z [.ref h0, .int p1] (fun H => TY z (zA z) σ H)) (QcI z (fun r H => ∃ σ' : Sg, some (r.toInt, σ') = some out ∧ TY z (zA z) σ' H)) 0 0 (zA z) := by
  refine Met.ofW (cc := cX6_heights) (maxL := 4) (ret := (some .int)) (by decide) rfl ?_
  intro p e s m args below meth c s₁ B hml hv
  obtain ⟨rfl, hT, hK, hSK⟩ := hv
  have hx := B.exec
  have hb := B.bytes
  have hr := B.returns
  have hts : ∀ w ∈ lw_ok, w.before ([.ref h0, .int p1] : List Value).toArray s = true := fun w hw => atoms_spec (ws := uw yX6_heights cX6_heights 4 (some .int)) B.pre w (List.mem_cons_of_mem _ hw)
  have hown : s.vm.findClass RX6 = some m.cls := findClass_of_methodNamed B.named
  have hlk := B.notSynchronized
  have hC : CallFix p m c cX6_heights 4 s ([.ref h0, .int p1] : List Value).toArray lw_ok RX6 := ⟨hx, hb, hml, hown, hts⟩
  have hS : va_S (zA z) s.heap s.heap [] := va_S.rf
  have hl := lv_entry ([.ref h0, .int p1]) (n := 4) (Nat.le_of_ble_eq_true rfl)
  rw [lg_entry_eq]
  generalize (lg_sl ([.ref h0, .int p1]) ++ List.replicate (4 - (lg_sl ([.ref h0, .int p1])).length) Slot.unset).toArray = ls at hl ⊢
  have hl : lv_has ls 4 [(0, .ref h0), (1, .int p1)] := hl
  show W p l e (rmF 6 172) s m ([.ref h0, .int p1] : List Value).toArray below meth c s.heap [] 0 0 (MQ below (QcI z (fun r H => ∃ σ' : Sg, some (r.toInt, σ') = some out ∧ TY z (zA z) σ' H)) ([.ref h0, .int p1] : List Value).toArray s 0 0 (zA z)) (F0 m 0 ls [])
  unfold D_X6_heights at hF
  have mx_p1 := i_mx p1
  refine lv_aload_n hx hb dX6_heights_0 rfl (lv_at hl 0 rfl) ?_
  refine lv_iload_n hx hb dX6_heights_1 rfl (lv_at hl 1 rfl) ?_
  obtain ⟨v2, hd2, -⟩ := bd0_s hF
  refine cl_Vi (rest := []) hC hK hSK (c_X6_isNobody l z σ h0 g0 p1 v2 hd2) k_X6_isNobody mw_2_225 ⟨rfl, rfl, Nat.le_of_ble_eq_true rfl, Nat.le_of_ble_eq_true rfl⟩ (rv_HeelDance hK hT g0) hT rfl hl.1 rfl (Nat.le_of_ble_eq_true rfl) dX6_heights_2 ⟨Nat.zero_le _, Nat.zero_le _⟩ hS (fun _ h => h) (fun _ _ h => h) (fun r2 H locs hpo hS => ?_)
  obtain ⟨he2, hT, u2_0, u2_1⟩ := hpo
  have hF := bd0_r hF hd2 he2
  refine r_if_eq (tgt := 10) hx hb dX6_heights_5 (by decide) (fun c5 => ?_) (fun c5 => ?_)
  · have hF := ifp hF c5
    refine r_iconst hx hb dX6_heights_10 (by decide) (by decide) (fun x10 e10 => ?_)
    have hF := bn hF e10
    refine lv_istore_n (lv' := [(2, .int x10), (0, .ref h0), (1, .int p1)]) hx hb dX6_heights_11 rfl hl (by decide) rfl (fun ls hl => ?_)
    refine r_iconst hx hb dX6_heights_12 (by decide) (by decide) (fun x12 e12 => ?_)
    have hF := bn hF e12
    refine lv_istore_n (lv' := [(3, .int x12), (2, .int x10), (0, .ref h0), (1, .int p1)]) hx hb dX6_heights_13 rfl hl (by decide) rfl (fun ls hl => ?_)
    have J14 : ∀ (n14 : Nat) (ls : Array Slot) (H : Heap) (locs : List Loc) (y14_2 : Int32) (y14_3 : Int32) (σj14 : Sg), (0 ≤ y14_3.toInt ∧ y14_3.toInt ≤ 10) → D_X6_heights_14 p1.toInt n14 σj14 y14_2.toInt y14_3.toInt = some out → TY z (zA z) σj14 H → va_S (zA z) s.heap H locs → lv_has ls 4 [(0, .ref h0), (1, .int p1), (2, .int y14_2), (3, .int y14_3)] → W p l e (rmF 6 172) s m ([.ref h0, .int p1] : List Value).toArray below meth c H locs 0 0 (MQ below (QcI z (fun r H => ∃ σ' : Sg, some (r.toInt, σ') = some out ∧ TY z (zA z) σ' H)) ([.ref h0, .int p1] : List Value).toArray s 0 0 (zA z)) (F0 m 14 ls []) := by
      intro n14
      induction n14 with
      | zero => intro ls H locs y14_2 y14_3 σj14 j14_y14_3 hF hT hS hl; exact (no_s hF).elim
      | succ n14 ih14 =>
        intro ls H locs y14_2 y14_3 σj14 j14_y14_3 hF hT hS hl
        rw [D_X6_heights_14.eq_2] at hF
        refine lv_iload_n hx hb dX6_heights_14 rfl (lv_at hl 3 rfl) ?_
        refine r_bipush hx hb dX6_heights_15 rfl (fun x15 e15 => ?_)
        have hF := bn hF e15
        refine r_icmp_gt (tgt := 69) hx hb dX6_heights_17 (by decide) (fun c17 => ?_) (fun c17 => ?_)
        · have hF := ifp hF c17
          refine lv_iload_n hx hb dX6_heights_69 rfl (lv_at hl 2 rfl) ?_
          exact rt_i hx hb hr hlk hS ⟨σj14, hF, hT⟩ dX6_heights_70
        · have hF := ifn hF (Int.not_lt.mpr c17)
          refine lv_aload_n hx hb dX6_heights_20 rfl (lv_at hl 0 rfl) ?_
          refine gt_HeelDance_walk hx hb hts ic_HeelDance hown hK hT g0 (hts _ mw_2_11) dX6_heights_21 (fun q21 hq21 => ?_)
          refine gt_Walk_floor hx hb hts ic_Walk hown hK hT hq21 (hts _ mw_1_177) dX6_heights_24 (fun q24 hq24 => ?_)
          refine lv_aload_n hx hb dX6_heights_27 rfl (lv_at hl 0 rfl) ?_
          refine gt_HeelDance_now hx hb hts ic_HeelDance hown hK hT g0 (hts _ mw_2_8) dX6_heights_28 (fun q28 hq28 => ?_)
          refine gt_Evening_floor hx hb hts ic_Evening hown hK hT hq28 (hts _ mw_1_91) dX6_heights_31 (fun q31 hq31 => ?_)
          obtain ⟨s34, hd34, -⟩ := bd1_s hF
          refine cl_Vv (rest := []) hC hK hSK (c_X1_copyFrom l z σj14 q24 (5) hq24 q31 (1) hq31 s34 hd34) k_X1_copyFrom mw_3_88 ⟨rfl, rfl, Nat.le_of_ble_eq_true rfl, Nat.le_of_ble_eq_true rfl⟩ (rv_Floor hK hT hq24) hT rfl hl.1 rfl (Nat.le_of_ble_eq_true rfl) dX6_heights_34 ⟨Nat.zero_le _, Nat.zero_le _⟩ hS (fun _ h => h) (fun _ _ h => h) (fun H locs hpo hS => ?_)
          obtain ⟨σ34, he34, hT⟩ := hpo
          have hF := bd1_r hF hd34 he34
          refine lv_aload_n hx hb dX6_heights_37 rfl (lv_at hl 0 rfl) ?_
          refine gt_HeelDance_walk hx hb hts ic_HeelDance hown hK hT g0 (hts _ mw_2_11) dX6_heights_38 (fun q38 hq38 => ?_)
          refine gt_Walk_floor hx hb hts ic_Walk hown hK hT hq38 (hts _ mw_1_177) dX6_heights_41 (fun q41 hq41 => ?_)
          refine gt_Floor_height hx hb hts ic_Floor hown hK hT hq41 (hts _ mw_1_46) dX6_heights_44 (fun q44 hq44 => ?_)
          refine lv_iload_n hx hb dX6_heights_47 rfl (lv_at hl 1 rfl) ?_
          refine lv_iload_n hx hb dX6_heights_48 rfl (lv_at hl 3 rfl) ?_
          refine as_52 hx hb hK hT hS hq44 (by omega) (by omega) ⟨by omega, by omega⟩ dX6_heights_49 (fun H locs hT hS => ?_)
          obtain ⟨σ49, hF, hT⟩ := wrG hF hT
          refine lv_aload_n hx hb dX6_heights_50 rfl (lv_at hl 0 rfl) ?_
          obtain ⟨v51, s51, hd51, -⟩ := bd2_s hF
          refine cl_Vi (rest := []) hC hK hSK (c_X6_walkIsAsSeen l z σ49 h0 g0 (v51, s51) hd51) k_X6_walkIsAsSeen mw_3_228 ⟨rfl, rfl, Nat.le_of_ble_eq_true rfl, Nat.le_of_ble_eq_true rfl⟩ (rv_HeelDance hK hT g0) hT rfl hl.1 rfl (Nat.le_of_ble_eq_true rfl) dX6_heights_51 ⟨Nat.zero_le _, Nat.zero_le _⟩ hS (fun _ h => h) (fun _ _ h => h) (fun r51 H locs hpo hS => ?_)
          obtain ⟨σ51, he51, hT, u51_0⟩ := hpo
          have hF := bd2_r hF hd51 he51
          have J63 : ∀ (ls : Array Slot) (H : Heap) (locs : List Loc) (y63_2 : Int32) (σj63 : Sg), D_X6_heights_63 (D_X6_heights_14 p1.toInt n14) y14_3.toInt σj63 y63_2.toInt = some out → TY z (zA z) σj63 H → va_S (zA z) s.heap H locs → lv_has ls 4 [(0, .ref h0), (1, .int p1), (2, .int y63_2), (3, .int y14_3)] → W p l e (rmF 6 172) s m ([.ref h0, .int p1] : List Value).toArray below meth c H locs 0 0 (MQ below (QcI z (fun r H => ∃ σ' : Sg, some (r.toInt, σ') = some out ∧ TY z (zA z) σ' H)) ([.ref h0, .int p1] : List Value).toArray s 0 0 (zA z)) (F0 m 63 ls []) := by
            intro ls H locs y63_2 σj63 hF hT hS hl
            unfold D_X6_heights_63 at hF
            refine r_iinc (lv' := fun v__ => [(3, .int v__), (0, .ref h0), (1, .int p1), (2, .int y63_2)]) hx hb dX6_heights_63 hl (k := 3) rfl (by decide) (fun _ => rfl) ⟨by decide, by decide⟩ (by omega) (by omega) (fun x63 ls e63 hl => ?_)
            have hF := bn hF e63
            refine lv_goto (tgt := 14) hx hb dX6_heights_66 (by decide) ?_
            exact ih14 ls _ _ y63_2 x63 σj63 (by omega) hF hT hS (lv_sub hl [1, 2, 3, 0] rfl)
          refine r_if_eq (tgt := 63) hx hb dX6_heights_54 (by decide) (fun c54 => ?_) (fun c54 => ?_)
          · have hF := ifp hF c54
            exact J63 ls _ _ y14_2 σ51 hF hT hS (lv_sub hl [0, 1, 2, 3] rfl)
          · have hF := ifn hF c54
            refine lv_iload_n hx hb dX6_heights_57 rfl (lv_at hl 2 rfl) ?_
            refine r_iconst hx hb dX6_heights_58 (by decide) (by decide) (fun x58 e58 => ?_)
            have hF := bn hF e58
            refine lv_iload_n hx hb dX6_heights_59 rfl (lv_at hl 3 rfl) ?_
            refine x_ishl hx hb dX6_heights_60 (fun x60 e60 => ?_)
            have hF := bn hF e60
            refine x_ior hx hb dX6_heights_61 (fun x61 e61 => ?_)
            have hF := bn hF e61
            refine lv_istore_n (lv' := [(2, .int x61), (0, .ref h0), (1, .int p1), (3, .int y14_3)]) hx hb dX6_heights_62 rfl hl (by decide) rfl (fun ls hl => ?_)
            exact J63 ls _ _ x61 σ51 hF hT hS (lv_sub hl [1, 2, 0, 3] rfl)
    exact J14 5000 ls _ _ x10 x12 σ (by omega) hF hT hS (lv_sub hl [2, 3, 1, 0] rfl)
  · have hF := ifn hF c5
    refine r_iconst hx hb dX6_heights_8 (by decide) (by decide) (fun x8 e8 => ?_)
    have hF := bn hF e8
    exact rt_i hx hb hr hlk hS ⟨σ, hF, hT⟩ dX6_heights_9
theorem k_X6_shoes : cBV yX6_shoes cX6_shoes 6 (some .int) 1 := ⟨mw_3_237, mw_3_238, mw_1_1, mw_3_239, ⟨by decide, by decide, by decide⟩⟩
set_option maxHeartbeats 4000000 in
set_option maxRecDepth 100000 in
theorem c_X6_shoes (l : Launch) (z : Zt) (σ : Sg) (h0 : Nat) (g0 : zG z h0 = (16, 0)) (p1 : Int32) (out : (Int × Sg)) (hF : D_X6_shoes σ p1.toInt = some out) : Met l yX6_shoes (uw yX6_shoes cX6_shoes 6 (some .int)) (rmF 6 172) (PcW z [.ref h0, .int p1] (fun H => TY z (zA z) σ H)) (QcI z (fun r H => ∃ σ' : Sg, some (r.toInt, σ') = some out ∧ TY z (zA z) σ' H)) 0 0 (zA z) := by
  refine Met.ofW (cc := cX6_shoes) (maxL := 6) (ret := (some .int)) (by decide) rfl ?_
  intro p e s m args below meth c s₁ B hml hv
  obtain ⟨rfl, hT, hK, hSK⟩ := hv
  have hx := B.exec
  have hb := B.bytes
  have hr := B.returns
  have hts : ∀ w ∈ lw_ok, w.before ([.ref h0, .int p1] : List Value).toArray s = true := fun w hw => atoms_spec (ws := uw yX6_shoes cX6_shoes 6 (some .int)) B.pre w (List.mem_cons_of_mem _ hw)
  have hown : s.vm.findClass RX6 = some m.cls := findClass_of_methodNamed B.named
  have hlk := B.notSynchronized
  have hC : CallFix p m c cX6_shoes 6 s ([.ref h0, .int p1] : List Value).toArray lw_ok RX6 := ⟨hx, hb, hml, hown, hts⟩
  have hS : va_S (zA z) s.heap s.heap [] := va_S.rf
  have hl := lv_entry ([.ref h0, .int p1]) (n := 6) (Nat.le_of_ble_eq_true rfl)
  rw [lg_entry_eq]
  generalize (lg_sl ([.ref h0, .int p1]) ++ List.replicate (6 - (lg_sl ([.ref h0, .int p1])).length) Slot.unset).toArray = ls at hl ⊢
  have hl : lv_has ls 6 [(0, .ref h0), (1, .int p1)] := hl
  show W p l e (rmF 6 172) s m ([.ref h0, .int p1] : List Value).toArray below meth c s.heap [] 0 0 (MQ below (QcI z (fun r H => ∃ σ' : Sg, some (r.toInt, σ') = some out ∧ TY z (zA z) σ' H)) ([.ref h0, .int p1] : List Value).toArray s 0 0 (zA z)) (F0 m 0 ls [])
  unfold D_X6_shoes at hF
  have mx_p1 := i_mx p1
  refine lv_iload_n hx hb dX6_shoes_0 rfl (lv_at hl 1 rfl) ?_
  refine r_if_lt (tgt := 9) hx hb dX6_shoes_1 (by decide) (fun c1 => ?_) (fun c1 => ?_)
  · have hF := ifp hF c1
    refine r_iconst hx hb dX6_shoes_9 (by decide) (by decide) (fun x9 e9 => ?_)
    have hF := bn hF e9
    exact rt_i hx hb hr hlk hS ⟨σ, hF, hT⟩ dX6_shoes_10
  · have hF := ifn hF (Int.not_lt.mpr c1)
    refine lv_iload_n hx hb dX6_shoes_4 rfl (lv_at hl 1 rfl) ?_
    refine r_iconst hx hb dX6_shoes_5 (by decide) (by decide) (fun x5 e5 => ?_)
    have hF := bn hF e5
    refine r_icmp_le (tgt := 11) hx hb dX6_shoes_6 (by decide) (fun c6 => ?_) (fun c6 => ?_)
    · have hF := ifn hF (Int.not_lt.mpr c6)
      refine r_bipush hx hb dX6_shoes_11 rfl (fun x11 e11 => ?_)
      have hF := bn hF e11
      refine lv_istore_n (lv' := [(2, .int x11), (0, .ref h0), (1, .int p1)]) hx hb dX6_shoes_13 rfl hl (by decide) rfl (fun ls hl => ?_)
      refine r_iconst hx hb dX6_shoes_14 (by decide) (by decide) (fun x14 e14 => ?_)
      have hF := bn hF e14
      refine lv_istore_n (lv' := [(3, .int x14), (2, .int x11), (0, .ref h0), (1, .int p1)]) hx hb dX6_shoes_15 rfl hl (by decide) rfl (fun ls hl => ?_)
      refine r_iconst hx hb dX6_shoes_16 (by decide) (by decide) (fun x16 e16 => ?_)
      have hF := bn hF e16
      refine lv_istore (lv' := [(4, .int x16), (3, .int x14), (2, .int x11), (0, .ref h0), (1, .int p1)]) hx hb dX6_shoes_17 hl (by decide) rfl (fun ls hl => ?_)
      have J19 : ∀ (n19 : Nat) (ls : Array Slot) (H : Heap) (locs : List Loc) (y19_2 : Int32) (y19_3 : Int32) (y19_4 : Int32) (σj19 : Sg), (-4 ≤ y19_2.toInt ∧ y19_2.toInt ≤ 44) → (0 ≤ y19_4.toInt ∧ y19_4.toInt ≤ 5) → D_X6_shoes_19 p1.toInt n19 σj19 y19_2.toInt y19_3.toInt y19_4.toInt = some out → TY z (zA z) σj19 H → va_S (zA z) s.heap H locs → lv_has ls 6 [(0, .ref h0), (1, .int p1), (2, .int y19_2), (3, .int y19_3), (4, .int y19_4)] → W p l e (rmF 6 172) s m ([.ref h0, .int p1] : List Value).toArray below meth c H locs 0 0 (MQ below (QcI z (fun r H => ∃ σ' : Sg, some (r.toInt, σ') = some out ∧ TY z (zA z) σ' H)) ([.ref h0, .int p1] : List Value).toArray s 0 0 (zA z)) (F0 m 19 ls []) := by
        intro n19
        induction n19 with
        | zero => intro ls H locs y19_2 y19_3 y19_4 σj19 j19_y19_2 j19_y19_4 hF hT hS hl; exact (no_s hF).elim
        | succ n19 ih19 =>
          intro ls H locs y19_2 y19_3 y19_4 σj19 j19_y19_2 j19_y19_4 hF hT hS hl
          rw [D_X6_shoes_19.eq_2] at hF
          refine lv_iload hx hb dX6_shoes_19 (lv_at hl 4 rfl) ?_
          refine lv_aload_n hx hb dX6_shoes_21 rfl (lv_at hl 0 rfl) ?_
          refine gt_HeelDance_now hx hb hts ic_HeelDance hown hK hT g0 (hts _ mw_2_8) dX6_shoes_22 (fun q22 hq22 => ?_)
          refine gt_Evening_floor hx hb hts ic_Evening hown hK hT hq22 (hts _ mw_1_91) dX6_shoes_25 (fun q25 hq25 => ?_)
          refine gt_Floor_men hx hb hts ic_Floor hown hK hT hq25 (hts _ mw_1_62) dX6_shoes_28 (fun x28 e28 f28 g28 => ?_)
          have hF := bn hF e28
          refine r_icmp_ge (tgt := 163) hx hb dX6_shoes_31 (by decide) (fun c31 => ?_) (fun c31 => ?_)
          · have hF := ifn hF (Int.not_lt.mpr c31)
            refine lv_iload_n hx hb dX6_shoes_163 rfl (lv_at hl 1 rfl) ?_
            refine r_if_ne (tgt := 171) hx hb dX6_shoes_164 (by decide) (fun c164 => ?_) (fun c164 => ?_)
            · have hF := ifn hF c164
              refine lv_iload_n hx hb dX6_shoes_171 rfl (lv_at hl 3 rfl) ?_
              exact rt_i hx hb hr hlk hS ⟨σj19, hF, hT⟩ dX6_shoes_172
            · have hF := ifp hF c164
              refine lv_iload_n hx hb dX6_shoes_167 rfl (lv_at hl 2 rfl) ?_
              refine lv_goto (tgt := 172) hx hb dX6_shoes_168 (by decide) ?_
              exact rt_i hx hb hr hlk hS ⟨σj19, hF, hT⟩ dX6_shoes_172
          · have hF := ifp hF c31
            refine lv_iload hx hb dX6_shoes_34 (lv_at hl 4 rfl) ?_
            refine r_iconst hx hb dX6_shoes_36 (by decide) (by decide) (fun x36 e36 => ?_)
            have hF := bn hF e36
            refine r_iadd hx hb dX6_shoes_37 (by omega) (by omega) (fun x37 e37 => ?_)
            have hF := bn hF e37
            refine lv_istore (lv' := [(5, .int x37), (0, .ref h0), (1, .int p1), (2, .int y19_2), (3, .int y19_3), (4, .int y19_4)]) hx hb dX6_shoes_38 hl (by decide) rfl (fun ls hl => ?_)
            have J40 : ∀ (n40 : Nat) (ls : Array Slot) (H : Heap) (locs : List Loc) (y40_2 : Int32) (y40_3 : Int32) (y40_5 : Int32) (σj40 : Sg), (-4 ≤ y40_2.toInt ∧ y40_2.toInt ≤ 44) → (1 ≤ y40_5.toInt ∧ y40_5.toInt ≤ 5) → D_X6_shoes_40 (D_X6_shoes_19 p1.toInt n19) y19_4.toInt n40 σj40 y40_2.toInt y40_3.toInt y40_5.toInt = some out → TY z (zA z) σj40 H → va_S (zA z) s.heap H locs → lv_has ls 6 [(0, .ref h0), (1, .int p1), (2, .int y40_2), (3, .int y40_3), (4, .int y19_4), (5, .int y40_5)] → W p l e (rmF 6 172) s m ([.ref h0, .int p1] : List Value).toArray below meth c H locs 0 0 (MQ below (QcI z (fun r H => ∃ σ' : Sg, some (r.toInt, σ') = some out ∧ TY z (zA z) σ' H)) ([.ref h0, .int p1] : List Value).toArray s 0 0 (zA z)) (F0 m 40 ls []) := by
              intro n40
              induction n40 with
              | zero => intro ls H locs y40_2 y40_3 y40_5 σj40 j40_y40_2 j40_y40_5 hF hT hS hl; exact (no_s hF).elim
              | succ n40 ih40 =>
                intro ls H locs y40_2 y40_3 y40_5 σj40 j40_y40_2 j40_y40_5 hF hT hS hl
                rw [D_X6_shoes_40.eq_2] at hF
                refine lv_iload hx hb dX6_shoes_40 (lv_at hl 5 rfl) ?_
                refine lv_aload_n hx hb dX6_shoes_42 rfl (lv_at hl 0 rfl) ?_
                refine gt_HeelDance_now hx hb hts ic_HeelDance hown hK hT g0 (hts _ mw_2_8) dX6_shoes_43 (fun q43 hq43 => ?_)
                refine gt_Evening_floor hx hb hts ic_Evening hown hK hT hq43 (hts _ mw_1_91) dX6_shoes_46 (fun q46 hq46 => ?_)
                refine gt_Floor_men hx hb hts ic_Floor hown hK hT hq46 (hts _ mw_1_62) dX6_shoes_49 (fun x49 e49 f49 g49 => ?_)
                have hF := bn hF e49
                refine r_icmp_ge (tgt := 157) hx hb dX6_shoes_52 (by decide) (fun c52 => ?_) (fun c52 => ?_)
                · have hF := ifn hF (Int.not_lt.mpr c52)
                  refine r_iinc (lv' := fun v__ => [(4, .int v__), (0, .ref h0), (1, .int p1), (2, .int y40_2), (3, .int y40_3), (5, .int y40_5)]) hx hb dX6_shoes_157 hl (k := 4) rfl (by decide) (fun _ => rfl) ⟨by decide, by decide⟩ (by omega) (by omega) (fun x157 ls e157 hl => ?_)
                  have hF := bn hF e157
                  refine lv_goto (tgt := 19) hx hb dX6_shoes_160 (by decide) ?_
                  exact ih19 ls _ _ y40_2 y40_3 x157 σj40 (by omega) (by omega) hF hT hS (lv_sub hl [1, 2, 3, 4, 0] rfl)
                · have hF := ifp hF c52
                  refine lv_aload_n hx hb dX6_shoes_55 rfl (lv_at hl 0 rfl) ?_
                  refine gt_HeelDance_walk hx hb hts ic_HeelDance hown hK hT g0 (hts _ mw_2_11) dX6_shoes_56 (fun q56 hq56 => ?_)
                  refine gt_Walk_floor hx hb hts ic_Walk hown hK hT hq56 (hts _ mw_1_177) dX6_shoes_59 (fun q59 hq59 => ?_)
                  refine lv_aload_n hx hb dX6_shoes_62 rfl (lv_at hl 0 rfl) ?_
                  refine gt_HeelDance_now hx hb hts ic_HeelDance hown hK hT g0 (hts _ mw_2_8) dX6_shoes_63 (fun q63 hq63 => ?_)
                  refine gt_Evening_floor hx hb hts ic_Evening hown hK hT hq63 (hts _ mw_1_91) dX6_shoes_66 (fun q66 hq66 => ?_)
                  obtain ⟨s69, hd69, -⟩ := bd1_s hF
                  refine cl_Vv (rest := []) hC hK hSK (c_X1_copyFrom l z σj40 q59 (5) hq59 q66 (1) hq66 s69 hd69) k_X1_copyFrom mw_3_88 ⟨rfl, rfl, Nat.le_of_ble_eq_true rfl, Nat.le_of_ble_eq_true rfl⟩ (rv_Floor hK hT hq59) hT rfl hl.1 rfl (Nat.le_of_ble_eq_true rfl) dX6_shoes_69 ⟨Nat.zero_le _, Nat.zero_le _⟩ hS (fun _ h => h) (fun _ _ h => h) (fun H locs hpo hS => ?_)
                  obtain ⟨σ69, he69, hT⟩ := hpo
                  have hF := bd1_r hF hd69 he69
                  refine lv_aload_n hx hb dX6_shoes_72 rfl (lv_at hl 0 rfl) ?_
                  refine gt_HeelDance_walk hx hb hts ic_HeelDance hown hK hT g0 (hts _ mw_2_11) dX6_shoes_73 (fun q73 hq73 => ?_)
                  refine gt_Walk_floor hx hb hts ic_Walk hown hK hT hq73 (hts _ mw_1_177) dX6_shoes_76 (fun q76 hq76 => ?_)
                  refine gt_Floor_heels hx hb hts ic_Floor hown hK hT hq76 (hts _ mw_1_48) dX6_shoes_79 (fun q79 hq79 => ?_)
                  refine lv_iload hx hb dX6_shoes_82 (lv_at hl 4 rfl) ?_
                  refine lv_aload_n hx hb dX6_shoes_84 rfl (lv_at hl 0 rfl) ?_
                  refine gt_HeelDance_now hx hb hts ic_HeelDance hown hK hT g0 (hts _ mw_2_8) dX6_shoes_85 (fun q85 hq85 => ?_)
                  refine gt_Evening_floor hx hb hts ic_Evening hown hK hT hq85 (hts _ mw_1_91) dX6_shoes_88 (fun q88 hq88 => ?_)
                  refine gt_Floor_heels hx hb hts ic_Floor hown hK hT hq88 (hts _ mw_1_48) dX6_shoes_91 (fun q91 hq91 => ?_)
                  refine lv_iload hx hb dX6_shoes_94 (lv_at hl 5 rfl) ?_
                  refine al_53 hx hb hK hT hq91 (by omega) (by omega) dX6_shoes_96 (fun x96 e96 g96 => ?_)
                  have hF := bn hF e96
                  refine as_53 hx hb hK hT hS hq79 (by omega) (by omega) ⟨by omega, by omega⟩ dX6_shoes_97 (fun H locs hT hS => ?_)
                  obtain ⟨σ97, hF, hT⟩ := wrG hF hT
                  refine lv_aload_n hx hb dX6_shoes_98 rfl (lv_at hl 0 rfl) ?_
                  refine gt_HeelDance_walk hx hb hts ic_HeelDance hown hK hT g0 (hts _ mw_2_11) dX6_shoes_99 (fun q99 hq99 => ?_)
                  refine gt_Walk_floor hx hb hts ic_Walk hown hK hT hq99 (hts _ mw_1_177) dX6_shoes_102 (fun q102 hq102 => ?_)
                  refine gt_Floor_heels hx hb hts ic_Floor hown hK hT hq102 (hts _ mw_1_48) dX6_shoes_105 (fun q105 hq105 => ?_)
                  refine lv_iload hx hb dX6_shoes_108 (lv_at hl 5 rfl) ?_
                  refine lv_aload_n hx hb dX6_shoes_110 rfl (lv_at hl 0 rfl) ?_
                  refine gt_HeelDance_now hx hb hts ic_HeelDance hown hK hT g0 (hts _ mw_2_8) dX6_shoes_111 (fun q111 hq111 => ?_)
                  refine gt_Evening_floor hx hb hts ic_Evening hown hK hT hq111 (hts _ mw_1_91) dX6_shoes_114 (fun q114 hq114 => ?_)
                  refine gt_Floor_heels hx hb hts ic_Floor hown hK hT hq114 (hts _ mw_1_48) dX6_shoes_117 (fun q117 hq117 => ?_)
                  refine lv_iload hx hb dX6_shoes_120 (lv_at hl 4 rfl) ?_
                  refine al_53 hx hb hK hT hq117 (by omega) (by omega) dX6_shoes_122 (fun x122 e122 g122 => ?_)
                  have hF := bn hF e122
                  refine as_53 hx hb hK hT hS hq105 (by omega) (by omega) ⟨by omega, by omega⟩ dX6_shoes_123 (fun H locs hT hS => ?_)
                  obtain ⟨σ123, hF, hT⟩ := wrG hF hT
                  refine lv_aload_n hx hb dX6_shoes_124 rfl (lv_at hl 0 rfl) ?_
                  obtain ⟨v125, s125, hd125, -⟩ := bd2_s hF
                  refine cl_Vi (rest := []) hC hK hSK (c_X6_walkIsAsSeen l z σ123 h0 g0 (v125, s125) hd125) k_X6_walkIsAsSeen mw_3_228 ⟨rfl, rfl, Nat.le_of_ble_eq_true rfl, Nat.le_of_ble_eq_true rfl⟩ (rv_HeelDance hK hT g0) hT rfl hl.1 rfl (Nat.le_of_ble_eq_true rfl) dX6_shoes_125 ⟨Nat.zero_le _, Nat.zero_le _⟩ hS (fun _ h => h) (fun _ _ h => h) (fun r125 H locs hpo hS => ?_)
                  obtain ⟨σ125, he125, hT, u125_0⟩ := hpo
                  have hF := bd2_r hF hd125 he125
                  have J151 : ∀ (ls : Array Slot) (H : Heap) (locs : List Loc) (y151_2 : Int32) (y151_3 : Int32) (σj151 : Sg), (-4 ≤ y151_2.toInt ∧ y151_2.toInt ≤ 44) → D_X6_shoes_151 (D_X6_shoes_19 p1.toInt n19) (D_X6_shoes_40 (D_X6_shoes_19 p1.toInt n19) y19_4.toInt n40) y40_5.toInt σj151 y151_2.toInt y151_3.toInt = some out → TY z (zA z) σj151 H → va_S (zA z) s.heap H locs → lv_has ls 6 [(0, .ref h0), (1, .int p1), (2, .int y151_2), (3, .int y151_3), (4, .int y19_4), (5, .int y40_5)] → W p l e (rmF 6 172) s m ([.ref h0, .int p1] : List Value).toArray below meth c H locs 0 0 (MQ below (QcI z (fun r H => ∃ σ' : Sg, some (r.toInt, σ') = some out ∧ TY z (zA z) σ' H)) ([.ref h0, .int p1] : List Value).toArray s 0 0 (zA z)) (F0 m 151 ls []) := by
                    intro ls H locs y151_2 y151_3 σj151 j151_y151_2 hF hT hS hl
                    unfold D_X6_shoes_151 at hF
                    refine r_iinc (lv' := fun v__ => [(5, .int v__), (0, .ref h0), (1, .int p1), (2, .int y151_2), (3, .int y151_3), (4, .int y19_4)]) hx hb dX6_shoes_151 hl (k := 5) rfl (by decide) (fun _ => rfl) ⟨by decide, by decide⟩ (by omega) (by omega) (fun x151 ls e151 hl => ?_)
                    have hF := bn hF e151
                    refine lv_goto (tgt := 40) hx hb dX6_shoes_154 (by decide) ?_
                    exact ih40 ls _ _ y151_2 y151_3 x151 σj151 (by omega) (by omega) hF hT hS (lv_sub hl [1, 2, 3, 4, 5, 0] rfl)
                  refine r_if_eq (tgt := 151) hx hb dX6_shoes_128 (by decide) (fun c128 => ?_) (fun c128 => ?_)
                  · have hF := ifp hF c128
                    exact J151 ls _ _ y40_2 y40_3 σ125 (by omega) hF hT hS (lv_sub hl [0, 1, 2, 3, 4, 5] rfl)
                  · have hF := ifn hF c128
                    refine lv_iload_n hx hb dX6_shoes_131 rfl (lv_at hl 3 rfl) ?_
                    have J147 : ∀ (ls : Array Slot) (H : Heap) (locs : List Loc) (t147_0 : Int32) (σj147 : Sg), (-4 ≤ t147_0.toInt ∧ t147_0.toInt ≤ 44) → D_X6_shoes_147 (D_X6_shoes_19 p1.toInt n19) (D_X6_shoes_40 (D_X6_shoes_19 p1.toInt n19) y19_4.toInt n40) y40_3.toInt y40_5.toInt σj147 t147_0.toInt = some out → TY z (zA z) σj147 H → va_S (zA z) s.heap H locs → lv_has ls 6 [(0, .ref h0), (1, .int p1), (2, .int y40_2), (3, .int y40_3), (4, .int y19_4), (5, .int y40_5)] → W p l e (rmF 6 172) s m ([.ref h0, .int p1] : List Value).toArray below meth c H locs 0 0 (MQ below (QcI z (fun r H => ∃ σ' : Sg, some (r.toInt, σ') = some out ∧ TY z (zA z) σ' H)) ([.ref h0, .int p1] : List Value).toArray s 0 0 (zA z)) (F0 m 147 ls [.int t147_0]) := by
                      intro ls H locs t147_0 σj147 j147_t147_0 hF hT hS hl
                      unfold D_X6_shoes_147 at hF
                      refine lv_istore_n (lv' := [(2, .int t147_0), (0, .ref h0), (1, .int p1), (3, .int y40_3), (4, .int y19_4), (5, .int y40_5)]) hx hb dX6_shoes_147 rfl hl (by decide) rfl (fun ls hl => ?_)
                      refine x_iinc (lv' := fun v__ => [(3, .int v__), (2, .int t147_0), (0, .ref h0), (1, .int p1), (4, .int y19_4), (5, .int y40_5)]) hx hb dX6_shoes_148 hl (k := 3) rfl (by decide) (fun _ => rfl) ⟨by decide, by decide⟩ (fun x148 ls e148 hl => ?_)
                      have hF := bn hF e148
                      exact J151 ls _ _ t147_0 x148 σj147 (by omega) hF hT hS (lv_sub hl [2, 3, 1, 0, 4, 5] rfl)
                    refine r_if_ne (tgt := 146) hx hb dX6_shoes_132 (by decide) (fun c132 => ?_) (fun c132 => ?_)
                    · have hF := ifn hF c132
                      refine lv_iload_n hx hb dX6_shoes_146 rfl (lv_at hl 2 rfl) ?_
                      exact J147 ls _ _ y40_2 σ125 (by omega) hF hT hS (lv_sub hl [0, 1, 2, 3, 4, 5] rfl)
                    · have hF := ifp hF c132
                      refine r_bipush hx hb dX6_shoes_135 rfl (fun x135 e135 => ?_)
                      have hF := bn hF e135
                      refine lv_iload hx hb dX6_shoes_137 (lv_at hl 4 rfl) ?_
                      refine r_imulL (10) (by omega) hx hb dX6_shoes_139 (by omega) (by omega) (fun x139 e139 => ?_)
                      have hF := bn hF e139
                      refine lv_iload hx hb dX6_shoes_140 (lv_at hl 5 rfl) ?_
                      refine r_iadd hx hb dX6_shoes_142 (by omega) (by omega) (fun x142 e142 => ?_)
                      have hF := bn hF e142
                      refine lv_goto (tgt := 147) hx hb dX6_shoes_143 (by decide) ?_
                      exact J147 ls _ _ x142 σ125 (by omega) hF hT hS (lv_sub hl [0, 1, 2, 3, 4, 5] rfl)
            exact J40 5000 ls _ _ y19_2 y19_3 x37 σj19 (by omega) (by omega) hF hT hS (lv_sub hl [1, 2, 3, 4, 5, 0] rfl)
      exact J19 5000 ls _ _ x11 x14 x16 σ (by omega) (by omega) hF hT hS (lv_sub hl [3, 4, 2, 1, 0] rfl)
    · have hF := ifp hF c6
      refine r_iconst hx hb dX6_shoes_9 (by decide) (by decide) (fun x9 e9 => ?_)
      have hF := bn hF e9
      exact rt_i hx hb hr hlk hS ⟨σ, hF, hT⟩ dX6_shoes_10
theorem k_X6_drift : cBV yX6_drift cX6_drift 8 (some .int) 3 := ⟨mw_4_1, mw_4_2, mw_1_1, mw_4_3, ⟨by decide, by decide, by decide⟩⟩
set_option maxHeartbeats 4000000 in
set_option maxRecDepth 100000 in
theorem c_X6_drift (l : Launch) (z : Zt) (σ : Sg) (h0 : Nat) (g0 : zG z h0 = (16, 0)) (p1 : Int32) (p2 : Int32) (p3 : Int32) (out : (Int × Sg)) (hF : D_X6_drift σ p1.toInt p2.toInt p3.toInt = some out) : Met l yX6_drift (uw yX6_drift cX6_drift 8 (some .int)) (rmF 4 130) (PcW z [.ref h0, .int p1, .int p2, .int p3] (fun H => TY z (zA z) σ H)) (QcI z (fun r H => ∃ σ' : Sg, some (r.toInt, σ') = some out ∧ TY z (zA z) σ' H)) 0 0 (zA z) := by
  refine Met.ofW (cc := cX6_drift) (maxL := 8) (ret := (some .int)) (by decide) rfl ?_
  intro p e s m args below meth c s₁ B hml hv
  obtain ⟨rfl, hT, hK, hSK⟩ := hv
  have hx := B.exec
  have hb := B.bytes
  have hr := B.returns
  have hts : ∀ w ∈ lw_ok, w.before ([.ref h0, .int p1, .int p2, .int p3] : List Value).toArray s = true := fun w hw => atoms_spec (ws := uw yX6_drift cX6_drift 8 (some .int)) B.pre w (List.mem_cons_of_mem _ hw)
  have hown : s.vm.findClass RX6 = some m.cls := findClass_of_methodNamed B.named
  have hlk := B.notSynchronized
  have hC : CallFix p m c cX6_drift 8 s ([.ref h0, .int p1, .int p2, .int p3] : List Value).toArray lw_ok RX6 := ⟨hx, hb, hml, hown, hts⟩
  have hS : va_S (zA z) s.heap s.heap [] := va_S.rf
  have hl := lv_entry ([.ref h0, .int p1, .int p2, .int p3]) (n := 8) (Nat.le_of_ble_eq_true rfl)
  rw [lg_entry_eq]
  generalize (lg_sl ([.ref h0, .int p1, .int p2, .int p3]) ++ List.replicate (8 - (lg_sl ([.ref h0, .int p1, .int p2, .int p3])).length) Slot.unset).toArray = ls at hl ⊢
  have hl : lv_has ls 8 [(0, .ref h0), (1, .int p1), (2, .int p2), (3, .int p3)] := hl
  show W p l e (rmF 4 130) s m ([.ref h0, .int p1, .int p2, .int p3] : List Value).toArray below meth c s.heap [] 0 0 (MQ below (QcI z (fun r H => ∃ σ' : Sg, some (r.toInt, σ') = some out ∧ TY z (zA z) σ' H)) ([.ref h0, .int p1, .int p2, .int p3] : List Value).toArray s 0 0 (zA z)) (F0 m 0 ls [])
  unfold D_X6_drift at hF
  have mx_p1 := i_mx p1
  have mx_p2 := i_mx p2
  have mx_p3 := i_mx p3
  refine lv_iload_n hx hb dX6_drift_0 rfl (lv_at hl 2 rfl) ?_
  refine r_iconst hx hb dX6_drift_1 (by decide) (by decide) (fun x1 e1 => ?_)
  have hF := bn hF e1
  refine r_icmp_lt (tgt := 20) hx hb dX6_drift_2 (by decide) (fun c2 => ?_) (fun c2 => ?_)
  · have hF := ifp hF c2
    refine r_iconst hx hb dX6_drift_20 (by decide) (by decide) (fun x20 e20 => ?_)
    have hF := bn hF e20
    exact rt_i hx hb hr hlk hS ⟨σ, hF, hT⟩ dX6_drift_21
  · have hF := ifn hF (Int.not_lt.mpr c2)
    refine lv_iload_n hx hb dX6_drift_5 rfl (lv_at hl 2 rfl) ?_
    refine r_bipush hx hb dX6_drift_6 rfl (fun x6 e6 => ?_)
    have hF := bn hF e6
    refine r_icmp_gt (tgt := 20) hx hb dX6_drift_8 (by decide) (fun c8 => ?_) (fun c8 => ?_)
    · have hF := ifp hF c8
      refine r_iconst hx hb dX6_drift_20 (by decide) (by decide) (fun x20 e20 => ?_)
      have hF := bn hF e20
      exact rt_i hx hb hr hlk hS ⟨σ, hF, hT⟩ dX6_drift_21
    · have hF := ifn hF (Int.not_lt.mpr c8)
      refine lv_iload_n hx hb dX6_drift_11 rfl (lv_at hl 3 rfl) ?_
      refine r_if_lt (tgt := 20) hx hb dX6_drift_12 (by decide) (fun c12 => ?_) (fun c12 => ?_)
      · have hF := ifp hF c12
        refine r_iconst hx hb dX6_drift_20 (by decide) (by decide) (fun x20 e20 => ?_)
        have hF := bn hF e20
        exact rt_i hx hb hr hlk hS ⟨σ, hF, hT⟩ dX6_drift_21
      · have hF := ifn hF (Int.not_lt.mpr c12)
        refine lv_iload_n hx hb dX6_drift_15 rfl (lv_at hl 3 rfl) ?_
        refine r_iconst hx hb dX6_drift_16 (by decide) (by decide) (fun x16 e16 => ?_)
        have hF := bn hF e16
        refine r_icmp_le (tgt := 22) hx hb dX6_drift_17 (by decide) (fun c17 => ?_) (fun c17 => ?_)
        · have hF := ifn hF (Int.not_lt.mpr c17)
          refine lv_aload_n hx hb dX6_drift_22 rfl (lv_at hl 0 rfl) ?_
          refine gt_HeelDance_now hx hb hts ic_HeelDance hown hK hT g0 (hts _ mw_2_8) dX6_drift_23 (fun q23 hq23 => ?_)
          refine gt_Evening_floor hx hb hts ic_Evening hown hK hT hq23 (hts _ mw_1_91) dX6_drift_26 (fun q26 hq26 => ?_)
          refine gt_Floor_men hx hb hts ic_Floor hown hK hT hq26 (hts _ mw_1_62) dX6_drift_29 (fun x29 e29 f29 g29 => ?_)
          have hF := bn hF e29
          refine r_if_ne (tgt := 38) hx hb dX6_drift_32 (by decide) (fun c32 => ?_) (fun c32 => ?_)
          · have hF := ifn hF c32
            refine lv_aload_n hx hb dX6_drift_38 rfl (lv_at hl 0 rfl) ?_
            refine gt_HeelDance_walk hx hb hts ic_HeelDance hown hK hT g0 (hts _ mw_2_11) dX6_drift_39 (fun q39 hq39 => ?_)
            refine gt_Walk_floor hx hb hts ic_Walk hown hK hT hq39 (hts _ mw_1_177) dX6_drift_42 (fun q42 hq42 => ?_)
            refine lv_astore (lv' := [(4, .ref q42), (0, .ref h0), (1, .int p1), (2, .int p2), (3, .int p3)]) hx hb dX6_drift_45 hl (by decide) rfl (fun ls hl => ?_)
            refine lv_aload hx hb dX6_drift_47 (lv_at hl 0 rfl) ?_
            refine lv_aload_n hx hb dX6_drift_49 rfl (lv_at hl 1 rfl) ?_
            refine gt_HeelDance_now hx hb hts ic_HeelDance hown hK hT g0 (hts _ mw_2_8) dX6_drift_50 (fun q50 hq50 => ?_)
            refine gt_Evening_floor hx hb hts ic_Evening hown hK hT hq50 (hts _ mw_1_91) dX6_drift_53 (fun q53 hq53 => ?_)
            obtain ⟨s56, hd56, -⟩ := bd1_s hF
            refine cl_Vv (rest := []) hC hK hSK (c_X1_copyFrom l z σ q42 (5) hq42 q53 (1) hq53 s56 hd56) k_X1_copyFrom mw_3_88 ⟨rfl, rfl, Nat.le_of_ble_eq_true rfl, Nat.le_of_ble_eq_true rfl⟩ (rv_Floor hK hT hq42) hT rfl hl.1 rfl (Nat.le_of_ble_eq_true rfl) dX6_drift_56 ⟨Nat.zero_le _, Nat.zero_le _⟩ hS (fun _ h => h) (fun _ _ h => h) (fun H locs hpo hS => ?_)
            obtain ⟨σ56, he56, hT⟩ := hpo
            have hF := bd1_r hF hd56 he56
            refine lv_iload_n hx hb dX6_drift_59 rfl (lv_at hl 2 rfl) ?_
            refine lv_istore (lv' := [(5, .int p1), (4, .ref q42), (0, .ref h0), (1, .int p1), (2, .int p2), (3, .int p3)]) hx hb dX6_drift_60 hl (by decide) rfl (fun ls hl => ?_)
            refine r_iconst hx hb dX6_drift_62 (by decide) (by decide) (fun x62 e62 => ?_)
            have hF := bn hF e62
            refine lv_istore (lv' := [(6, .int x62), (5, .int p1), (4, .ref q42), (0, .ref h0), (1, .int p1), (2, .int p2), (3, .int p3)]) hx hb dX6_drift_63 hl (by decide) rfl (fun ls hl => ?_)
            refine r_iconst hx hb dX6_drift_65 (by decide) (by decide) (fun x65 e65 => ?_)
            have hF := bn hF e65
            refine lv_istore (lv' := [(7, .int x65), (6, .int x62), (5, .int p1), (4, .ref q42), (0, .ref h0), (1, .int p1), (2, .int p2), (3, .int p3)]) hx hb dX6_drift_66 hl (by decide) rfl (fun ls hl => ?_)
            have J68 : ∀ (n68 : Nat) (ls : Array Slot) (H : Heap) (locs : List Loc) (y68_5 : Int32) (y68_6 : Int32) (y68_7 : Int32) (σj68 : Sg), (0 ≤ y68_7.toInt ∧ y68_7.toInt ≤ 60) → D_X6_drift_68 p2.toInt p3.toInt n68 σj68 y68_5.toInt y68_6.toInt y68_7.toInt = some out → TY z (zA z) σj68 H → va_S (zA z) s.heap H locs → lv_has ls 8 [(0, .ref h0), (1, .int p1), (2, .int p2), (3, .int p3), (4, .ref q42), (5, .int y68_5), (6, .int y68_6), (7, .int y68_7)] → W p l e (rmF 4 130) s m ([.ref h0, .int p1, .int p2, .int p3] : List Value).toArray below meth c H locs 0 0 (MQ below (QcI z (fun r H => ∃ σ' : Sg, some (r.toInt, σ') = some out ∧ TY z (zA z) σ' H)) ([.ref h0, .int p1, .int p2, .int p3] : List Value).toArray s 0 0 (zA z)) (F0 m 68 ls []) := by
              intro n68
              induction n68 with
              | zero => intro ls H locs y68_5 y68_6 y68_7 σj68 j68_y68_7 hF hT hS hl; exact (no_s hF).elim
              | succ n68 ih68 =>
                intro ls H locs y68_5 y68_6 y68_7 σj68 j68_y68_7 hF hT hS hl
                rw [D_X6_drift_68.eq_2] at hF
                refine lv_iload hx hb dX6_drift_68 (lv_at hl 7 rfl) ?_
                refine lv_iload_n hx hb dX6_drift_70 rfl (lv_at hl 2 rfl) ?_
                refine r_icmp_ge (tgt := 120) hx hb dX6_drift_71 (by decide) (fun c71 => ?_) (fun c71 => ?_)
                · have hF := ifn hF (Int.not_lt.mpr c71)
                  refine lv_iload_n hx hb dX6_drift_120 rfl (lv_at hl 3 rfl) ?_
                  refine r_if_ne (tgt := 129) hx hb dX6_drift_121 (by decide) (fun c121 => ?_) (fun c121 => ?_)
                  · have hF := ifn hF c121
                    refine lv_aload hx hb dX6_drift_129 (lv_at hl 4 rfl) ?_
                    refine gt_Floor_partner hx hb hts ic_Floor hown hK hT hq42 (hts _ mw_1_54) dX6_drift_131 (fun q131 hq131 => ?_)
                    refine r_iconst hx hb dX6_drift_134 (by decide) (by decide) (fun x134 e134 => ?_)
                    have hF := bn hF e134
                    refine al_27 hx hb hK hT hq131 (by omega) (by omega) dX6_drift_135 (fun x135 e135 g135 => ?_)
                    have hF := bn hF e135
                    exact rt_i hx hb hr hlk hS ⟨σj68, hF, hT⟩ dX6_drift_136
                  · have hF := ifp hF c121
                    refine lv_iload hx hb dX6_drift_124 (lv_at hl 6 rfl) ?_
                    refine lv_goto (tgt := 136) hx hb dX6_drift_126 (by decide) ?_
                    exact rt_i hx hb hr hlk hS ⟨σj68, hF, hT⟩ dX6_drift_136
                · have hF := ifp hF c71
                  refine lv_iload hx hb dX6_drift_74 (lv_at hl 5 rfl) ?_
                  refine r_ldc (1103515245) rfl hx hb hts hown mw_4_4 dX6_drift_76 (fun x76 e76 => ?_)
                  have hF := bn hF e76
                  refine x_imul hx hb dX6_drift_78 (fun x78 e78 => ?_)
                  have hF := bn hF e78
                  refine r_sipush hx hb dX6_drift_79 rfl (fun x79 e79 => ?_)
                  have hF := bn hF e79
                  refine x_iadd hx hb dX6_drift_82 (fun x82 e82 => ?_)
                  have hF := bn hF e82
                  refine lv_istore (lv' := [(5, .int x82), (0, .ref h0), (1, .int p1), (2, .int p2), (3, .int p3), (4, .ref q42), (6, .int y68_6), (7, .int y68_7)]) hx hb dX6_drift_83 hl (by decide) rfl (fun ls hl => ?_)
                  refine lv_aload hx hb dX6_drift_85 (lv_at hl 5 rfl) ?_
                  refine lv_iload hx hb dX6_drift_87 (lv_at hl 0 rfl) ?_
                  refine r_bipush hx hb dX6_drift_89 rfl (fun x89 e89 => ?_)
                  have hF := bn hF e89
                  refine x_iushr hx hb dX6_drift_91 (fun x91 e91 => ?_)
                  have hF := bn hF e91
                  refine r_sipush hx hb dX6_drift_92 rfl (fun x92 e92 => ?_)
                  have hF := bn hF e92
                  refine x_iandr hx hb dX6_drift_95 (by omega) (fun x95 e95 g95 h95 => ?_)
                  have hF := bn hF e95
                  refine r_iconst hx hb dX6_drift_96 (by decide) (by decide) (fun x96 e96 => ?_)
                  have hF := bn hF e96
                  refine r_irem hx hb dX6_drift_97 (by omega) (by omega) (fun x97 e97 g97 h97 => ?_)
                  have hF := bn hF e97
                  obtain ⟨s98, hd98, -⟩ := bd1_s hF
                  refine cl_Vv (rest := []) hC hK hSK (c_X1_step l z σj68 q42 (5) hq42 x97 s98 hd98) k_X1_step mw_3_55 ⟨rfl, rfl, Nat.le_of_ble_eq_true rfl, Nat.le_of_ble_eq_true rfl⟩ (rv_Floor hK hT hq42) hT rfl hl.1 rfl (Nat.le_of_ble_eq_true rfl) dX6_drift_98 ⟨Nat.zero_le _, Nat.zero_le _⟩ hS (fun _ h => h) (fun _ _ h => h) (fun H locs hpo hS => ?_)
                  obtain ⟨σ98, he98, hf98, hT⟩ := hpo
                  have hF := bd1_r hF hd98 he98
                  have hF := gsL hF hf98
                  refine lv_iload hx hb dX6_drift_101 (lv_at hl 6 rfl) ?_
                  refine lv_aload hx hb dX6_drift_103 (lv_at hl 5 rfl) ?_
                  obtain ⟨v105, hd105, -⟩ := bd0_s hF
                  refine cl_Vi (rest := [.int y68_6]) hC hK hSK (c_X1_roundBits l z σ98 q42 (5) hq42 v105 hd105) k_X1_roundBits mw_2_217 ⟨rfl, rfl, Nat.le_of_ble_eq_true rfl, Nat.le_of_ble_eq_true rfl⟩ (rv_Floor hK hT hq42) hT rfl hl.1 rfl (Nat.le_of_ble_eq_true rfl) dX6_drift_105 ⟨Nat.zero_le _, Nat.zero_le _⟩ hS (fun _ h => h) (fun _ _ h => h) (fun r105 H locs hpo hS => ?_)
                  obtain ⟨he105, hT⟩ := hpo
                  have hF := bd0_r hF hd105 he105
                  obtain ⟨v108, hd108, -⟩ := bd0_s hF
                  refine cl_Si (rest := [.int y68_6]) hC hK hSK (c_bitCount l z σ98 r105 v108 hd108) k_J6_bitCount_0f7a4 mw_3_79 ⟨rfl, rfl, Nat.le_of_ble_eq_true rfl, Nat.le_of_ble_eq_true rfl⟩ hT rfl hl.1 rfl (Nat.le_of_ble_eq_true rfl) dX6_drift_108 ⟨Nat.zero_le _, Nat.zero_le _⟩ hS (fun _ h => h) (fun _ _ h => h) (fun r108 H locs hpo hS => ?_)
                  obtain ⟨he108, hT, u108_0⟩ := hpo
                  have hF := bd0_r hF hd108 he108
                  refine x_iadd hx hb dX6_drift_111 (fun x111 e111 => ?_)
                  have hF := bn hF e111
                  refine lv_istore (lv' := [(6, .int x111), (5, .int x82), (0, .ref h0), (1, .int p1), (2, .int p2), (3, .int p3), (4, .ref q42), (7, .int y68_7)]) hx hb dX6_drift_112 hl (by decide) rfl (fun ls hl => ?_)
                  refine r_iinc (lv' := fun v__ => [(7, .int v__), (6, .int x111), (5, .int x82), (0, .ref h0), (1, .int p1), (2, .int p2), (3, .int p3), (4, .ref q42)]) hx hb dX6_drift_114 hl (k := 7) rfl (by decide) (fun _ => rfl) ⟨by decide, by decide⟩ (by omega) (by omega) (fun x114 ls e114 hl => ?_)
                  have hF := bn hF e114
                  refine lv_goto (tgt := 68) hx hb dX6_drift_117 (by decide) ?_
                  exact ih68 ls _ _ x82 x111 x114 σ98 (by omega) hF hT hS (lv_sub hl [3, 4, 5, 6, 7, 2, 1, 0] rfl)
            exact J68 5000 ls _ _ p1 x62 x65 σ56 (by omega) hF hT hS (lv_sub hl [4, 5, 6, 7, 3, 2, 1, 0] rfl)
          · have hF := ifp hF c32
            refine r_bipush hx hb dX6_drift_35 rfl (fun x35 e35 => ?_)
            have hF := bn hF e35
            exact rt_i hx hb hr hlk hS ⟨σ, hF, hT⟩ dX6_drift_37
        · have hF := ifp hF c17
          refine r_iconst hx hb dX6_drift_20 (by decide) (by decide) (fun x20 e20 => ?_)
          have hF := bn hF e20
          exact rt_i hx hb hr hlk hS ⟨σ, hF, hT⟩ dX6_drift_21
theorem k_X6_keep : cBV yX6_keep cX6_keep 3 (some .int) 1 := ⟨mw_4_6, mw_4_7, mw_1_1, mw_4_8, ⟨by decide, by decide, by decide⟩⟩
set_option maxHeartbeats 4000000 in
set_option maxRecDepth 100000 in
theorem c_X6_keep (l : Launch) (z : Zt) (σ : Sg) (h0 : Nat) (g0 : zG z h0 = (16, 0)) (p1 : Int32) (out : (Int × Sg)) (hF : D_X6_keep σ p1.toInt = some out) : Met l yX6_keep (uw yX6_keep cX6_keep 3 (some .int)) (rmF 3 107) (PcW z [.ref h0, .int p1] (fun H => TY z (zA z) σ H)) (QcI z (fun r H => ∃ σ' : Sg, some (r.toInt, σ') = some out ∧ TY z (zA z) σ' H)) 0 0 (zA z) := by
  refine Met.ofW (cc := cX6_keep) (maxL := 3) (ret := (some .int)) (by decide) rfl ?_
  intro p e s m args below meth c s₁ B hml hv
  obtain ⟨rfl, hT, hK, hSK⟩ := hv
  have hx := B.exec
  have hb := B.bytes
  have hr := B.returns
  have hts : ∀ w ∈ lw_ok, w.before ([.ref h0, .int p1] : List Value).toArray s = true := fun w hw => atoms_spec (ws := uw yX6_keep cX6_keep 3 (some .int)) B.pre w (List.mem_cons_of_mem _ hw)
  have hown : s.vm.findClass RX6 = some m.cls := findClass_of_methodNamed B.named
  have hlk := B.notSynchronized
  have hC : CallFix p m c cX6_keep 3 s ([.ref h0, .int p1] : List Value).toArray lw_ok RX6 := ⟨hx, hb, hml, hown, hts⟩
  have hS : va_S (zA z) s.heap s.heap [] := va_S.rf
  have hl := lv_entry ([.ref h0, .int p1]) (n := 3) (Nat.le_of_ble_eq_true rfl)
  rw [lg_entry_eq]
  generalize (lg_sl ([.ref h0, .int p1]) ++ List.replicate (3 - (lg_sl ([.ref h0, .int p1])).length) Slot.unset).toArray = ls at hl ⊢
  have hl : lv_has ls 3 [(0, .ref h0), (1, .int p1)] := hl
  show W p l e (rmF 3 107) s m ([.ref h0, .int p1] : List Value).toArray below meth c s.heap [] 0 0 (MQ below (QcI z (fun r H => ∃ σ' : Sg, some (r.toInt, σ') = some out ∧ TY z (zA z) σ' H)) ([.ref h0, .int p1] : List Value).toArray s 0 0 (zA z)) (F0 m 0 ls [])
  unfold D_X6_keep at hF
  have mx_p1 := i_mx p1
  refine lv_iload_n hx hb dX6_keep_0 rfl (lv_at hl 1 rfl) ?_
  refine r_if_lt (tgt := 9) hx hb dX6_keep_1 (by decide) (fun c1 => ?_) (fun c1 => ?_)
  · have hF := ifp hF c1
    refine r_iconst hx hb dX6_keep_9 (by decide) (by decide) (fun x9 e9 => ?_)
    have hF := bn hF e9
    exact rt_i hx hb hr hlk hS ⟨σ, hF, hT⟩ dX6_keep_10
  · have hF := ifn hF (Int.not_lt.mpr c1)
    refine lv_iload_n hx hb dX6_keep_4 rfl (lv_at hl 1 rfl) ?_
    refine r_iconst hx hb dX6_keep_5 (by decide) (by decide) (fun x5 e5 => ?_)
    have hF := bn hF e5
    refine r_icmp_lt (tgt := 11) hx hb dX6_keep_6 (by decide) (fun c6 => ?_) (fun c6 => ?_)
    · have hF := ifp hF c6
      refine lv_aload_n hx hb dX6_keep_11 rfl (lv_at hl 0 rfl) ?_
      refine gt_HeelDance_kept hx hb hts ic_HeelDance hown hK hT g0 (hts _ mw_2_10) dX6_keep_12 (fun q12 hq12 => ?_)
      refine lv_iload_n hx hb dX6_keep_15 rfl (lv_at hl 1 rfl) ?_
      refine al_33 hx hb hK hT hq12 (by omega) (by omega) dX6_keep_16 (fun x16 e16 g16 => ?_)
      have hF := bn hF e16
      have J25 : ∀ (ls : Array Slot) (H : Heap) (locs : List Loc) (t25_0 : Int32) (σj25 : Sg), (0 ≤ t25_0.toInt ∧ t25_0.toInt ≤ 1) → D_X6_keep_25 p1.toInt σj25 t25_0.toInt = some out → TY z (zA z) σj25 H → va_S (zA z) s.heap H locs → lv_has ls 3 [(0, .ref h0), (1, .int p1)] → W p l e (rmF 3 107) s m ([.ref h0, .int p1] : List Value).toArray below meth c H locs 0 0 (MQ below (QcI z (fun r H => ∃ σ' : Sg, some (r.toInt, σ') = some out ∧ TY z (zA z) σ' H)) ([.ref h0, .int p1] : List Value).toArray s 0 0 (zA z)) (F0 m 25 ls [.int t25_0]) := by
        intro ls H locs t25_0 σj25 j25_t25_0 hF hT hS hl
        unfold D_X6_keep_25 at hF
        refine lv_istore_n (lv' := [(2, .int t25_0), (0, .ref h0), (1, .int p1)]) hx hb dX6_keep_25 rfl hl (by decide) rfl (fun ls hl => ?_)
        refine lv_aload_n hx hb dX6_keep_26 rfl (lv_at hl 1 rfl) ?_
        refine gt_HeelDance_images hx hb hts ic_HeelDance hown hK hT g0 (hts _ mw_2_9) dX6_keep_27 (fun q27 hq27 => ?_)
        refine lv_iload_n hx hb dX6_keep_30 rfl (lv_at hl 2 rfl) ?_
        refine al_36 hx hb hK hT hq27 (by omega) (by omega) dX6_keep_31 (fun q31 hq31 => ?_)
        refine lv_aload_n hx hb dX6_keep_32 rfl (lv_at hl 1 rfl) ?_
        refine gt_HeelDance_now hx hb hts ic_HeelDance hown hK hT g0 (hts _ mw_2_8) dX6_keep_33 (fun q33 hq33 => ?_)
        obtain ⟨s36, hd36, -⟩ := bd1_s hF
        refine cl_Vv (rest := []) hC hK hSK (c_X0_copyFrom l z σj25 q31 (3 + p1.toInt.toNat) hq31 q33 (1) hq33 s36 hd36) k_X0_copyFrom mw_2_196 ⟨rfl, rfl, Nat.le_of_ble_eq_true rfl, Nat.le_of_ble_eq_true rfl⟩ (rv_Evening hK hT hq31) hT rfl hl.1 rfl (Nat.le_of_ble_eq_true rfl) dX6_keep_36 ⟨Nat.zero_le _, Nat.zero_le _⟩ hS (fun _ h => h) (fun _ _ h => h) (fun H locs hpo hS => ?_)
        obtain ⟨σ36, he36, hT⟩ := hpo
        have hF := bd1_r hF hd36 he36
        refine lv_aload_n hx hb dX6_keep_39 rfl (lv_at hl 1 rfl) ?_
        refine gt_HeelDance_kept hx hb hts ic_HeelDance hown hK hT g0 (hts _ mw_2_10) dX6_keep_40 (fun q40 hq40 => ?_)
        refine lv_iload_n hx hb dX6_keep_43 rfl (lv_at hl 2 rfl) ?_
        refine r_iconst hx hb dX6_keep_44 (by decide) (by decide) (fun x44 e44 => ?_)
        have hF := bn hF e44
        refine as_33 hx hb hK hT hS hq40 (by omega) (by omega) ⟨by omega, by omega⟩ dX6_keep_45 (fun H locs hT hS => ?_)
        obtain ⟨σ45, hF, hT⟩ := wrG hF hT
        refine lv_iload_n hx hb dX6_keep_46 rfl (lv_at hl 0 rfl) ?_
        exact rt_i hx hb hr hlk hS ⟨σ45, hF, hT⟩ dX6_keep_47
      refine r_if_eq (tgt := 24) hx hb dX6_keep_17 (by decide) (fun c17 => ?_) (fun c17 => ?_)
      · have hF := ifp hF c17
        refine r_iconst hx hb dX6_keep_24 (by decide) (by decide) (fun x24 e24 => ?_)
        have hF := bn hF e24
        exact J25 ls _ _ x24 σ (by omega) hF hT hS (lv_sub hl [0, 1] rfl)
      · have hF := ifn hF c17
        refine r_iconst hx hb dX6_keep_20 (by decide) (by decide) (fun x20 e20 => ?_)
        have hF := bn hF e20
        refine lv_goto (tgt := 25) hx hb dX6_keep_21 (by decide) ?_
        exact J25 ls _ _ x20 σ (by omega) hF hT hS (lv_sub hl [0, 1] rfl)
    · have hF := ifn hF (Int.not_lt.mpr c6)
      refine r_iconst hx hb dX6_keep_9 (by decide) (by decide) (fun x9 e9 => ?_)
      have hF := bn hF e9
      exact rt_i hx hb hr hlk hS ⟨σ, hF, hT⟩ dX6_keep_10
theorem k_X6_back : cBV yX6_back cX6_back 2 (some .int) 1 := ⟨mw_4_10, mw_4_11, mw_1_1, mw_4_12, ⟨by decide, by decide, by decide⟩⟩
set_option maxHeartbeats 4000000 in
set_option maxRecDepth 100000 in
theorem c_X6_back (l : Launch) (z : Zt) (σ : Sg) (h0 : Nat) (g0 : zG z h0 = (16, 0)) (p1 : Int32) (out : (Int × Sg)) (hF : D_X6_back σ p1.toInt = some out) : Met l yX6_back (uw yX6_back cX6_back 2 (some .int)) (rmF 3 107) (PcW z [.ref h0, .int p1] (fun H => TY z (zA z) σ H)) (QcI z (fun r H => ∃ σ' : Sg, some (r.toInt, σ') = some out ∧ TY z (zA z) σ' H)) 0 0 (zA z) := by
  refine Met.ofW (cc := cX6_back) (maxL := 2) (ret := (some .int)) (by decide) rfl ?_
  intro p e s m args below meth c s₁ B hml hv
  obtain ⟨rfl, hT, hK, hSK⟩ := hv
  have hx := B.exec
  have hb := B.bytes
  have hr := B.returns
  have hts : ∀ w ∈ lw_ok, w.before ([.ref h0, .int p1] : List Value).toArray s = true := fun w hw => atoms_spec (ws := uw yX6_back cX6_back 2 (some .int)) B.pre w (List.mem_cons_of_mem _ hw)
  have hown : s.vm.findClass RX6 = some m.cls := findClass_of_methodNamed B.named
  have hlk := B.notSynchronized
  have hC : CallFix p m c cX6_back 2 s ([.ref h0, .int p1] : List Value).toArray lw_ok RX6 := ⟨hx, hb, hml, hown, hts⟩
  have hS : va_S (zA z) s.heap s.heap [] := va_S.rf
  have hl := lv_entry ([.ref h0, .int p1]) (n := 2) (Nat.le_of_ble_eq_true rfl)
  rw [lg_entry_eq]
  generalize (lg_sl ([.ref h0, .int p1]) ++ List.replicate (2 - (lg_sl ([.ref h0, .int p1])).length) Slot.unset).toArray = ls at hl ⊢
  have hl : lv_has ls 2 [(0, .ref h0), (1, .int p1)] := hl
  show W p l e (rmF 3 107) s m ([.ref h0, .int p1] : List Value).toArray below meth c s.heap [] 0 0 (MQ below (QcI z (fun r H => ∃ σ' : Sg, some (r.toInt, σ') = some out ∧ TY z (zA z) σ' H)) ([.ref h0, .int p1] : List Value).toArray s 0 0 (zA z)) (F0 m 0 ls [])
  unfold D_X6_back at hF
  have mx_p1 := i_mx p1
  refine lv_iload_n hx hb dX6_back_0 rfl (lv_at hl 1 rfl) ?_
  refine r_if_lt (tgt := 9) hx hb dX6_back_1 (by decide) (fun c1 => ?_) (fun c1 => ?_)
  · have hF := ifp hF c1
    refine r_iconst hx hb dX6_back_9 (by decide) (by decide) (fun x9 e9 => ?_)
    have hF := bn hF e9
    exact rt_i hx hb hr hlk hS ⟨σ, hF, hT⟩ dX6_back_10
  · have hF := ifn hF (Int.not_lt.mpr c1)
    refine lv_iload_n hx hb dX6_back_4 rfl (lv_at hl 1 rfl) ?_
    refine r_iconst hx hb dX6_back_5 (by decide) (by decide) (fun x5 e5 => ?_)
    have hF := bn hF e5
    refine r_icmp_lt (tgt := 11) hx hb dX6_back_6 (by decide) (fun c6 => ?_) (fun c6 => ?_)
    · have hF := ifp hF c6
      refine lv_aload_n hx hb dX6_back_11 rfl (lv_at hl 0 rfl) ?_
      refine gt_HeelDance_kept hx hb hts ic_HeelDance hown hK hT g0 (hts _ mw_2_10) dX6_back_12 (fun q12 hq12 => ?_)
      refine lv_iload_n hx hb dX6_back_15 rfl (lv_at hl 1 rfl) ?_
      refine al_33 hx hb hK hT hq12 (by omega) (by omega) dX6_back_16 (fun x16 e16 g16 => ?_)
      have hF := bn hF e16
      refine r_if_ne (tgt := 23) hx hb dX6_back_17 (by decide) (fun c17 => ?_) (fun c17 => ?_)
      · have hF := ifn hF c17
        refine lv_aload_n hx hb dX6_back_23 rfl (lv_at hl 0 rfl) ?_
        refine gt_HeelDance_now hx hb hts ic_HeelDance hown hK hT g0 (hts _ mw_2_8) dX6_back_24 (fun q24 hq24 => ?_)
        refine lv_aload_n hx hb dX6_back_27 rfl (lv_at hl 0 rfl) ?_
        refine gt_HeelDance_images hx hb hts ic_HeelDance hown hK hT g0 (hts _ mw_2_9) dX6_back_28 (fun q28 hq28 => ?_)
        refine lv_iload_n hx hb dX6_back_31 rfl (lv_at hl 1 rfl) ?_
        refine al_36 hx hb hK hT hq28 (by omega) (by omega) dX6_back_32 (fun q32 hq32 => ?_)
        obtain ⟨s33, hd33, -⟩ := bd1_s hF
        refine cl_Vv (rest := []) hC hK hSK (c_X0_copyFrom l z σ q24 (1) hq24 q32 (3 + p1.toInt.toNat) hq32 s33 hd33) k_X0_copyFrom mw_2_196 ⟨rfl, rfl, Nat.le_of_ble_eq_true rfl, Nat.le_of_ble_eq_true rfl⟩ (rv_Evening hK hT hq24) hT rfl hl.1 rfl (Nat.le_of_ble_eq_true rfl) dX6_back_33 ⟨Nat.zero_le _, Nat.zero_le _⟩ hS (fun _ h => h) (fun _ _ h => h) (fun H locs hpo hS => ?_)
        obtain ⟨σ33, he33, hT⟩ := hpo
        have hF := bd1_r hF hd33 he33
        refine lv_aload_n hx hb dX6_back_36 rfl (lv_at hl 0 rfl) ?_
        refine gt_HeelDance_now hx hb hts ic_HeelDance hown hK hT g0 (hts _ mw_2_8) dX6_back_37 (fun q37 hq37 => ?_)
        refine gt_Evening_floor hx hb hts ic_Evening hown hK hT hq37 (hts _ mw_1_91) dX6_back_40 (fun q40 hq40 => ?_)
        refine gt_Floor_danced hx hb hts ic_Floor hown hK hT hq40 (hts _ mw_1_66) dX6_back_43 (fun x43 e43 f43 g43 => ?_)
        have hF := bn hF e43
        exact rt_i hx hb hr hlk hS ⟨σ33, hF, hT⟩ dX6_back_46
      · have hF := ifp hF c17
        refine r_bipush hx hb dX6_back_20 rfl (fun x20 e20 => ?_)
        have hF := bn hF e20
        exact rt_i hx hb hr hlk hS ⟨σ, hF, hT⟩ dX6_back_22
    · have hF := ifn hF (Int.not_lt.mpr c6)
      refine r_iconst hx hb dX6_back_9 (by decide) (by decide) (fun x9 e9 => ?_)
      have hF := bn hF e9
      exact rt_i hx hb hr hlk hS ⟨σ, hF, hT⟩ dX6_back_10
theorem k_X6_sheet : cBV yX6_sheet cX6_sheet 4 (some .int) 3 := ⟨mw_4_14, mw_4_15, mw_1_1, mw_4_16, ⟨by decide, by decide, by decide⟩⟩
set_option maxHeartbeats 4000000 in
set_option maxRecDepth 100000 in
theorem c_X6_sheet (l : Launch) (z : Zt) (σ : Sg) (h0 : Nat) (g0 : zG z h0 = (16, 0)) (p1 : Int32) (p2 : Int32) (p3 : Int32) (out : (Int × Sg)) (hF : D_X6_sheet σ p1.toInt p2.toInt p3.toInt = some out) : Met l yX6_sheet (uw yX6_sheet cX6_sheet 4 (some .int)) (rmF 3 109) (PcW z [.ref h0, .int p1, .int p2, .int p3] (fun H => TY z (zA z) σ H)) (QcI z (fun r H => ∃ σ' : Sg, some (r.toInt, σ') = some out ∧ TY z (zA z) σ' H)) 0 0 (zA z) := by
  refine Met.ofW (cc := cX6_sheet) (maxL := 4) (ret := (some .int)) (by decide) rfl ?_
  intro p e s m args below meth c s₁ B hml hv
  obtain ⟨rfl, hT, hK, hSK⟩ := hv
  have hx := B.exec
  have hb := B.bytes
  have hr := B.returns
  have hts : ∀ w ∈ lw_ok, w.before ([.ref h0, .int p1, .int p2, .int p3] : List Value).toArray s = true := fun w hw => atoms_spec (ws := uw yX6_sheet cX6_sheet 4 (some .int)) B.pre w (List.mem_cons_of_mem _ hw)
  have hown : s.vm.findClass RX6 = some m.cls := findClass_of_methodNamed B.named
  have hlk := B.notSynchronized
  have hC : CallFix p m c cX6_sheet 4 s ([.ref h0, .int p1, .int p2, .int p3] : List Value).toArray lw_ok RX6 := ⟨hx, hb, hml, hown, hts⟩
  have hS : va_S (zA z) s.heap s.heap [] := va_S.rf
  have hl := lv_entry ([.ref h0, .int p1, .int p2, .int p3]) (n := 4) (Nat.le_of_ble_eq_true rfl)
  rw [lg_entry_eq]
  generalize (lg_sl ([.ref h0, .int p1, .int p2, .int p3]) ++ List.replicate (4 - (lg_sl ([.ref h0, .int p1, .int p2, .int p3])).length) Slot.unset).toArray = ls at hl ⊢
  have hl : lv_has ls 4 [(0, .ref h0), (1, .int p1), (2, .int p2), (3, .int p3)] := hl
  show W p l e (rmF 3 109) s m ([.ref h0, .int p1, .int p2, .int p3] : List Value).toArray below meth c s.heap [] 0 0 (MQ below (QcI z (fun r H => ∃ σ' : Sg, some (r.toInt, σ') = some out ∧ TY z (zA z) σ' H)) ([.ref h0, .int p1, .int p2, .int p3] : List Value).toArray s 0 0 (zA z)) (F0 m 0 ls [])
  unfold D_X6_sheet at hF
  have mx_p1 := i_mx p1
  have mx_p2 := i_mx p2
  have mx_p3 := i_mx p3
  refine lv_iload_n hx hb dX6_sheet_0 rfl (lv_at hl 1 rfl) ?_
  obtain ⟨v1, hd1, -⟩ := bd0_s hF
  refine cl_Si (rest := []) hC hK hSK (c_X6_isNoSheet l z σ p1 v1 hd1) k_X6_isNoSheet mw_4_17 ⟨rfl, rfl, Nat.le_of_ble_eq_true rfl, Nat.le_of_ble_eq_true rfl⟩ hT rfl hl.1 rfl (Nat.le_of_ble_eq_true rfl) dX6_sheet_1 ⟨Nat.zero_le _, Nat.zero_le _⟩ hS (fun _ h => h) (fun _ _ h => h) (fun r1 H locs hpo hS => ?_)
  obtain ⟨he1, hT, u1_0, u1_1⟩ := hpo
  have hF := bd0_r hF hd1 he1
  refine r_if_ne (tgt := 20) hx hb dX6_sheet_4 (by decide) (fun c4 => ?_) (fun c4 => ?_)
  · have hF := ifn hF c4
    refine r_iconst hx hb dX6_sheet_20 (by decide) (by decide) (fun x20 e20 => ?_)
    have hF := bn hF e20
    exact rt_i hx hb hr hlk hS ⟨σ, hF, hT⟩ dX6_sheet_21
  · have hF := ifp hF c4
    refine lv_iload_n hx hb dX6_sheet_7 rfl (lv_at hl 2 rfl) ?_
    obtain ⟨v8, hd8, -⟩ := bd0_s hF
    refine cl_Si (rest := []) hC hK hSK (c_X6_isNoLane l z σ p2 v8 hd8) k_X6_isNoLane mw_4_20 ⟨rfl, rfl, Nat.le_of_ble_eq_true rfl, Nat.le_of_ble_eq_true rfl⟩ hT rfl hl.1 rfl (Nat.le_of_ble_eq_true rfl) dX6_sheet_8 ⟨Nat.zero_le _, Nat.zero_le _⟩ hS (fun _ h => h) (fun _ _ h => h) (fun r8 H locs hpo hS => ?_)
    obtain ⟨he8, hT, u8_0, u8_1⟩ := hpo
    have hF := bd0_r hF hd8 he8
    refine r_if_ne (tgt := 20) hx hb dX6_sheet_11 (by decide) (fun c11 => ?_) (fun c11 => ?_)
    · have hF := ifn hF c11
      refine r_iconst hx hb dX6_sheet_20 (by decide) (by decide) (fun x20 e20 => ?_)
      have hF := bn hF e20
      exact rt_i hx hb hr hlk hS ⟨σ, hF, hT⟩ dX6_sheet_21
    · have hF := ifp hF c11
      refine lv_iload_n hx hb dX6_sheet_14 rfl (lv_at hl 3 rfl) ?_
      refine r_bipush hx hb dX6_sheet_15 rfl (fun x15 e15 => ?_)
      have hF := bn hF e15
      refine r_icmp_le (tgt := 22) hx hb dX6_sheet_17 (by decide) (fun c17 => ?_) (fun c17 => ?_)
      · have hF := ifn hF (Int.not_lt.mpr c17)
        refine lv_iload_n hx hb dX6_sheet_22 rfl (lv_at hl 3 rfl) ?_
        refine r_if_ge (tgt := 29) hx hb dX6_sheet_23 (by decide) (fun c23 => ?_) (fun c23 => ?_)
        · have hF := ifn hF (Int.not_lt.mpr c23)
          refine lv_aload_n hx hb dX6_sheet_29 rfl (lv_at hl 0 rfl) ?_
          refine gt_HeelDance_sheets hx hb hts ic_HeelDance hown hK hT g0 (hts _ mw_2_13) dX6_sheet_30 (fun q30 hq30 => ?_)
          refine lv_iload_n hx hb dX6_sheet_33 rfl (lv_at hl 1 rfl) ?_
          refine al_37 hx hb hK hT hq30 (by omega) (by omega) dX6_sheet_34 (fun q34 hq34 => ?_)
          refine lv_iload_n hx hb dX6_sheet_35 rfl (lv_at hl 2 rfl) ?_
          refine lv_iload_n hx hb dX6_sheet_36 rfl (lv_at hl 3 rfl) ?_
          obtain ⟨s37, hd37, -⟩ := bd1_s hF
          refine cl_Vv (rest := []) hC hK hSK (c_X3_renew l z σ q34 (20 + p1.toInt.toNat) hq34 p2 p3 s37 hd37 (by omega)) k_X3_renew mw_4_23 ⟨rfl, rfl, Nat.le_of_ble_eq_true rfl, Nat.le_of_ble_eq_true rfl⟩ (rv_Sheet hK hT hq34) hT rfl hl.1 rfl (Nat.le_of_ble_eq_true rfl) dX6_sheet_37 ⟨Nat.zero_le _, Nat.zero_le _⟩ hS (fun _ h => h) (fun _ _ h => h) (fun H locs hpo hS => ?_)
          obtain ⟨σ37, he37, hf37, hT⟩ := hpo
          have hF := bd1_r hF hd37 he37
          have hF := gsL hF hf37
          refine r_iconst hx hb dX6_sheet_40 (by decide) (by decide) (fun x40 e40 => ?_)
          have hF := bn hF e40
          exact rt_i hx hb hr hlk hS ⟨σ37, hF, hT⟩ dX6_sheet_41
        · have hF := ifp hF c23
          refine r_bipush hx hb dX6_sheet_26 rfl (fun x26 e26 => ?_)
          have hF := bn hF e26
          exact rt_i hx hb hr hlk hS ⟨σ, hF, hT⟩ dX6_sheet_28
      · have hF := ifp hF c17
        refine r_iconst hx hb dX6_sheet_20 (by decide) (by decide) (fun x20 e20 => ?_)
        have hF := bn hF e20
        exact rt_i hx hb hr hlk hS ⟨σ, hF, hT⟩ dX6_sheet_21
theorem k_X6_lay : cBV yX6_lay cX6_lay 5 (some .int) 3 := ⟨mw_4_33, mw_4_34, mw_1_1, mw_4_35, ⟨by decide, by decide, by decide⟩⟩
set_option maxHeartbeats 4000000 in
set_option maxRecDepth 100000 in
theorem c_X6_lay (l : Launch) (z : Zt) (σ : Sg) (h0 : Nat) (g0 : zG z h0 = (16, 0)) (p1 : Int32) (p2 : Int32) (p3 : Int32) (out : (Int × Sg)) (hF : D_X6_lay σ p1.toInt p2.toInt p3.toInt = some out) : Met l yX6_lay (uw yX6_lay cX6_lay 5 (some .int)) (rmF 2 87) (PcW z [.ref h0, .int p1, .int p2, .int p3] (fun H => TY z (zA z) σ H)) (QcI z (fun r H => ∃ σ' : Sg, some (r.toInt, σ') = some out ∧ TY z (zA z) σ' H)) 0 0 (zA z) := by
  refine Met.ofW (cc := cX6_lay) (maxL := 5) (ret := (some .int)) (by decide) rfl ?_
  intro p e s m args below meth c s₁ B hml hv
  obtain ⟨rfl, hT, hK, hSK⟩ := hv
  have hx := B.exec
  have hb := B.bytes
  have hr := B.returns
  have hts : ∀ w ∈ lw_ok, w.before ([.ref h0, .int p1, .int p2, .int p3] : List Value).toArray s = true := fun w hw => atoms_spec (ws := uw yX6_lay cX6_lay 5 (some .int)) B.pre w (List.mem_cons_of_mem _ hw)
  have hown : s.vm.findClass RX6 = some m.cls := findClass_of_methodNamed B.named
  have hlk := B.notSynchronized
  have hC : CallFix p m c cX6_lay 5 s ([.ref h0, .int p1, .int p2, .int p3] : List Value).toArray lw_ok RX6 := ⟨hx, hb, hml, hown, hts⟩
  have hS : va_S (zA z) s.heap s.heap [] := va_S.rf
  have hl := lv_entry ([.ref h0, .int p1, .int p2, .int p3]) (n := 5) (Nat.le_of_ble_eq_true rfl)
  rw [lg_entry_eq]
  generalize (lg_sl ([.ref h0, .int p1, .int p2, .int p3]) ++ List.replicate (5 - (lg_sl ([.ref h0, .int p1, .int p2, .int p3])).length) Slot.unset).toArray = ls at hl ⊢
  have hl : lv_has ls 5 [(0, .ref h0), (1, .int p1), (2, .int p2), (3, .int p3)] := hl
  show W p l e (rmF 2 87) s m ([.ref h0, .int p1, .int p2, .int p3] : List Value).toArray below meth c s.heap [] 0 0 (MQ below (QcI z (fun r H => ∃ σ' : Sg, some (r.toInt, σ') = some out ∧ TY z (zA z) σ' H)) ([.ref h0, .int p1, .int p2, .int p3] : List Value).toArray s 0 0 (zA z)) (F0 m 0 ls [])
  unfold D_X6_lay at hF
  have mx_p1 := i_mx p1
  have mx_p2 := i_mx p2
  have mx_p3 := i_mx p3
  refine lv_iload_n hx hb dX6_lay_0 rfl (lv_at hl 1 rfl) ?_
  obtain ⟨v1, hd1, -⟩ := bd0_s hF
  refine cl_Si (rest := []) hC hK hSK (c_X6_isNoSheet l z σ p1 v1 hd1) k_X6_isNoSheet mw_4_17 ⟨rfl, rfl, Nat.le_of_ble_eq_true rfl, Nat.le_of_ble_eq_true rfl⟩ hT rfl hl.1 rfl (Nat.le_of_ble_eq_true rfl) dX6_lay_1 ⟨Nat.zero_le _, Nat.zero_le _⟩ hS (fun _ h => h) (fun _ _ h => h) (fun r1 H locs hpo hS => ?_)
  obtain ⟨he1, hT, u1_0, u1_1⟩ := hpo
  have hF := bd0_r hF hd1 he1
  refine r_if_eq (tgt := 9) hx hb dX6_lay_4 (by decide) (fun c4 => ?_) (fun c4 => ?_)
  · have hF := ifp hF c4
    refine lv_aload_n hx hb dX6_lay_9 rfl (lv_at hl 0 rfl) ?_
    refine gt_HeelDance_sheets hx hb hts ic_HeelDance hown hK hT g0 (hts _ mw_2_13) dX6_lay_10 (fun q10 hq10 => ?_)
    refine lv_iload_n hx hb dX6_lay_13 rfl (lv_at hl 1 rfl) ?_
    refine al_37 hx hb hK hT hq10 (by omega) (by omega) dX6_lay_14 (fun q14 hq14 => ?_)
    refine lv_aload_n hx hb dX6_lay_15 rfl (lv_at hl 0 rfl) ?_
    refine gt_HeelDance_sheets hx hb hts ic_HeelDance hown hK hT g0 (hts _ mw_2_13) dX6_lay_16 (fun q16 hq16 => ?_)
    refine lv_iload_n hx hb dX6_lay_19 rfl (lv_at hl 1 rfl) ?_
    refine al_37 hx hb hK hT hq16 (by omega) (by omega) dX6_lay_20 (fun q20 hq20 => ?_)
    refine gt_Sheet_lane hx hb hts ic_Sheet hown hK hT hq20 (hts _ mw_1_237) dX6_lay_21 (fun x21 e21 f21 g21 => ?_)
    have hF := bn hF e21
    refine lv_iload_n hx hb dX6_lay_24 rfl (lv_at hl 2 rfl) ?_
    refine r_i2l hx hb dX6_lay_25 (fun x25 e25 => ?_)
    have hF := bn hF e25
    obtain ⟨v26, hd26, -⟩ := bd0_s hF
    refine cl_Vi (rest := []) hC hK hSK (c_X3_faultAt l z σ q14 (20 + p1.toInt.toNat) hq14 x21 x25 v26 hd26) k_X3_faultAt mw_4_36 ⟨rfl, rfl, Nat.le_of_ble_eq_true rfl, Nat.le_of_ble_eq_true rfl⟩ (rv_Sheet hK hT hq14) hT rfl hl.1 rfl (Nat.le_of_ble_eq_true rfl) dX6_lay_26 ⟨Nat.zero_le _, Nat.zero_le _⟩ hS (fun _ h => h) (fun _ _ h => h) (fun r26 H locs hpo hS => ?_)
    obtain ⟨he26, hT, u26_0⟩ := hpo
    have hF := bd0_r hF hd26 he26
    refine lv_istore (lv' := [(4, .int r26), (0, .ref h0), (1, .int p1), (2, .int p2), (3, .int p3)]) hx hb dX6_lay_29 hl (by decide) rfl (fun ls hl => ?_)
    refine lv_iload hx hb dX6_lay_31 (lv_at hl 0 rfl) ?_
    refine r_if_eq (tgt := 42) hx hb dX6_lay_33 (by decide) (fun c33 => ?_) (fun c33 => ?_)
    · have hF := ifp hF c33
      refine lv_aload_n hx hb dX6_lay_42 rfl (lv_at hl 1 rfl) ?_
      refine gt_HeelDance_sheets hx hb hts ic_HeelDance hown hK hT g0 (hts _ mw_2_13) dX6_lay_43 (fun q43 hq43 => ?_)
      refine lv_iload_n hx hb dX6_lay_46 rfl (lv_at hl 2 rfl) ?_
      refine al_37 hx hb hK hT hq43 (by omega) (by omega) dX6_lay_47 (fun q47 hq47 => ?_)
      refine lv_iload_n hx hb dX6_lay_48 rfl (lv_at hl 3 rfl) ?_
      refine lv_iload_n hx hb dX6_lay_49 rfl (lv_at hl 4 rfl) ?_
      obtain ⟨ka50_0, hF⟩ := ck hF
      obtain ⟨s50, hd50, -⟩ := bd1_s hF
      refine cl_Vv (rest := []) hC hK hSK (c_X3_put l z σ q47 (20 + p1.toInt.toNat) hq47 p2 p3 s50 hd50 (by omega)) k_X3_put mw_4_40 ⟨rfl, rfl, Nat.le_of_ble_eq_true rfl, Nat.le_of_ble_eq_true rfl⟩ (rv_Sheet hK hT hq47) hT rfl hl.1 rfl (Nat.le_of_ble_eq_true rfl) dX6_lay_50 ⟨Nat.zero_le _, Nat.zero_le _⟩ hS (fun _ h => h) (fun _ _ h => h) (fun H locs hpo hS => ?_)
      obtain ⟨σ50, he50, hf50, hT⟩ := hpo
      have hF := bd1_r hF hd50 he50
      have hF := gsL hF hf50
      refine r_iconst hx hb dX6_lay_53 (by decide) (by decide) (fun x53 e53 => ?_)
      have hF := bn hF e53
      exact rt_i hx hb hr hlk hS ⟨σ50, hF, hT⟩ dX6_lay_54
    · have hF := ifn hF c33
      refine r_bipush hx hb dX6_lay_36 rfl (fun x36 e36 => ?_)
      have hF := bn hF e36
      refine lv_iload hx hb dX6_lay_38 (lv_at hl 0 rfl) ?_
      refine r_isub hx hb dX6_lay_40 (by omega) (by omega) (fun x40 e40 => ?_)
      have hF := bn hF e40
      exact rt_i hx hb hr hlk hS ⟨σ, hF, hT⟩ dX6_lay_41
  · have hF := ifn hF c4
    refine r_iconst hx hb dX6_lay_7 (by decide) (by decide) (fun x7 e7 => ?_)
    have hF := bn hF e7
    exact rt_i hx hb hr hlk hS ⟨σ, hF, hT⟩ dX6_lay_8
theorem k_X6_read : cBV yX6_read cX6_read 9 (some .int) 4 := ⟨mw_4_45, mw_4_46, mw_1_1, mw_4_47, ⟨by decide, by decide, by decide⟩⟩
set_option maxHeartbeats 4000000 in
set_option maxRecDepth 100000 in
theorem c_X6_read (l : Launch) (z : Zt) (σ : Sg) (h0 : Nat) (g0 : zG z h0 = (16, 0)) (p1 : Int32) (p2 : Int32) (p3 : Int32) (p4 : Int32) (out : (Int × Sg)) (hF : D_X6_read σ p1.toInt p2.toInt p3.toInt p4.toInt = some out) : Met l yX6_read (uw yX6_read cX6_read 9 (some .int)) (rmF 4 130) (PcW z [.ref h0, .int p1, .int p2, .int p3, .int p4] (fun H => TY z (zA z) σ H)) (QcI z (fun r H => ∃ σ' : Sg, some (r.toInt, σ') = some out ∧ TY z (zA z) σ' H)) 0 0 (zA z) := by
  refine Met.ofW (cc := cX6_read) (maxL := 9) (ret := (some .int)) (by decide) rfl ?_
  intro p e s m args below meth c s₁ B hml hv
  obtain ⟨rfl, hT, hK, hSK⟩ := hv
  have hx := B.exec
  have hb := B.bytes
  have hr := B.returns
  have hts : ∀ w ∈ lw_ok, w.before ([.ref h0, .int p1, .int p2, .int p3, .int p4] : List Value).toArray s = true := fun w hw => atoms_spec (ws := uw yX6_read cX6_read 9 (some .int)) B.pre w (List.mem_cons_of_mem _ hw)
  have hown : s.vm.findClass RX6 = some m.cls := findClass_of_methodNamed B.named
  have hlk := B.notSynchronized
  have hC : CallFix p m c cX6_read 9 s ([.ref h0, .int p1, .int p2, .int p3, .int p4] : List Value).toArray lw_ok RX6 := ⟨hx, hb, hml, hown, hts⟩
  have hS : va_S (zA z) s.heap s.heap [] := va_S.rf
  have hl := lv_entry ([.ref h0, .int p1, .int p2, .int p3, .int p4]) (n := 9) (Nat.le_of_ble_eq_true rfl)
  rw [lg_entry_eq]
  generalize (lg_sl ([.ref h0, .int p1, .int p2, .int p3, .int p4]) ++ List.replicate (9 - (lg_sl ([.ref h0, .int p1, .int p2, .int p3, .int p4])).length) Slot.unset).toArray = ls at hl ⊢
  have hl : lv_has ls 9 [(0, .ref h0), (1, .int p1), (2, .int p2), (3, .int p3), (4, .int p4)] := hl
  show W p l e (rmF 4 130) s m ([.ref h0, .int p1, .int p2, .int p3, .int p4] : List Value).toArray below meth c s.heap [] 0 0 (MQ below (QcI z (fun r H => ∃ σ' : Sg, some (r.toInt, σ') = some out ∧ TY z (zA z) σ' H)) ([.ref h0, .int p1, .int p2, .int p3, .int p4] : List Value).toArray s 0 0 (zA z)) (F0 m 0 ls [])
  unfold D_X6_read at hF
  have mx_p1 := i_mx p1
  have mx_p2 := i_mx p2
  have mx_p3 := i_mx p3
  have mx_p4 := i_mx p4
  refine lv_iload_n hx hb dX6_read_0 rfl (lv_at hl 1 rfl) ?_
  obtain ⟨v1, hd1, -⟩ := bd0_s hF
  refine cl_Si (rest := []) hC hK hSK (c_X6_isNoSheet l z σ p1 v1 hd1) k_X6_isNoSheet mw_4_17 ⟨rfl, rfl, Nat.le_of_ble_eq_true rfl, Nat.le_of_ble_eq_true rfl⟩ hT rfl hl.1 rfl (Nat.le_of_ble_eq_true rfl) dX6_read_1 ⟨Nat.zero_le _, Nat.zero_le _⟩ hS (fun _ h => h) (fun _ _ h => h) (fun r1 H locs hpo hS => ?_)
  obtain ⟨he1, hT, u1_0, u1_1⟩ := hpo
  have hF := bd0_r hF hd1 he1
  refine r_if_ne (tgt := 26) hx hb dX6_read_4 (by decide) (fun c4 => ?_) (fun c4 => ?_)
  · have hF := ifn hF c4
    refine r_iconst hx hb dX6_read_26 (by decide) (by decide) (fun x26 e26 => ?_)
    have hF := bn hF e26
    exact rt_i hx hb hr hlk hS ⟨σ, hF, hT⟩ dX6_read_27
  · have hF := ifp hF c4
    refine lv_iload_n hx hb dX6_read_7 rfl (lv_at hl 2 rfl) ?_
    obtain ⟨v8, hd8, -⟩ := bd0_s hF
    refine cl_Si (rest := []) hC hK hSK (c_X6_isNoLane l z σ p2 v8 hd8) k_X6_isNoLane mw_4_20 ⟨rfl, rfl, Nat.le_of_ble_eq_true rfl, Nat.le_of_ble_eq_true rfl⟩ hT rfl hl.1 rfl (Nat.le_of_ble_eq_true rfl) dX6_read_8 ⟨Nat.zero_le _, Nat.zero_le _⟩ hS (fun _ h => h) (fun _ _ h => h) (fun r8 H locs hpo hS => ?_)
    obtain ⟨he8, hT, u8_0, u8_1⟩ := hpo
    have hF := bd0_r hF hd8 he8
    refine r_if_ne (tgt := 26) hx hb dX6_read_11 (by decide) (fun c11 => ?_) (fun c11 => ?_)
    · have hF := ifn hF c11
      refine r_iconst hx hb dX6_read_26 (by decide) (by decide) (fun x26 e26 => ?_)
      have hF := bn hF e26
      exact rt_i hx hb hr hlk hS ⟨σ, hF, hT⟩ dX6_read_27
    · have hF := ifp hF c11
      refine lv_iload hx hb dX6_read_14 (lv_at hl 4 rfl) ?_
      refine r_if_lt (tgt := 26) hx hb dX6_read_16 (by decide) (fun c16 => ?_) (fun c16 => ?_)
      · have hF := ifp hF c16
        refine r_iconst hx hb dX6_read_26 (by decide) (by decide) (fun x26 e26 => ?_)
        have hF := bn hF e26
        exact rt_i hx hb hr hlk hS ⟨σ, hF, hT⟩ dX6_read_27
      · have hF := ifn hF (Int.not_lt.mpr c16)
        refine lv_iload hx hb dX6_read_19 (lv_at hl 4 rfl) ?_
        refine r_bipush hx hb dX6_read_21 rfl (fun x21 e21 => ?_)
        have hF := bn hF e21
        refine r_icmp_le (tgt := 28) hx hb dX6_read_23 (by decide) (fun c23 => ?_) (fun c23 => ?_)
        · have hF := ifn hF (Int.not_lt.mpr c23)
          refine lv_aload_n hx hb dX6_read_28 rfl (lv_at hl 0 rfl) ?_
          refine gt_HeelDance_walk hx hb hts ic_HeelDance hown hK hT g0 (hts _ mw_2_11) dX6_read_29 (fun q29 hq29 => ?_)
          refine gt_Walk_floor hx hb hts ic_Walk hown hK hT hq29 (hts _ mw_1_177) dX6_read_32 (fun q32 hq32 => ?_)
          refine lv_astore (lv' := [(5, .ref q32), (0, .ref h0), (1, .int p1), (2, .int p2), (3, .int p3), (4, .int p4)]) hx hb dX6_read_35 hl (by decide) rfl (fun ls hl => ?_)
          refine lv_aload hx hb dX6_read_37 (lv_at hl 0 rfl) ?_
          refine lv_aload_n hx hb dX6_read_39 rfl (lv_at hl 1 rfl) ?_
          refine gt_HeelDance_now hx hb hts ic_HeelDance hown hK hT g0 (hts _ mw_2_8) dX6_read_40 (fun q40 hq40 => ?_)
          refine gt_Evening_floor hx hb hts ic_Evening hown hK hT hq40 (hts _ mw_1_91) dX6_read_43 (fun q43 hq43 => ?_)
          obtain ⟨s46, hd46, -⟩ := bd1_s hF
          refine cl_Vv (rest := []) hC hK hSK (c_X1_copyFrom l z σ q32 (5) hq32 q43 (1) hq43 s46 hd46) k_X1_copyFrom mw_3_88 ⟨rfl, rfl, Nat.le_of_ble_eq_true rfl, Nat.le_of_ble_eq_true rfl⟩ (rv_Floor hK hT hq32) hT rfl hl.1 rfl (Nat.le_of_ble_eq_true rfl) dX6_read_46 ⟨Nat.zero_le _, Nat.zero_le _⟩ hS (fun _ h => h) (fun _ _ h => h) (fun H locs hpo hS => ?_)
          obtain ⟨σ46, he46, hT⟩ := hpo
          have hF := bd1_r hF hd46 he46
          refine r_iconst hx hb dX6_read_49 (by decide) (by decide) (fun x49 e49 => ?_)
          have hF := bn hF e49
          refine lv_istore (lv' := [(6, .int x49), (5, .ref q32), (0, .ref h0), (1, .int p1), (2, .int p2), (3, .int p3), (4, .int p4)]) hx hb dX6_read_50 hl (by decide) rfl (fun ls hl => ?_)
          refine r_iconst hx hb dX6_read_52 (by decide) (by decide) (fun x52 e52 => ?_)
          have hF := bn hF e52
          refine lv_istore (lv' := [(7, .int x52), (6, .int x49), (5, .ref q32), (0, .ref h0), (1, .int p1), (2, .int p2), (3, .int p3), (4, .int p4)]) hx hb dX6_read_53 hl (by decide) rfl (fun ls hl => ?_)
          have J55 : ∀ (n55 : Nat) (ls : Array Slot) (H : Heap) (locs : List Loc) (y55_6 : Int32) (y55_7 : Int32) (σj55 : Sg), (0 ≤ y55_6.toInt ∧ y55_6.toInt ≤ 0) → (0 ≤ y55_7.toInt ∧ y55_7.toInt ≤ 20) → D_X6_read_55 p1.toInt p2.toInt p3.toInt p4.toInt n55 σj55 y55_6.toInt y55_7.toInt = some out → TY z (zA z) σj55 H → va_S (zA z) s.heap H locs → lv_has ls 9 [(0, .ref h0), (1, .int p1), (2, .int p2), (3, .int p3), (4, .int p4), (5, .ref q32), (6, .int y55_6), (7, .int y55_7)] → W p l e (rmF 4 130) s m ([.ref h0, .int p1, .int p2, .int p3, .int p4] : List Value).toArray below meth c H locs 0 0 (MQ below (QcI z (fun r H => ∃ σ' : Sg, some (r.toInt, σ') = some out ∧ TY z (zA z) σ' H)) ([.ref h0, .int p1, .int p2, .int p3, .int p4] : List Value).toArray s 0 0 (zA z)) (F0 m 55 ls []) := by
            intro n55
            induction n55 with
            | zero => intro ls H locs y55_6 y55_7 σj55 j55_y55_6 j55_y55_7 hF hT hS hl; exact (no_s hF).elim
            | succ n55 ih55 =>
              intro ls H locs y55_6 y55_7 σj55 j55_y55_6 j55_y55_7 hF hT hS hl
              rw [D_X6_read_55.eq_2] at hF
              refine lv_iload hx hb dX6_read_55 (lv_at hl 7 rfl) ?_
              refine lv_iload hx hb dX6_read_57 (lv_at hl 4 rfl) ?_
              have J139 : ∀ (ls : Array Slot) (H : Heap) (locs : List Loc) (y139_6 : Int32) (σj139 : Sg), (0 ≤ y139_6.toInt ∧ y139_6.toInt ≤ 3) → D_X6_read_139 y55_7.toInt σj139 y139_6.toInt = some out → TY z (zA z) σj139 H → va_S (zA z) s.heap H locs → lv_has ls 9 [(0, .ref h0), (1, .int p1), (2, .int p2), (3, .int p3), (4, .int p4), (5, .ref q32), (6, .int y139_6), (7, .int y55_7)] → W p l e (rmF 4 130) s m ([.ref h0, .int p1, .int p2, .int p3, .int p4] : List Value).toArray below meth c H locs 0 0 (MQ below (QcI z (fun r H => ∃ σ' : Sg, some (r.toInt, σ') = some out ∧ TY z (zA z) σ' H)) ([.ref h0, .int p1, .int p2, .int p3, .int p4] : List Value).toArray s 0 0 (zA z)) (F0 m 139 ls []) := by
                intro ls H locs y139_6 σj139 j139_y139_6 hF hT hS hl
                unfold D_X6_read_139 at hF
                refine lv_aload_n hx hb dX6_read_139 rfl (lv_at hl 0 rfl) ?_
                refine gt_HeelDance_now hx hb hts ic_HeelDance hown hK hT g0 (hts _ mw_2_8) dX6_read_140 (fun q140 hq140 => ?_)
                refine gt_Evening_floor hx hb hts ic_Evening hown hK hT hq140 (hts _ mw_1_91) dX6_read_143 (fun q143 hq143 => ?_)
                refine lv_aload hx hb dX6_read_146 (lv_at hl 5 rfl) ?_
                obtain ⟨s148, hd148, -⟩ := bd1_s hF
                refine cl_Vv (rest := []) hC hK hSK (c_X1_copyFrom l z σj139 q143 (1) hq143 q32 (5) hq32 s148 hd148) k_X1_copyFrom mw_3_88 ⟨rfl, rfl, Nat.le_of_ble_eq_true rfl, Nat.le_of_ble_eq_true rfl⟩ (rv_Floor hK hT hq143) hT rfl hl.1 rfl (Nat.le_of_ble_eq_true rfl) dX6_read_148 ⟨Nat.zero_le _, Nat.zero_le _⟩ hS (fun _ h => h) (fun _ _ h => h) (fun H locs hpo hS => ?_)
                obtain ⟨σ148, he148, hT⟩ := hpo
                have hF := bd1_r hF hd148 he148
                refine lv_aload_n hx hb dX6_read_151 rfl (lv_at hl 0 rfl) ?_
                refine lv_iload hx hb dX6_read_152 (lv_at hl 6 rfl) ?_
                refine pt_HeelDance_latestTear hx hb hts ic_HeelDance hown hK hT hS g0 (hts _ mw_2_15) (by omega) (by omega) dX6_read_154 (fun H locs hT hS => ?_)
                obtain ⟨σ154, hF, hT⟩ := wrG hF hT
                refine lv_iload hx hb dX6_read_157 (lv_at hl 7 rfl) ?_
                exact rt_i hx hb hr hlk hS ⟨σ154, hF, hT⟩ dX6_read_159
              refine r_icmp_ge (tgt := 139) hx hb dX6_read_59 (by decide) (fun c59 => ?_) (fun c59 => ?_)
              · have hF := ifn hF (Int.not_lt.mpr c59)
                exact J139 ls _ _ y55_6 σj55 (by omega) hF hT hS (lv_sub hl [0, 1, 2, 3, 4, 5, 6, 7] rfl)
              · have hF := ifp hF c59
                refine lv_aload_n hx hb dX6_read_62 rfl (lv_at hl 0 rfl) ?_
                refine gt_HeelDance_sheets hx hb hts ic_HeelDance hown hK hT g0 (hts _ mw_2_13) dX6_read_63 (fun q63 hq63 => ?_)
                refine lv_iload_n hx hb dX6_read_66 rfl (lv_at hl 1 rfl) ?_
                refine al_37 hx hb hK hT hq63 (by omega) (by omega) dX6_read_67 (fun q67 hq67 => ?_)
                refine lv_iload_n hx hb dX6_read_68 rfl (lv_at hl 2 rfl) ?_
                refine lv_iload_n hx hb dX6_read_69 rfl (lv_at hl 3 rfl) ?_
                refine r_i2l hx hb dX6_read_70 (fun x70 e70 => ?_)
                have hF := bn hF e70
                refine lv_iload hx hb dX6_read_71 (lv_at hl 7 rfl) ?_
                refine r_i2l hx hb dX6_read_73 (fun x73 e73 => ?_)
                have hF := bn hF e73
                refine x_ladd hx hb dX6_read_74 (fun x74 e74 => ?_)
                have hF := bn hF e74
                obtain ⟨v75, hd75, -⟩ := bd0_s hF
                refine cl_Vi (rest := []) hC hK hSK (c_X3_faultAt l z σj55 q67 (20 + p1.toInt.toNat) hq67 p2 x74 v75 hd75) k_X3_faultAt mw_4_36 ⟨rfl, rfl, Nat.le_of_ble_eq_true rfl, Nat.le_of_ble_eq_true rfl⟩ (rv_Sheet hK hT hq67) hT rfl hl.1 rfl (Nat.le_of_ble_eq_true rfl) dX6_read_75 ⟨Nat.zero_le _, Nat.zero_le _⟩ hS (fun _ h => h) (fun _ _ h => h) (fun r75 H locs hpo hS => ?_)
                obtain ⟨he75, hT, u75_0⟩ := hpo
                have hF := bd0_r hF hd75 he75
                refine lv_istore (lv' := [(6, .int r75), (0, .ref h0), (1, .int p1), (2, .int p2), (3, .int p3), (4, .int p4), (5, .ref q32), (7, .int y55_7)]) hx hb dX6_read_78 hl (by decide) rfl (fun ls hl => ?_)
                refine lv_iload hx hb dX6_read_80 (lv_at hl 0 rfl) ?_
                refine r_if_eq (tgt := 88) hx hb dX6_read_82 (by decide) (fun c82 => ?_) (fun c82 => ?_)
                · have hF := ifp hF c82
                  refine lv_aload_n hx hb dX6_read_88 rfl (lv_at hl 1 rfl) ?_
                  refine gt_HeelDance_sheets hx hb hts ic_HeelDance hown hK hT g0 (hts _ mw_2_13) dX6_read_89 (fun q89 hq89 => ?_)
                  refine lv_iload_n hx hb dX6_read_92 rfl (lv_at hl 2 rfl) ?_
                  refine al_37 hx hb hK hT hq89 (by omega) (by omega) dX6_read_93 (fun q93 hq93 => ?_)
                  refine gt_Sheet_cells hx hb hts ic_Sheet hown hK hT hq93 (hts _ mw_1_235) dX6_read_94 (fun q94 hq94 => ?_)
                  refine lv_iload_n hx hb dX6_read_97 rfl (lv_at hl 4 rfl) ?_
                  refine lv_iload hx hb dX6_read_98 (lv_at hl 7 rfl) ?_
                  refine x_iadd hx hb dX6_read_100 (fun x100 e100 => ?_)
                  have hF := bn hF e100
                  obtain ⟨kb101, hF⟩ := ck hF
                  refine al_23 hx hb hK hT hq94 (by omega) (by omega) dX6_read_101 (fun x101 e101 => ?_)
                  have hF := bn hF e101
                  refine lv_istore (lv' := [(8, .int x101), (6, .int r75), (0, .ref h0), (1, .int p1), (2, .int p2), (3, .int p3), (4, .int p4), (5, .ref q32), (7, .int y55_7)]) hx hb dX6_read_102 hl (by decide) rfl (fun ls hl => ?_)
                  refine lv_iload hx hb dX6_read_104 (lv_at hl 0 rfl) ?_
                  obtain ⟨v106, hd106, -⟩ := bd0_s hF
                  refine cl_Si (rest := []) hC hK hSK (c_X6_isFigure l z σj55 x101 v106 hd106) k_X6_isFigure mw_3_43 ⟨rfl, rfl, Nat.le_of_ble_eq_true rfl, Nat.le_of_ble_eq_true rfl⟩ hT rfl hl.1 rfl (Nat.le_of_ble_eq_true rfl) dX6_read_106 ⟨Nat.zero_le _, Nat.zero_le _⟩ hS (fun _ h => h) (fun _ _ h => h) (fun r106 H locs hpo hS => ?_)
                  obtain ⟨he106, hT, u106_0, u106_1⟩ := hpo
                  have hF := bd0_r hF hd106 he106
                  refine r_if_eq (tgt := 120) hx hb dX6_read_109 (by decide) (fun c109 => ?_) (fun c109 => ?_)
                  · have hF := ifp hF c109
                    refine r_bipush hx hb dX6_read_120 rfl (fun x120 e120 => ?_)
                    have hF := bn hF e120
                    refine lv_iload hx hb dX6_read_122 (lv_at hl 8 rfl) ?_
                    refine r_isub hx hb dX6_read_124 (by omega) (by omega) (fun x124 e124 => ?_)
                    have hF := bn hF e124
                    exact rt_i hx hb hr hlk hS ⟨σj55, hF, hT⟩ dX6_read_125
                  · have hF := ifn hF c109
                    refine lv_aload hx hb dX6_read_112 (lv_at hl 7 rfl) ?_
                    refine gt_Floor_men hx hb hts ic_Floor hown hK hT hq32 (hts _ mw_1_62) dX6_read_114 (fun x114 e114 f114 g114 => ?_)
                    have hF := bn hF e114
                    refine r_if_ne (tgt := 126) hx hb dX6_read_117 (by decide) (fun c117 => ?_) (fun c117 => ?_)
                    · have hF := ifn hF c117
                      refine lv_aload hx hb dX6_read_126 (lv_at hl 7 rfl) ?_
                      refine lv_iload hx hb dX6_read_128 (lv_at hl 0 rfl) ?_
                      obtain ⟨s130, hd130, -⟩ := bd1_s hF
                      refine cl_Vv (rest := []) hC hK hSK (c_X1_step l z σj55 q32 (5) hq32 x101 s130 hd130) k_X1_step mw_3_55 ⟨rfl, rfl, Nat.le_of_ble_eq_true rfl, Nat.le_of_ble_eq_true rfl⟩ (rv_Floor hK hT hq32) hT rfl hl.1 rfl (Nat.le_of_ble_eq_true rfl) dX6_read_130 ⟨Nat.zero_le _, Nat.zero_le _⟩ hS (fun _ h => h) (fun _ _ h => h) (fun H locs hpo hS => ?_)
                      obtain ⟨σ130, he130, hf130, hT⟩ := hpo
                      have hF := bd1_r hF hd130 he130
                      have hF := gsL hF hf130
                      refine r_iinc (lv' := fun v__ => [(7, .int v__), (8, .int x101), (6, .int r75), (0, .ref h0), (1, .int p1), (2, .int p2), (3, .int p3), (4, .int p4), (5, .ref q32)]) hx hb dX6_read_133 hl (k := 8) rfl (by decide) (fun _ => rfl) ⟨by decide, by decide⟩ (by omega) (by omega) (fun x133 ls e133 hl => ?_)
                      have hF := bn hF e133
                      refine lv_goto (tgt := 55) hx hb dX6_read_136 (by decide) ?_
                      exact ih55 ls _ _ r75 x133 σ130 (by omega) (by omega) hF hT hS (lv_sub hl [3, 4, 5, 6, 7, 8, 2, 0] rfl)
                    · have hF := ifp hF c117
                      refine r_bipush hx hb dX6_read_120 rfl (fun x120 e120 => ?_)
                      have hF := bn hF e120
                      refine lv_iload hx hb dX6_read_122 (lv_at hl 8 rfl) ?_
                      refine r_isub hx hb dX6_read_124 (by omega) (by omega) (fun x124 e124 => ?_)
                      have hF := bn hF e124
                      exact rt_i hx hb hr hlk hS ⟨σj55, hF, hT⟩ dX6_read_125
                · have hF := ifn hF c82
                  refine lv_goto (tgt := 139) hx hb dX6_read_85 (by decide) ?_
                  exact J139 ls _ _ r75 σj55 (by omega) hF hT hS (lv_sub hl [1, 2, 3, 4, 5, 6, 0, 7] rfl)
          exact J55 5000 ls _ _ x49 x52 σ46 (by omega) (by omega) hF hT hS (lv_sub hl [3, 4, 5, 6, 7, 2, 1, 0] rfl)
        · have hF := ifp hF c23
          refine r_iconst hx hb dX6_read_26 (by decide) (by decide) (fun x26 e26 => ?_)
          have hF := bn hF e26
          exact rt_i hx hb hr hlk hS ⟨σ, hF, hT⟩ dX6_read_27
theorem k_X6_torn : cBV yX6_torn cX6_torn 1 (some .int) 0 := ⟨mw_4_49, mw_4_50, mw_1_1, mw_4_51, ⟨by decide, by decide, by decide⟩⟩
set_option maxHeartbeats 4000000 in
set_option maxRecDepth 100000 in
theorem c_X6_torn (l : Launch) (z : Zt) (σ : Sg) (h0 : Nat) (g0 : zG z h0 = (16, 0)) (out : Int) (hF : D_X6_torn σ = some out) : Met l yX6_torn (uw yX6_torn cX6_torn 1 (some .int)) (rmF 1 64) (PcW z [.ref h0] (fun H => TY z (zA z) σ H)) (QcI z (fun r H => some r.toInt = some out ∧ TY z (zA z) σ H)) 0 0 (zA z) := by
  refine Met.ofW (cc := cX6_torn) (maxL := 1) (ret := (some .int)) (by decide) rfl ?_
  intro p e s m args below meth c s₁ B hml hv
  obtain ⟨rfl, hT, hK, hSK⟩ := hv
  have hx := B.exec
  have hb := B.bytes
  have hr := B.returns
  have hts : ∀ w ∈ lw_ok, w.before ([.ref h0] : List Value).toArray s = true := fun w hw => atoms_spec (ws := uw yX6_torn cX6_torn 1 (some .int)) B.pre w (List.mem_cons_of_mem _ hw)
  have hown : s.vm.findClass RX6 = some m.cls := findClass_of_methodNamed B.named
  have hlk := B.notSynchronized
  have hC : CallFix p m c cX6_torn 1 s ([.ref h0] : List Value).toArray lw_ok RX6 := ⟨hx, hb, hml, hown, hts⟩
  have hS : va_S (zA z) s.heap s.heap [] := va_S.rf
  have hl := lv_entry ([.ref h0]) (n := 1) (Nat.le_of_ble_eq_true rfl)
  rw [lg_entry_eq]
  generalize (lg_sl ([.ref h0]) ++ List.replicate (1 - (lg_sl ([.ref h0])).length) Slot.unset).toArray = ls at hl ⊢
  have hl : lv_has ls 1 [(0, .ref h0)] := hl
  show W p l e (rmF 1 64) s m ([.ref h0] : List Value).toArray below meth c s.heap [] 0 0 (MQ below (QcI z (fun r H => some r.toInt = some out ∧ TY z (zA z) σ H)) ([.ref h0] : List Value).toArray s 0 0 (zA z)) (F0 m 0 ls [])
  unfold D_X6_torn at hF
  refine lv_aload_n hx hb dX6_torn_0 rfl (lv_at hl 0 rfl) ?_
  refine gt_HeelDance_latestTear hx hb hts ic_HeelDance hown hK hT g0 (hts _ mw_2_15) dX6_torn_1 (fun x1 e1 f1 g1 => ?_)
  have hF := bn hF e1
  exact rt_i hx hb hr hlk hS ⟨hF, hT⟩ dX6_torn_4
theorem k_X6_count : cBV yX6_count cX6_count 2 (some .int) 1 := ⟨mw_4_53, mw_4_54, mw_1_1, mw_4_55, ⟨by decide, by decide, by decide⟩⟩
set_option maxHeartbeats 4000000 in
set_option maxRecDepth 100000 in
theorem c_X6_count (l : Launch) (z : Zt) (σ : Sg) (h0 : Nat) (g0 : zG z h0 = (16, 0)) (p1 : Int32) (out : Int) (hF : D_X6_count σ p1.toInt = some out) : Met l yX6_count (uw yX6_count cX6_count 2 (some .int)) (rmF 2 87) (PcW z [.ref h0, .int p1] (fun H => TY z (zA z) σ H)) (QcI z (fun r H => some r.toInt = some out ∧ TY z (zA z) σ H)) 0 0 (zA z) := by
  refine Met.ofW (cc := cX6_count) (maxL := 2) (ret := (some .int)) (by decide) rfl ?_
  intro p e s m args below meth c s₁ B hml hv
  obtain ⟨rfl, hT, hK, hSK⟩ := hv
  have hx := B.exec
  have hb := B.bytes
  have hr := B.returns
  have hts : ∀ w ∈ lw_ok, w.before ([.ref h0, .int p1] : List Value).toArray s = true := fun w hw => atoms_spec (ws := uw yX6_count cX6_count 2 (some .int)) B.pre w (List.mem_cons_of_mem _ hw)
  have hown : s.vm.findClass RX6 = some m.cls := findClass_of_methodNamed B.named
  have hlk := B.notSynchronized
  have hC : CallFix p m c cX6_count 2 s ([.ref h0, .int p1] : List Value).toArray lw_ok RX6 := ⟨hx, hb, hml, hown, hts⟩
  have hS : va_S (zA z) s.heap s.heap [] := va_S.rf
  have hl := lv_entry ([.ref h0, .int p1]) (n := 2) (Nat.le_of_ble_eq_true rfl)
  rw [lg_entry_eq]
  generalize (lg_sl ([.ref h0, .int p1]) ++ List.replicate (2 - (lg_sl ([.ref h0, .int p1])).length) Slot.unset).toArray = ls at hl ⊢
  have hl : lv_has ls 2 [(0, .ref h0), (1, .int p1)] := hl
  show W p l e (rmF 2 87) s m ([.ref h0, .int p1] : List Value).toArray below meth c s.heap [] 0 0 (MQ below (QcI z (fun r H => some r.toInt = some out ∧ TY z (zA z) σ H)) ([.ref h0, .int p1] : List Value).toArray s 0 0 (zA z)) (F0 m 0 ls [])
  unfold D_X6_count at hF
  have mx_p1 := i_mx p1
  refine lv_iload_n hx hb dX6_count_0 rfl (lv_at hl 1 rfl) ?_
  rcases (show p1.toInt = 0 ∨ p1.toInt = 1 ∨ p1.toInt = 2 ∨ p1.toInt = 3 ∨ p1.toInt = 4 ∨ p1.toInt = 5 ∨ (p1.toInt < 0 ∨ 5 < p1.toInt) by omega) with c1 | c1 | c1 | c1 | c1 | c1 | c1
  · have hF := ifp hF c1
    refine lv_tableIn (off := 39) (tgt := 40) hx hb dX6_count_1 (by omega) (by omega) (by rw [c1]; rfl) (by decide) ?_
    refine lv_aload_n hx hb dX6_count_40 rfl (lv_at hl 0 rfl) ?_
    refine gt_HeelDance_now hx hb hts ic_HeelDance hown hK hT g0 (hts _ mw_2_8) dX6_count_41 (fun q41 hq41 => ?_)
    refine gt_Evening_seen hx hb hts ic_Evening hown hK hT hq41 (hts _ mw_1_111) dX6_count_44 (fun x44 e44 f44 g44 => ?_)
    have hF := bn hF e44
    exact rt_i hx hb hr hlk hS ⟨hF, hT⟩ dX6_count_47
  · have hF := ifn hF (by omega)
    have hF := ifp hF c1
    refine lv_tableIn (off := 47) (tgt := 48) hx hb dX6_count_1 (by omega) (by omega) (by rw [c1]; rfl) (by decide) ?_
    refine lv_aload_n hx hb dX6_count_48 rfl (lv_at hl 0 rfl) ?_
    refine gt_HeelDance_kept hx hb hts ic_HeelDance hown hK hT g0 (hts _ mw_2_10) dX6_count_49 (fun q49 hq49 => ?_)
    refine r_iconst hx hb dX6_count_52 (by decide) (by decide) (fun x52 e52 => ?_)
    have hF := bn hF e52
    refine al_33 hx hb hK hT hq49 (by omega) (by omega) dX6_count_53 (fun x53 e53 g53 => ?_)
    have hF := bn hF e53
    have J62 : ∀ (ls : Array Slot) (H : Heap) (locs : List Loc) (t62_0 : Int32), (0 ≤ t62_0.toInt ∧ t62_0.toInt ≤ 1) → D_X6_count_62 σ t62_0.toInt = some out → TY z (zA z) σ H → va_S (zA z) s.heap H locs → lv_has ls 2 [(0, .ref h0), (1, .int p1)] → W p l e (rmF 2 87) s m ([.ref h0, .int p1] : List Value).toArray below meth c H locs 0 0 (MQ below (QcI z (fun r H => some r.toInt = some out ∧ TY z (zA z) σ H)) ([.ref h0, .int p1] : List Value).toArray s 0 0 (zA z)) (F0 m 62 ls [.int t62_0]) := by
      intro ls H locs t62_0 j62_t62_0 hF hT hS hl
      unfold D_X6_count_62 at hF
      refine lv_aload_n hx hb dX6_count_62 rfl (lv_at hl 0 rfl) ?_
      refine gt_HeelDance_kept hx hb hts ic_HeelDance hown hK hT g0 (hts _ mw_2_10) dX6_count_63 (fun q63 hq63 => ?_)
      refine r_iconst hx hb dX6_count_66 (by decide) (by decide) (fun x66 e66 => ?_)
      have hF := bn hF e66
      refine al_33 hx hb hK hT hq63 (by omega) (by omega) dX6_count_67 (fun x67 e67 g67 => ?_)
      have hF := bn hF e67
      refine r_if_eq (tgt := 75) hx hb dX6_count_68 (by decide) (fun c68 => ?_) (fun c68 => ?_)
      · have hF := ifp hF c68
        refine r_iconst hx hb dX6_count_75 (by decide) (by decide) (fun x75 e75 => ?_)
        have hF := bn hF e75
        refine r_iadd hx hb dX6_count_76 (by omega) (by omega) (fun x76 e76 => ?_)
        have hF := bn hF e76
        exact rt_i hx hb hr hlk hS ⟨hF, hT⟩ dX6_count_77
      · have hF := ifn hF c68
        refine r_iconst hx hb dX6_count_71 (by decide) (by decide) (fun x71 e71 => ?_)
        have hF := bn hF e71
        refine lv_goto (tgt := 76) hx hb dX6_count_72 (by decide) ?_
        refine r_iadd hx hb dX6_count_76 (by omega) (by omega) (fun x76 e76 => ?_)
        have hF := bn hF e76
        exact rt_i hx hb hr hlk hS ⟨hF, hT⟩ dX6_count_77
    refine r_if_eq (tgt := 61) hx hb dX6_count_54 (by decide) (fun c54 => ?_) (fun c54 => ?_)
    · have hF := ifp hF c54
      refine r_iconst hx hb dX6_count_61 (by decide) (by decide) (fun x61 e61 => ?_)
      have hF := bn hF e61
      exact J62 ls _ _ x61 (by omega) hF hT hS (lv_sub hl [0, 1] rfl)
    · have hF := ifn hF c54
      refine r_iconst hx hb dX6_count_57 (by decide) (by decide) (fun x57 e57 => ?_)
      have hF := bn hF e57
      refine lv_goto (tgt := 62) hx hb dX6_count_58 (by decide) ?_
      exact J62 ls _ _ x57 (by omega) hF hT hS (lv_sub hl [0, 1] rfl)
  · have hF := ifn hF (by omega)
    have hF := ifn hF (by omega)
    have hF := ifp hF c1
    refine lv_tableIn (off := 77) (tgt := 78) hx hb dX6_count_1 (by omega) (by omega) (by rw [c1]; rfl) (by decide) ?_
    refine lv_aload_n hx hb dX6_count_78 rfl (lv_at hl 0 rfl) ?_
    refine gt_HeelDance_tape hx hb hts ic_HeelDance hown hK hT g0 (hts _ mw_2_7) dX6_count_79 (fun q79 hq79 => ?_)
    refine gt_Tape_length hx hb hts ic_Tape hown hK hT hq79 (hts _ mw_1_133) dX6_count_82 (fun x82 e82 f82 g82 => ?_)
    have hF := bn hF e82
    exact rt_i hx hb hr hlk hS ⟨hF, hT⟩ dX6_count_85
  · have hF := ifn hF (by omega)
    have hF := ifn hF (by omega)
    have hF := ifn hF (by omega)
    have hF := ifp hF c1
    refine lv_tableIn (off := 85) (tgt := 86) hx hb dX6_count_1 (by omega) (by omega) (by rw [c1]; rfl) (by decide) ?_
    refine lv_aload_n hx hb dX6_count_86 rfl (lv_at hl 0 rfl) ?_
    refine gt_HeelDance_sheets hx hb hts ic_HeelDance hown hK hT g0 (hts _ mw_2_13) dX6_count_87 (fun q87 hq87 => ?_)
    refine r_iconst hx hb dX6_count_90 (by decide) (by decide) (fun x90 e90 => ?_)
    have hF := bn hF e90
    refine al_37 hx hb hK hT hq87 (by omega) (by omega) dX6_count_91 (fun q91 hq91 => ?_)
    refine gt_Sheet_lane hx hb hts ic_Sheet hown hK hT hq91 (hts _ mw_1_237) dX6_count_92 (fun x92 e92 f92 g92 => ?_)
    have hF := bn hF e92
    refine r_iconst hx hb dX6_count_95 (by decide) (by decide) (fun x95 e95 => ?_)
    have hF := bn hF e95
    refine r_icmp_ne (tgt := 104) hx hb dX6_count_96 (by decide) (fun c96 => ?_) (fun c96 => ?_)
    · have hF := ifn hF c96
      refine lv_aload_n hx hb dX6_count_104 rfl (lv_at hl 0 rfl) ?_
      refine gt_HeelDance_sheets hx hb hts ic_HeelDance hown hK hT g0 (hts _ mw_2_13) dX6_count_105 (fun q105 hq105 => ?_)
      refine r_iconst hx hb dX6_count_108 (by decide) (by decide) (fun x108 e108 => ?_)
      have hF := bn hF e108
      refine al_37 hx hb hK hT hq105 (by omega) (by omega) dX6_count_109 (fun q109 hq109 => ?_)
      refine gt_Sheet_length hx hb hts ic_Sheet hown hK hT hq109 (hts _ mw_1_239) dX6_count_110 (fun x110 e110 f110 g110 => ?_)
      have hF := bn hF e110
      exact rt_i hx hb hr hlk hS ⟨hF, hT⟩ dX6_count_113
    · have hF := ifp hF c96
      refine r_bipush hx hb dX6_count_99 rfl (fun x99 e99 => ?_)
      have hF := bn hF e99
      refine lv_goto (tgt := 113) hx hb dX6_count_101 (by decide) ?_
      exact rt_i hx hb hr hlk hS ⟨hF, hT⟩ dX6_count_113
  · have hF := ifn hF (by omega)
    have hF := ifn hF (by omega)
    have hF := ifn hF (by omega)
    have hF := ifn hF (by omega)
    have hF := ifp hF c1
    refine lv_tableIn (off := 113) (tgt := 114) hx hb dX6_count_1 (by omega) (by omega) (by rw [c1]; rfl) (by decide) ?_
    refine lv_aload_n hx hb dX6_count_114 rfl (lv_at hl 0 rfl) ?_
    refine gt_HeelDance_now hx hb hts ic_HeelDance hown hK hT g0 (hts _ mw_2_8) dX6_count_115 (fun q115 hq115 => ?_)
    refine gt_Evening_floor hx hb hts ic_Evening hown hK hT hq115 (hts _ mw_1_91) dX6_count_118 (fun q118 hq118 => ?_)
    refine gt_Floor_heels hx hb hts ic_Floor hown hK hT hq118 (hts _ mw_1_48) dX6_count_121 (fun q121 hq121 => ?_)
    refine lv_aload_n hx hb dX6_count_124 rfl (lv_at hl 0 rfl) ?_
    refine gt_HeelDance_now hx hb hts ic_HeelDance hown hK hT g0 (hts _ mw_2_8) dX6_count_125 (fun q125 hq125 => ?_)
    refine gt_Evening_floor hx hb hts ic_Evening hown hK hT hq125 (hts _ mw_1_91) dX6_count_128 (fun q128 hq128 => ?_)
    refine gt_Floor_men hx hb hts ic_Floor hown hK hT hq128 (hts _ mw_1_62) dX6_count_131 (fun x131 e131 f131 g131 => ?_)
    have hF := bn hF e131
    obtain ⟨v134, hd134, -⟩ := bd0_s hF
    refine cl_Si (rest := []) hC hK hSK (c_sum53 l z σ q121 (1) hq121 x131 v134 hd134) k_X6_sum mw_3_116 ⟨rfl, rfl, Nat.le_of_ble_eq_true rfl, Nat.le_of_ble_eq_true rfl⟩ hT rfl hl.1 rfl (Nat.le_of_ble_eq_true rfl) dX6_count_134 ⟨Nat.zero_le _, Nat.zero_le _⟩ hS (fun _ h => h) (fun _ _ h => h) (fun r134 H locs hpo hS => ?_)
    obtain ⟨he134, hT⟩ := hpo
    have hF := bd0_r hF hd134 he134
    exact rt_i hx hb hr hlk hS ⟨hF, hT⟩ dX6_count_137
  · have hF := ifn hF (by omega)
    have hF := ifn hF (by omega)
    have hF := ifn hF (by omega)
    have hF := ifn hF (by omega)
    have hF := ifn hF (by omega)
    have hF := ifp hF c1
    refine lv_tableIn (off := 137) (tgt := 138) hx hb dX6_count_1 (by omega) (by omega) (by rw [c1]; rfl) (by decide) ?_
    refine lv_aload_n hx hb dX6_count_138 rfl (lv_at hl 0 rfl) ?_
    refine gt_HeelDance_now hx hb hts ic_HeelDance hown hK hT g0 (hts _ mw_2_8) dX6_count_139 (fun q139 hq139 => ?_)
    refine gt_Evening_floor hx hb hts ic_Evening hown hK hT hq139 (hts _ mw_1_91) dX6_count_142 (fun q142 hq142 => ?_)
    refine gt_Floor_heat hx hb hts ic_Floor hown hK hT hq142 (hts _ mw_1_50) dX6_count_145 (fun q145 hq145 => ?_)
    refine lv_aload_n hx hb dX6_count_148 rfl (lv_at hl 0 rfl) ?_
    refine gt_HeelDance_now hx hb hts ic_HeelDance hown hK hT g0 (hts _ mw_2_8) dX6_count_149 (fun q149 hq149 => ?_)
    refine gt_Evening_floor hx hb hts ic_Evening hown hK hT hq149 (hts _ mw_1_91) dX6_count_152 (fun q152 hq152 => ?_)
    refine gt_Floor_men hx hb hts ic_Floor hown hK hT hq152 (hts _ mw_1_62) dX6_count_155 (fun x155 e155 f155 g155 => ?_)
    have hF := bn hF e155
    obtain ⟨v158, hd158, -⟩ := bd0_s hF
    refine cl_Si (rest := []) hC hK hSK (c_sum54 l z σ q145 (1) hq145 x155 v158 hd158) k_X6_sum mw_3_116 ⟨rfl, rfl, Nat.le_of_ble_eq_true rfl, Nat.le_of_ble_eq_true rfl⟩ hT rfl hl.1 rfl (Nat.le_of_ble_eq_true rfl) dX6_count_158 ⟨Nat.zero_le _, Nat.zero_le _⟩ hS (fun _ h => h) (fun _ _ h => h) (fun r158 H locs hpo hS => ?_)
    obtain ⟨he158, hT⟩ := hpo
    have hF := bd0_r hF hd158 he158
    exact rt_i hx hb hr hlk hS ⟨hF, hT⟩ dX6_count_161
  · have hF := ifn hF (by omega)
    have hF := ifn hF (by omega)
    have hF := ifn hF (by omega)
    have hF := ifn hF (by omega)
    have hF := ifn hF (by omega)
    have hF := ifn hF (by omega)
    refine lv_tableOut (tgt := 162) hx hb dX6_count_1 c1 (by decide) ?_
    refine r_iconst hx hb dX6_count_162 (by decide) (by decide) (fun x162 e162 => ?_)
    have hF := bn hF e162
    exact rt_i hx hb hr hlk hS ⟨hF, hT⟩ dX6_count_163
theorem k_X6_kin : cBV yX6_kin cX6_kin 5 (some .int) 3 := ⟨mw_3_35, mw_3_36, mw_1_1, mw_3_37, ⟨by decide, by decide, by decide⟩⟩
set_option maxHeartbeats 4000000 in
set_option maxRecDepth 100000 in
theorem c_X6_kin (l : Launch) (z : Zt) (σ : Sg) (h0 : Nat) (g0 : zG z h0 = (16, 0)) (p1 : Int32) (p2 : Int32) (p3 : Int32) (out : (Int × Sg)) (hF : D_X6_kin σ p1.toInt p2.toInt p3.toInt = some out) (bp3 : 0 ≤ p3.toInt ∧ p3.toInt ≤ 1) : Met l yX6_kin (uw yX6_kin cX6_kin 5 (some .int)) (rmF 3 106) (PcW z [.ref h0, .int p1, .int p2, .int p3] (fun H => TY z (zA z) σ H)) (QcI z (fun r H => ∃ σ' : Sg, some (r.toInt, σ') = some out ∧ TY z (zA z) σ' H)) 0 0 (zA z) := by
  refine Met.ofW (cc := cX6_kin) (maxL := 5) (ret := (some .int)) (by decide) rfl ?_
  intro p e s m args below meth c s₁ B hml hv
  obtain ⟨rfl, hT, hK, hSK⟩ := hv
  have hx := B.exec
  have hb := B.bytes
  have hr := B.returns
  have hts : ∀ w ∈ lw_ok, w.before ([.ref h0, .int p1, .int p2, .int p3] : List Value).toArray s = true := fun w hw => atoms_spec (ws := uw yX6_kin cX6_kin 5 (some .int)) B.pre w (List.mem_cons_of_mem _ hw)
  have hown : s.vm.findClass RX6 = some m.cls := findClass_of_methodNamed B.named
  have hlk := B.notSynchronized
  have hC : CallFix p m c cX6_kin 5 s ([.ref h0, .int p1, .int p2, .int p3] : List Value).toArray lw_ok RX6 := ⟨hx, hb, hml, hown, hts⟩
  have hS : va_S (zA z) s.heap s.heap [] := va_S.rf
  have hl := lv_entry ([.ref h0, .int p1, .int p2, .int p3]) (n := 5) (Nat.le_of_ble_eq_true rfl)
  rw [lg_entry_eq]
  generalize (lg_sl ([.ref h0, .int p1, .int p2, .int p3]) ++ List.replicate (5 - (lg_sl ([.ref h0, .int p1, .int p2, .int p3])).length) Slot.unset).toArray = ls at hl ⊢
  have hl : lv_has ls 5 [(0, .ref h0), (1, .int p1), (2, .int p2), (3, .int p3)] := hl
  show W p l e (rmF 3 106) s m ([.ref h0, .int p1, .int p2, .int p3] : List Value).toArray below meth c s.heap [] 0 0 (MQ below (QcI z (fun r H => ∃ σ' : Sg, some (r.toInt, σ') = some out ∧ TY z (zA z) σ' H)) ([.ref h0, .int p1, .int p2, .int p3] : List Value).toArray s 0 0 (zA z)) (F0 m 0 ls [])
  unfold D_X6_kin at hF
  have mx_p1 := i_mx p1
  have mx_p2 := i_mx p2
  refine lv_aload_n hx hb dX6_kin_0 rfl (lv_at hl 0 rfl) ?_
  refine lv_iload_n hx hb dX6_kin_1 rfl (lv_at hl 1 rfl) ?_
  obtain ⟨v2, hd2, -⟩ := bd0_s hF
  refine cl_Vi (rest := []) hC hK hSK (c_X6_isNobody l z σ h0 g0 p1 v2 hd2) k_X6_isNobody mw_2_225 ⟨rfl, rfl, Nat.le_of_ble_eq_true rfl, Nat.le_of_ble_eq_true rfl⟩ (rv_HeelDance hK hT g0) hT rfl hl.1 rfl (Nat.le_of_ble_eq_true rfl) dX6_kin_2 ⟨Nat.zero_le _, Nat.zero_le _⟩ hS (fun _ h => h) (fun _ _ h => h) (fun r2 H locs hpo hS => ?_)
  obtain ⟨he2, hT, u2_0, u2_1⟩ := hpo
  have hF := bd0_r hF hd2 he2
  refine r_if_ne (tgt := 16) hx hb dX6_kin_5 (by decide) (fun c5 => ?_) (fun c5 => ?_)
  · have hF := ifn hF c5
    refine r_iconst hx hb dX6_kin_16 (by decide) (by decide) (fun x16 e16 => ?_)
    have hF := bn hF e16
    exact rt_i hx hb hr hlk hS ⟨σ, hF, hT⟩ dX6_kin_17
  · have hF := ifp hF c5
    refine lv_aload_n hx hb dX6_kin_8 rfl (lv_at hl 0 rfl) ?_
    refine lv_iload_n hx hb dX6_kin_9 rfl (lv_at hl 2 rfl) ?_
    obtain ⟨v10, hd10, -⟩ := bd0_s hF
    refine cl_Vi (rest := []) hC hK hSK (c_X6_isNobody l z σ h0 g0 p2 v10 hd10) k_X6_isNobody mw_2_225 ⟨rfl, rfl, Nat.le_of_ble_eq_true rfl, Nat.le_of_ble_eq_true rfl⟩ (rv_HeelDance hK hT g0) hT rfl hl.1 rfl (Nat.le_of_ble_eq_true rfl) dX6_kin_10 ⟨Nat.zero_le _, Nat.zero_le _⟩ hS (fun _ h => h) (fun _ _ h => h) (fun r10 H locs hpo hS => ?_)
    obtain ⟨he10, hT, u10_0, u10_1⟩ := hpo
    have hF := bd0_r hF hd10 he10
    refine r_if_eq (tgt := 18) hx hb dX6_kin_13 (by decide) (fun c13 => ?_) (fun c13 => ?_)
    · have hF := ifp hF c13
      refine lv_aload_n hx hb dX6_kin_18 rfl (lv_at hl 0 rfl) ?_
      refine gt_HeelDance_now hx hb hts ic_HeelDance hown hK hT g0 (hts _ mw_2_8) dX6_kin_19 (fun q19 hq19 => ?_)
      refine lv_iload_n hx hb dX6_kin_22 rfl (lv_at hl 1 rfl) ?_
      refine lv_iload_n hx hb dX6_kin_23 rfl (lv_at hl 2 rfl) ?_
      obtain ⟨v24, hd24, -⟩ := bd0_s hF
      refine cl_Vi (rest := []) hC hK hSK (c_X0_areKin l z σ q19 (1) hq19 p1 p2 v24 hd24 (by omega)) k_X0_areKin mw_3_38 ⟨rfl, rfl, Nat.le_of_ble_eq_true rfl, Nat.le_of_ble_eq_true rfl⟩ (rv_Evening hK hT hq19) hT rfl hl.1 rfl (Nat.le_of_ble_eq_true rfl) dX6_kin_24 ⟨Nat.zero_le _, Nat.zero_le _⟩ hS (fun _ h => h) (fun _ _ h => h) (fun r24 H locs hpo hS => ?_)
      obtain ⟨he24, hT, u24_0⟩ := hpo
      have hF := bd0_r hF hd24 he24
      refine lv_istore (lv' := [(4, .int r24), (0, .ref h0), (1, .int p1), (2, .int p2), (3, .int p3)]) hx hb dX6_kin_27 hl (by decide) rfl (fun ls hl => ?_)
      refine lv_iload_n hx hb dX6_kin_29 rfl (lv_at hl 4 rfl) ?_
      have J53 : ∀ (ls : Array Slot) (H : Heap) (locs : List Loc) (σj53 : Sg), D_X6_kin_53 p1.toInt p2.toInt p3.toInt r24.toInt σj53 = some out → TY z (zA z) σj53 H → va_S (zA z) s.heap H locs → lv_has ls 5 [(0, .ref h0), (1, .int p1), (2, .int p2), (3, .int p3), (4, .int r24)] → W p l e (rmF 3 106) s m ([.ref h0, .int p1, .int p2, .int p3] : List Value).toArray below meth c H locs 0 0 (MQ below (QcI z (fun r H => ∃ σ' : Sg, some (r.toInt, σ') = some out ∧ TY z (zA z) σ' H)) ([.ref h0, .int p1, .int p2, .int p3] : List Value).toArray s 0 0 (zA z)) (F0 m 53 ls []) := by
        intro ls H locs σj53 hF hT hS hl
        unfold D_X6_kin_53 at hF
        refine lv_iload_n hx hb dX6_kin_53 rfl (lv_at hl 3 rfl) ?_
        refine lv_iload hx hb dX6_kin_54 (lv_at hl 4 rfl) ?_
        have J74 : ∀ (ls : Array Slot) (H : Heap) (locs : List Loc) (σj74 : Sg), D_X6_kin_74 r24.toInt σj74 = some out → TY z (zA z) σj74 H → va_S (zA z) s.heap H locs → lv_has ls 5 [(0, .ref h0), (1, .int p1), (2, .int p2), (3, .int p3), (4, .int r24)] → W p l e (rmF 3 106) s m ([.ref h0, .int p1, .int p2, .int p3] : List Value).toArray below meth c H locs 0 0 (MQ below (QcI z (fun r H => ∃ σ' : Sg, some (r.toInt, σ') = some out ∧ TY z (zA z) σ' H)) ([.ref h0, .int p1, .int p2, .int p3] : List Value).toArray s 0 0 (zA z)) (F0 m 74 ls []) := by
          intro ls H locs σj74 hF hT hS hl
          unfold D_X6_kin_74 at hF
          refine lv_iload hx hb dX6_kin_74 (lv_at hl 4 rfl) ?_
          refine r_if_eq (tgt := 83) hx hb dX6_kin_76 (by decide) (fun c76 => ?_) (fun c76 => ?_)
          · have hF := ifp hF c76
            refine r_iconst hx hb dX6_kin_83 (by decide) (by decide) (fun x83 e83 => ?_)
            have hF := bn hF e83
            exact rt_i hx hb hr hlk hS ⟨σj74, hF, hT⟩ dX6_kin_84
          · have hF := ifn hF c76
            refine r_iconst hx hb dX6_kin_79 (by decide) (by decide) (fun x79 e79 => ?_)
            have hF := bn hF e79
            refine lv_goto (tgt := 84) hx hb dX6_kin_80 (by decide) ?_
            exact rt_i hx hb hr hlk hS ⟨σj74, hF, hT⟩ dX6_kin_84
        refine r_icmp_eq (tgt := 74) hx hb dX6_kin_56 (by decide) (fun c56 => ?_) (fun c56 => ?_)
        · have hF := ifp hF c56
          exact J74 ls _ _ σj53 hF hT hS (lv_sub hl [0, 1, 2, 3, 4] rfl)
        · have hF := ifn hF c56
          refine lv_aload_n hx hb dX6_kin_59 rfl (lv_at hl 0 rfl) ?_
          refine gt_HeelDance_now hx hb hts ic_HeelDance hown hK hT g0 (hts _ mw_2_8) dX6_kin_60 (fun q60 hq60 => ?_)
          refine gt_Evening_kin hx hb hts ic_Evening hown hK hT hq60 (hts _ mw_1_95) dX6_kin_63 (fun q63 hq63 => ?_)
          refine lv_iload_n hx hb dX6_kin_66 rfl (lv_at hl 1 rfl) ?_
          refine lv_dup2_11 hx hb dX6_kin_67 rfl rfl ?_
          refine al_20 hx hb hK hT hq63 (by omega) (by omega) dX6_kin_68 (fun x68 e68 => ?_)
          have hF := bn hF e68
          refine r_iconst hx hb dX6_kin_69 (by decide) (by decide) (fun x69 e69 => ?_)
          have hF := bn hF e69
          refine lv_iload_n hx hb dX6_kin_70 rfl (lv_at hl 2 rfl) ?_
          refine x_shl1 hx hb dX6_kin_71 (by omega) (by omega) (by omega) (fun x71 e71 g71 h71 => ?_)
          have hF := bn hF e71
          refine x_ixor hx hb dX6_kin_72 (fun x72 e72 => ?_)
          have hF := bn hF e72
          refine as_20 hx hb hK hT hS hq63 (by omega) (by omega) dX6_kin_73 (fun H locs hT hS => ?_)
          obtain ⟨σ73, hF, hT⟩ := wrG hF hT
          exact J74 ls _ _ σ73 hF hT hS (lv_sub hl [0, 1, 2, 3, 4] rfl)
      refine r_if_eq (tgt := 53) hx hb dX6_kin_30 (by decide) (fun c30 => ?_) (fun c30 => ?_)
      · have hF := ifp hF c30
        exact J53 ls _ _ σ hF hT hS (lv_sub hl [1, 2, 3, 4, 0] rfl)
      · have hF := ifn hF c30
        refine lv_iload hx hb dX6_kin_33 (lv_at hl 0 rfl) ?_
        refine r_if_ne (tgt := 53) hx hb dX6_kin_35 (by decide) (fun c35 => ?_) (fun c35 => ?_)
        · have hF := ifn hF c35
          exact J53 ls _ _ σ hF hT hS (lv_sub hl [1, 2, 3, 4, 0] rfl)
        · have hF := ifp hF c35
          refine lv_aload_n hx hb dX6_kin_38 rfl (lv_at hl 1 rfl) ?_
          refine gt_HeelDance_now hx hb hts ic_HeelDance hown hK hT g0 (hts _ mw_2_8) dX6_kin_39 (fun q39 hq39 => ?_)
          obtain ⟨v42, hd42, -⟩ := bd0_s hF
          refine cl_Vi (rest := []) hC hK hSK (c_X0_allKin l z σ q39 (1) hq39 v42 hd42) k_X0_allKin mw_2_216 ⟨rfl, rfl, Nat.le_of_ble_eq_true rfl, Nat.le_of_ble_eq_true rfl⟩ (rv_Evening hK hT hq39) hT rfl hl.1 rfl (Nat.le_of_ble_eq_true rfl) dX6_kin_42 ⟨Nat.zero_le _, Nat.zero_le _⟩ hS (fun _ h => h) (fun _ _ h => h) (fun r42 H locs hpo hS => ?_)
          obtain ⟨he42, hT⟩ := hpo
          have hF := bd0_r hF hd42 he42
          refine r_bipush hx hb dX6_kin_45 rfl (fun x45 e45 => ?_)
          have hF := bn hF e45
          refine r_icmp_lt (tgt := 53) hx hb dX6_kin_47 (by decide) (fun c47 => ?_) (fun c47 => ?_)
          · have hF := ifp hF c47
            exact J53 ls _ _ σ hF hT hS (lv_sub hl [1, 2, 3, 4, 0] rfl)
          · have hF := ifn hF (Int.not_lt.mpr c47)
            refine r_bipush hx hb dX6_kin_50 rfl (fun x50 e50 => ?_)
            have hF := bn hF e50
            exact rt_i hx hb hr hlk hS ⟨σ, hF, hT⟩ dX6_kin_52
    · have hF := ifn hF c13
      refine r_iconst hx hb dX6_kin_16 (by decide) (by decide) (fun x16 e16 => ?_)
      have hF := bn hF e16
      exact rt_i hx hb hr hlk hS ⟨σ, hF, hT⟩ dX6_kin_17
theorem k_X6_alter : cBV yX6_alter cX6_alter 7 (some .int) 3 := ⟨mw_3_23, mw_3_24, mw_1_1, mw_3_25, ⟨by decide, by decide, by decide⟩⟩
set_option maxHeartbeats 4000000 in
set_option maxRecDepth 100000 in
theorem c_X6_alter (l : Launch) (z : Zt) (σ : Sg) (h0 : Nat) (g0 : zG z h0 = (16, 0)) (p1 : Int32) (p2 : Int32) (p3 : Int32) (out : (Int × Sg)) (hF : D_X6_alter σ p1.toInt p2.toInt p3.toInt = some out) : Met l yX6_alter (uw yX6_alter cX6_alter 7 (some .int)) (rmF 2 85) (PcW z [.ref h0, .int p1, .int p2, .int p3] (fun H => TY z (zA z) σ H)) (QcI z (fun r H => ∃ σ' : Sg, some (r.toInt, σ') = some out ∧ TY z (zA z) σ' H)) 0 0 (zA z) := by
  refine Met.ofW (cc := cX6_alter) (maxL := 7) (ret := (some .int)) (by decide) rfl ?_
  intro p e s m args below meth c s₁ B hml hv
  obtain ⟨rfl, hT, hK, hSK⟩ := hv
  have hx := B.exec
  have hb := B.bytes
  have hr := B.returns
  have hts : ∀ w ∈ lw_ok, w.before ([.ref h0, .int p1, .int p2, .int p3] : List Value).toArray s = true := fun w hw => atoms_spec (ws := uw yX6_alter cX6_alter 7 (some .int)) B.pre w (List.mem_cons_of_mem _ hw)
  have hown : s.vm.findClass RX6 = some m.cls := findClass_of_methodNamed B.named
  have hlk := B.notSynchronized
  have hC : CallFix p m c cX6_alter 7 s ([.ref h0, .int p1, .int p2, .int p3] : List Value).toArray lw_ok RX6 := ⟨hx, hb, hml, hown, hts⟩
  have hS : va_S (zA z) s.heap s.heap [] := va_S.rf
  have hl := lv_entry ([.ref h0, .int p1, .int p2, .int p3]) (n := 7) (Nat.le_of_ble_eq_true rfl)
  rw [lg_entry_eq]
  generalize (lg_sl ([.ref h0, .int p1, .int p2, .int p3]) ++ List.replicate (7 - (lg_sl ([.ref h0, .int p1, .int p2, .int p3])).length) Slot.unset).toArray = ls at hl ⊢
  have hl : lv_has ls 7 [(0, .ref h0), (1, .int p1), (2, .int p2), (3, .int p3)] := hl
  show W p l e (rmF 2 85) s m ([.ref h0, .int p1, .int p2, .int p3] : List Value).toArray below meth c s.heap [] 0 0 (MQ below (QcI z (fun r H => ∃ σ' : Sg, some (r.toInt, σ') = some out ∧ TY z (zA z) σ' H)) ([.ref h0, .int p1, .int p2, .int p3] : List Value).toArray s 0 0 (zA z)) (F0 m 0 ls [])
  unfold D_X6_alter at hF
  have mx_p1 := i_mx p1
  have mx_p2 := i_mx p2
  have mx_p3 := i_mx p3
  refine lv_aload_n hx hb dX6_alter_0 rfl (lv_at hl 0 rfl) ?_
  refine lv_iload_n hx hb dX6_alter_1 rfl (lv_at hl 1 rfl) ?_
  obtain ⟨v2, hd2, -⟩ := bd0_s hF
  refine cl_Vi (rest := []) hC hK hSK (c_X6_isNobody l z σ h0 g0 p1 v2 hd2) k_X6_isNobody mw_2_225 ⟨rfl, rfl, Nat.le_of_ble_eq_true rfl, Nat.le_of_ble_eq_true rfl⟩ (rv_HeelDance hK hT g0) hT rfl hl.1 rfl (Nat.le_of_ble_eq_true rfl) dX6_alter_2 ⟨Nat.zero_le _, Nat.zero_le _⟩ hS (fun _ h => h) (fun _ _ h => h) (fun r2 H locs hpo hS => ?_)
  obtain ⟨he2, hT, u2_0, u2_1⟩ := hpo
  have hF := bd0_r hF hd2 he2
  refine r_if_ne (tgt := 17) hx hb dX6_alter_5 (by decide) (fun c5 => ?_) (fun c5 => ?_)
  · have hF := ifn hF c5
    refine r_iconst hx hb dX6_alter_17 (by decide) (by decide) (fun x17 e17 => ?_)
    have hF := bn hF e17
    exact rt_i hx hb hr hlk hS ⟨σ, hF, hT⟩ dX6_alter_18
  · have hF := ifp hF c5
    refine lv_iload_n hx hb dX6_alter_8 rfl (lv_at hl 2 rfl) ?_
    refine r_if_lt (tgt := 17) hx hb dX6_alter_9 (by decide) (fun c9 => ?_) (fun c9 => ?_)
    · have hF := ifp hF c9
      refine r_iconst hx hb dX6_alter_17 (by decide) (by decide) (fun x17 e17 => ?_)
      have hF := bn hF e17
      exact rt_i hx hb hr hlk hS ⟨σ, hF, hT⟩ dX6_alter_18
    · have hF := ifn hF (Int.not_lt.mpr c9)
      refine lv_iload_n hx hb dX6_alter_12 rfl (lv_at hl 2 rfl) ?_
      refine r_iconst hx hb dX6_alter_13 (by decide) (by decide) (fun x13 e13 => ?_)
      have hF := bn hF e13
      refine r_icmp_le (tgt := 19) hx hb dX6_alter_14 (by decide) (fun c14 => ?_) (fun c14 => ?_)
      · have hF := ifn hF (Int.not_lt.mpr c14)
        refine lv_iload_n hx hb dX6_alter_19 rfl (lv_at hl 2 rfl) ?_
        have J29 : ∀ (ls : Array Slot) (H : Heap) (locs : List Loc) (t29_0 : Int32) (σj29 : Sg), (3 ≤ t29_0.toInt ∧ t29_0.toInt ≤ 9) → D_X6_alter_29 p1.toInt p2.toInt p3.toInt σj29 t29_0.toInt = some out → TY z (zA z) σj29 H → va_S (zA z) s.heap H locs → lv_has ls 7 [(0, .ref h0), (1, .int p1), (2, .int p2), (3, .int p3)] → W p l e (rmF 2 85) s m ([.ref h0, .int p1, .int p2, .int p3] : List Value).toArray below meth c H locs 0 0 (MQ below (QcI z (fun r H => ∃ σ' : Sg, some (r.toInt, σ') = some out ∧ TY z (zA z) σ' H)) ([.ref h0, .int p1, .int p2, .int p3] : List Value).toArray s 0 0 (zA z)) (F0 m 29 ls [.int t29_0]) := by
          intro ls H locs t29_0 σj29 j29_t29_0 hF hT hS hl
          unfold D_X6_alter_29 at hF
          refine lv_istore (lv' := [(4, .int t29_0), (0, .ref h0), (1, .int p1), (2, .int p2), (3, .int p3)]) hx hb dX6_alter_29 hl (by decide) rfl (fun ls hl => ?_)
          refine lv_iload_n hx hb dX6_alter_31 rfl (lv_at hl 4 rfl) ?_
          refine r_if_lt (tgt := 41) hx hb dX6_alter_32 (by decide) (fun c32 => ?_) (fun c32 => ?_)
          · have hF := ifp hF c32
            refine r_iconst hx hb dX6_alter_41 (by decide) (by decide) (fun x41 e41 => ?_)
            have hF := bn hF e41
            exact rt_i hx hb hr hlk hS ⟨σj29, hF, hT⟩ dX6_alter_42
          · have hF := ifn hF (Int.not_lt.mpr c32)
            refine lv_iload_n hx hb dX6_alter_35 rfl (lv_at hl 4 rfl) ?_
            refine lv_iload hx hb dX6_alter_36 (lv_at hl 0 rfl) ?_
            refine r_icmp_le (tgt := 43) hx hb dX6_alter_38 (by decide) (fun c38 => ?_) (fun c38 => ?_)
            · have hF := ifn hF (Int.not_lt.mpr c38)
              refine lv_aload_n hx hb dX6_alter_43 rfl (lv_at hl 1 rfl) ?_
              refine gt_HeelDance_now hx hb hts ic_HeelDance hown hK hT g0 (hts _ mw_2_8) dX6_alter_44 (fun q44 hq44 => ?_)
              refine gt_Evening_floor hx hb hts ic_Evening hown hK hT hq44 (hts _ mw_1_91) dX6_alter_47 (fun q47 hq47 => ?_)
              refine lv_iload_n hx hb dX6_alter_50 rfl (lv_at hl 3 rfl) ?_
              obtain ⟨v51, hd51, -⟩ := bd0_s hF
              refine cl_Vr (rest := []) hC hK hSK (c_X1_rowOf l z σj29 q47 (1) hq47 p2 v51 hd51) k_X1_rowOf mw_3_26 ⟨rfl, rfl, Nat.le_of_ble_eq_true rfl, Nat.le_of_ble_eq_true rfl⟩ (rv_Floor hK hT hq47) hT rfl hl.1 rfl (Nat.le_of_ble_eq_true rfl) dX6_alter_51 ⟨Nat.zero_le _, Nat.zero_le _⟩ hS (fun _ h => h) (fun _ _ h => h) (fun q51 H locs hpo hS => ?_)
              obtain ⟨ro51, he51, hT, hq51, hr51⟩ := hpo
              have hF := bd0_r hF hd51 he51
              rcases hr51 with rfl | rfl | rfl | rfl
              · have hF := ifp hF rfl
                refine lv_astore (lv' := [(5, .ref q51), (4, .int t29_0), (0, .ref h0), (1, .int p1), (2, .int p2), (3, .int p3)]) hx hb dX6_alter_54 hl (by decide) rfl (fun ls hl => ?_)
                refine lv_aload hx hb dX6_alter_56 (lv_at hl 0 rfl) ?_
                refine lv_iload_n hx hb dX6_alter_58 rfl (lv_at hl 3 rfl) ?_
                refine al_51 hx hb hK hT hq51 (by omega) (by omega) dX6_alter_59 (fun x59 e59 => ?_)
                have hF := bn hF e59
                refine lv_istore (lv' := [(6, .int x59), (5, .ref q51), (4, .int t29_0), (0, .ref h0), (1, .int p1), (2, .int p2), (3, .int p3)]) hx hb dX6_alter_60 hl (by decide) rfl (fun ls hl => ?_)
                refine lv_aload hx hb dX6_alter_62 (lv_at hl 1 rfl) ?_
                refine lv_iload_n hx hb dX6_alter_64 rfl (lv_at hl 4 rfl) ?_
                refine lv_iload_n hx hb dX6_alter_65 rfl (lv_at hl 6 rfl) ?_
                refine as_51 hx hb hK hT hS hq51 (by omega) (by omega) dX6_alter_66 (fun H locs hT hS => ?_)
                obtain ⟨σ66, hF, hT⟩ := wrG hF hT
                refine lv_iload hx hb dX6_alter_67 (lv_at hl 0 rfl) ?_
                exact rt_i hx hb hr hlk hS ⟨σ66, hF, hT⟩ dX6_alter_69
              · have hF := ifn hF (by decide)
                have hF := ifp hF rfl
                refine lv_astore (lv' := [(5, .ref q51), (4, .int t29_0), (0, .ref h0), (1, .int p1), (2, .int p2), (3, .int p3)]) hx hb dX6_alter_54 hl (by decide) rfl (fun ls hl => ?_)
                refine lv_aload hx hb dX6_alter_56 (lv_at hl 0 rfl) ?_
                refine lv_iload_n hx hb dX6_alter_58 rfl (lv_at hl 3 rfl) ?_
                refine al_52 hx hb hK hT hq51 (by omega) (by omega) dX6_alter_59 (fun x59 e59 g59 => ?_)
                have hF := bn hF e59
                refine lv_istore (lv' := [(6, .int x59), (5, .ref q51), (4, .int t29_0), (0, .ref h0), (1, .int p1), (2, .int p2), (3, .int p3)]) hx hb dX6_alter_60 hl (by decide) rfl (fun ls hl => ?_)
                refine lv_aload hx hb dX6_alter_62 (lv_at hl 1 rfl) ?_
                refine lv_iload_n hx hb dX6_alter_64 rfl (lv_at hl 4 rfl) ?_
                refine lv_iload_n hx hb dX6_alter_65 rfl (lv_at hl 6 rfl) ?_
                refine as_52 hx hb hK hT hS hq51 (by omega) (by omega) ⟨by omega, by omega⟩ dX6_alter_66 (fun H locs hT hS => ?_)
                obtain ⟨σ66, hF, hT⟩ := wrG hF hT
                refine lv_iload hx hb dX6_alter_67 (lv_at hl 0 rfl) ?_
                exact rt_i hx hb hr hlk hS ⟨σ66, hF, hT⟩ dX6_alter_69
              · have hF := ifn hF (by decide)
                have hF := ifn hF (by decide)
                have hF := ifp hF rfl
                refine lv_astore (lv' := [(5, .ref q51), (4, .int t29_0), (0, .ref h0), (1, .int p1), (2, .int p2), (3, .int p3)]) hx hb dX6_alter_54 hl (by decide) rfl (fun ls hl => ?_)
                refine lv_aload hx hb dX6_alter_56 (lv_at hl 0 rfl) ?_
                refine lv_iload_n hx hb dX6_alter_58 rfl (lv_at hl 3 rfl) ?_
                refine al_53 hx hb hK hT hq51 (by omega) (by omega) dX6_alter_59 (fun x59 e59 g59 => ?_)
                have hF := bn hF e59
                refine lv_istore (lv' := [(6, .int x59), (5, .ref q51), (4, .int t29_0), (0, .ref h0), (1, .int p1), (2, .int p2), (3, .int p3)]) hx hb dX6_alter_60 hl (by decide) rfl (fun ls hl => ?_)
                refine lv_aload hx hb dX6_alter_62 (lv_at hl 1 rfl) ?_
                refine lv_iload_n hx hb dX6_alter_64 rfl (lv_at hl 4 rfl) ?_
                refine lv_iload_n hx hb dX6_alter_65 rfl (lv_at hl 6 rfl) ?_
                refine as_53 hx hb hK hT hS hq51 (by omega) (by omega) ⟨by omega, by omega⟩ dX6_alter_66 (fun H locs hT hS => ?_)
                obtain ⟨σ66, hF, hT⟩ := wrG hF hT
                refine lv_iload hx hb dX6_alter_67 (lv_at hl 0 rfl) ?_
                exact rt_i hx hb hr hlk hS ⟨σ66, hF, hT⟩ dX6_alter_69
              · have hF := ifn hF (by decide)
                have hF := ifn hF (by decide)
                have hF := ifn hF (by decide)
                have hF := ifp hF rfl
                refine lv_astore (lv' := [(5, .ref q51), (4, .int t29_0), (0, .ref h0), (1, .int p1), (2, .int p2), (3, .int p3)]) hx hb dX6_alter_54 hl (by decide) rfl (fun ls hl => ?_)
                refine lv_aload hx hb dX6_alter_56 (lv_at hl 0 rfl) ?_
                refine lv_iload_n hx hb dX6_alter_58 rfl (lv_at hl 3 rfl) ?_
                refine al_54 hx hb hK hT hq51 (by omega) (by omega) dX6_alter_59 (fun x59 e59 g59 => ?_)
                have hF := bn hF e59
                refine lv_istore (lv' := [(6, .int x59), (5, .ref q51), (4, .int t29_0), (0, .ref h0), (1, .int p1), (2, .int p2), (3, .int p3)]) hx hb dX6_alter_60 hl (by decide) rfl (fun ls hl => ?_)
                refine lv_aload hx hb dX6_alter_62 (lv_at hl 1 rfl) ?_
                refine lv_iload_n hx hb dX6_alter_64 rfl (lv_at hl 4 rfl) ?_
                refine lv_iload_n hx hb dX6_alter_65 rfl (lv_at hl 6 rfl) ?_
                refine as_54 hx hb hK hT hS hq51 (by omega) (by omega) ⟨by omega, by omega⟩ dX6_alter_66 (fun H locs hT hS => ?_)
                obtain ⟨σ66, hF, hT⟩ := wrG hF hT
                refine lv_iload hx hb dX6_alter_67 (lv_at hl 0 rfl) ?_
                exact rt_i hx hb hr hlk hS ⟨σ66, hF, hT⟩ dX6_alter_69
            · have hF := ifp hF c38
              refine r_iconst hx hb dX6_alter_41 (by decide) (by decide) (fun x41 e41 => ?_)
              have hF := bn hF e41
              exact rt_i hx hb hr hlk hS ⟨σj29, hF, hT⟩ dX6_alter_42
        refine r_if_ne (tgt := 27) hx hb dX6_alter_20 (by decide) (fun c20 => ?_) (fun c20 => ?_)
        · have hF := ifn hF c20
          refine r_bipush hx hb dX6_alter_27 rfl (fun x27 e27 => ?_)
          have hF := bn hF e27
          exact J29 ls _ _ x27 σ (by omega) hF hT hS (lv_sub hl [0, 1, 2, 3] rfl)
        · have hF := ifp hF c20
          refine r_iconst hx hb dX6_alter_23 (by decide) (by decide) (fun x23 e23 => ?_)
          have hF := bn hF e23
          refine lv_goto (tgt := 29) hx hb dX6_alter_24 (by decide) ?_
          exact J29 ls _ _ x23 σ (by omega) hF hT hS (lv_sub hl [0, 1, 2, 3] rfl)
      · have hF := ifp hF c14
        refine r_iconst hx hb dX6_alter_17 (by decide) (by decide) (fun x17 e17 => ?_)
        have hF := bn hF e17
        exact rt_i hx hb hr hlk hS ⟨σ, hF, hT⟩ dX6_alter_18
