theorem k_X1_rowOf : cBV yX1_rowOf cX1_rowOf 2 (some (.array .int)) 1 := ⟨mw_3_27, mw_3_28, mw_1_4, mw_3_29, ⟨by decide, by decide, by decide⟩⟩
set_option maxHeartbeats 4000000 in
set_option maxRecDepth 100000 in
theorem c_X1_rowOf (l : Launch) (z : Zt) (gh : Gh) (h0 o0 : Nat) (g0 : zG z h0 = (11, o0)) (p1 : Int32) : Met l yX1_rowOf (uw yX1_rowOf cX1_rowOf 2 (some (.array .int))) (rmF 1 64) (PcW z [.ref h0, .int p1] (fun H => TY z (zA z) gh H)) (QcR z (fun r H => TY z (zA z) gh H ∧ (zG z r = (20, h0)))) 0 0 (zA z) := by
  refine Met.ofW (cc := cX1_rowOf) (maxL := 2) (ret := (some (.array .int))) (by decide) rfl ?_
  intro p e s m args below meth c s₁ B hml hv
  obtain ⟨rfl, hW, hK, hSK⟩ := hv
  have hx := B.exec
  have hb := B.bytes
  have hr := B.returns
  have hts : ∀ w ∈ lw_ok, w.before ([.ref h0, .int p1] : List Value).toArray s = true := fun w hw => atoms_spec (ws := uw yX1_rowOf cX1_rowOf 2 (some (.array .int))) B.pre w (List.mem_cons_of_mem _ hw)
  have hown : s.vm.findClass RX1 = some m.cls := findClass_of_methodNamed B.named
  have hlk := B.notSynchronized
  have hC : CallFix p m c cX1_rowOf 2 s ([.ref h0, .int p1] : List Value).toArray lw_ok RX1 := ⟨hx, hb, hml, hown, hts⟩
  have hS : va_S (zA z) s.heap s.heap [] := va_S.rf
  have hl := lv_entry ([.ref h0, .int p1]) (n := 2) (Nat.le_of_ble_eq_true rfl)
  rw [lg_entry_eq]
  generalize (lg_sl ([.ref h0, .int p1]) ++ List.replicate (2 - (lg_sl ([.ref h0, .int p1])).length) Slot.unset).toArray = ls at hl ⊢
  have hl : lv_has ls 2 [(0, .ref h0), (1, .int p1)] := hl
  show W p l e (rmF 1 64) s m ([.ref h0, .int p1] : List Value).toArray below meth c s.heap [] 0 0 (MQ below (QcR z (fun r H => TY z (zA z) gh H ∧ (zG z r = (20, h0)))) ([.ref h0, .int p1] : List Value).toArray s 0 0 (zA z)) (F0 m 0 ls [])
  have hT : TY z (zA z) gh s.heap := hW
  have mx_p1 := i_mx p1
  refine lv_iload_n hx hb dX1_rowOf_0 rfl (lv_at hl 1 rfl) ?_
  rcases (show p1.toInt = 0 ∨ p1.toInt = 1 ∨ p1.toInt = 2 ∨ (p1.toInt < 0 ∨ 2 < p1.toInt) by omega) with c1 | c1 | c1 | c1
  · refine lv_tableIn (off := 27) (tgt := 28) hx hb dX1_rowOf_1 (by omega) (by omega) (by rw [c1]; rfl) (by decide) ?_
    refine lv_aload_n hx hb dX1_rowOf_28 rfl (lv_at hl 0 rfl) ?_
    refine gt_Floor_kind hx hb hts ic_Floor hown hK hT g0 (hts _ mw_1_43) dX1_rowOf_29 (fun q29 hq29 => ?_)
    exact rt_r hx hb hr (Or.inr ⟨_, rfl⟩) hlk hS ⟨hT, by omega⟩ dX1_rowOf_32
  · refine lv_tableIn (off := 32) (tgt := 33) hx hb dX1_rowOf_1 (by omega) (by omega) (by rw [c1]; rfl) (by decide) ?_
    refine lv_aload_n hx hb dX1_rowOf_33 rfl (lv_at hl 0 rfl) ?_
    refine gt_Floor_height hx hb hts ic_Floor hown hK hT g0 (hts _ mw_1_45) dX1_rowOf_34 (fun q34 hq34 => ?_)
    exact rt_r hx hb hr (Or.inr ⟨_, rfl⟩) hlk hS ⟨hT, by omega⟩ dX1_rowOf_37
  · refine lv_tableIn (off := 37) (tgt := 38) hx hb dX1_rowOf_1 (by omega) (by omega) (by rw [c1]; rfl) (by decide) ?_
    refine lv_aload_n hx hb dX1_rowOf_38 rfl (lv_at hl 0 rfl) ?_
    refine gt_Floor_heels hx hb hts ic_Floor hown hK hT g0 (hts _ mw_1_47) dX1_rowOf_39 (fun q39 hq39 => ?_)
    exact rt_r hx hb hr (Or.inr ⟨_, rfl⟩) hlk hS ⟨hT, by omega⟩ dX1_rowOf_42
  · refine lv_tableOut (tgt := 43) hx hb dX1_rowOf_1 c1 (by decide) ?_
    refine lv_aload_n hx hb dX1_rowOf_43 rfl (lv_at hl 0 rfl) ?_
    refine gt_Floor_heat hx hb hts ic_Floor hown hK hT g0 (hts _ mw_1_49) dX1_rowOf_44 (fun q44 hq44 => ?_)
    exact rt_r hx hb hr (Or.inr ⟨_, rfl⟩) hlk hS ⟨hT, by omega⟩ dX1_rowOf_47
theorem k_X1_stature : cBV yX1_stature cX1_stature 3 (some .int) 1 := ⟨mw_2_230, mw_2_231, mw_1_4, mw_2_232, ⟨by decide, by decide, by decide⟩⟩
set_option maxHeartbeats 4000000 in
set_option maxRecDepth 100000 in
theorem c_X1_stature (l : Launch) (z : Zt) (gh : Gh) (h0 o0 : Nat) (g0 : zG z h0 = (11, o0)) (p1 : Int32) (bp1 : 0 ≤ p1.toInt ∧ p1.toInt ≤ 4) : Met l yX1_stature (uw yX1_stature cX1_stature 3 (some .int)) (rmF 1 64) (PcW z [.ref h0, .int p1] (fun H => TY z (zA z) gh H)) (QcI z (fun r H => TY z (zA z) gh H)) 0 0 (zA z) := by
  refine Met.ofW (cc := cX1_stature) (maxL := 3) (ret := (some .int)) (by decide) rfl ?_
  intro p e s m args below meth c s₁ B hml hv
  obtain ⟨rfl, hW, hK, hSK⟩ := hv
  have hx := B.exec
  have hb := B.bytes
  have hr := B.returns
  have hts : ∀ w ∈ lw_ok, w.before ([.ref h0, .int p1] : List Value).toArray s = true := fun w hw => atoms_spec (ws := uw yX1_stature cX1_stature 3 (some .int)) B.pre w (List.mem_cons_of_mem _ hw)
  have hown : s.vm.findClass RX1 = some m.cls := findClass_of_methodNamed B.named
  have hlk := B.notSynchronized
  have hC : CallFix p m c cX1_stature 3 s ([.ref h0, .int p1] : List Value).toArray lw_ok RX1 := ⟨hx, hb, hml, hown, hts⟩
  have hS : va_S (zA z) s.heap s.heap [] := va_S.rf
  have hl := lv_entry ([.ref h0, .int p1]) (n := 3) (Nat.le_of_ble_eq_true rfl)
  rw [lg_entry_eq]
  generalize (lg_sl ([.ref h0, .int p1]) ++ List.replicate (3 - (lg_sl ([.ref h0, .int p1])).length) Slot.unset).toArray = ls at hl ⊢
  have hl : lv_has ls 3 [(0, .ref h0), (1, .int p1)] := hl
  show W p l e (rmF 1 64) s m ([.ref h0, .int p1] : List Value).toArray below meth c s.heap [] 0 0 (MQ below (QcI z (fun r H => TY z (zA z) gh H)) ([.ref h0, .int p1] : List Value).toArray s 0 0 (zA z)) (F0 m 0 ls [])
  have hT : TY z (zA z) gh s.heap := hW
  refine lv_aload_n hx hb dX1_stature_0 rfl (lv_at hl 0 rfl) ?_
  refine gt_Floor_height hx hb hts ic_Floor hown hK hT g0 (hts _ mw_1_45) dX1_stature_1 (fun q1 hq1 => ?_)
  refine lv_iload_n hx hb dX1_stature_4 rfl (lv_at hl 1 rfl) ?_
  refine al_20 hx hb hK hT hq1 (by omega) (by omega) dX1_stature_5 (fun x5 => ?_)
  refine lv_aload_n hx hb dX1_stature_6 rfl (lv_at hl 0 rfl) ?_
  refine gt_Floor_heels hx hb hts ic_Floor hown hK hT g0 (hts _ mw_1_47) dX1_stature_7 (fun q7 hq7 => ?_)
  refine lv_iload_n hx hb dX1_stature_10 rfl (lv_at hl 1 rfl) ?_
  refine al_20 hx hb hK hT hq7 (by omega) (by omega) dX1_stature_11 (fun x11 => ?_)
  refine w_iadd hx hb dX1_stature_12 (fun x12 => ?_)
  refine lv_istore_n (lv' := [(2, .int x12), (0, .ref h0), (1, .int p1)]) hx hb dX1_stature_13 rfl hl (by decide) rfl (fun ls hl => ?_)
  refine lv_aload_n hx hb dX1_stature_14 rfl (lv_at hl 1 rfl) ?_
  refine gt_Floor_kind hx hb hts ic_Floor hown hK hT g0 (hts _ mw_1_43) dX1_stature_15 (fun q15 hq15 => ?_)
  refine lv_iload_n hx hb dX1_stature_18 rfl (lv_at hl 2 rfl) ?_
  refine al_20 hx hb hK hT hq15 (by omega) (by omega) dX1_stature_19 (fun x19 => ?_)
  refine r_iconst hx hb dX1_stature_20 (by decide) (by decide) (fun x20 e20 => ?_)
  refine r_icmp_ne (tgt := 28) hx hb dX1_stature_21 (by decide) (fun c21 => ?_) (fun c21 => ?_)
  · refine lv_aload_n hx hb dX1_stature_28 rfl (lv_at hl 1 rfl) ?_
    refine gt_Floor_kind hx hb hts ic_Floor hown hK hT g0 (hts _ mw_1_43) dX1_stature_29 (fun q29 hq29 => ?_)
    refine lv_iload_n hx hb dX1_stature_32 rfl (lv_at hl 2 rfl) ?_
    refine al_20 hx hb hK hT hq29 (by omega) (by omega) dX1_stature_33 (fun x33 => ?_)
    refine r_iconst hx hb dX1_stature_34 (by decide) (by decide) (fun x34 e34 => ?_)
    refine r_icmp_ne (tgt := 44) hx hb dX1_stature_35 (by decide) (fun c35 => ?_) (fun c35 => ?_)
    · refine lv_iload_n hx hb dX1_stature_44 rfl (lv_at hl 0 rfl) ?_
      exact rt_i hx hb hr hlk hS hT dX1_stature_45
    · refine lv_iload_n hx hb dX1_stature_38 rfl (lv_at hl 0 rfl) ?_
      refine r_iconst hx hb dX1_stature_39 (by decide) (by decide) (fun x39 e39 => ?_)
      refine w_iadd hx hb dX1_stature_40 (fun x40 => ?_)
      refine lv_goto (tgt := 45) hx hb dX1_stature_41 (by decide) ?_
      exact rt_i hx hb hr hlk hS hT dX1_stature_45
  · refine lv_iload_n hx hb dX1_stature_24 rfl (lv_at hl 0 rfl) ?_
    refine r_iconst hx hb dX1_stature_25 (by decide) (by decide) (fun x25 e25 => ?_)
    refine w_isub hx hb dX1_stature_26 (fun x26 => ?_)
    exact rt_i hx hb hr hlk hS hT dX1_stature_27
theorem k_X1_standsAhead : cBV yX1_standsAhead cX1_standsAhead 4 (some .boolean) 2 := ⟨mw_3_0, ms_0_13, mw_1_4, mw_3_1, ⟨by decide, by decide, by decide⟩⟩
set_option maxHeartbeats 4000000 in
set_option maxRecDepth 100000 in
theorem c_X1_standsAhead (l : Launch) (z : Zt) (gh : Gh) (h0 o0 : Nat) (g0 : zG z h0 = (11, o0)) (p1 : Int32) (p2 : Int32) (bp1 : 0 ≤ p1.toInt ∧ p1.toInt ≤ 4) (bp2 : 0 ≤ p2.toInt ∧ p2.toInt ≤ 4) : Met l yX1_standsAhead (uw yX1_standsAhead cX1_standsAhead 4 (some .boolean)) (rmF 1 64) (PcW z [.ref h0, .int p1, .int p2] (fun H => TY z (zA z) gh H)) (QcI z (fun r H => TY z (zA z) gh H ∧ (0 ≤ r.toInt ∧ r.toInt ≤ 1))) 0 0 (zA z) := by
  refine Met.ofW (cc := cX1_standsAhead) (maxL := 4) (ret := (some .boolean)) (by decide) rfl ?_
  intro p e s m args below meth c s₁ B hml hv
  obtain ⟨rfl, hW, hK, hSK⟩ := hv
  have hx := B.exec
  have hb := B.bytes
  have hr := B.returns
  have hts : ∀ w ∈ lw_ok, w.before ([.ref h0, .int p1, .int p2] : List Value).toArray s = true := fun w hw => atoms_spec (ws := uw yX1_standsAhead cX1_standsAhead 4 (some .boolean)) B.pre w (List.mem_cons_of_mem _ hw)
  have hown : s.vm.findClass RX1 = some m.cls := findClass_of_methodNamed B.named
  have hlk := B.notSynchronized
  have hC : CallFix p m c cX1_standsAhead 4 s ([.ref h0, .int p1, .int p2] : List Value).toArray lw_ok RX1 := ⟨hx, hb, hml, hown, hts⟩
  have hS : va_S (zA z) s.heap s.heap [] := va_S.rf
  have hl := lv_entry ([.ref h0, .int p1, .int p2]) (n := 4) (Nat.le_of_ble_eq_true rfl)
  rw [lg_entry_eq]
  generalize (lg_sl ([.ref h0, .int p1, .int p2]) ++ List.replicate (4 - (lg_sl ([.ref h0, .int p1, .int p2])).length) Slot.unset).toArray = ls at hl ⊢
  have hl : lv_has ls 4 [(0, .ref h0), (1, .int p1), (2, .int p2)] := hl
  show W p l e (rmF 1 64) s m ([.ref h0, .int p1, .int p2] : List Value).toArray below meth c s.heap [] 0 0 (MQ below (QcI z (fun r H => TY z (zA z) gh H ∧ (0 ≤ r.toInt ∧ r.toInt ≤ 1))) ([.ref h0, .int p1, .int p2] : List Value).toArray s 0 0 (zA z)) (F0 m 0 ls [])
  have hT : TY z (zA z) gh s.heap := hW
  refine lv_aload_n hx hb dX1_standsAhead_0 rfl (lv_at hl 0 rfl) ?_
  refine gt_Floor_statures hx hb hts ic_Floor hown hK hT g0 (hts _ mw_1_55) dX1_standsAhead_1 (fun q1 hq1 => ?_)
  refine lv_iload_n hx hb dX1_standsAhead_4 rfl (lv_at hl 1 rfl) ?_
  refine al_20 hx hb hK hT hq1 (by omega) (by omega) dX1_standsAhead_5 (fun x5 => ?_)
  refine lv_aload_n hx hb dX1_standsAhead_6 rfl (lv_at hl 0 rfl) ?_
  refine gt_Floor_statures hx hb hts ic_Floor hown hK hT g0 (hts _ mw_1_55) dX1_standsAhead_7 (fun q7 hq7 => ?_)
  refine lv_iload_n hx hb dX1_standsAhead_10 rfl (lv_at hl 2 rfl) ?_
  refine al_20 hx hb hK hT hq7 (by omega) (by omega) dX1_standsAhead_11 (fun x11 => ?_)
  refine w_isub hx hb dX1_standsAhead_12 (fun x12 => ?_)
  refine lv_istore_n (lv' := [(3, .int x12), (0, .ref h0), (1, .int p1), (2, .int p2)]) hx hb dX1_standsAhead_13 rfl hl (by decide) rfl (fun ls hl => ?_)
  refine lv_iload_n hx hb dX1_standsAhead_14 rfl (lv_at hl 0 rfl) ?_
  have J37 : ∀ (ls : Array Slot) (H : Heap) (locs : List Loc), (x12.toInt ≤ 0) → TY z (zA z) gh H → va_S (zA z) s.heap H locs → lv_has ls 4 [(0, .ref h0), (1, .int p1), (2, .int p2), (3, .int x12)] → W p l e (rmF 1 64) s m ([.ref h0, .int p1, .int p2] : List Value).toArray below meth c H locs 0 0 (MQ below (QcI z (fun r H => TY z (zA z) gh H ∧ (0 ≤ r.toInt ∧ r.toInt ≤ 1))) ([.ref h0, .int p1, .int p2] : List Value).toArray s 0 0 (zA z)) (F0 m 37 ls []) := by
    intro ls H locs j37_x12 hT hS hl
    refine r_iconst hx hb dX1_standsAhead_37 (by decide) (by decide) (fun x37 e37 => ?_)
    refine lv_goto (tgt := 42) hx hb dX1_standsAhead_38 (by decide) ?_
    exact rt_z hx hb hr hlk hS (by omega) (by omega) ⟨hT, by omega⟩ dX1_standsAhead_42
  refine r_if_lt (tgt := 37) hx hb dX1_standsAhead_15 (by decide) (fun c15 => ?_) (fun c15 => ?_)
  · exact J37 ls _ _ (by omega) hT hS (lv_sub hl [1, 2, 3, 0] rfl)
  · refine lv_iload_n hx hb dX1_standsAhead_18 rfl (lv_at hl 0 rfl) ?_
    have J41 : ∀ (ls : Array Slot) (H : Heap) (locs : List Loc), TY z (zA z) gh H → va_S (zA z) s.heap H locs → lv_has ls 4 [(0, .ref h0), (1, .int p1), (2, .int p2), (3, .int x12)] → W p l e (rmF 1 64) s m ([.ref h0, .int p1, .int p2] : List Value).toArray below meth c H locs 0 0 (MQ below (QcI z (fun r H => TY z (zA z) gh H ∧ (0 ≤ r.toInt ∧ r.toInt ≤ 1))) ([.ref h0, .int p1, .int p2] : List Value).toArray s 0 0 (zA z)) (F0 m 41 ls []) := by
      intro ls H locs hT hS hl
      refine r_iconst hx hb dX1_standsAhead_41 (by decide) (by decide) (fun x41 e41 => ?_)
      exact rt_z hx hb hr hlk hS (by omega) (by omega) ⟨hT, by omega⟩ dX1_standsAhead_42
    refine r_if_ne (tgt := 41) hx hb dX1_standsAhead_19 (by decide) (fun c19 => ?_) (fun c19 => ?_)
    · exact J41 ls _ _ hT hS (lv_sub hl [1, 2, 3, 0] rfl)
    · refine lv_aload_n hx hb dX1_standsAhead_22 rfl (lv_at hl 1 rfl) ?_
      refine gt_Floor_heat hx hb hts ic_Floor hown hK hT g0 (hts _ mw_1_49) dX1_standsAhead_23 (fun q23 hq23 => ?_)
      refine lv_iload_n hx hb dX1_standsAhead_26 rfl (lv_at hl 2 rfl) ?_
      refine al_20 hx hb hK hT hq23 (by omega) (by omega) dX1_standsAhead_27 (fun x27 => ?_)
      refine lv_aload_n hx hb dX1_standsAhead_28 rfl (lv_at hl 1 rfl) ?_
      refine gt_Floor_heat hx hb hts ic_Floor hown hK hT g0 (hts _ mw_1_49) dX1_standsAhead_29 (fun q29 hq29 => ?_)
      refine lv_iload_n hx hb dX1_standsAhead_32 rfl (lv_at hl 3 rfl) ?_
      refine al_20 hx hb hK hT hq29 (by omega) (by omega) dX1_standsAhead_33 (fun x33 => ?_)
      refine r_icmp_le (tgt := 41) hx hb dX1_standsAhead_34 (by decide) (fun c34 => ?_) (fun c34 => ?_)
      · exact J41 ls _ _ hT hS (lv_sub hl [1, 2, 3, 0] rfl)
      · exact J37 ls _ _ (by omega) hT hS (lv_sub hl [1, 2, 3, 0] rfl)
theorem k_X1_roundBits : cBV yX1_roundBits cX1_roundBits 3 (some .int) 0 := ⟨mw_2_218, mw_2_219, mw_1_4, mw_2_220, ⟨by decide, by decide, by decide⟩⟩
set_option maxHeartbeats 4000000 in
set_option maxRecDepth 100000 in
theorem c_X1_roundBits (l : Launch) (z : Zt) (gh : Gh) (h0 o0 : Nat) (g0 : zG z h0 = (11, o0)) : Met l yX1_roundBits (uw yX1_roundBits cX1_roundBits 3 (some .int)) (rmF 1 64) (PcW z [.ref h0] (fun H => TY z (zA z) gh H)) (QcI z (fun r H => TY z (zA z) gh H)) 0 0 (zA z) := by
  refine Met.ofW (cc := cX1_roundBits) (maxL := 3) (ret := (some .int)) (by decide) rfl ?_
  intro p e s m args below meth c s₁ B hml hv
  obtain ⟨rfl, hW, hK, hSK⟩ := hv
  have hx := B.exec
  have hb := B.bytes
  have hr := B.returns
  have hts : ∀ w ∈ lw_ok, w.before ([.ref h0] : List Value).toArray s = true := fun w hw => atoms_spec (ws := uw yX1_roundBits cX1_roundBits 3 (some .int)) B.pre w (List.mem_cons_of_mem _ hw)
  have hown : s.vm.findClass RX1 = some m.cls := findClass_of_methodNamed B.named
  have hlk := B.notSynchronized
  have hC : CallFix p m c cX1_roundBits 3 s ([.ref h0] : List Value).toArray lw_ok RX1 := ⟨hx, hb, hml, hown, hts⟩
  have hS : va_S (zA z) s.heap s.heap [] := va_S.rf
  have hl := lv_entry ([.ref h0]) (n := 3) (Nat.le_of_ble_eq_true rfl)
  rw [lg_entry_eq]
  generalize (lg_sl ([.ref h0]) ++ List.replicate (3 - (lg_sl ([.ref h0])).length) Slot.unset).toArray = ls at hl ⊢
  have hl : lv_has ls 3 [(0, .ref h0)] := hl
  show W p l e (rmF 1 64) s m ([.ref h0] : List Value).toArray below meth c s.heap [] 0 0 (MQ below (QcI z (fun r H => TY z (zA z) gh H)) ([.ref h0] : List Value).toArray s 0 0 (zA z)) (F0 m 0 ls [])
  have hT : TY z (zA z) gh s.heap := hW
  refine r_iconst hx hb dX1_roundBits_0 (by decide) (by decide) (fun x0 e0 => ?_)
  refine lv_istore_n (lv' := [(1, .int x0), (0, .ref h0)]) hx hb dX1_roundBits_1 rfl hl (by decide) rfl (fun ls hl => ?_)
  refine r_iconst hx hb dX1_roundBits_2 (by decide) (by decide) (fun x2 e2 => ?_)
  refine lv_istore_n (lv' := [(2, .int x2), (1, .int x0), (0, .ref h0)]) hx hb dX1_roundBits_3 rfl hl (by decide) rfl (fun ls hl => ?_)
  have J4 : ∀ (n4 : Nat) (ls : Array Slot) (H : Heap) (locs : List Loc) (y4_1 : Int32) (y4_2 : Int32), (0 ≤ y4_2.toInt ∧ y4_2.toInt ≤ 5) → (5 - y4_2.toInt) < (n4 : Int) → TY z (zA z) gh H → va_S (zA z) s.heap H locs → lv_has ls 3 [(0, .ref h0), (1, .int y4_1), (2, .int y4_2)] → W p l e (rmF 1 64) s m ([.ref h0] : List Value).toArray below meth c H locs 0 0 (MQ below (QcI z (fun r H => TY z (zA z) gh H)) ([.ref h0] : List Value).toArray s 0 0 (zA z)) (F0 m 4 ls []) := by
    intro n4
    induction n4 with
    | zero => intro ls H locs y4_1 y4_2 j4_y4_2 mm4 hT hS hl; exfalso; omega
    | succ n4 ih4 =>
      intro ls H locs y4_1 y4_2 j4_y4_2 mm4 hT hS hl
      refine lv_iload_n hx hb dX1_roundBits_4 rfl (lv_at hl 2 rfl) ?_
      refine lv_aload_n hx hb dX1_roundBits_5 rfl (lv_at hl 0 rfl) ?_
      refine gt_Floor_men hx hb hts ic_Floor hown hK hT g0 (hts _ mw_1_60) dX1_roundBits_6 (fun x6 i6 e6 g6 => ?_)
      refine r_icmp_ge (tgt := 34) hx hb dX1_roundBits_9 (by decide) (fun c9 => ?_) (fun c9 => ?_)
      · refine lv_iload_n hx hb dX1_roundBits_34 rfl (lv_at hl 1 rfl) ?_
        exact rt_i hx hb hr hlk hS hT dX1_roundBits_35
      · refine lv_aload_n hx hb dX1_roundBits_12 rfl (lv_at hl 0 rfl) ?_
        refine gt_Floor_partner hx hb hts ic_Floor hown hK hT g0 (hts _ mw_1_51) dX1_roundBits_13 (fun q13 hq13 => ?_)
        refine lv_iload_n hx hb dX1_roundBits_16 rfl (lv_at hl 2 rfl) ?_
        refine al_27 hx hb hK hT hq13 (by omega) (by omega) dX1_roundBits_17 (fun x17 e17 => ?_)
        have n17 := ix_nat (i := y4_2) (by omega)
        unfold p27 at e17
        refine lv_iload_n hx hb dX1_roundBits_18 rfl (lv_at hl 2 rfl) ?_
        have J28 : ∀ (ls : Array Slot) (H : Heap) (locs : List Loc) (y28_1 : Int32), (5 - y4_2.toInt) < ((n4 + 1 : Nat) : Int) → TY z (zA z) gh H → va_S (zA z) s.heap H locs → lv_has ls 3 [(0, .ref h0), (1, .int y28_1), (2, .int y4_2)] → W p l e (rmF 1 64) s m ([.ref h0] : List Value).toArray below meth c H locs 0 0 (MQ below (QcI z (fun r H => TY z (zA z) gh H)) ([.ref h0] : List Value).toArray s 0 0 (zA z)) (F0 m 28 ls []) := by
          intro ls H locs y28_1 mf28_4 hT hS hl
          refine r_iinc (lv' := fun v__ => [(2, .int v__), (0, .ref h0), (1, .int y28_1)]) hx hb dX1_roundBits_28 hl (k := 2) rfl (by decide) (fun _ => rfl) ⟨by decide, by decide⟩ (by omega) (by omega) (fun x28 ls e28 hl => ?_)
          refine lv_goto (tgt := 4) hx hb dX1_roundBits_31 (by decide) ?_
          exact ih4 ls _ _ y28_1 x28 (by omega) (by omega) hT hS (lv_sub hl [1, 2, 0] rfl)
        refine r_icmp_ne (tgt := 28) hx hb dX1_roundBits_19 (by decide) (fun c19 => ?_) (fun c19 => ?_)
        · exact J28 ls _ _ y4_1 (by omega) hT hS (lv_sub hl [0, 1, 2] rfl)
        · refine lv_iload_n hx hb dX1_roundBits_22 rfl (lv_at hl 1 rfl) ?_
          refine r_iconst hx hb dX1_roundBits_23 (by decide) (by decide) (fun x23 e23 => ?_)
          refine lv_iload_n hx hb dX1_roundBits_24 rfl (lv_at hl 2 rfl) ?_
          refine r_shl1 hx hb dX1_roundBits_25 (by omega) (by omega) (by omega) (fun x25 e25 g25 k25 => ?_)
          refine w_ior hx hb dX1_roundBits_26 (fun x26 => ?_)
          refine lv_istore_n (lv' := [(1, .int x26), (0, .ref h0), (2, .int y4_2)]) hx hb dX1_roundBits_27 rfl hl (by decide) rfl (fun ls hl => ?_)
          exact J28 ls _ _ x26 (by omega) hT hS (lv_sub hl [1, 0, 2] rfl)
  exact J4 (((5 - x2.toInt)).toNat + 1) ls _ _ x0 x2 (by omega) (by omega) hT hS (lv_sub hl [2, 1, 0] rfl)
theorem k_X1_womanWith : cBV yX1_womanWith cX1_womanWith 3 (some .int) 1 := ⟨mw_3_3, mw_3_4, mw_1_4, mw_3_5, ⟨by decide, by decide, by decide⟩⟩
set_option maxHeartbeats 4000000 in
set_option maxRecDepth 100000 in
theorem c_X1_womanWith (l : Launch) (z : Zt) (gh : Gh) (h0 o0 : Nat) (g0 : zG z h0 = (11, o0)) (p1 : Int32) : Met l yX1_womanWith (uw yX1_womanWith cX1_womanWith 3 (some .int)) (rmF 1 64) (PcW z [.ref h0, .int p1] (fun H => TY z (zA z) gh H)) (QcI z (fun r H => TY z (zA z) gh H)) 0 0 (zA z) := by
  refine Met.ofW (cc := cX1_womanWith) (maxL := 3) (ret := (some .int)) (by decide) rfl ?_
  intro p e s m args below meth c s₁ B hml hv
  obtain ⟨rfl, hW, hK, hSK⟩ := hv
  have hx := B.exec
  have hb := B.bytes
  have hr := B.returns
  have hts : ∀ w ∈ lw_ok, w.before ([.ref h0, .int p1] : List Value).toArray s = true := fun w hw => atoms_spec (ws := uw yX1_womanWith cX1_womanWith 3 (some .int)) B.pre w (List.mem_cons_of_mem _ hw)
  have hown : s.vm.findClass RX1 = some m.cls := findClass_of_methodNamed B.named
  have hlk := B.notSynchronized
  have hC : CallFix p m c cX1_womanWith 3 s ([.ref h0, .int p1] : List Value).toArray lw_ok RX1 := ⟨hx, hb, hml, hown, hts⟩
  have hS : va_S (zA z) s.heap s.heap [] := va_S.rf
  have hl := lv_entry ([.ref h0, .int p1]) (n := 3) (Nat.le_of_ble_eq_true rfl)
  rw [lg_entry_eq]
  generalize (lg_sl ([.ref h0, .int p1]) ++ List.replicate (3 - (lg_sl ([.ref h0, .int p1])).length) Slot.unset).toArray = ls at hl ⊢
  have hl : lv_has ls 3 [(0, .ref h0), (1, .int p1)] := hl
  show W p l e (rmF 1 64) s m ([.ref h0, .int p1] : List Value).toArray below meth c s.heap [] 0 0 (MQ below (QcI z (fun r H => TY z (zA z) gh H)) ([.ref h0, .int p1] : List Value).toArray s 0 0 (zA z)) (F0 m 0 ls [])
  have hT : TY z (zA z) gh s.heap := hW
  have mx_p1 := i_mx p1
  refine r_iconst hx hb dX1_womanWith_0 (by decide) (by decide) (fun x0 e0 => ?_)
  refine lv_istore_n (lv' := [(2, .int x0), (0, .ref h0), (1, .int p1)]) hx hb dX1_womanWith_1 rfl hl (by decide) rfl (fun ls hl => ?_)
  have J2 : ∀ (n2 : Nat) (ls : Array Slot) (H : Heap) (locs : List Loc) (y2_2 : Int32), (0 ≤ y2_2.toInt ∧ y2_2.toInt ≤ 5) → (5 - y2_2.toInt) < (n2 : Int) → TY z (zA z) gh H → va_S (zA z) s.heap H locs → lv_has ls 3 [(0, .ref h0), (1, .int p1), (2, .int y2_2)] → W p l e (rmF 1 64) s m ([.ref h0, .int p1] : List Value).toArray below meth c H locs 0 0 (MQ below (QcI z (fun r H => TY z (zA z) gh H)) ([.ref h0, .int p1] : List Value).toArray s 0 0 (zA z)) (F0 m 2 ls []) := by
    intro n2
    induction n2 with
    | zero => intro ls H locs y2_2 j2_y2_2 mm2 hT hS hl; exfalso; omega
    | succ n2 ih2 =>
      intro ls H locs y2_2 j2_y2_2 mm2 hT hS hl
      refine lv_iload_n hx hb dX1_womanWith_2 rfl (lv_at hl 2 rfl) ?_
      refine lv_aload_n hx hb dX1_womanWith_3 rfl (lv_at hl 0 rfl) ?_
      refine gt_Floor_men hx hb hts ic_Floor hown hK hT g0 (hts _ mw_1_60) dX1_womanWith_4 (fun x4 i4 e4 g4 => ?_)
      refine r_icmp_ge (tgt := 28) hx hb dX1_womanWith_7 (by decide) (fun c7 => ?_) (fun c7 => ?_)
      · refine r_bipush hx hb dX1_womanWith_28 rfl (fun x28 e28 => ?_)
        exact rt_i hx hb hr hlk hS hT dX1_womanWith_30
      · refine lv_aload_n hx hb dX1_womanWith_10 rfl (lv_at hl 0 rfl) ?_
        refine gt_Floor_partner hx hb hts ic_Floor hown hK hT g0 (hts _ mw_1_51) dX1_womanWith_11 (fun q11 hq11 => ?_)
        refine lv_iload_n hx hb dX1_womanWith_14 rfl (lv_at hl 2 rfl) ?_
        refine al_27 hx hb hK hT hq11 (by omega) (by omega) dX1_womanWith_15 (fun x15 e15 => ?_)
        have n15 := ix_nat (i := y2_2) (by omega)
        unfold p27 at e15
        refine lv_iload_n hx hb dX1_womanWith_16 rfl (lv_at hl 1 rfl) ?_
        refine r_icmp_ne (tgt := 22) hx hb dX1_womanWith_17 (by decide) (fun c17 => ?_) (fun c17 => ?_)
        · refine r_iinc (lv' := fun v__ => [(2, .int v__), (0, .ref h0), (1, .int p1)]) hx hb dX1_womanWith_22 hl (k := 2) rfl (by decide) (fun _ => rfl) ⟨by decide, by decide⟩ (by omega) (by omega) (fun x22 ls e22 hl => ?_)
          refine lv_goto (tgt := 2) hx hb dX1_womanWith_25 (by decide) ?_
          exact ih2 ls _ _ x22 (by omega) (by omega) hT hS (lv_sub hl [1, 2, 0] rfl)
        · refine lv_iload_n hx hb dX1_womanWith_20 rfl (lv_at hl 2 rfl) ?_
          exact rt_i hx hb hr hlk hS hT dX1_womanWith_21
  exact J2 (((5 - x0.toInt)).toNat + 1) ls _ _ x0 (by omega) (by omega) hT hS (lv_sub hl [1, 2, 0] rfl)
theorem k_X1_isPairedAs : cBV yX1_isPairedAs cX1_isPairedAs 3 (some .boolean) 1 := ⟨mw_3_137, mw_3_138, mw_1_4, mw_3_139, ⟨by decide, by decide, by decide⟩⟩
set_option maxHeartbeats 4000000 in
set_option maxRecDepth 100000 in
theorem c_X1_isPairedAs (l : Launch) (z : Zt) (gh : Gh) (h0 o0 : Nat) (g0 : zG z h0 = (11, o0)) (ra1 ora1 : Nat) (hra1 : zG z ra1 = (11, ora1)) : Met l yX1_isPairedAs (uw yX1_isPairedAs cX1_isPairedAs 3 (some .boolean)) (rmF 1 64) (PcW z [.ref h0, .ref ra1] (fun H => TY z (zA z) gh H)) (QcI z (fun r H => TY z (zA z) gh H ∧ (0 ≤ r.toInt ∧ r.toInt ≤ 1))) 0 0 (zA z) := by
  refine Met.ofW (cc := cX1_isPairedAs) (maxL := 3) (ret := (some .boolean)) (by decide) rfl ?_
  intro p e s m args below meth c s₁ B hml hv
  obtain ⟨rfl, hW, hK, hSK⟩ := hv
  have hx := B.exec
  have hb := B.bytes
  have hr := B.returns
  have hts : ∀ w ∈ lw_ok, w.before ([.ref h0, .ref ra1] : List Value).toArray s = true := fun w hw => atoms_spec (ws := uw yX1_isPairedAs cX1_isPairedAs 3 (some .boolean)) B.pre w (List.mem_cons_of_mem _ hw)
  have hown : s.vm.findClass RX1 = some m.cls := findClass_of_methodNamed B.named
  have hlk := B.notSynchronized
  have hC : CallFix p m c cX1_isPairedAs 3 s ([.ref h0, .ref ra1] : List Value).toArray lw_ok RX1 := ⟨hx, hb, hml, hown, hts⟩
  have hS : va_S (zA z) s.heap s.heap [] := va_S.rf
  have hl := lv_entry ([.ref h0, .ref ra1]) (n := 3) (Nat.le_of_ble_eq_true rfl)
  rw [lg_entry_eq]
  generalize (lg_sl ([.ref h0, .ref ra1]) ++ List.replicate (3 - (lg_sl ([.ref h0, .ref ra1])).length) Slot.unset).toArray = ls at hl ⊢
  have hl : lv_has ls 3 [(0, .ref h0), (1, .ref ra1)] := hl
  show W p l e (rmF 1 64) s m ([.ref h0, .ref ra1] : List Value).toArray below meth c s.heap [] 0 0 (MQ below (QcI z (fun r H => TY z (zA z) gh H ∧ (0 ≤ r.toInt ∧ r.toInt ≤ 1))) ([.ref h0, .ref ra1] : List Value).toArray s 0 0 (zA z)) (F0 m 0 ls [])
  have hT : TY z (zA z) gh s.heap := hW
  refine r_iconst hx hb dX1_isPairedAs_0 (by decide) (by decide) (fun x0 e0 => ?_)
  refine lv_istore_n (lv' := [(2, .int x0), (0, .ref h0), (1, .ref ra1)]) hx hb dX1_isPairedAs_1 rfl hl (by decide) rfl (fun ls hl => ?_)
  have J2 : ∀ (n2 : Nat) (ls : Array Slot) (H : Heap) (locs : List Loc) (y2_2 : Int32), (0 ≤ y2_2.toInt ∧ y2_2.toInt ≤ 5) → (5 - y2_2.toInt) < (n2 : Int) → TY z (zA z) gh H → va_S (zA z) s.heap H locs → lv_has ls 3 [(0, .ref h0), (1, .ref ra1), (2, .int y2_2)] → W p l e (rmF 1 64) s m ([.ref h0, .ref ra1] : List Value).toArray below meth c H locs 0 0 (MQ below (QcI z (fun r H => TY z (zA z) gh H ∧ (0 ≤ r.toInt ∧ r.toInt ≤ 1))) ([.ref h0, .ref ra1] : List Value).toArray s 0 0 (zA z)) (F0 m 2 ls []) := by
    intro n2
    induction n2 with
    | zero => intro ls H locs y2_2 j2_y2_2 mm2 hT hS hl; exfalso; omega
    | succ n2 ih2 =>
      intro ls H locs y2_2 j2_y2_2 mm2 hT hS hl
      refine lv_iload_n hx hb dX1_isPairedAs_2 rfl (lv_at hl 2 rfl) ?_
      refine lv_aload_n hx hb dX1_isPairedAs_3 rfl (lv_at hl 0 rfl) ?_
      refine gt_Floor_men hx hb hts ic_Floor hown hK hT g0 (hts _ mw_1_60) dX1_isPairedAs_4 (fun x4 i4 e4 g4 => ?_)
      refine r_icmp_ge (tgt := 33) hx hb dX1_isPairedAs_7 (by decide) (fun c7 => ?_) (fun c7 => ?_)
      · refine r_iconst hx hb dX1_isPairedAs_33 (by decide) (by decide) (fun x33 e33 => ?_)
        exact rt_z hx hb hr hlk hS (by omega) (by omega) ⟨hT, by omega⟩ dX1_isPairedAs_34
      · refine lv_aload_n hx hb dX1_isPairedAs_10 rfl (lv_at hl 0 rfl) ?_
        refine gt_Floor_partner hx hb hts ic_Floor hown hK hT g0 (hts _ mw_1_51) dX1_isPairedAs_11 (fun q11 hq11 => ?_)
        refine lv_iload_n hx hb dX1_isPairedAs_14 rfl (lv_at hl 2 rfl) ?_
        refine al_27 hx hb hK hT hq11 (by omega) (by omega) dX1_isPairedAs_15 (fun x15 e15 => ?_)
        have n15 := ix_nat (i := y2_2) (by omega)
        unfold p27 at e15
        refine lv_aload_n hx hb dX1_isPairedAs_16 rfl (lv_at hl 1 rfl) ?_
        refine gt_Floor_partner hx hb hts ic_Floor hown hK hT hra1 (hts _ mw_1_51) dX1_isPairedAs_17 (fun q17 hq17 => ?_)
        refine lv_iload_n hx hb dX1_isPairedAs_20 rfl (lv_at hl 2 rfl) ?_
        refine al_27 hx hb hK hT hq17 (by omega) (by omega) dX1_isPairedAs_21 (fun x21 e21 => ?_)
        have n21 := ix_nat (i := y2_2) (by omega)
        unfold p27 at e21
        refine r_icmp_eq (tgt := 27) hx hb dX1_isPairedAs_22 (by decide) (fun c22 => ?_) (fun c22 => ?_)
        · refine r_iinc (lv' := fun v__ => [(2, .int v__), (0, .ref h0), (1, .ref ra1)]) hx hb dX1_isPairedAs_27 hl (k := 2) rfl (by decide) (fun _ => rfl) ⟨by decide, by decide⟩ (by omega) (by omega) (fun x27 ls e27 hl => ?_)
          refine lv_goto (tgt := 2) hx hb dX1_isPairedAs_30 (by decide) ?_
          exact ih2 ls _ _ x27 (by omega) (by omega) hT hS (lv_sub hl [1, 2, 0] rfl)
        · refine r_iconst hx hb dX1_isPairedAs_25 (by decide) (by decide) (fun x25 e25 => ?_)
          exact rt_z hx hb hr hlk hS (by omega) (by omega) ⟨hT, by omega⟩ dX1_isPairedAs_26
  exact J2 (((5 - x0.toInt)).toNat + 1) ls _ _ x0 (by omega) (by omega) hT hS (lv_sub hl [1, 2, 0] rfl)
theorem k_X1_wear : cBV yX1_wear cX1_wear 4 none 0 := ⟨mw_3_70, ms_0_15, mw_1_4, mw_3_71, ⟨by decide, by decide, by decide⟩⟩
set_option maxHeartbeats 4000000 in
set_option maxRecDepth 100000 in
theorem c_X1_wear (l : Launch) (z : Zt) (gh : Gh) (h0 o0 : Nat) (g0 : zG z h0 = (11, o0)) : Met l yX1_wear (uw yX1_wear cX1_wear 4 none) (rmF 1 64) (PcW z [.ref h0] (fun H => TY z (zA z) gh H)) (QcV z (fun H => TY z (zA z) gh H)) 0 0 (zA z) := by
  refine Met.ofW (cc := cX1_wear) (maxL := 4) (ret := none) (by decide) rfl ?_
  intro p e s m args below meth c s₁ B hml hv
  obtain ⟨rfl, hW, hK, hSK⟩ := hv
  have hx := B.exec
  have hb := B.bytes
  have hr := B.returns
  have hts : ∀ w ∈ lw_ok, w.before ([.ref h0] : List Value).toArray s = true := fun w hw => atoms_spec (ws := uw yX1_wear cX1_wear 4 none) B.pre w (List.mem_cons_of_mem _ hw)
  have hown : s.vm.findClass RX1 = some m.cls := findClass_of_methodNamed B.named
  have hlk := B.notSynchronized
  have hC : CallFix p m c cX1_wear 4 s ([.ref h0] : List Value).toArray lw_ok RX1 := ⟨hx, hb, hml, hown, hts⟩
  have hS : va_S (zA z) s.heap s.heap [] := va_S.rf
  have hl := lv_entry ([.ref h0]) (n := 4) (Nat.le_of_ble_eq_true rfl)
  rw [lg_entry_eq]
  generalize (lg_sl ([.ref h0]) ++ List.replicate (4 - (lg_sl ([.ref h0])).length) Slot.unset).toArray = ls at hl ⊢
  have hl : lv_has ls 4 [(0, .ref h0)] := hl
  show W p l e (rmF 1 64) s m ([.ref h0] : List Value).toArray below meth c s.heap [] 0 0 (MQ below (QcV z (fun H => TY z (zA z) gh H)) ([.ref h0] : List Value).toArray s 0 0 (zA z)) (F0 m 0 ls [])
  have hT : TY z (zA z) gh s.heap := hW
  refine lv_aload_n hx hb dX1_wear_0 rfl (lv_at hl 0 rfl) ?_
  refine gt_Floor_danced hx hb hts ic_Floor hown hK hT g0 (hts _ mw_1_64) dX1_wear_1 (fun x1 => ?_)
  refine r_iconst hx hb dX1_wear_4 (by decide) (by decide) (fun x4 e4 => ?_)
  refine w_irem hx hb dX1_wear_5 (by omega) (fun x5 => ?_)
  refine r_iconst hx hb dX1_wear_6 (by decide) (by decide) (fun x6 e6 => ?_)
  have J15 : ∀ (ls : Array Slot) (H : Heap) (locs : List Loc) (t15_0 : Int32), (0 ≤ t15_0.toInt ∧ t15_0.toInt ≤ 1) → TY z (zA z) gh H → va_S (zA z) s.heap H locs → lv_has ls 4 [(0, .ref h0)] → W p l e (rmF 1 64) s m ([.ref h0] : List Value).toArray below meth c H locs 0 0 (MQ below (QcV z (fun H => TY z (zA z) gh H)) ([.ref h0] : List Value).toArray s 0 0 (zA z)) (F0 m 15 ls [.int t15_0]) := by
    intro ls H locs t15_0 j15_t15_0 hT hS hl
    refine lv_istore_n (lv' := [(1, .int t15_0), (0, .ref h0)]) hx hb dX1_wear_15 rfl hl (by decide) rfl (fun ls hl => ?_)
    refine r_iconst hx hb dX1_wear_16 (by decide) (by decide) (fun x16 e16 => ?_)
    refine lv_istore_n (lv' := [(2, .int x16), (1, .int t15_0), (0, .ref h0)]) hx hb dX1_wear_17 rfl hl (by decide) rfl (fun ls hl => ?_)
    have J18 : ∀ (n18 : Nat) (ls : Array Slot) (H : Heap) (locs : List Loc) (y18_2 : Int32), (0 ≤ y18_2.toInt ∧ y18_2.toInt ≤ 5) → (5 - y18_2.toInt) < (n18 : Int) → TY z (zA z) gh H → va_S (zA z) s.heap H locs → lv_has ls 4 [(0, .ref h0), (1, .int t15_0), (2, .int y18_2)] → W p l e (rmF 1 64) s m ([.ref h0] : List Value).toArray below meth c H locs 0 0 (MQ below (QcV z (fun H => TY z (zA z) gh H)) ([.ref h0] : List Value).toArray s 0 0 (zA z)) (F0 m 18 ls []) := by
      intro n18
      induction n18 with
      | zero => intro ls H locs y18_2 j18_y18_2 mm18 hT hS hl; exfalso; omega
      | succ n18 ih18 =>
        intro ls H locs y18_2 j18_y18_2 mm18 hT hS hl
        refine lv_iload_n hx hb dX1_wear_18 rfl (lv_at hl 2 rfl) ?_
        refine lv_aload_n hx hb dX1_wear_19 rfl (lv_at hl 0 rfl) ?_
        refine gt_Floor_men hx hb hts ic_Floor hown hK hT g0 (hts _ mw_1_60) dX1_wear_20 (fun x20 i20 e20 g20 => ?_)
        refine r_icmp_ge (tgt := 85) hx hb dX1_wear_23 (by decide) (fun c23 => ?_) (fun c23 => ?_)
        · exact rt_v hx hb hr hlk hS hT dX1_wear_85
        · refine lv_aload_n hx hb dX1_wear_26 rfl (lv_at hl 0 rfl) ?_
          refine gt_Floor_kind hx hb hts ic_Floor hown hK hT g0 (hts _ mw_1_43) dX1_wear_27 (fun q27 hq27 => ?_)
          refine lv_iload_n hx hb dX1_wear_30 rfl (lv_at hl 2 rfl) ?_
          refine al_20 hx hb hK hT hq27 (by omega) (by omega) dX1_wear_31 (fun x31 => ?_)
          refine r_iconst hx hb dX1_wear_32 (by decide) (by decide) (fun x32 e32 => ?_)
          have J55 : ∀ (ls : Array Slot) (H : Heap) (locs : List Loc) (t55_0 : Int32), (0 ≤ t55_0.toInt ∧ t55_0.toInt ≤ 1) → (5 - y18_2.toInt) < ((n18 + 1 : Nat) : Int) → TY z (zA z) gh H → va_S (zA z) s.heap H locs → lv_has ls 4 [(0, .ref h0), (1, .int t15_0), (2, .int y18_2)] → W p l e (rmF 1 64) s m ([.ref h0] : List Value).toArray below meth c H locs 0 0 (MQ below (QcV z (fun H => TY z (zA z) gh H)) ([.ref h0] : List Value).toArray s 0 0 (zA z)) (F0 m 55 ls [.int t55_0]) := by
            intro ls H locs t55_0 j55_t55_0 mf55_18 hT hS hl
            refine lv_istore_n (lv' := [(3, .int t55_0), (0, .ref h0), (1, .int t15_0), (2, .int y18_2)]) hx hb dX1_wear_55 rfl hl (by decide) rfl (fun ls hl => ?_)
            refine lv_iload_n hx hb dX1_wear_56 rfl (lv_at hl 0 rfl) ?_
            have J79 : ∀ (ls : Array Slot) (H : Heap) (locs : List Loc), (5 - y18_2.toInt) < ((n18 + 1 : Nat) : Int) → TY z (zA z) gh H → va_S (zA z) s.heap H locs → lv_has ls 4 [(0, .ref h0), (1, .int t15_0), (2, .int y18_2), (3, .int t55_0)] → W p l e (rmF 1 64) s m ([.ref h0] : List Value).toArray below meth c H locs 0 0 (MQ below (QcV z (fun H => TY z (zA z) gh H)) ([.ref h0] : List Value).toArray s 0 0 (zA z)) (F0 m 79 ls []) := by
              intro ls H locs mf79_18 hT hS hl
              refine r_iinc (lv' := fun v__ => [(2, .int v__), (0, .ref h0), (1, .int t15_0), (3, .int t55_0)]) hx hb dX1_wear_79 hl (k := 2) rfl (by decide) (fun _ => rfl) ⟨by decide, by decide⟩ (by omega) (by omega) (fun x79 ls e79 hl => ?_)
              refine lv_goto (tgt := 18) hx hb dX1_wear_82 (by decide) ?_
              exact ih18 ls _ _ x79 (by omega) (by omega) hT hS (lv_sub hl [1, 2, 0] rfl)
            refine r_if_eq (tgt := 79) hx hb dX1_wear_57 (by decide) (fun c57 => ?_) (fun c57 => ?_)
            · exact J79 ls _ _ (by omega) hT hS (lv_sub hl [1, 2, 3, 0] rfl)
            · refine lv_aload_n hx hb dX1_wear_60 rfl (lv_at hl 1 rfl) ?_
              refine gt_Floor_heels hx hb hts ic_Floor hown hK hT g0 (hts _ mw_1_47) dX1_wear_61 (fun q61 hq61 => ?_)
              refine lv_iload_n hx hb dX1_wear_64 rfl (lv_at hl 3 rfl) ?_
              refine al_20 hx hb hK hT hq61 (by omega) (by omega) dX1_wear_65 (fun x65 => ?_)
              refine r_if_le (tgt := 79) hx hb dX1_wear_66 (by decide) (fun c66 => ?_) (fun c66 => ?_)
              · exact J79 ls _ _ (by omega) hT hS (lv_sub hl [1, 2, 3, 0] rfl)
              · refine lv_aload_n hx hb dX1_wear_69 rfl (lv_at hl 1 rfl) ?_
                refine gt_Floor_heels hx hb hts ic_Floor hown hK hT g0 (hts _ mw_1_47) dX1_wear_70 (fun q70 hq70 => ?_)
                refine lv_iload_n hx hb dX1_wear_73 rfl (lv_at hl 3 rfl) ?_
                refine lv_dup2_11 hx hb dX1_wear_74 rfl rfl ?_
                refine al_20 hx hb hK hT hq70 (by omega) (by omega) dX1_wear_75 (fun x75 => ?_)
                refine r_iconst hx hb dX1_wear_76 (by decide) (by decide) (fun x76 e76 => ?_)
                refine w_isub hx hb dX1_wear_77 (fun x77 => ?_)
                refine as_20 hx hb hK hT hS hq70 (by omega) (by omega) dX1_wear_78 (fun H locs hT hS => ?_)
                exact J79 ls _ _ (by omega) hT hS (lv_sub hl [1, 2, 3, 0] rfl)
          refine r_icmp_ne (tgt := 40) hx hb dX1_wear_33 (by decide) (fun c33 => ?_) (fun c33 => ?_)
          · refine lv_aload_n hx hb dX1_wear_40 rfl (lv_at hl 0 rfl) ?_
            refine gt_Floor_kind hx hb hts ic_Floor hown hK hT g0 (hts _ mw_1_43) dX1_wear_41 (fun q41 hq41 => ?_)
            refine lv_iload_n hx hb dX1_wear_44 rfl (lv_at hl 2 rfl) ?_
            refine al_20 hx hb hK hT hq41 (by omega) (by omega) dX1_wear_45 (fun x45 => ?_)
            refine r_iconst hx hb dX1_wear_46 (by decide) (by decide) (fun x46 e46 => ?_)
            refine r_icmp_eq (tgt := 54) hx hb dX1_wear_47 (by decide) (fun c47 => ?_) (fun c47 => ?_)
            · refine r_iconst hx hb dX1_wear_54 (by decide) (by decide) (fun x54 e54 => ?_)
              exact J55 ls _ _ x54 (by omega) (by omega) hT hS (lv_sub hl [0, 1, 2] rfl)
            · refine r_iconst hx hb dX1_wear_50 (by decide) (by decide) (fun x50 e50 => ?_)
              refine lv_goto (tgt := 55) hx hb dX1_wear_51 (by decide) ?_
              exact J55 ls _ _ x50 (by omega) (by omega) hT hS (lv_sub hl [0, 1, 2] rfl)
          · refine lv_iload_n hx hb dX1_wear_36 rfl (lv_at hl 1 rfl) ?_
            refine lv_goto (tgt := 55) hx hb dX1_wear_37 (by decide) ?_
            exact J55 ls _ _ t15_0 (by omega) (by omega) hT hS (lv_sub hl [0, 1, 2] rfl)
    exact J18 (((5 - x16.toInt)).toNat + 1) ls _ _ x16 (by omega) (by omega) hT hS (lv_sub hl [2, 1, 0] rfl)
  refine r_icmp_ne (tgt := 14) hx hb dX1_wear_7 (by decide) (fun c7 => ?_) (fun c7 => ?_)
  · refine r_iconst hx hb dX1_wear_14 (by decide) (by decide) (fun x14 e14 => ?_)
    exact J15 ls _ _ x14 (by omega) hT hS (lv_sub hl [0] rfl)
  · refine r_iconst hx hb dX1_wear_10 (by decide) (by decide) (fun x10 e10 => ?_)
    refine lv_goto (tgt := 15) hx hb dX1_wear_11 (by decide) ?_
    exact J15 ls _ _ x10 (by omega) hT hS (lv_sub hl [0] rfl)
theorem k_X1_warm : cBV yX1_warm cX1_warm 2 none 0 := ⟨mw_3_74, ms_1_0, mw_1_4, mw_3_75, ⟨by decide, by decide, by decide⟩⟩
set_option maxHeartbeats 4000000 in
set_option maxRecDepth 100000 in
theorem c_X1_warm (l : Launch) (z : Zt) (gh : Gh) (h0 o0 : Nat) (g0 : zG z h0 = (11, o0)) : Met l yX1_warm (uw yX1_warm cX1_warm 2 none) (rmF 1 64) (PcW z [.ref h0] (fun H => TY z (zA z) gh H)) (QcV z (fun H => TY z (zA z) gh H)) 0 0 (zA z) := by
  refine Met.ofW (cc := cX1_warm) (maxL := 2) (ret := none) (by decide) rfl ?_
  intro p e s m args below meth c s₁ B hml hv
  obtain ⟨rfl, hW, hK, hSK⟩ := hv
  have hx := B.exec
  have hb := B.bytes
  have hr := B.returns
  have hts : ∀ w ∈ lw_ok, w.before ([.ref h0] : List Value).toArray s = true := fun w hw => atoms_spec (ws := uw yX1_warm cX1_warm 2 none) B.pre w (List.mem_cons_of_mem _ hw)
  have hown : s.vm.findClass RX1 = some m.cls := findClass_of_methodNamed B.named
  have hlk := B.notSynchronized
  have hC : CallFix p m c cX1_warm 2 s ([.ref h0] : List Value).toArray lw_ok RX1 := ⟨hx, hb, hml, hown, hts⟩
  have hS : va_S (zA z) s.heap s.heap [] := va_S.rf
  have hl := lv_entry ([.ref h0]) (n := 2) (Nat.le_of_ble_eq_true rfl)
  rw [lg_entry_eq]
  generalize (lg_sl ([.ref h0]) ++ List.replicate (2 - (lg_sl ([.ref h0])).length) Slot.unset).toArray = ls at hl ⊢
  have hl : lv_has ls 2 [(0, .ref h0)] := hl
  show W p l e (rmF 1 64) s m ([.ref h0] : List Value).toArray below meth c s.heap [] 0 0 (MQ below (QcV z (fun H => TY z (zA z) gh H)) ([.ref h0] : List Value).toArray s 0 0 (zA z)) (F0 m 0 ls [])
  have hT : TY z (zA z) gh s.heap := hW
  refine r_iconst hx hb dX1_warm_0 (by decide) (by decide) (fun x0 e0 => ?_)
  refine lv_istore_n (lv' := [(1, .int x0), (0, .ref h0)]) hx hb dX1_warm_1 rfl hl (by decide) rfl (fun ls hl => ?_)
  have J2 : ∀ (n2 : Nat) (ls : Array Slot) (H : Heap) (locs : List Loc) (y2_1 : Int32), (0 ≤ y2_1.toInt ∧ y2_1.toInt ≤ 5) → (5 - y2_1.toInt) < (n2 : Int) → TY z (zA z) gh H → va_S (zA z) s.heap H locs → lv_has ls 2 [(0, .ref h0), (1, .int y2_1)] → W p l e (rmF 1 64) s m ([.ref h0] : List Value).toArray below meth c H locs 0 0 (MQ below (QcV z (fun H => TY z (zA z) gh H)) ([.ref h0] : List Value).toArray s 0 0 (zA z)) (F0 m 2 ls []) := by
    intro n2
    induction n2 with
    | zero => intro ls H locs y2_1 j2_y2_1 mm2 hT hS hl; exfalso; omega
    | succ n2 ih2 =>
      intro ls H locs y2_1 j2_y2_1 mm2 hT hS hl
      refine lv_iload_n hx hb dX1_warm_2 rfl (lv_at hl 1 rfl) ?_
      refine lv_aload_n hx hb dX1_warm_3 rfl (lv_at hl 0 rfl) ?_
      refine gt_Floor_men hx hb hts ic_Floor hown hK hT g0 (hts _ mw_1_60) dX1_warm_4 (fun x4 i4 e4 g4 => ?_)
      refine r_icmp_ge (tgt := 45) hx hb dX1_warm_7 (by decide) (fun c7 => ?_) (fun c7 => ?_)
      · exact rt_v hx hb hr hlk hS hT dX1_warm_45
      · refine lv_aload_n hx hb dX1_warm_10 rfl (lv_at hl 0 rfl) ?_
        refine gt_Floor_partner hx hb hts ic_Floor hown hK hT g0 (hts _ mw_1_51) dX1_warm_11 (fun q11 hq11 => ?_)
        refine lv_iload_n hx hb dX1_warm_14 rfl (lv_at hl 1 rfl) ?_
        refine al_27 hx hb hK hT hq11 (by omega) (by omega) dX1_warm_15 (fun x15 e15 => ?_)
        have n15 := ix_nat (i := y2_1) (by omega)
        unfold p27 at e15
        refine lv_iload_n hx hb dX1_warm_16 rfl (lv_at hl 1 rfl) ?_
        have J39 : ∀ (ls : Array Slot) (H : Heap) (locs : List Loc), (5 - y2_1.toInt) < ((n2 + 1 : Nat) : Int) → TY z (zA z) gh H → va_S (zA z) s.heap H locs → lv_has ls 2 [(0, .ref h0), (1, .int y2_1)] → W p l e (rmF 1 64) s m ([.ref h0] : List Value).toArray below meth c H locs 0 0 (MQ below (QcV z (fun H => TY z (zA z) gh H)) ([.ref h0] : List Value).toArray s 0 0 (zA z)) (F0 m 39 ls []) := by
          intro ls H locs mf39_2 hT hS hl
          refine r_iinc (lv' := fun v__ => [(1, .int v__), (0, .ref h0)]) hx hb dX1_warm_39 hl (k := 1) rfl (by decide) (fun _ => rfl) ⟨by decide, by decide⟩ (by omega) (by omega) (fun x39 ls e39 hl => ?_)
          refine lv_goto (tgt := 2) hx hb dX1_warm_42 (by decide) ?_
          exact ih2 ls _ _ x39 (by omega) (by omega) hT hS (lv_sub hl [1, 0] rfl)
        refine r_icmp_ne (tgt := 39) hx hb dX1_warm_17 (by decide) (fun c17 => ?_) (fun c17 => ?_)
        · exact J39 ls _ _ (by omega) hT hS (lv_sub hl [0, 1] rfl)
        · refine lv_aload_n hx hb dX1_warm_20 rfl (lv_at hl 0 rfl) ?_
          refine gt_Floor_heat hx hb hts ic_Floor hown hK hT g0 (hts _ mw_1_49) dX1_warm_21 (fun q21 hq21 => ?_)
          refine lv_iload_n hx hb dX1_warm_24 rfl (lv_at hl 1 rfl) ?_
          refine lv_aload_n hx hb dX1_warm_25 rfl (lv_at hl 0 rfl) ?_
          refine gt_Floor_heat hx hb hts ic_Floor hown hK hT g0 (hts _ mw_1_49) dX1_warm_26 (fun q26 hq26 => ?_)
          refine lv_iload_n hx hb dX1_warm_29 rfl (lv_at hl 1 rfl) ?_
          refine al_20 hx hb hK hT hq26 (by omega) (by omega) dX1_warm_30 (fun x30 => ?_)
          refine r_iconst hx hb dX1_warm_31 (by decide) (by decide) (fun x31 e31 => ?_)
          refine w_iadd hx hb dX1_warm_32 (fun x32 => ?_)
          refine r_bipush hx hb dX1_warm_33 rfl (fun x33 e33 => ?_)
          refine r_min hx hb (hml.trans hl.1.symm) hts hown mw_3_76 (Nat.le_of_ble_eq_true rfl) (Nat.le_of_ble_eq_true rfl) ⟨Nat.zero_le _, Nat.zero_le _⟩ dX1_warm_35 (fun x35 e35 g35 k35 => ?_)
          refine as_20 hx hb hK hT hS hq21 (by omega) (by omega) dX1_warm_38 (fun H locs hT hS => ?_)
          exact J39 ls _ _ (by omega) hT hS (lv_sub hl [0, 1] rfl)
  exact J2 (((5 - x0.toInt)).toNat + 1) ls _ _ x0 (by omega) (by omega) hT hS (lv_sub hl [1, 0] rfl)
theorem k_X1_nextRank : cBV yX1_nextRank cX1_nextRank 3 (some .int) 2 := ⟨mw_3_66, ms_0_14, mw_1_4, mw_3_67, ⟨by decide, by decide, by decide⟩⟩
set_option maxHeartbeats 4000000 in
set_option maxRecDepth 100000 in
theorem c_X1_nextRank (l : Launch) (z : Zt) (gh : Gh) (h0 o0 : Nat) (g0 : zG z h0 = (11, o0)) (p1 : Int32) (p2 : Int32) (bp2 : 0 ≤ p2.toInt ∧ p2.toInt ≤ 4) (pr0 : p2.toInt < gh.1 h0 0) : Met l yX1_nextRank (uw yX1_nextRank cX1_nextRank 3 (some .int)) (rmF 1 64) (PcW z [.ref h0, .int p1, .int p2] (fun H => TY z (zA z) gh H)) (QcI z (fun r H => TY z (zA z) gh H ∧ (0 ≤ r.toInt) ∧ (r.toInt < gh.1 h0 0))) 0 0 (zA z) := by
  refine Met.ofW (cc := cX1_nextRank) (maxL := 3) (ret := (some .int)) (by decide) rfl ?_
  intro p e s m args below meth c s₁ B hml hv
  obtain ⟨rfl, hW, hK, hSK⟩ := hv
  have hx := B.exec
  have hb := B.bytes
  have hr := B.returns
  have hts : ∀ w ∈ lw_ok, w.before ([.ref h0, .int p1, .int p2] : List Value).toArray s = true := fun w hw => atoms_spec (ws := uw yX1_nextRank cX1_nextRank 3 (some .int)) B.pre w (List.mem_cons_of_mem _ hw)
  have hown : s.vm.findClass RX1 = some m.cls := findClass_of_methodNamed B.named
  have hlk := B.notSynchronized
  have hC : CallFix p m c cX1_nextRank 3 s ([.ref h0, .int p1, .int p2] : List Value).toArray lw_ok RX1 := ⟨hx, hb, hml, hown, hts⟩
  have hS : va_S (zA z) s.heap s.heap [] := va_S.rf
  have hl := lv_entry ([.ref h0, .int p1, .int p2]) (n := 3) (Nat.le_of_ble_eq_true rfl)
  rw [lg_entry_eq]
  generalize (lg_sl ([.ref h0, .int p1, .int p2]) ++ List.replicate (3 - (lg_sl ([.ref h0, .int p1, .int p2])).length) Slot.unset).toArray = ls at hl ⊢
  have hl : lv_has ls 3 [(0, .ref h0), (1, .int p1), (2, .int p2)] := hl
  show W p l e (rmF 1 64) s m ([.ref h0, .int p1, .int p2] : List Value).toArray below meth c s.heap [] 0 0 (MQ below (QcI z (fun r H => TY z (zA z) gh H ∧ (0 ≤ r.toInt) ∧ (r.toInt < gh.1 h0 0))) ([.ref h0, .int p1, .int p2] : List Value).toArray s 0 0 (zA z)) (F0 m 0 ls [])
  have hT : TY z (zA z) gh s.heap := hW
  have mx_p1 := i_mx p1
  refine lv_aload_n hx hb dX1_nextRank_0 rfl (lv_at hl 0 rfl) ?_
  refine gt_Floor_men hx hb hts ic_Floor hown hK hT g0 (hts _ mw_1_60) dX1_nextRank_1 (fun x1 i1 e1 g1 => ?_)
  refine r_iconst hx hb dX1_nextRank_4 (by decide) (by decide) (fun x4 e4 => ?_)
  refine r_icmp_ge (tgt := 10) hx hb dX1_nextRank_5 (by decide) (fun c5 => ?_) (fun c5 => ?_)
  · refine lv_iload_n hx hb dX1_nextRank_10 rfl (lv_at hl 1 rfl) ?_
    rcases (show p1.toInt = 0 ∨ p1.toInt = 1 ∨ p1.toInt = 2 ∨ (p1.toInt < 0 ∨ 2 < p1.toInt) by omega) with c11 | c11 | c11 | c11
    · refine lv_tableIn (off := 25) (tgt := 36) hx hb dX1_nextRank_11 (by omega) (by omega) (by rw [c11]; rfl) (by decide) ?_
      refine lv_iload_n hx hb dX1_nextRank_36 rfl (lv_at hl 2 rfl) ?_
      refine r_iconst hx hb dX1_nextRank_37 (by decide) (by decide) (fun x37 e37 => ?_)
      refine r_iadd hx hb dX1_nextRank_38 (by omega) (by omega) (fun x38 e38 => ?_)
      refine lv_aload_n hx hb dX1_nextRank_39 rfl (lv_at hl 0 rfl) ?_
      refine gt_Floor_men hx hb hts ic_Floor hown hK hT g0 (hts _ mw_1_60) dX1_nextRank_40 (fun x40 i40 e40 g40 => ?_)
      refine r_irem hx hb dX1_nextRank_43 (by omega) (by omega) (fun x43 e43 g43 k43 => ?_)
      exact rt_i hx hb hr hlk hS ⟨hT, by omega, by omega⟩ dX1_nextRank_44
    · refine lv_tableIn (off := 34) (tgt := 45) hx hb dX1_nextRank_11 (by omega) (by omega) (by rw [c11]; rfl) (by decide) ?_
      refine lv_iload_n hx hb dX1_nextRank_45 rfl (lv_at hl 2 rfl) ?_
      refine lv_aload_n hx hb dX1_nextRank_46 rfl (lv_at hl 0 rfl) ?_
      refine gt_Floor_men hx hb hts ic_Floor hown hK hT g0 (hts _ mw_1_60) dX1_nextRank_47 (fun x47 i47 e47 g47 => ?_)
      refine r_iadd hx hb dX1_nextRank_50 (by omega) (by omega) (fun x50 e50 => ?_)
      refine r_iconst hx hb dX1_nextRank_51 (by decide) (by decide) (fun x51 e51 => ?_)
      refine r_isub hx hb dX1_nextRank_52 (by omega) (by omega) (fun x52 e52 => ?_)
      refine lv_aload_n hx hb dX1_nextRank_53 rfl (lv_at hl 0 rfl) ?_
      refine gt_Floor_men hx hb hts ic_Floor hown hK hT g0 (hts _ mw_1_60) dX1_nextRank_54 (fun x54 i54 e54 g54 => ?_)
      refine r_irem hx hb dX1_nextRank_57 (by omega) (by omega) (fun x57 e57 g57 k57 => ?_)
      exact rt_i hx hb hr hlk hS ⟨hT, by omega, by omega⟩ dX1_nextRank_58
    · refine lv_tableIn (off := 48) (tgt := 59) hx hb dX1_nextRank_11 (by omega) (by omega) (by rw [c11]; rfl) (by decide) ?_
      refine lv_iload_n hx hb dX1_nextRank_59 rfl (lv_at hl 2 rfl) ?_
      refine r_iconst hx hb dX1_nextRank_60 (by decide) (by decide) (fun x60 e60 => ?_)
      refine r_iadd hx hb dX1_nextRank_61 (by omega) (by omega) (fun x61 e61 => ?_)
      refine lv_aload_n hx hb dX1_nextRank_62 rfl (lv_at hl 0 rfl) ?_
      refine gt_Floor_men hx hb hts ic_Floor hown hK hT g0 (hts _ mw_1_60) dX1_nextRank_63 (fun x63 i63 e63 g63 => ?_)
      refine r_irem hx hb dX1_nextRank_66 (by omega) (by omega) (fun x66 e66 g66 k66 => ?_)
      exact rt_i hx hb hr hlk hS ⟨hT, by omega, by omega⟩ dX1_nextRank_67
    · refine lv_tableOut (tgt := 68) hx hb dX1_nextRank_11 c11 (by decide) ?_
      refine lv_aload_n hx hb dX1_nextRank_68 rfl (lv_at hl 0 rfl) ?_
      refine gt_Floor_men hx hb hts ic_Floor hown hK hT g0 (hts _ mw_1_60) dX1_nextRank_69 (fun x69 i69 e69 g69 => ?_)
      refine r_iconst hx hb dX1_nextRank_72 (by decide) (by decide) (fun x72 e72 => ?_)
      refine r_isub hx hb dX1_nextRank_73 (by omega) (by omega) (fun x73 e73 => ?_)
      refine lv_iload_n hx hb dX1_nextRank_74 rfl (lv_at hl 2 rfl) ?_
      refine r_isub hx hb dX1_nextRank_75 (by omega) (by omega) (fun x75 e75 => ?_)
      exact rt_i hx hb hr hlk hS ⟨hT, by omega, by omega⟩ dX1_nextRank_76
  · refine r_iconst hx hb dX1_nextRank_8 (by decide) (by decide) (fun x8 e8 => ?_)
    exact rt_i hx hb hr hlk hS ⟨hT, by omega, by omega⟩ dX1_nextRank_9
theorem k_X0_areKin : cBV yX0_areKin cX0_areKin 3 (some .boolean) 2 := ⟨mw_2_170, mw_2_171, mw_1_3, mw_2_172, ⟨by decide, by decide, by decide⟩⟩
set_option maxHeartbeats 4000000 in
set_option maxRecDepth 100000 in
theorem c_X0_areKin (l : Launch) (z : Zt) (gh : Gh) (h0 o0 : Nat) (g0 : zG z h0 = (10, o0)) (p1 : Int32) (p2 : Int32) (bp1 : 0 ≤ p1.toInt ∧ p1.toInt ≤ 4) : Met l yX0_areKin (uw yX0_areKin cX0_areKin 3 (some .boolean)) (rmF 1 64) (PcW z [.ref h0, .int p1, .int p2] (fun H => TY z (zA z) gh H)) (QcI z (fun r H => TY z (zA z) gh H ∧ (0 ≤ r.toInt ∧ r.toInt ≤ 1))) 0 0 (zA z) := by
  refine Met.ofW (cc := cX0_areKin) (maxL := 3) (ret := (some .boolean)) (by decide) rfl ?_
  intro p e s m args below meth c s₁ B hml hv
  obtain ⟨rfl, hW, hK, hSK⟩ := hv
  have hx := B.exec
  have hb := B.bytes
  have hr := B.returns
  have hts : ∀ w ∈ lw_ok, w.before ([.ref h0, .int p1, .int p2] : List Value).toArray s = true := fun w hw => atoms_spec (ws := uw yX0_areKin cX0_areKin 3 (some .boolean)) B.pre w (List.mem_cons_of_mem _ hw)
  have hown : s.vm.findClass RX0 = some m.cls := findClass_of_methodNamed B.named
  have hlk := B.notSynchronized
  have hC : CallFix p m c cX0_areKin 3 s ([.ref h0, .int p1, .int p2] : List Value).toArray lw_ok RX0 := ⟨hx, hb, hml, hown, hts⟩
  have hS : va_S (zA z) s.heap s.heap [] := va_S.rf
  have hl := lv_entry ([.ref h0, .int p1, .int p2]) (n := 3) (Nat.le_of_ble_eq_true rfl)
  rw [lg_entry_eq]
  generalize (lg_sl ([.ref h0, .int p1, .int p2]) ++ List.replicate (3 - (lg_sl ([.ref h0, .int p1, .int p2])).length) Slot.unset).toArray = ls at hl ⊢
  have hl : lv_has ls 3 [(0, .ref h0), (1, .int p1), (2, .int p2)] := hl
  show W p l e (rmF 1 64) s m ([.ref h0, .int p1, .int p2] : List Value).toArray below meth c s.heap [] 0 0 (MQ below (QcI z (fun r H => TY z (zA z) gh H ∧ (0 ≤ r.toInt ∧ r.toInt ≤ 1))) ([.ref h0, .int p1, .int p2] : List Value).toArray s 0 0 (zA z)) (F0 m 0 ls [])
  have hT : TY z (zA z) gh s.heap := hW
  have mx_p2 := i_mx p2
  refine lv_aload_n hx hb dX0_areKin_0 rfl (lv_at hl 0 rfl) ?_
  refine gt_Evening_kin hx hb hts ic_Evening hown hK hT g0 (hts _ mw_1_93) dX0_areKin_1 (fun q1 hq1 => ?_)
  refine lv_iload_n hx hb dX0_areKin_4 rfl (lv_at hl 1 rfl) ?_
  refine al_20 hx hb hK hT hq1 (by omega) (by omega) dX0_areKin_5 (fun x5 => ?_)
  refine lv_iload_n hx hb dX0_areKin_6 rfl (lv_at hl 2 rfl) ?_
  refine w_ishr hx hb dX0_areKin_7 (fun x7 => ?_)
  refine r_iconst hx hb dX0_areKin_8 (by decide) (by decide) (fun x8 e8 => ?_)
  refine w_iand hx hb dX0_areKin_9 (fun x9 => ?_)
  refine r_iconst hx hb dX0_areKin_10 (by decide) (by decide) (fun x10 e10 => ?_)
  refine r_icmp_ne (tgt := 18) hx hb dX0_areKin_11 (by decide) (fun c11 => ?_) (fun c11 => ?_)
  · refine r_iconst hx hb dX0_areKin_18 (by decide) (by decide) (fun x18 e18 => ?_)
    exact rt_z hx hb hr hlk hS (by omega) (by omega) ⟨hT, by omega⟩ dX0_areKin_19
  · refine r_iconst hx hb dX0_areKin_14 (by decide) (by decide) (fun x14 e14 => ?_)
    refine lv_goto (tgt := 19) hx hb dX0_areKin_15 (by decide) ?_
    exact rt_z hx hb hr hlk hS (by omega) (by omega) ⟨hT, by omega⟩ dX0_areKin_19
theorem k_J6_bitCount_0f7a4 : cBS yJ6_bitCount_0f7a4 cJ6_bitCount_0f7a4 1 (some .int) 1 := ⟨mw_2_164, mw_1_14, mw_2_165, ⟨by decide, by decide, by decide⟩⟩
set_option maxHeartbeats 4000000 in
set_option maxRecDepth 100000 in
theorem c_J6_bitCount_0f7a4 (l : Launch) (z : Zt) (gh : Gh) (p1 : Int32) : Met l yJ6_bitCount_0f7a4 (uw yJ6_bitCount_0f7a4 cJ6_bitCount_0f7a4 1 (some .int)) (rmF 1 64) (PcW z [.int p1] (fun H => TY z (zA z) gh H)) (QcI z (fun r H => TY z (zA z) gh H)) 0 0 (zA z) := by
  refine Met.ofW (cc := cJ6_bitCount_0f7a4) (maxL := 1) (ret := (some .int)) (by decide) rfl ?_
  intro p e s m args below meth c s₁ B hml hv
  obtain ⟨rfl, hW, hK, hSK⟩ := hv
  have hx := B.exec
  have hb := B.bytes
  have hr := B.returns
  have hts : ∀ w ∈ lw_ok, w.before ([.int p1] : List Value).toArray s = true := fun w hw => atoms_spec (ws := uw yJ6_bitCount_0f7a4 cJ6_bitCount_0f7a4 1 (some .int)) B.pre w (List.mem_cons_of_mem _ hw)
  have hown : s.vm.findClass RJ6 = some m.cls := findClass_of_methodNamed B.named
  have hlk := B.notSynchronized
  have hC : CallFix p m c cJ6_bitCount_0f7a4 1 s ([.int p1] : List Value).toArray lw_ok RJ6 := ⟨hx, hb, hml, hown, hts⟩
  have hS : va_S (zA z) s.heap s.heap [] := va_S.rf
  have hl := lv_entry ([.int p1]) (n := 1) (Nat.le_of_ble_eq_true rfl)
  rw [lg_entry_eq]
  generalize (lg_sl ([.int p1]) ++ List.replicate (1 - (lg_sl ([.int p1])).length) Slot.unset).toArray = ls at hl ⊢
  have hl : lv_has ls 1 [(0, .int p1)] := hl
  show W p l e (rmF 1 64) s m ([.int p1] : List Value).toArray below meth c s.heap [] 0 0 (MQ below (QcI z (fun r H => TY z (zA z) gh H)) ([.int p1] : List Value).toArray s 0 0 (zA z)) (F0 m 0 ls [])
  have hT : TY z (zA z) gh s.heap := hW
  have mx_p1 := i_mx p1
  refine lv_iload_n hx hb dJ6_bitCount_0f7a4_0 rfl (lv_at hl 0 rfl) ?_
  refine lv_iload_n hx hb dJ6_bitCount_0f7a4_1 rfl (lv_at hl 0 rfl) ?_
  refine r_iconst hx hb dJ6_bitCount_0f7a4_2 (by decide) (by decide) (fun x2 e2 => ?_)
  refine w_iushr hx hb dJ6_bitCount_0f7a4_3 (fun x3 => ?_)
  refine r_ldcw (1431655765) rfl hx hb hts hown mw_2_166 dJ6_bitCount_0f7a4_4 (fun x4 e4 => ?_)
  refine w_iand hx hb dJ6_bitCount_0f7a4_7 (fun x7 => ?_)
  refine w_isub hx hb dJ6_bitCount_0f7a4_8 (fun x8 => ?_)
  refine lv_istore_n (lv' := [(0, .int x8)]) hx hb dJ6_bitCount_0f7a4_9 rfl hl (by decide) rfl (fun ls hl => ?_)
  refine lv_iload_n hx hb dJ6_bitCount_0f7a4_10 rfl (lv_at hl 0 rfl) ?_
  refine r_ldcw (858993459) rfl hx hb hts hown mw_2_167 dJ6_bitCount_0f7a4_11 (fun x11 e11 => ?_)
  refine w_iand hx hb dJ6_bitCount_0f7a4_14 (fun x14 => ?_)
  refine lv_iload_n hx hb dJ6_bitCount_0f7a4_15 rfl (lv_at hl 0 rfl) ?_
  refine r_iconst hx hb dJ6_bitCount_0f7a4_16 (by decide) (by decide) (fun x16 e16 => ?_)
  refine w_iushr hx hb dJ6_bitCount_0f7a4_17 (fun x17 => ?_)
  refine r_ldcw (858993459) rfl hx hb hts hown mw_2_167 dJ6_bitCount_0f7a4_18 (fun x18 e18 => ?_)
  refine w_iand hx hb dJ6_bitCount_0f7a4_21 (fun x21 => ?_)
  refine w_iadd hx hb dJ6_bitCount_0f7a4_22 (fun x22 => ?_)
  refine lv_istore_n (lv' := [(0, .int x22)]) hx hb dJ6_bitCount_0f7a4_23 rfl hl (by decide) rfl (fun ls hl => ?_)
  refine lv_iload_n hx hb dJ6_bitCount_0f7a4_24 rfl (lv_at hl 0 rfl) ?_
  refine lv_iload_n hx hb dJ6_bitCount_0f7a4_25 rfl (lv_at hl 0 rfl) ?_
  refine r_iconst hx hb dJ6_bitCount_0f7a4_26 (by decide) (by decide) (fun x26 e26 => ?_)
  refine w_iushr hx hb dJ6_bitCount_0f7a4_27 (fun x27 => ?_)
  refine w_iadd hx hb dJ6_bitCount_0f7a4_28 (fun x28 => ?_)
  refine r_ldcw (252645135) rfl hx hb hts hown mw_2_168 dJ6_bitCount_0f7a4_29 (fun x29 e29 => ?_)
  refine w_iand hx hb dJ6_bitCount_0f7a4_32 (fun x32 => ?_)
  refine lv_istore_n (lv' := [(0, .int x32)]) hx hb dJ6_bitCount_0f7a4_33 rfl hl (by decide) rfl (fun ls hl => ?_)
  refine lv_iload_n hx hb dJ6_bitCount_0f7a4_34 rfl (lv_at hl 0 rfl) ?_
  refine lv_iload_n hx hb dJ6_bitCount_0f7a4_35 rfl (lv_at hl 0 rfl) ?_
  refine r_bipush hx hb dJ6_bitCount_0f7a4_36 rfl (fun x36 e36 => ?_)
  refine w_iushr hx hb dJ6_bitCount_0f7a4_38 (fun x38 => ?_)
  refine w_iadd hx hb dJ6_bitCount_0f7a4_39 (fun x39 => ?_)
  refine lv_istore_n (lv' := [(0, .int x39)]) hx hb dJ6_bitCount_0f7a4_40 rfl hl (by decide) rfl (fun ls hl => ?_)
  refine lv_iload_n hx hb dJ6_bitCount_0f7a4_41 rfl (lv_at hl 0 rfl) ?_
  refine lv_iload_n hx hb dJ6_bitCount_0f7a4_42 rfl (lv_at hl 0 rfl) ?_
  refine r_bipush hx hb dJ6_bitCount_0f7a4_43 rfl (fun x43 e43 => ?_)
  refine w_iushr hx hb dJ6_bitCount_0f7a4_45 (fun x45 => ?_)
  refine w_iadd hx hb dJ6_bitCount_0f7a4_46 (fun x46 => ?_)
  refine lv_istore_n (lv' := [(0, .int x46)]) hx hb dJ6_bitCount_0f7a4_47 rfl hl (by decide) rfl (fun ls hl => ?_)
  refine lv_iload_n hx hb dJ6_bitCount_0f7a4_48 rfl (lv_at hl 0 rfl) ?_
  refine r_bipush hx hb dJ6_bitCount_0f7a4_49 rfl (fun x49 e49 => ?_)
  refine w_iand hx hb dJ6_bitCount_0f7a4_51 (fun x51 => ?_)
  exact rt_i hx hb hr hlk hS hT dJ6_bitCount_0f7a4_52
theorem k_X0_allKin : cBV yX0_allKin cX0_allKin 3 (some .int) 0 := ⟨mw_2_160, mw_2_161, mw_1_3, mw_2_162, ⟨by decide, by decide, by decide⟩⟩
set_option maxHeartbeats 4000000 in
set_option maxRecDepth 100000 in
theorem c_X0_allKin (l : Launch) (z : Zt) (gh : Gh) (h0 o0 : Nat) (g0 : zG z h0 = (10, o0)) : Met l yX0_allKin (uw yX0_allKin cX0_allKin 3 (some .int)) (rmF 2 84) (PcW z [.ref h0] (fun H => TY z (zA z) gh H)) (QcI z (fun r H => TY z (zA z) gh H)) 0 0 (zA z) := by
  refine Met.ofW (cc := cX0_allKin) (maxL := 3) (ret := (some .int)) (by decide) rfl ?_
  intro p e s m args below meth c s₁ B hml hv
  obtain ⟨rfl, hW, hK, hSK⟩ := hv
  have hx := B.exec
  have hb := B.bytes
  have hr := B.returns
  have hts : ∀ w ∈ lw_ok, w.before ([.ref h0] : List Value).toArray s = true := fun w hw => atoms_spec (ws := uw yX0_allKin cX0_allKin 3 (some .int)) B.pre w (List.mem_cons_of_mem _ hw)
  have hown : s.vm.findClass RX0 = some m.cls := findClass_of_methodNamed B.named
  have hlk := B.notSynchronized
  have hC : CallFix p m c cX0_allKin 3 s ([.ref h0] : List Value).toArray lw_ok RX0 := ⟨hx, hb, hml, hown, hts⟩
  have hS : va_S (zA z) s.heap s.heap [] := va_S.rf
  have hl := lv_entry ([.ref h0]) (n := 3) (Nat.le_of_ble_eq_true rfl)
  rw [lg_entry_eq]
  generalize (lg_sl ([.ref h0]) ++ List.replicate (3 - (lg_sl ([.ref h0])).length) Slot.unset).toArray = ls at hl ⊢
  have hl : lv_has ls 3 [(0, .ref h0)] := hl
  show W p l e (rmF 2 84) s m ([.ref h0] : List Value).toArray below meth c s.heap [] 0 0 (MQ below (QcI z (fun r H => TY z (zA z) gh H)) ([.ref h0] : List Value).toArray s 0 0 (zA z)) (F0 m 0 ls [])
  have hT : TY z (zA z) gh s.heap := hW
  refine r_iconst hx hb dX0_allKin_0 (by decide) (by decide) (fun x0 e0 => ?_)
  refine lv_istore_n (lv' := [(1, .int x0), (0, .ref h0)]) hx hb dX0_allKin_1 rfl hl (by decide) rfl (fun ls hl => ?_)
  refine r_iconst hx hb dX0_allKin_2 (by decide) (by decide) (fun x2 e2 => ?_)
  refine lv_istore_n (lv' := [(2, .int x2), (1, .int x0), (0, .ref h0)]) hx hb dX0_allKin_3 rfl hl (by decide) rfl (fun ls hl => ?_)
  have J4 : ∀ (n4 : Nat) (ls : Array Slot) (H : Heap) (locs : List Loc) (y4_1 : Int32) (y4_2 : Int32), (0 ≤ y4_2.toInt ∧ y4_2.toInt ≤ 5) → (5 - y4_2.toInt) < (n4 : Int) → TY z (zA z) gh H → va_S (zA z) s.heap H locs → lv_has ls 3 [(0, .ref h0), (1, .int y4_1), (2, .int y4_2)] → W p l e (rmF 2 84) s m ([.ref h0] : List Value).toArray below meth c H locs 0 0 (MQ below (QcI z (fun r H => TY z (zA z) gh H)) ([.ref h0] : List Value).toArray s 0 0 (zA z)) (F0 m 4 ls []) := by
    intro n4
    induction n4 with
    | zero => intro ls H locs y4_1 y4_2 j4_y4_2 mm4 hT hS hl; exfalso; omega
    | succ n4 ih4 =>
      intro ls H locs y4_1 y4_2 j4_y4_2 mm4 hT hS hl
      refine lv_iload_n hx hb dX0_allKin_4 rfl (lv_at hl 2 rfl) ?_
      refine r_iconst hx hb dX0_allKin_5 (by decide) (by decide) (fun x5 e5 => ?_)
      refine r_icmp_ge (tgt := 27) hx hb dX0_allKin_6 (by decide) (fun c6 => ?_) (fun c6 => ?_)
      · refine lv_iload_n hx hb dX0_allKin_27 rfl (lv_at hl 1 rfl) ?_
        exact rt_i hx hb hr hlk hS hT dX0_allKin_28
      · refine lv_iload_n hx hb dX0_allKin_9 rfl (lv_at hl 1 rfl) ?_
        refine lv_aload_n hx hb dX0_allKin_10 rfl (lv_at hl 0 rfl) ?_
        refine gt_Evening_kin hx hb hts ic_Evening hown hK hT g0 (hts _ mw_1_93) dX0_allKin_11 (fun q11 hq11 => ?_)
        refine lv_iload_n hx hb dX0_allKin_14 rfl (lv_at hl 2 rfl) ?_
        refine al_20 hx hb hK hT hq11 (by omega) (by omega) dX0_allKin_15 (fun x15 => ?_)
        refine cl_Si (rest := [.int y4_1]) hC hK hSK (c_J6_bitCount_0f7a4 l z gh x15) k_J6_bitCount_0f7a4 mw_2_163 ⟨rfl, rfl, Nat.le_of_ble_eq_true rfl, Nat.le_of_ble_eq_true rfl⟩ hT rfl hl.1 rfl (Nat.le_of_ble_eq_true rfl) dX0_allKin_16 ⟨Nat.zero_le _, Nat.zero_le _⟩ hS (fun _ h => h) (fun _ _ h => h) (fun r16 H locs hpo hS => ?_)
        have hT := hpo
        refine w_iadd hx hb dX0_allKin_19 (fun x19 => ?_)
        refine lv_istore_n (lv' := [(1, .int x19), (0, .ref h0), (2, .int y4_2)]) hx hb dX0_allKin_20 rfl hl (by decide) rfl (fun ls hl => ?_)
        refine r_iinc (lv' := fun v__ => [(2, .int v__), (1, .int x19), (0, .ref h0)]) hx hb dX0_allKin_21 hl (k := 2) rfl (by decide) (fun _ => rfl) ⟨by decide, by decide⟩ (by omega) (by omega) (fun x21 ls e21 hl => ?_)
        refine lv_goto (tgt := 4) hx hb dX0_allKin_24 (by decide) ?_
        exact ih4 ls _ _ x19 x21 (by omega) (by omega) hT hS (lv_sub hl [2, 1, 0] rfl)
  exact J4 (((5 - x2.toInt)).toNat + 1) ls _ _ x0 x2 (by omega) (by omega) hT hS (lv_sub hl [2, 1, 0] rfl)
theorem k_X0_hasStrangers : cBV yX0_hasStrangers cX0_hasStrangers 3 (some .boolean) 0 := ⟨mw_2_193, mw_2_194, mw_1_3, mw_2_195, ⟨by decide, by decide, by decide⟩⟩
set_option maxHeartbeats 4000000 in
set_option maxRecDepth 100000 in
theorem c_X0_hasStrangers (l : Launch) (z : Zt) (gh : Gh) (h0 o0 : Nat) (g0 : zG z h0 = (10, o0)) : Met l yX0_hasStrangers (uw yX0_hasStrangers cX0_hasStrangers 3 (some .boolean)) (rmF 1 64) (PcW z [.ref h0] (fun H => TY z (zA z) gh H)) (QcI z (fun r H => TY z (zA z) gh H ∧ (0 ≤ r.toInt ∧ r.toInt ≤ 1))) 0 0 (zA z) := by
  refine Met.ofW (cc := cX0_hasStrangers) (maxL := 3) (ret := (some .boolean)) (by decide) rfl ?_
  intro p e s m args below meth c s₁ B hml hv
  obtain ⟨rfl, hW, hK, hSK⟩ := hv
  have hx := B.exec
  have hb := B.bytes
  have hr := B.returns
  have hts : ∀ w ∈ lw_ok, w.before ([.ref h0] : List Value).toArray s = true := fun w hw => atoms_spec (ws := uw yX0_hasStrangers cX0_hasStrangers 3 (some .boolean)) B.pre w (List.mem_cons_of_mem _ hw)
  have hown : s.vm.findClass RX0 = some m.cls := findClass_of_methodNamed B.named
  have hlk := B.notSynchronized
  have hC : CallFix p m c cX0_hasStrangers 3 s ([.ref h0] : List Value).toArray lw_ok RX0 := ⟨hx, hb, hml, hown, hts⟩
  have hS : va_S (zA z) s.heap s.heap [] := va_S.rf
  have hl := lv_entry ([.ref h0]) (n := 3) (Nat.le_of_ble_eq_true rfl)
  rw [lg_entry_eq]
  generalize (lg_sl ([.ref h0]) ++ List.replicate (3 - (lg_sl ([.ref h0])).length) Slot.unset).toArray = ls at hl ⊢
  have hl : lv_has ls 3 [(0, .ref h0)] := hl
  show W p l e (rmF 1 64) s m ([.ref h0] : List Value).toArray below meth c s.heap [] 0 0 (MQ below (QcI z (fun r H => TY z (zA z) gh H ∧ (0 ≤ r.toInt ∧ r.toInt ≤ 1))) ([.ref h0] : List Value).toArray s 0 0 (zA z)) (F0 m 0 ls [])
  have hT : TY z (zA z) gh s.heap := hW
  refine r_iconst hx hb dX0_hasStrangers_0 (by decide) (by decide) (fun x0 e0 => ?_)
  refine lv_istore_n (lv' := [(1, .int x0), (0, .ref h0)]) hx hb dX0_hasStrangers_1 rfl hl (by decide) rfl (fun ls hl => ?_)
  have J2 : ∀ (n2 : Nat) (ls : Array Slot) (H : Heap) (locs : List Loc) (y2_1 : Int32), (0 ≤ y2_1.toInt ∧ y2_1.toInt ≤ 5) → (5 - y2_1.toInt) < (n2 : Int) → TY z (zA z) gh H → va_S (zA z) s.heap H locs → lv_has ls 3 [(0, .ref h0), (1, .int y2_1)] → W p l e (rmF 1 64) s m ([.ref h0] : List Value).toArray below meth c H locs 0 0 (MQ below (QcI z (fun r H => TY z (zA z) gh H ∧ (0 ≤ r.toInt ∧ r.toInt ≤ 1))) ([.ref h0] : List Value).toArray s 0 0 (zA z)) (F0 m 2 ls []) := by
    intro n2
    induction n2 with
    | zero => intro ls H locs y2_1 j2_y2_1 mm2 hT hS hl; exfalso; omega
    | succ n2 ih2 =>
      intro ls H locs y2_1 j2_y2_1 mm2 hT hS hl
      refine lv_iload_n hx hb dX0_hasStrangers_2 rfl (lv_at hl 1 rfl) ?_
      refine r_iconst hx hb dX0_hasStrangers_3 (by decide) (by decide) (fun x3 e3 => ?_)
      refine r_icmp_ge (tgt := 55) hx hb dX0_hasStrangers_4 (by decide) (fun c4 => ?_) (fun c4 => ?_)
      · refine r_iconst hx hb dX0_hasStrangers_55 (by decide) (by decide) (fun x55 e55 => ?_)
        exact rt_z hx hb hr hlk hS (by omega) (by omega) ⟨hT, by omega⟩ dX0_hasStrangers_56
      · refine lv_iload_n hx hb dX0_hasStrangers_7 rfl (lv_at hl 1 rfl) ?_
        refine lv_aload_n hx hb dX0_hasStrangers_8 rfl (lv_at hl 0 rfl) ?_
        refine gt_Evening_floor hx hb hts ic_Evening hown hK hT g0 (hts _ mw_1_89) dX0_hasStrangers_9 (fun q9 hq9 => ?_)
        refine gt_Floor_men hx hb hts ic_Floor hown hK hT hq9 (hts _ mw_1_61) dX0_hasStrangers_12 (fun x12 i12 e12 g12 => ?_)
        have J33 : ∀ (ls : Array Slot) (H : Heap) (locs : List Loc) (t33_0 : Int32), (0 ≤ t33_0.toInt ∧ t33_0.toInt ≤ 255) → (5 - y2_1.toInt) < ((n2 + 1 : Nat) : Int) → TY z (zA z) gh H → va_S (zA z) s.heap H locs → lv_has ls 3 [(0, .ref h0), (1, .int y2_1)] → W p l e (rmF 1 64) s m ([.ref h0] : List Value).toArray below meth c H locs 0 0 (MQ below (QcI z (fun r H => TY z (zA z) gh H ∧ (0 ≤ r.toInt ∧ r.toInt ≤ 1))) ([.ref h0] : List Value).toArray s 0 0 (zA z)) (F0 m 33 ls [.int t33_0]) := by
          intro ls H locs t33_0 j33_t33_0 mf33_2 hT hS hl
          refine lv_istore_n (lv' := [(2, .int t33_0), (0, .ref h0), (1, .int y2_1)]) hx hb dX0_hasStrangers_33 rfl hl (by decide) rfl (fun ls hl => ?_)
          refine lv_aload_n hx hb dX0_hasStrangers_34 rfl (lv_at hl 1 rfl) ?_
          refine gt_Evening_kin hx hb hts ic_Evening hown hK hT g0 (hts _ mw_1_93) dX0_hasStrangers_35 (fun q35 hq35 => ?_)
          refine lv_iload_n hx hb dX0_hasStrangers_38 rfl (lv_at hl 2 rfl) ?_
          refine al_20 hx hb hK hT hq35 (by omega) (by omega) dX0_hasStrangers_39 (fun x39 => ?_)
          refine lv_iload_n hx hb dX0_hasStrangers_40 rfl (lv_at hl 0 rfl) ?_
          refine r_iconst hx hb dX0_hasStrangers_41 (by decide) (by decide) (fun x41 e41 => ?_)
          refine w_ixor hx hb dX0_hasStrangers_42 (fun x42 => ?_)
          refine w_iand hx hb dX0_hasStrangers_43 (fun x43 => ?_)
          refine r_if_eq (tgt := 49) hx hb dX0_hasStrangers_44 (by decide) (fun c44 => ?_) (fun c44 => ?_)
          · refine r_iinc (lv' := fun v__ => [(1, .int v__), (2, .int t33_0), (0, .ref h0)]) hx hb dX0_hasStrangers_49 hl (k := 2) rfl (by decide) (fun _ => rfl) ⟨by decide, by decide⟩ (by omega) (by omega) (fun x49 ls e49 hl => ?_)
            refine lv_goto (tgt := 2) hx hb dX0_hasStrangers_52 (by decide) ?_
            exact ih2 ls _ _ x49 (by omega) (by omega) hT hS (lv_sub hl [2, 0] rfl)
          · refine r_iconst hx hb dX0_hasStrangers_47 (by decide) (by decide) (fun x47 e47 => ?_)
            exact rt_z hx hb hr hlk hS (by omega) (by omega) ⟨hT, by omega⟩ dX0_hasStrangers_48
        refine r_icmp_ge (tgt := 32) hx hb dX0_hasStrangers_15 (by decide) (fun c15 => ?_) (fun c15 => ?_)
        · refine r_iconst hx hb dX0_hasStrangers_32 (by decide) (by decide) (fun x32 e32 => ?_)
          exact J33 ls _ _ x32 (by omega) (by omega) hT hS (lv_sub hl [0, 1] rfl)
        · refine r_iconst hx hb dX0_hasStrangers_18 (by decide) (by decide) (fun x18 e18 => ?_)
          refine lv_aload_n hx hb dX0_hasStrangers_19 rfl (lv_at hl 0 rfl) ?_
          refine gt_Evening_floor hx hb hts ic_Evening hown hK hT g0 (hts _ mw_1_89) dX0_hasStrangers_20 (fun q20 hq20 => ?_)
          refine gt_Floor_men hx hb hts ic_Floor hown hK hT hq20 (hts _ mw_1_61) dX0_hasStrangers_23 (fun x23 i23 e23 g23 => ?_)
          refine r_shl1 hx hb dX0_hasStrangers_26 (by omega) (by omega) (by omega) (fun x26 e26 g26 k26 => ?_)
          refine r_iconst hx hb dX0_hasStrangers_27 (by decide) (by decide) (fun x27 e27 => ?_)
          refine r_isub hx hb dX0_hasStrangers_28 (by omega) (by omega) (fun x28 e28 => ?_)
          refine lv_goto (tgt := 33) hx hb dX0_hasStrangers_29 (by decide) ?_
          exact J33 ls _ _ x28 (by omega) (by omega) hT hS (lv_sub hl [0, 1] rfl)
  exact J2 (((5 - x0.toInt)).toNat + 1) ls _ _ x0 (by omega) (by omega) hT hS (lv_sub hl [1, 0] rfl)
theorem k_X0_cousinsMeet : cBV yX0_cousinsMeet cX0_cousinsMeet 3 (some .boolean) 1 := ⟨mw_3_163, mw_3_164, mw_1_3, mw_3_165, ⟨by decide, by decide, by decide⟩⟩
set_option maxHeartbeats 4000000 in
set_option maxRecDepth 100000 in
theorem c_X0_cousinsMeet (l : Launch) (z : Zt) (gh : Gh) (h0 o0 : Nat) (g0 : zG z h0 = (10, o0)) (ra1 ora1 : Nat) (hra1 : zG z ra1 = (11, ora1)) : Met l yX0_cousinsMeet (uw yX0_cousinsMeet cX0_cousinsMeet 3 (some .boolean)) (rmF 2 86) (PcW z [.ref h0, .ref ra1] (fun H => TY z (zA z) gh H)) (QcI z (fun r H => TY z (zA z) gh H ∧ (0 ≤ r.toInt ∧ r.toInt ≤ 1))) 0 0 (zA z) := by
  refine Met.ofW (cc := cX0_cousinsMeet) (maxL := 3) (ret := (some .boolean)) (by decide) rfl ?_
  intro p e s m args below meth c s₁ B hml hv
  obtain ⟨rfl, hW, hK, hSK⟩ := hv
  have hx := B.exec
  have hb := B.bytes
  have hr := B.returns
  have hts : ∀ w ∈ lw_ok, w.before ([.ref h0, .ref ra1] : List Value).toArray s = true := fun w hw => atoms_spec (ws := uw yX0_cousinsMeet cX0_cousinsMeet 3 (some .boolean)) B.pre w (List.mem_cons_of_mem _ hw)
  have hown : s.vm.findClass RX0 = some m.cls := findClass_of_methodNamed B.named
  have hlk := B.notSynchronized
  have hC : CallFix p m c cX0_cousinsMeet 3 s ([.ref h0, .ref ra1] : List Value).toArray lw_ok RX0 := ⟨hx, hb, hml, hown, hts⟩
  have hS : va_S (zA z) s.heap s.heap [] := va_S.rf
  have hl := lv_entry ([.ref h0, .ref ra1]) (n := 3) (Nat.le_of_ble_eq_true rfl)
  rw [lg_entry_eq]
  generalize (lg_sl ([.ref h0, .ref ra1]) ++ List.replicate (3 - (lg_sl ([.ref h0, .ref ra1])).length) Slot.unset).toArray = ls at hl ⊢
  have hl : lv_has ls 3 [(0, .ref h0), (1, .ref ra1)] := hl
  show W p l e (rmF 2 86) s m ([.ref h0, .ref ra1] : List Value).toArray below meth c s.heap [] 0 0 (MQ below (QcI z (fun r H => TY z (zA z) gh H ∧ (0 ≤ r.toInt ∧ r.toInt ≤ 1))) ([.ref h0, .ref ra1] : List Value).toArray s 0 0 (zA z)) (F0 m 0 ls [])
  have hT : TY z (zA z) gh s.heap := hW
  refine r_iconst hx hb dX0_cousinsMeet_0 (by decide) (by decide) (fun x0 e0 => ?_)
  refine lv_istore_n (lv' := [(2, .int x0), (0, .ref h0), (1, .ref ra1)]) hx hb dX0_cousinsMeet_1 rfl hl (by decide) rfl (fun ls hl => ?_)
  have J2 : ∀ (n2 : Nat) (ls : Array Slot) (H : Heap) (locs : List Loc) (y2_2 : Int32), (0 ≤ y2_2.toInt ∧ y2_2.toInt ≤ 5) → (5 - y2_2.toInt) < (n2 : Int) → TY z (zA z) gh H → va_S (zA z) s.heap H locs → lv_has ls 3 [(0, .ref h0), (1, .ref ra1), (2, .int y2_2)] → W p l e (rmF 2 86) s m ([.ref h0, .ref ra1] : List Value).toArray below meth c H locs 0 0 (MQ below (QcI z (fun r H => TY z (zA z) gh H ∧ (0 ≤ r.toInt ∧ r.toInt ≤ 1))) ([.ref h0, .ref ra1] : List Value).toArray s 0 0 (zA z)) (F0 m 2 ls []) := by
    intro n2
    induction n2 with
    | zero => intro ls H locs y2_2 j2_y2_2 mm2 hT hS hl; exfalso; omega
    | succ n2 ih2 =>
      intro ls H locs y2_2 j2_y2_2 mm2 hT hS hl
      refine lv_iload_n hx hb dX0_cousinsMeet_2 rfl (lv_at hl 2 rfl) ?_
      refine lv_aload_n hx hb dX0_cousinsMeet_3 rfl (lv_at hl 1 rfl) ?_
      refine gt_Floor_men hx hb hts ic_Floor hown hK hT hra1 (hts _ mw_1_61) dX0_cousinsMeet_4 (fun x4 i4 e4 g4 => ?_)
      refine r_icmp_ge (tgt := 32) hx hb dX0_cousinsMeet_7 (by decide) (fun c7 => ?_) (fun c7 => ?_)
      · refine r_iconst hx hb dX0_cousinsMeet_32 (by decide) (by decide) (fun x32 e32 => ?_)
        exact rt_z hx hb hr hlk hS (by omega) (by omega) ⟨hT, by omega⟩ dX0_cousinsMeet_33
      · refine lv_aload_n hx hb dX0_cousinsMeet_10 rfl (lv_at hl 0 rfl) ?_
        refine lv_iload_n hx hb dX0_cousinsMeet_11 rfl (lv_at hl 2 rfl) ?_
        refine lv_aload_n hx hb dX0_cousinsMeet_12 rfl (lv_at hl 1 rfl) ?_
        refine gt_Floor_partner hx hb hts ic_Floor hown hK hT hra1 (hts _ mw_1_53) dX0_cousinsMeet_13 (fun q13 hq13 => ?_)
        refine lv_iload_n hx hb dX0_cousinsMeet_16 rfl (lv_at hl 2 rfl) ?_
        refine al_27 hx hb hK hT hq13 (by omega) (by omega) dX0_cousinsMeet_17 (fun x17 e17 => ?_)
        have n17 := ix_nat (i := y2_2) (by omega)
        unfold p27 at e17
        refine cl_Vi (rest := []) hC hK hSK (c_X0_areKin l z gh h0 (o0) g0 y2_2 x17 (by omega)) k_X0_areKin mw_3_166 ⟨rfl, rfl, Nat.le_of_ble_eq_true rfl, Nat.le_of_ble_eq_true rfl⟩ (rv_Evening hK hT g0) hT rfl hl.1 rfl (Nat.le_of_ble_eq_true rfl) dX0_cousinsMeet_18 ⟨Nat.zero_le _, Nat.zero_le _⟩ hS (fun _ h => h) (fun _ _ h => h) (fun r18 H locs hpo hS => ?_)
        obtain ⟨hT, u18_0⟩ := hpo
        refine r_if_eq (tgt := 26) hx hb dX0_cousinsMeet_21 (by decide) (fun c21 => ?_) (fun c21 => ?_)
        · refine r_iinc (lv' := fun v__ => [(2, .int v__), (0, .ref h0), (1, .ref ra1)]) hx hb dX0_cousinsMeet_26 hl (k := 2) rfl (by decide) (fun _ => rfl) ⟨by decide, by decide⟩ (by omega) (by omega) (fun x26 ls e26 hl => ?_)
          refine lv_goto (tgt := 2) hx hb dX0_cousinsMeet_29 (by decide) ?_
          exact ih2 ls _ _ x26 (by omega) (by omega) hT hS (lv_sub hl [1, 2, 0] rfl)
        · refine r_iconst hx hb dX0_cousinsMeet_24 (by decide) (by decide) (fun x24 e24 => ?_)
          exact rt_z hx hb hr hlk hS (by omega) (by omega) ⟨hT, by omega⟩ dX0_cousinsMeet_25
  exact J2 (((5 - x0.toInt)).toNat + 1) ls _ _ x0 (by omega) (by omega) hT hS (lv_sub hl [1, 2, 0] rfl)
theorem k_X0_addFigure : cBV yX0_addFigure cX0_addFigure 2 none 1 := ⟨mw_2_189, mw_2_190, mw_1_3, mw_2_191, ⟨by decide, by decide, by decide⟩⟩
set_option maxHeartbeats 4000000 in
set_option maxRecDepth 100000 in
theorem c_X0_addFigure (l : Launch) (z : Zt) (gh : Gh) (h0 o0 : Nat) (g0 : zG z h0 = (10, o0)) (p1 : Int32) : Met l yX0_addFigure (uw yX0_addFigure cX0_addFigure 2 none) (rmF 1 64) (PcW z [.ref h0, .int p1] (fun H => TY z (zA z) gh H)) (QcV z (fun H => ∃ gk : Gh, eqv gk gh ∧ TY z (zA z) gk H)) 0 0 (zA z) := by
  refine Met.ofW (cc := cX0_addFigure) (maxL := 2) (ret := none) (by decide) rfl ?_
  intro p e s m args below meth c s₁ B hml hv
  obtain ⟨rfl, hW, hK, hSK⟩ := hv
  have hx := B.exec
  have hb := B.bytes
  have hr := B.returns
  have hts : ∀ w ∈ lw_ok, w.before ([.ref h0, .int p1] : List Value).toArray s = true := fun w hw => atoms_spec (ws := uw yX0_addFigure cX0_addFigure 2 none) B.pre w (List.mem_cons_of_mem _ hw)
  have hown : s.vm.findClass RX0 = some m.cls := findClass_of_methodNamed B.named
  have hlk := B.notSynchronized
  have hC : CallFix p m c cX0_addFigure 2 s ([.ref h0, .int p1] : List Value).toArray lw_ok RX0 := ⟨hx, hb, hml, hown, hts⟩
  have hS : va_S (zA z) s.heap s.heap [] := va_S.rf
  have hl := lv_entry ([.ref h0, .int p1]) (n := 2) (Nat.le_of_ble_eq_true rfl)
  rw [lg_entry_eq]
  generalize (lg_sl ([.ref h0, .int p1]) ++ List.replicate (2 - (lg_sl ([.ref h0, .int p1])).length) Slot.unset).toArray = ls at hl ⊢
  have hl : lv_has ls 2 [(0, .ref h0), (1, .int p1)] := hl
  show W p l e (rmF 1 64) s m ([.ref h0, .int p1] : List Value).toArray below meth c s.heap [] 0 0 (MQ below (QcV z (fun H => ∃ gk : Gh, eqv gk gh ∧ TY z (zA z) gk H)) ([.ref h0, .int p1] : List Value).toArray s 0 0 (zA z)) (F0 m 0 ls [])
  have hT : TY z (zA z) gh s.heap := hW
  have hg1 : eqv gh gh := eqv_rf gh
  have mx_p1 := i_mx p1
  refine lv_aload_n hx hb dX0_addFigure_0 rfl (lv_at hl 0 rfl) ?_
  refine gt_Evening_figures hx hb hts ic_Evening hown hK hT g0 (hts _ mw_1_107) dX0_addFigure_1 (fun x1 i1 e1 g1 => ?_)
  refine r_bipush hx hb dX0_addFigure_4 rfl (fun x4 e4 => ?_)
  refine r_icmp_ge (tgt := 29) hx hb dX0_addFigure_6 (by decide) (fun c6 => ?_) (fun c6 => ?_)
  · exact rt_v hx hb hr hlk hS ⟨_, hg1, hT⟩ dX0_addFigure_29
  · refine lv_aload_n hx hb dX0_addFigure_9 rfl (lv_at hl 0 rfl) ?_
    refine gt_Evening_program hx hb hts ic_Evening hown hK hT g0 (hts _ mw_1_96) dX0_addFigure_10 (fun q10 hq10 => ?_)
    refine lv_aload_n hx hb dX0_addFigure_13 rfl (lv_at hl 0 rfl) ?_
    refine gt_Evening_figures hx hb hts ic_Evening hown hK hT g0 (hts _ mw_1_107) dX0_addFigure_14 (fun x14 i14 e14 g14 => ?_)
    refine lv_iload_n hx hb dX0_addFigure_17 rfl (lv_at hl 1 rfl) ?_
    refine as_21 hx hb hK hT hS hq10 (by omega) (by omega) dX0_addFigure_18 (fun H locs hT hS => ?_)
    refine lv_aload_n hx hb dX0_addFigure_19 rfl (lv_at hl 0 rfl) ?_
    refine lv_dup hx hb dX0_addFigure_20 rfl ?_
    refine gt_Evening_figures hx hb hts ic_Evening hown hK hT g0 (hts _ mw_1_107) dX0_addFigure_21 (fun x21 i21 e21 g21 => ?_)
    refine r_iconst hx hb dX0_addFigure_24 (by decide) (by decide) (fun x24 e24 => ?_)
    refine r_iadd hx hb dX0_addFigure_25 (by omega) (by omega) (fun x25 e25 => ?_)
    refine pt_Evening_figures hx hb hts ic_Evening hown hK hT hS g0 (hts _ mw_1_107) (by omega) (by omega) dX0_addFigure_26 (fun H locs hT hS => ?_)
    obtain ⟨gk26, w26, hq26, hg1, hT⟩ : ∃ g : Gh, g.1 h0 36 = x25.toInt ∧ (∀ b k, k ≠ 36 → g.1 b k = gh.1 b k) ∧ eqv g gh ∧ TY z (zA z) g H := ⟨_, gs_at _ _ _ _, fun b k hk => gs_nk _ _ _ _ hk, eqv_gs rfl hg1, hT⟩
    exact rt_v hx hb hr hlk hS ⟨_, hg1, hT⟩ dX0_addFigure_29
theorem k_X0_addSeen : cBV yX0_addSeen cX0_addSeen 4 none 3 := ⟨mw_3_217, mw_3_218, mw_1_3, mw_3_219, ⟨by decide, by decide, by decide⟩⟩
set_option maxHeartbeats 4000000 in
set_option maxRecDepth 100000 in
theorem c_X0_addSeen (l : Launch) (z : Zt) (gh : Gh) (h0 o0 : Nat) (g0 : zG z h0 = (10, o0)) (p1 : Int32) (p2 : Int32) (p3 : Int32) (bp1 : 0 ≤ p1.toInt ∧ p1.toInt ≤ 4) (bp2 : 0 ≤ p2.toInt ∧ p2.toInt ≤ 8) : Met l yX0_addSeen (uw yX0_addSeen cX0_addSeen 4 none) (rmF 1 64) (PcW z [.ref h0, .int p1, .int p2, .int p3] (fun H => TY z (zA z) gh H)) (QcV z (fun H => ∃ gk : Gh, eqv gk gh ∧ TY z (zA z) gk H)) 0 0 (zA z) := by
  refine Met.ofW (cc := cX0_addSeen) (maxL := 4) (ret := none) (by decide) rfl ?_
  intro p e s m args below meth c s₁ B hml hv
  obtain ⟨rfl, hW, hK, hSK⟩ := hv
  have hx := B.exec
  have hb := B.bytes
  have hr := B.returns
  have hts : ∀ w ∈ lw_ok, w.before ([.ref h0, .int p1, .int p2, .int p3] : List Value).toArray s = true := fun w hw => atoms_spec (ws := uw yX0_addSeen cX0_addSeen 4 none) B.pre w (List.mem_cons_of_mem _ hw)
  have hown : s.vm.findClass RX0 = some m.cls := findClass_of_methodNamed B.named
  have hlk := B.notSynchronized
  have hC : CallFix p m c cX0_addSeen 4 s ([.ref h0, .int p1, .int p2, .int p3] : List Value).toArray lw_ok RX0 := ⟨hx, hb, hml, hown, hts⟩
  have hS : va_S (zA z) s.heap s.heap [] := va_S.rf
  have hl := lv_entry ([.ref h0, .int p1, .int p2, .int p3]) (n := 4) (Nat.le_of_ble_eq_true rfl)
  rw [lg_entry_eq]
  generalize (lg_sl ([.ref h0, .int p1, .int p2, .int p3]) ++ List.replicate (4 - (lg_sl ([.ref h0, .int p1, .int p2, .int p3])).length) Slot.unset).toArray = ls at hl ⊢
  have hl : lv_has ls 4 [(0, .ref h0), (1, .int p1), (2, .int p2), (3, .int p3)] := hl
  show W p l e (rmF 1 64) s m ([.ref h0, .int p1, .int p2, .int p3] : List Value).toArray below meth c s.heap [] 0 0 (MQ below (QcV z (fun H => ∃ gk : Gh, eqv gk gh ∧ TY z (zA z) gk H)) ([.ref h0, .int p1, .int p2, .int p3] : List Value).toArray s 0 0 (zA z)) (F0 m 0 ls [])
  have hT : TY z (zA z) gh s.heap := hW
  have hg1 : eqv gh gh := eqv_rf gh
  have mx_p3 := i_mx p3
  refine lv_aload_n hx hb dX0_addSeen_0 rfl (lv_at hl 0 rfl) ?_
  refine gt_Evening_seen hx hb hts ic_Evening hown hK hT g0 (hts _ mw_1_110) dX0_addSeen_1 (fun x1 i1 e1 g1 => ?_)
  refine r_bipush hx hb dX0_addSeen_4 rfl (fun x4 e4 => ?_)
  refine r_icmp_ge (tgt := 49) hx hb dX0_addSeen_6 (by decide) (fun c6 => ?_) (fun c6 => ?_)
  · exact rt_v hx hb hr hlk hS ⟨_, hg1, hT⟩ dX0_addSeen_49
  · refine lv_aload_n hx hb dX0_addSeen_9 rfl (lv_at hl 0 rfl) ?_
    refine gt_Evening_seenWoman hx hb hts ic_Evening hown hK hT g0 (hts _ mw_1_100) dX0_addSeen_10 (fun q10 hq10 => ?_)
    refine lv_aload_n hx hb dX0_addSeen_13 rfl (lv_at hl 0 rfl) ?_
    refine gt_Evening_seen hx hb hts ic_Evening hown hK hT g0 (hts _ mw_1_110) dX0_addSeen_14 (fun x14 i14 e14 g14 => ?_)
    refine lv_iload_n hx hb dX0_addSeen_17 rfl (lv_at hl 1 rfl) ?_
    refine as_25 hx hb hK hT hS hq10 (by omega) (by omega) ⟨by omega, by omega⟩ dX0_addSeen_18 (fun H locs hT hS => ?_)
    refine lv_aload_n hx hb dX0_addSeen_19 rfl (lv_at hl 0 rfl) ?_
    refine gt_Evening_seenBehind hx hb hts ic_Evening hown hK hT g0 (hts _ mw_1_102) dX0_addSeen_20 (fun q20 hq20 => ?_)
    refine lv_aload_n hx hb dX0_addSeen_23 rfl (lv_at hl 0 rfl) ?_
    refine gt_Evening_seen hx hb hts ic_Evening hown hK hT g0 (hts _ mw_1_110) dX0_addSeen_24 (fun x24 i24 e24 g24 => ?_)
    refine lv_iload_n hx hb dX0_addSeen_27 rfl (lv_at hl 2 rfl) ?_
    refine as_26 hx hb hK hT hS hq20 (by omega) (by omega) ⟨by omega, by omega⟩ dX0_addSeen_28 (fun H locs hT hS => ?_)
    refine lv_aload_n hx hb dX0_addSeen_29 rfl (lv_at hl 0 rfl) ?_
    refine gt_Evening_seenMan hx hb hts ic_Evening hown hK hT g0 (hts _ mw_1_104) dX0_addSeen_30 (fun q30 hq30 => ?_)
    refine lv_aload_n hx hb dX0_addSeen_33 rfl (lv_at hl 0 rfl) ?_
    refine gt_Evening_seen hx hb hts ic_Evening hown hK hT g0 (hts _ mw_1_110) dX0_addSeen_34 (fun x34 i34 e34 g34 => ?_)
    refine lv_iload_n hx hb dX0_addSeen_37 rfl (lv_at hl 3 rfl) ?_
    refine as_22 hx hb hK hT hS hq30 (by omega) (by omega) dX0_addSeen_38 (fun H locs hT hS => ?_)
    refine lv_aload_n hx hb dX0_addSeen_39 rfl (lv_at hl 0 rfl) ?_
    refine lv_dup hx hb dX0_addSeen_40 rfl ?_
    refine gt_Evening_seen hx hb hts ic_Evening hown hK hT g0 (hts _ mw_1_110) dX0_addSeen_41 (fun x41 i41 e41 g41 => ?_)
    refine r_iconst hx hb dX0_addSeen_44 (by decide) (by decide) (fun x44 e44 => ?_)
    refine r_iadd hx hb dX0_addSeen_45 (by omega) (by omega) (fun x45 e45 => ?_)
    refine pt_Evening_seen hx hb hts ic_Evening hown hK hT hS g0 (hts _ mw_1_110) (by omega) (by omega) dX0_addSeen_46 (fun H locs hT hS => ?_)
    obtain ⟨gk46, w46, hq46, hg1, hT⟩ : ∃ g : Gh, g.1 h0 37 = x45.toInt ∧ (∀ b k, k ≠ 37 → g.1 b k = gh.1 b k) ∧ eqv g gh ∧ TY z (zA z) g H := ⟨_, gs_at _ _ _ _, fun b k hk => gs_nk _ _ _ _ hk, eqv_gs rfl hg1, hT⟩
    exact rt_v hx hb hr hlk hS ⟨_, hg1, hT⟩ dX0_addSeen_49
theorem k_X5_note : cBV yX5_note cX5_note 1 none 0 := ⟨mw_3_95, ms_1_2, mw_1_5, mw_3_96, ⟨by decide, by decide, by decide⟩⟩
set_option maxHeartbeats 4000000 in
set_option maxRecDepth 100000 in
theorem c_X5_note (l : Launch) (z : Zt) (gh : Gh) (h0 o0 : Nat) (g0 : zG z h0 = (15, o0)) : Met l yX5_note (uw yX5_note cX5_note 1 none) (rmF 1 64) (PcW z [.ref h0] (fun H => TY z (zA z) gh H)) (QcV z (fun H => TY z (zA z) gh H)) 0 0 (zA z) := by
  refine Met.ofW (cc := cX5_note) (maxL := 1) (ret := none) (by decide) rfl ?_
  intro p e s m args below meth c s₁ B hml hv
  obtain ⟨rfl, hW, hK, hSK⟩ := hv
  have hx := B.exec
  have hb := B.bytes
  have hr := B.returns
  have hts : ∀ w ∈ lw_ok, w.before ([.ref h0] : List Value).toArray s = true := fun w hw => atoms_spec (ws := uw yX5_note cX5_note 1 none) B.pre w (List.mem_cons_of_mem _ hw)
  have hown : s.vm.findClass RX5 = some m.cls := findClass_of_methodNamed B.named
  have hlk := B.notSynchronized
  have hC : CallFix p m c cX5_note 1 s ([.ref h0] : List Value).toArray lw_ok RX5 := ⟨hx, hb, hml, hown, hts⟩
  have hS : va_S (zA z) s.heap s.heap [] := va_S.rf
  have hl := lv_entry ([.ref h0]) (n := 1) (Nat.le_of_ble_eq_true rfl)
  rw [lg_entry_eq]
  generalize (lg_sl ([.ref h0]) ++ List.replicate (1 - (lg_sl ([.ref h0])).length) Slot.unset).toArray = ls at hl ⊢
  have hl : lv_has ls 1 [(0, .ref h0)] := hl
  show W p l e (rmF 1 64) s m ([.ref h0] : List Value).toArray below meth c s.heap [] 0 0 (MQ below (QcV z (fun H => TY z (zA z) gh H)) ([.ref h0] : List Value).toArray s 0 0 (zA z)) (F0 m 0 ls [])
  have hT : TY z (zA z) gh s.heap := hW
  refine lv_aload_n hx hb dX5_note_0 rfl (lv_at hl 0 rfl) ?_
  refine gt_Walk_floor hx hb hts ic_Walk hown hK hT g0 (hts _ mw_1_176) dX5_note_1 (fun q1 hq1 => ?_)
  refine gt_Floor_partner hx hb hts ic_Floor hown hK hT hq1 (hts _ mw_1_52) dX5_note_4 (fun q4 hq4 => ?_)
  refine r_iconst hx hb dX5_note_7 (by decide) (by decide) (fun x7 e7 => ?_)
  refine lv_aload_n hx hb dX5_note_8 rfl (lv_at hl 0 rfl) ?_
  refine gt_Walk_partners hx hb hts ic_Walk hown hK hT g0 (hts _ mw_1_178) dX5_note_9 (fun q9 hq9 => ?_)
  refine lv_aload_n hx hb dX5_note_12 rfl (lv_at hl 0 rfl) ?_
  refine gt_Walk_steps hx hb hts ic_Walk hown hK hT g0 (hts _ mw_1_179) dX5_note_13 (fun x13 i13 e13 g13 => ?_)
  refine r_iconst hx hb dX5_note_16 (by decide) (by decide) (fun x16 e16 => ?_)
  refine r_imul (5) (by omega) hx hb dX5_note_17 (by omega) (by omega) (fun x17 e17 => ?_)
  refine r_iconst hx hb dX5_note_18 (by decide) (by decide) (fun x18 e18 => ?_)
  refine cp_27_24 hx hb (hml.trans hl.1.symm) hts hown mw_3_97 hK hT hS hq4 hq9 (by omega) (by omega) (by omega) (by omega) (by omega) (Nat.le_of_ble_eq_true rfl) (Nat.le_of_ble_eq_true rfl) dX5_note_19 (fun H locs hT hS => ?_)
  exact rt_v hx hb hr hlk hS hT dX5_note_22
theorem k_X5_partnerBehind : cBV yX5_partnerBehind cX5_partnerBehind 3 (some .int) 2 := ⟨mw_3_108, mw_3_109, mw_1_5, mw_3_110, ⟨by decide, by decide, by decide⟩⟩
set_option maxHeartbeats 4000000 in
set_option maxRecDepth 100000 in
theorem c_X5_partnerBehind (l : Launch) (z : Zt) (gh : Gh) (h0 o0 : Nat) (g0 : zG z h0 = (15, o0)) (p1 : Int32) (p2 : Int32) (bp1 : 0 ≤ p1.toInt ∧ p1.toInt ≤ 4) (bp2 : 0 ≤ p2.toInt ∧ p2.toInt ≤ 8) : Met l yX5_partnerBehind (uw yX5_partnerBehind cX5_partnerBehind 3 (some .int)) (rmF 1 64) (PcW z [.ref h0, .int p1, .int p2] (fun H => TY z (zA z) gh H)) (QcI z (fun r H => TY z (zA z) gh H)) 0 0 (zA z) := by
  refine Met.ofW (cc := cX5_partnerBehind) (maxL := 3) (ret := (some .int)) (by decide) rfl ?_
  intro p e s m args below meth c s₁ B hml hv
  obtain ⟨rfl, hW, hK, hSK⟩ := hv
  have hx := B.exec
  have hb := B.bytes
  have hr := B.returns
  have hts : ∀ w ∈ lw_ok, w.before ([.ref h0, .int p1, .int p2] : List Value).toArray s = true := fun w hw => atoms_spec (ws := uw yX5_partnerBehind cX5_partnerBehind 3 (some .int)) B.pre w (List.mem_cons_of_mem _ hw)
  have hown : s.vm.findClass RX5 = some m.cls := findClass_of_methodNamed B.named
  have hlk := B.notSynchronized
  have hC : CallFix p m c cX5_partnerBehind 3 s ([.ref h0, .int p1, .int p2] : List Value).toArray lw_ok RX5 := ⟨hx, hb, hml, hown, hts⟩
  have hS : va_S (zA z) s.heap s.heap [] := va_S.rf
  have hl := lv_entry ([.ref h0, .int p1, .int p2]) (n := 3) (Nat.le_of_ble_eq_true rfl)
  rw [lg_entry_eq]
  generalize (lg_sl ([.ref h0, .int p1, .int p2]) ++ List.replicate (3 - (lg_sl ([.ref h0, .int p1, .int p2])).length) Slot.unset).toArray = ls at hl ⊢
  have hl : lv_has ls 3 [(0, .ref h0), (1, .int p1), (2, .int p2)] := hl
  show W p l e (rmF 1 64) s m ([.ref h0, .int p1, .int p2] : List Value).toArray below meth c s.heap [] 0 0 (MQ below (QcI z (fun r H => TY z (zA z) gh H)) ([.ref h0, .int p1, .int p2] : List Value).toArray s 0 0 (zA z)) (F0 m 0 ls [])
  have hT : TY z (zA z) gh s.heap := hW
  refine lv_aload_n hx hb dX5_partnerBehind_0 rfl (lv_at hl 0 rfl) ?_
  refine gt_Walk_partners hx hb hts ic_Walk hown hK hT g0 (hts _ mw_1_178) dX5_partnerBehind_1 (fun q1 hq1 => ?_)
  refine lv_iload_n hx hb dX5_partnerBehind_4 rfl (lv_at hl 2 rfl) ?_
  refine lv_aload_n hx hb dX5_partnerBehind_5 rfl (lv_at hl 0 rfl) ?_
  refine gt_Walk_steps hx hb hts ic_Walk hown hK hT g0 (hts _ mw_1_179) dX5_partnerBehind_6 (fun x6 i6 e6 g6 => ?_)
  refine r_min hx hb (hml.trans hl.1.symm) hts hown mw_3_111 (Nat.le_of_ble_eq_true rfl) (Nat.le_of_ble_eq_true rfl) ⟨Nat.zero_le _, Nat.zero_le _⟩ dX5_partnerBehind_9 (fun x9 e9 g9 k9 => ?_)
  refine r_iconst hx hb dX5_partnerBehind_12 (by decide) (by decide) (fun x12 e12 => ?_)
  refine r_imul (5) (by omega) hx hb dX5_partnerBehind_13 (by omega) (by omega) (fun x13 e13 => ?_)
  refine lv_iload_n hx hb dX5_partnerBehind_14 rfl (lv_at hl 1 rfl) ?_
  refine r_iadd hx hb dX5_partnerBehind_15 (by omega) (by omega) (fun x15 e15 => ?_)
  refine al_24 hx hb hK hT hq1 (by omega) (by omega) dX5_partnerBehind_16 (fun x16 => ?_)
  exact rt_i hx hb hr hlk hS hT dX5_partnerBehind_17
theorem k_X2_take : cBV yX2_take cX2_take 2 none 0 := ⟨mw_3_156, ms_1_7, mw_1_6, mw_3_157, ⟨by decide, by decide, by decide⟩⟩
set_option maxHeartbeats 4000000 in
set_option maxRecDepth 100000 in
theorem c_X2_take (l : Launch) (z : Zt) (gh : Gh) (h0 o0 : Nat) (g0 : zG z h0 = (12, o0)) : Met l yX2_take (uw yX2_take cX2_take 2 none) (rmF 2 86) (PcW z [.ref h0] (fun H => TY z (zA z) gh H)) (QcV z (fun H => TY z (zA z) gh H)) 0 0 (zA z) := by
  refine Met.ofW (cc := cX2_take) (maxL := 2) (ret := none) (by decide) rfl ?_
  intro p e s m args below meth c s₁ B hml hv
  obtain ⟨rfl, hW, hK, hSK⟩ := hv
  have hx := B.exec
  have hb := B.bytes
  have hr := B.returns
  have hts : ∀ w ∈ lw_ok, w.before ([.ref h0] : List Value).toArray s = true := fun w hw => atoms_spec (ws := uw yX2_take cX2_take 2 none) B.pre w (List.mem_cons_of_mem _ hw)
  have hown : s.vm.findClass RX2 = some m.cls := findClass_of_methodNamed B.named
  have hlk := B.notSynchronized
  have hC : CallFix p m c cX2_take 2 s ([.ref h0] : List Value).toArray lw_ok RX2 := ⟨hx, hb, hml, hown, hts⟩
  have hS : va_S (zA z) s.heap s.heap [] := va_S.rf
  have hl := lv_entry ([.ref h0]) (n := 2) (Nat.le_of_ble_eq_true rfl)
  rw [lg_entry_eq]
  generalize (lg_sl ([.ref h0]) ++ List.replicate (2 - (lg_sl ([.ref h0])).length) Slot.unset).toArray = ls at hl ⊢
  have hl : lv_has ls 2 [(0, .ref h0)] := hl
  show W p l e (rmF 2 86) s m ([.ref h0] : List Value).toArray below meth c s.heap [] 0 0 (MQ below (QcV z (fun H => TY z (zA z) gh H)) ([.ref h0] : List Value).toArray s 0 0 (zA z)) (F0 m 0 ls [])
  have hT : TY z (zA z) gh s.heap := hW
  refine lv_aload_n hx hb dX2_take_0 rfl (lv_at hl 0 rfl) ?_
  refine gt_Search_behind hx hb hts ic_Search hown hK hT g0 (hts _ mw_1_198) dX2_take_1 (fun q1 hq1 => ?_)
  refine lv_aload_n hx hb dX2_take_4 rfl (lv_at hl 0 rfl) ?_
  refine gt_Search_length hx hb hts ic_Search hown hK hT g0 (hts _ mw_1_205) dX2_take_5 (fun x5 e5 g5 => ?_)
  refine al_35 hx hb hK hT hq1 (by omega) (by omega) dX2_take_8 (fun q8 hq8 => ?_)
  refine cl_Vi (rest := []) hC hK hSK (c_X1_roundBits l z gh q8 (6 + x5.toNatClampNeg) hq8) k_X1_roundBits mw_3_158 ⟨rfl, rfl, Nat.le_of_ble_eq_true rfl, Nat.le_of_ble_eq_true rfl⟩ (rv_Floor hK hT hq8) hT rfl hl.1 rfl (Nat.le_of_ble_eq_true rfl) dX2_take_9 ⟨Nat.zero_le _, Nat.zero_le _⟩ hS (fun _ h => h) (fun _ _ h => h) (fun r9 H locs hpo hS => ?_)
  have hT := hpo
  refine cl_Si (rest := []) hC hK hSK (c_J6_bitCount_0f7a4 l z gh r9) k_J6_bitCount_0f7a4 mw_3_159 ⟨rfl, rfl, Nat.le_of_ble_eq_true rfl, Nat.le_of_ble_eq_true rfl⟩ hT rfl hl.1 rfl (Nat.le_of_ble_eq_true rfl) dX2_take_12 ⟨Nat.zero_le _, Nat.zero_le _⟩ hS (fun _ h => h) (fun _ _ h => h) (fun r12 H locs hpo hS => ?_)
  have hT := hpo
  refine lv_istore_n (lv' := [(1, .int r12), (0, .ref h0)]) hx hb dX2_take_15 rfl hl (by decide) rfl (fun ls hl => ?_)
  refine lv_aload_n hx hb dX2_take_16 rfl (lv_at hl 1 rfl) ?_
  refine gt_Search_found hx hb hts ic_Search hown hK hT g0 (hts _ mw_1_206) dX2_take_17 (fun x17 => ?_)
  have J40 : ∀ (ls : Array Slot) (H : Heap) (locs : List Loc), TY z (zA z) gh H → va_S (zA z) s.heap H locs → lv_has ls 2 [(0, .ref h0), (1, .int r12)] → W p l e (rmF 2 86) s m ([.ref h0] : List Value).toArray below meth c H locs 0 0 (MQ below (QcV z (fun H => TY z (zA z) gh H)) ([.ref h0] : List Value).toArray s 0 0 (zA z)) (F0 m 40 ls []) := by
    intro ls H locs hT hS hl
    refine lv_iload_n hx hb dX2_take_40 rfl (lv_at hl 1 rfl) ?_
    refine lv_aload_n hx hb dX2_take_41 rfl (lv_at hl 0 rfl) ?_
    refine gt_Search_most hx hb hts ic_Search hown hK hT g0 (hts _ mw_1_208) dX2_take_42 (fun x42 => ?_)
    have J70 : ∀ (ls : Array Slot) (H : Heap) (locs : List Loc), TY z (zA z) gh H → va_S (zA z) s.heap H locs → lv_has ls 2 [(0, .ref h0), (1, .int r12)] → W p l e (rmF 2 86) s m ([.ref h0] : List Value).toArray below meth c H locs 0 0 (MQ below (QcV z (fun H => TY z (zA z) gh H)) ([.ref h0] : List Value).toArray s 0 0 (zA z)) (F0 m 70 ls []) := by
      intro ls H locs hT hS hl
      refine lv_aload_n hx hb dX2_take_70 rfl (lv_at hl 0 rfl) ?_
      refine lv_dup hx hb dX2_take_71 rfl ?_
      refine gt_Search_found hx hb hts ic_Search hown hK hT g0 (hts _ mw_1_206) dX2_take_72 (fun x72 => ?_)
      refine r_iconst hx hb dX2_take_75 (by decide) (by decide) (fun x75 e75 => ?_)
      refine w_iadd hx hb dX2_take_76 (fun x76 => ?_)
      refine pt_Search_found hx hb hts ic_Search hown hK hT hS g0 (hts _ mw_1_206) dX2_take_77 (fun H locs hT hS => ?_)
      exact rt_v hx hb hr hlk hS hT dX2_take_80
    refine r_icmp_le (tgt := 70) hx hb dX2_take_45 (by decide) (fun c45 => ?_) (fun c45 => ?_)
    · exact J70 ls _ _ hT hS (lv_sub hl [0, 1] rfl)
    · refine lv_aload_n hx hb dX2_take_48 rfl (lv_at hl 0 rfl) ?_
      refine lv_iload_n hx hb dX2_take_49 rfl (lv_at hl 1 rfl) ?_
      refine pt_Search_most hx hb hts ic_Search hown hK hT hS g0 (hts _ mw_1_208) dX2_take_50 (fun H locs hT hS => ?_)
      refine lv_aload_n hx hb dX2_take_53 rfl (lv_at hl 0 rfl) ?_
      refine gt_Search_row hx hb hts ic_Search hown hK hT g0 (hts _ mw_1_199) dX2_take_54 (fun q54 hq54 => ?_)
      refine r_iconst hx hb dX2_take_57 (by decide) (by decide) (fun x57 e57 => ?_)
      refine lv_aload_n hx hb dX2_take_58 rfl (lv_at hl 0 rfl) ?_
      refine gt_Search_bestRow hx hb hts ic_Search hown hK hT g0 (hts _ mw_1_202) dX2_take_59 (fun q59 hq59 => ?_)
      refine r_iconst hx hb dX2_take_62 (by decide) (by decide) (fun x62 e62 => ?_)
      refine lv_aload_n hx hb dX2_take_63 rfl (lv_at hl 0 rfl) ?_
      refine gt_Search_length hx hb hts ic_Search hown hK hT g0 (hts _ mw_1_205) dX2_take_64 (fun x64 e64 g64 => ?_)
      refine cp_20_20 hx hb (hml.trans hl.1.symm) hts hown mw_3_160 hK hT hS hq54 hq59 (by omega) (by omega) (by omega) (by omega) (by omega) (Nat.le_of_ble_eq_true rfl) (Nat.le_of_ble_eq_true rfl) dX2_take_67 (fun H locs hT hS => ?_)
      exact J70 ls _ _ hT hS (lv_sub hl [0, 1] rfl)
  refine r_if_ne (tgt := 40) hx hb dX2_take_20 (by decide) (fun c20 => ?_) (fun c20 => ?_)
  · exact J40 ls _ _ hT hS (lv_sub hl [1, 0] rfl)
  · refine lv_aload_n hx hb dX2_take_23 rfl (lv_at hl 1 rfl) ?_
    refine gt_Search_row hx hb hts ic_Search hown hK hT g0 (hts _ mw_1_199) dX2_take_24 (fun q24 hq24 => ?_)
    refine r_iconst hx hb dX2_take_27 (by decide) (by decide) (fun x27 e27 => ?_)
    refine lv_aload_n hx hb dX2_take_28 rfl (lv_at hl 1 rfl) ?_
    refine gt_Search_firstRow hx hb hts ic_Search hown hK hT g0 (hts _ mw_1_200) dX2_take_29 (fun q29 hq29 => ?_)
    refine r_iconst hx hb dX2_take_32 (by decide) (by decide) (fun x32 e32 => ?_)
    refine lv_aload_n hx hb dX2_take_33 rfl (lv_at hl 1 rfl) ?_
    refine gt_Search_length hx hb hts ic_Search hown hK hT g0 (hts _ mw_1_205) dX2_take_34 (fun x34 e34 g34 => ?_)
    refine cp_20_20 hx hb (hml.trans hl.1.symm) hts hown mw_3_160 hK hT hS hq24 hq29 (by omega) (by omega) (by omega) (by omega) (by omega) (Nat.le_of_ble_eq_true rfl) (Nat.le_of_ble_eq_true rfl) dX2_take_37 (fun H locs hT hS => ?_)
    exact J40 ls _ _ hT hS (lv_sub hl [1, 0] rfl)
theorem k_X3_faultAt : cBV yX3_faultAt cX3_faultAt 4 (some .int) 2 := ⟨mw_4_37, mw_4_38, mw_1_7, mw_4_39, ⟨by decide, by decide, by decide⟩⟩
set_option maxHeartbeats 4000000 in
set_option maxRecDepth 100000 in
theorem c_X3_faultAt (l : Launch) (z : Zt) (gh : Gh) (h0 o0 : Nat) (g0 : zG z h0 = (13, o0)) (p1 : Int32) (p2 : Int64) : Met l yX3_faultAt (uw yX3_faultAt cX3_faultAt 4 (some .int)) (rmF 1 64) (PcW z [.ref h0, .int p1, .long p2] (fun H => TY z (zA z) gh H)) (QcI z (fun r H => TY z (zA z) gh H ∧ ((gh.1 h0 34 = -1 → r.toInt = 1) ∧ (gh.1 h0 34 ≠ -1 → gh.1 h0 34 ≠ p1.toInt → r.toInt = 3)) ∧ (gh.1 h0 34 ≠ -1 → gh.1 h0 34 = p1.toInt → (p2.toInt < 0 ∨ gh.1 h0 35 ≤ p2.toInt) → r.toInt = 2) ∧ (gh.1 h0 34 ≠ -1 → gh.1 h0 34 = p1.toInt → 0 ≤ p2.toInt → p2.toInt < gh.1 h0 35 → r.toInt = 0) ∧ (0 ≤ r.toInt ∧ r.toInt ≤ 3))) 0 0 (zA z) := by
  refine Met.ofW (cc := cX3_faultAt) (maxL := 4) (ret := (some .int)) (by decide) rfl ?_
  intro p e s m args below meth c s₁ B hml hv
  obtain ⟨rfl, hW, hK, hSK⟩ := hv
  have hx := B.exec
  have hb := B.bytes
  have hr := B.returns
  have hts : ∀ w ∈ lw_ok, w.before ([.ref h0, .int p1, .long p2] : List Value).toArray s = true := fun w hw => atoms_spec (ws := uw yX3_faultAt cX3_faultAt 4 (some .int)) B.pre w (List.mem_cons_of_mem _ hw)
  have hown : s.vm.findClass RX3 = some m.cls := findClass_of_methodNamed B.named
  have hlk := B.notSynchronized
  have hC : CallFix p m c cX3_faultAt 4 s ([.ref h0, .int p1, .long p2] : List Value).toArray lw_ok RX3 := ⟨hx, hb, hml, hown, hts⟩
  have hS : va_S (zA z) s.heap s.heap [] := va_S.rf
  have hl := lv_entry ([.ref h0, .int p1, .long p2]) (n := 4) (Nat.le_of_ble_eq_true rfl)
  rw [lg_entry_eq]
  generalize (lg_sl ([.ref h0, .int p1, .long p2]) ++ List.replicate (4 - (lg_sl ([.ref h0, .int p1, .long p2])).length) Slot.unset).toArray = ls at hl ⊢
  have hl : lv_has ls 4 [(0, .ref h0), (1, .int p1), (2, .long p2)] := hl
  show W p l e (rmF 1 64) s m ([.ref h0, .int p1, .long p2] : List Value).toArray below meth c s.heap [] 0 0 (MQ below (QcI z (fun r H => TY z (zA z) gh H ∧ ((gh.1 h0 34 = -1 → r.toInt = 1) ∧ (gh.1 h0 34 ≠ -1 → gh.1 h0 34 ≠ p1.toInt → r.toInt = 3)) ∧ (gh.1 h0 34 ≠ -1 → gh.1 h0 34 = p1.toInt → (p2.toInt < 0 ∨ gh.1 h0 35 ≤ p2.toInt) → r.toInt = 2) ∧ (gh.1 h0 34 ≠ -1 → gh.1 h0 34 = p1.toInt → 0 ≤ p2.toInt → p2.toInt < gh.1 h0 35 → r.toInt = 0) ∧ (0 ≤ r.toInt ∧ r.toInt ≤ 3))) ([.ref h0, .int p1, .long p2] : List Value).toArray s 0 0 (zA z)) (F0 m 0 ls [])
  have hT : TY z (zA z) gh s.heap := hW
  have mx_p1 := i_mx p1
  refine lv_aload_n hx hb dX3_faultAt_0 rfl (lv_at hl 0 rfl) ?_
  refine gt_Sheet_lane hx hb hts ic_Sheet hown hK hT g0 (hts _ mw_1_236) dX3_faultAt_1 (fun x1 i1 e1 g1 => ?_)
  refine r_iconst hx hb dX3_faultAt_4 (by decide) (by decide) (fun x4 e4 => ?_)
  refine r_icmp_ne (tgt := 10) hx hb dX3_faultAt_5 (by decide) (fun c5 => ?_) (fun c5 => ?_)
  · refine lv_aload_n hx hb dX3_faultAt_10 rfl (lv_at hl 0 rfl) ?_
    refine gt_Sheet_lane hx hb hts ic_Sheet hown hK hT g0 (hts _ mw_1_236) dX3_faultAt_11 (fun x11 i11 e11 g11 => ?_)
    refine lv_iload_n hx hb dX3_faultAt_14 rfl (lv_at hl 1 rfl) ?_
    refine r_icmp_eq (tgt := 20) hx hb dX3_faultAt_15 (by decide) (fun c15 => ?_) (fun c15 => ?_)
    · refine lv_lload_n hx hb dX3_faultAt_20 rfl (lv_at hl 2 rfl) ?_
      refine r_lconst0 hx hb dX3_faultAt_21 (fun x21 e21 => ?_)
      refine r_lcmp hx hb dX3_faultAt_22 (fun x22 e22 g22 k22 => ?_)
      have v22 : -1 ≤ x22.toInt ∧ x22.toInt ≤ 1 := by omega
      refine r_if_lt (tgt := 36) hx hb dX3_faultAt_23 (by decide) (fun c23 => ?_) (fun c23 => ?_)
      · refine r_iconst hx hb dX3_faultAt_36 (by decide) (by decide) (fun x36 e36 => ?_)
        refine lv_goto (tgt := 41) hx hb dX3_faultAt_37 (by decide) ?_
        exact rt_i hx hb hr hlk hS ⟨hT, by omega, by omega, by omega, by omega⟩ dX3_faultAt_41
      · refine lv_lload_n hx hb dX3_faultAt_26 rfl (lv_at hl 2 rfl) ?_
        refine lv_aload_n hx hb dX3_faultAt_27 rfl (lv_at hl 0 rfl) ?_
        refine gt_Sheet_length hx hb hts ic_Sheet hown hK hT g0 (hts _ mw_1_238) dX3_faultAt_28 (fun x28 i28 e28 g28 => ?_)
        refine r_i2l hx hb dX3_faultAt_31 (fun x31 e31 => ?_)
        refine r_lcmp hx hb dX3_faultAt_32 (fun x32 e32 g32 k32 => ?_)
        have v32 : -1 ≤ x32.toInt ∧ x32.toInt ≤ 1 := by omega
        refine r_if_lt (tgt := 40) hx hb dX3_faultAt_33 (by decide) (fun c33 => ?_) (fun c33 => ?_)
        · refine r_iconst hx hb dX3_faultAt_40 (by decide) (by decide) (fun x40 e40 => ?_)
          exact rt_i hx hb hr hlk hS ⟨hT, by omega, by omega, by omega, by omega⟩ dX3_faultAt_41
        · refine r_iconst hx hb dX3_faultAt_36 (by decide) (by decide) (fun x36 e36 => ?_)
          refine lv_goto (tgt := 41) hx hb dX3_faultAt_37 (by decide) ?_
          exact rt_i hx hb hr hlk hS ⟨hT, by omega, by omega, by omega, by omega⟩ dX3_faultAt_41
    · refine r_iconst hx hb dX3_faultAt_18 (by decide) (by decide) (fun x18 e18 => ?_)
      exact rt_i hx hb hr hlk hS ⟨hT, by omega, by omega, by omega, by omega⟩ dX3_faultAt_19
  · refine r_iconst hx hb dX3_faultAt_8 (by decide) (by decide) (fun x8 e8 => ?_)
    exact rt_i hx hb hr hlk hS ⟨hT, by omega, by omega, by omega, by omega⟩ dX3_faultAt_9
theorem k_X3_put : cBV yX3_put cX3_put 3 none 2 := ⟨mw_4_41, mw_4_42, mw_1_7, mw_4_43, ⟨by decide, by decide, by decide⟩⟩
set_option maxHeartbeats 4000000 in
set_option maxRecDepth 100000 in
theorem c_X3_put (l : Launch) (z : Zt) (gh : Gh) (h0 o0 : Nat) (g0 : zG z h0 = (13, o0)) (p1 : Int32) (p2 : Int32) (bp1 : 0 ≤ p1.toInt ∧ p1.toInt ≤ 39) : Met l yX3_put (uw yX3_put cX3_put 3 none) (rmF 1 64) (PcW z [.ref h0, .int p1, .int p2] (fun H => TY z (zA z) gh H)) (QcV z (fun H => TY z (zA z) gh H)) 0 0 (zA z) := by
  refine Met.ofW (cc := cX3_put) (maxL := 3) (ret := none) (by decide) rfl ?_
  intro p e s m args below meth c s₁ B hml hv
  obtain ⟨rfl, hW, hK, hSK⟩ := hv
  have hx := B.exec
  have hb := B.bytes
  have hr := B.returns
  have hts : ∀ w ∈ lw_ok, w.before ([.ref h0, .int p1, .int p2] : List Value).toArray s = true := fun w hw => atoms_spec (ws := uw yX3_put cX3_put 3 none) B.pre w (List.mem_cons_of_mem _ hw)
  have hown : s.vm.findClass RX3 = some m.cls := findClass_of_methodNamed B.named
  have hlk := B.notSynchronized
  have hC : CallFix p m c cX3_put 3 s ([.ref h0, .int p1, .int p2] : List Value).toArray lw_ok RX3 := ⟨hx, hb, hml, hown, hts⟩
  have hS : va_S (zA z) s.heap s.heap [] := va_S.rf
  have hl := lv_entry ([.ref h0, .int p1, .int p2]) (n := 3) (Nat.le_of_ble_eq_true rfl)
  rw [lg_entry_eq]
  generalize (lg_sl ([.ref h0, .int p1, .int p2]) ++ List.replicate (3 - (lg_sl ([.ref h0, .int p1, .int p2])).length) Slot.unset).toArray = ls at hl ⊢
  have hl : lv_has ls 3 [(0, .ref h0), (1, .int p1), (2, .int p2)] := hl
  show W p l e (rmF 1 64) s m ([.ref h0, .int p1, .int p2] : List Value).toArray below meth c s.heap [] 0 0 (MQ below (QcV z (fun H => TY z (zA z) gh H)) ([.ref h0, .int p1, .int p2] : List Value).toArray s 0 0 (zA z)) (F0 m 0 ls [])
  have hT : TY z (zA z) gh s.heap := hW
  have mx_p2 := i_mx p2
  refine lv_aload_n hx hb dX3_put_0 rfl (lv_at hl 0 rfl) ?_
  refine gt_Sheet_lane hx hb hts ic_Sheet hown hK hT g0 (hts _ mw_1_236) dX3_put_1 (fun x1 i1 e1 g1 => ?_)
  refine r_if_ne (tgt := 18) hx hb dX3_put_4 (by decide) (fun c4 => ?_) (fun c4 => ?_)
  · refine lv_aload_n hx hb dX3_put_18 rfl (lv_at hl 0 rfl) ?_
    refine gt_Sheet_lane hx hb hts ic_Sheet hown hK hT g0 (hts _ mw_1_236) dX3_put_19 (fun x19 i19 e19 g19 => ?_)
    refine r_iconst hx hb dX3_put_22 (by decide) (by decide) (fun x22 e22 => ?_)
    refine r_icmp_ne (tgt := 37) hx hb dX3_put_23 (by decide) (fun c23 => ?_) (fun c23 => ?_)
    · refine lv_aload_n hx hb dX3_put_37 rfl (lv_at hl 0 rfl) ?_
      refine gt_Sheet_cells hx hb hts ic_Sheet hown hK hT g0 (hts _ mw_1_234) dX3_put_38 (fun q38 hq38 => ?_)
      refine lv_iload_n hx hb dX3_put_41 rfl (lv_at hl 1 rfl) ?_
      refine lv_iload_n hx hb dX3_put_42 rfl (lv_at hl 2 rfl) ?_
      refine as_23 hx hb hK hT hS hq38 (by omega) (by omega) dX3_put_43 (fun H locs hT hS => ?_)
      exact rt_v hx hb hr hlk hS hT dX3_put_44
    · refine lv_aload_n hx hb dX3_put_26 rfl (lv_at hl 0 rfl) ?_
      refine gt_Sheet_cells hx hb hts ic_Sheet hown hK hT g0 (hts _ mw_1_234) dX3_put_27 (fun q27 hq27 => ?_)
      refine lv_iload_n hx hb dX3_put_30 rfl (lv_at hl 1 rfl) ?_
      refine lv_iload_n hx hb dX3_put_31 rfl (lv_at hl 2 rfl) ?_
      refine w_i2s hx hb dX3_put_32 (fun x32 => ?_)
      refine as_23 hx hb hK hT hS hq27 (by omega) (by omega) dX3_put_33 (fun H locs hT hS => ?_)
      refine lv_goto (tgt := 44) hx hb dX3_put_34 (by decide) ?_
      exact rt_v hx hb hr hlk hS hT dX3_put_44
  · refine lv_aload_n hx hb dX3_put_7 rfl (lv_at hl 0 rfl) ?_
    refine gt_Sheet_cells hx hb hts ic_Sheet hown hK hT g0 (hts _ mw_1_234) dX3_put_8 (fun q8 hq8 => ?_)
    refine lv_iload_n hx hb dX3_put_11 rfl (lv_at hl 1 rfl) ?_
    refine lv_iload_n hx hb dX3_put_12 rfl (lv_at hl 2 rfl) ?_
    refine w_i2b hx hb dX3_put_13 (fun x13 => ?_)
    refine as_23 hx hb hK hT hS hq8 (by omega) (by omega) dX3_put_14 (fun H locs hT hS => ?_)
    refine lv_goto (tgt := 44) hx hb dX3_put_15 (by decide) ?_
    exact rt_v hx hb hr hlk hS hT dX3_put_44
theorem k_X6_isNobody : cBV yX6_isNobody cX6_isNobody 2 (some .boolean) 1 := ⟨mw_2_227, ms_0_12, mw_1_1, mw_2_228, ⟨by decide, by decide, by decide⟩⟩
set_option maxHeartbeats 4000000 in
set_option maxRecDepth 100000 in
theorem c_X6_isNobody (l : Launch) (z : Zt) (gh : Gh) (h0 o0 : Nat) (g0 : zG z h0 = (16, o0)) (p1 : Int32) : Met l yX6_isNobody (uw yX6_isNobody cX6_isNobody 2 (some .boolean)) (rmF 1 64) (PcW z [.ref h0, .int p1] (fun H => TY z (zA z) gh H)) (QcI z (fun r H => TY z (zA z) gh H ∧ (r.toInt = 0 → 0 ≤ p1.toInt ∧ p1.toInt ≤ 4) ∧ (0 ≤ r.toInt ∧ r.toInt ≤ 1))) 0 0 (zA z) := by
  refine Met.ofW (cc := cX6_isNobody) (maxL := 2) (ret := (some .boolean)) (by decide) rfl ?_
  intro p e s m args below meth c s₁ B hml hv
  obtain ⟨rfl, hW, hK, hSK⟩ := hv
  have hx := B.exec
  have hb := B.bytes
  have hr := B.returns
  have hts : ∀ w ∈ lw_ok, w.before ([.ref h0, .int p1] : List Value).toArray s = true := fun w hw => atoms_spec (ws := uw yX6_isNobody cX6_isNobody 2 (some .boolean)) B.pre w (List.mem_cons_of_mem _ hw)
  have hown : s.vm.findClass RX6 = some m.cls := findClass_of_methodNamed B.named
  have hlk := B.notSynchronized
  have hC : CallFix p m c cX6_isNobody 2 s ([.ref h0, .int p1] : List Value).toArray lw_ok RX6 := ⟨hx, hb, hml, hown, hts⟩
  have hS : va_S (zA z) s.heap s.heap [] := va_S.rf
  have hl := lv_entry ([.ref h0, .int p1]) (n := 2) (Nat.le_of_ble_eq_true rfl)
  rw [lg_entry_eq]
  generalize (lg_sl ([.ref h0, .int p1]) ++ List.replicate (2 - (lg_sl ([.ref h0, .int p1])).length) Slot.unset).toArray = ls at hl ⊢
  have hl : lv_has ls 2 [(0, .ref h0), (1, .int p1)] := hl
  show W p l e (rmF 1 64) s m ([.ref h0, .int p1] : List Value).toArray below meth c s.heap [] 0 0 (MQ below (QcI z (fun r H => TY z (zA z) gh H ∧ (r.toInt = 0 → 0 ≤ p1.toInt ∧ p1.toInt ≤ 4) ∧ (0 ≤ r.toInt ∧ r.toInt ≤ 1))) ([.ref h0, .int p1] : List Value).toArray s 0 0 (zA z)) (F0 m 0 ls [])
  have hT : TY z (zA z) gh s.heap := hW
  have mx_p1 := i_mx p1
  refine lv_iload_n hx hb dX6_isNobody_0 rfl (lv_at hl 1 rfl) ?_
  have J18 : ∀ (ls : Array Slot) (H : Heap) (locs : List Loc), TY z (zA z) gh H → va_S (zA z) s.heap H locs → lv_has ls 2 [(0, .ref h0), (1, .int p1)] → W p l e (rmF 1 64) s m ([.ref h0, .int p1] : List Value).toArray below meth c H locs 0 0 (MQ below (QcI z (fun r H => TY z (zA z) gh H ∧ (r.toInt = 0 → 0 ≤ p1.toInt ∧ p1.toInt ≤ 4) ∧ (0 ≤ r.toInt ∧ r.toInt ≤ 1))) ([.ref h0, .int p1] : List Value).toArray s 0 0 (zA z)) (F0 m 18 ls []) := by
    intro ls H locs hT hS hl
    refine r_iconst hx hb dX6_isNobody_18 (by decide) (by decide) (fun x18 e18 => ?_)
    refine lv_goto (tgt := 23) hx hb dX6_isNobody_19 (by decide) ?_
    exact rt_z hx hb hr hlk hS (by omega) (by omega) ⟨hT, by omega, by omega⟩ dX6_isNobody_23
  refine r_if_lt (tgt := 18) hx hb dX6_isNobody_1 (by decide) (fun c1 => ?_) (fun c1 => ?_)
  · exact J18 ls _ _ hT hS (lv_sub hl [0, 1] rfl)
  · refine lv_iload_n hx hb dX6_isNobody_4 rfl (lv_at hl 1 rfl) ?_
    refine lv_aload_n hx hb dX6_isNobody_5 rfl (lv_at hl 0 rfl) ?_
    refine gt_HeelDance_now hx hb hts ic_HeelDance hown hK hT g0 (hts _ mw_2_8) dX6_isNobody_6 (fun q6 hq6 => ?_)
    refine gt_Evening_floor hx hb hts ic_Evening hown hK hT hq6 (hts _ mw_1_91) dX6_isNobody_9 (fun q9 hq9 => ?_)
    refine gt_Floor_men hx hb hts ic_Floor hown hK hT hq9 (hts _ mw_1_62) dX6_isNobody_12 (fun x12 i12 e12 g12 => ?_)
    refine r_icmp_lt (tgt := 22) hx hb dX6_isNobody_15 (by decide) (fun c15 => ?_) (fun c15 => ?_)
    · refine r_iconst hx hb dX6_isNobody_22 (by decide) (by decide) (fun x22 e22 => ?_)
      exact rt_z hx hb hr hlk hS (by omega) (by omega) ⟨hT, by omega, by omega⟩ dX6_isNobody_23
    · exact J18 ls _ _ hT hS (lv_sub hl [0, 1] rfl)
set_option maxHeartbeats 4000000 in
set_option maxRecDepth 100000 in
theorem c_isNobody2 (l : Launch) (z : Zt) (gh : Gh) (h0 o0 : Nat) (g0 : zG z h0 = (16, o0)) (p1 : Int32) (pr0 : zu z) : Met l yX6_isNobody (uw yX6_isNobody cX6_isNobody 2 (some .boolean)) (rmF 1 64) (PcW z [.ref h0, .int p1] (fun H => TY z (zA z) gh H)) (QcI z (fun r H => TY z (zA z) gh H ∧ (r.toInt = 0 → 0 ≤ p1.toInt ∧ p1.toInt ≤ 4) ∧ (∀ f, zG z f = (11, 1) → r.toInt = 0 → p1.toInt < gh.1 f 0) ∧ (0 ≤ r.toInt ∧ r.toInt ≤ 1))) 0 0 (zA z) := by
  refine Met.ofW (cc := cX6_isNobody) (maxL := 2) (ret := (some .boolean)) (by decide) rfl ?_
  intro p e s m args below meth c s₁ B hml hv
  obtain ⟨rfl, hW, hK, hSK⟩ := hv
  have hx := B.exec
  have hb := B.bytes
  have hr := B.returns
  have hts : ∀ w ∈ lw_ok, w.before ([.ref h0, .int p1] : List Value).toArray s = true := fun w hw => atoms_spec (ws := uw yX6_isNobody cX6_isNobody 2 (some .boolean)) B.pre w (List.mem_cons_of_mem _ hw)
  have hown : s.vm.findClass RX6 = some m.cls := findClass_of_methodNamed B.named
  have hlk := B.notSynchronized
  have hC : CallFix p m c cX6_isNobody 2 s ([.ref h0, .int p1] : List Value).toArray lw_ok RX6 := ⟨hx, hb, hml, hown, hts⟩
  have hS : va_S (zA z) s.heap s.heap [] := va_S.rf
  have hl := lv_entry ([.ref h0, .int p1]) (n := 2) (Nat.le_of_ble_eq_true rfl)
  rw [lg_entry_eq]
  generalize (lg_sl ([.ref h0, .int p1]) ++ List.replicate (2 - (lg_sl ([.ref h0, .int p1])).length) Slot.unset).toArray = ls at hl ⊢
  have hl : lv_has ls 2 [(0, .ref h0), (1, .int p1)] := hl
  show W p l e (rmF 1 64) s m ([.ref h0, .int p1] : List Value).toArray below meth c s.heap [] 0 0 (MQ below (QcI z (fun r H => TY z (zA z) gh H ∧ (r.toInt = 0 → 0 ≤ p1.toInt ∧ p1.toInt ≤ 4) ∧ (∀ f, zG z f = (11, 1) → r.toInt = 0 → p1.toInt < gh.1 f 0) ∧ (0 ≤ r.toInt ∧ r.toInt ≤ 1))) ([.ref h0, .int p1] : List Value).toArray s 0 0 (zA z)) (F0 m 0 ls [])
  have hT : TY z (zA z) gh s.heap := hW
  have mx_p1 := i_mx p1
  refine lv_iload_n hx hb dX6_isNobody_0 rfl (lv_at hl 1 rfl) ?_
  have J18 : ∀ (ls : Array Slot) (H : Heap) (locs : List Loc), TY z (zA z) gh H → va_S (zA z) s.heap H locs → lv_has ls 2 [(0, .ref h0), (1, .int p1)] → W p l e (rmF 1 64) s m ([.ref h0, .int p1] : List Value).toArray below meth c H locs 0 0 (MQ below (QcI z (fun r H => TY z (zA z) gh H ∧ (r.toInt = 0 → 0 ≤ p1.toInt ∧ p1.toInt ≤ 4) ∧ (∀ f, zG z f = (11, 1) → r.toInt = 0 → p1.toInt < gh.1 f 0) ∧ (0 ≤ r.toInt ∧ r.toInt ≤ 1))) ([.ref h0, .int p1] : List Value).toArray s 0 0 (zA z)) (F0 m 18 ls []) := by
    intro ls H locs hT hS hl
    refine r_iconst hx hb dX6_isNobody_18 (by decide) (by decide) (fun x18 e18 => ?_)
    refine lv_goto (tgt := 23) hx hb dX6_isNobody_19 (by decide) ?_
    exact rt_z hx hb hr hlk hS (by omega) (by omega) ⟨hT, by omega, by
      intro f hf h0r
      first
        | (exfalso; omega)
        | (have e9 := zu_at pr0 rfl hf hq9; rw [e9]; omega), by omega⟩ dX6_isNobody_23
  refine r_if_lt (tgt := 18) hx hb dX6_isNobody_1 (by decide) (fun c1 => ?_) (fun c1 => ?_)
  · exact J18 ls _ _ hT hS (lv_sub hl [0, 1] rfl)
  · refine lv_iload_n hx hb dX6_isNobody_4 rfl (lv_at hl 1 rfl) ?_
    refine lv_aload_n hx hb dX6_isNobody_5 rfl (lv_at hl 0 rfl) ?_
    refine gt_HeelDance_now hx hb hts ic_HeelDance hown hK hT g0 (hts _ mw_2_8) dX6_isNobody_6 (fun q6 hq6 => ?_)
    refine gt_Evening_floor hx hb hts ic_Evening hown hK hT hq6 (hts _ mw_1_91) dX6_isNobody_9 (fun q9 hq9 => ?_)
    refine gt_Floor_men hx hb hts ic_Floor hown hK hT hq9 (hts _ mw_1_62) dX6_isNobody_12 (fun x12 i12 e12 g12 => ?_)
    refine r_icmp_lt (tgt := 22) hx hb dX6_isNobody_15 (by decide) (fun c15 => ?_) (fun c15 => ?_)
    · refine r_iconst hx hb dX6_isNobody_22 (by decide) (by decide) (fun x22 e22 => ?_)
      exact rt_z hx hb hr hlk hS (by omega) (by omega) ⟨hT, by omega, by
      intro f hf h0r
      first
        | (exfalso; omega)
        | (have e9 := zu_at pr0 rfl hf hq9; rw [e9]; omega), by omega⟩ dX6_isNobody_23
    · exact J18 ls _ _ hT hS (lv_sub hl [0, 1] rfl)
theorem k_X6_isFigure : cBS yX6_isFigure cX6_isFigure 1 (some .boolean) 1 := ⟨mw_3_44, mw_1_1, mw_3_45, ⟨by decide, by decide, by decide⟩⟩
set_option maxHeartbeats 4000000 in
set_option maxRecDepth 100000 in
theorem c_X6_isFigure (l : Launch) (z : Zt) (gh : Gh) (p1 : Int32) : Met l yX6_isFigure (uw yX6_isFigure cX6_isFigure 1 (some .boolean)) (rmF 1 64) (PcW z [.int p1] (fun H => TY z (zA z) gh H)) (QcI z (fun r H => TY z (zA z) gh H ∧ (0 ≤ r.toInt ∧ r.toInt ≤ 1))) 0 0 (zA z) := by
  refine Met.ofW (cc := cX6_isFigure) (maxL := 1) (ret := (some .boolean)) (by decide) rfl ?_
  intro p e s m args below meth c s₁ B hml hv
  obtain ⟨rfl, hW, hK, hSK⟩ := hv
  have hx := B.exec
  have hb := B.bytes
  have hr := B.returns
  have hts : ∀ w ∈ lw_ok, w.before ([.int p1] : List Value).toArray s = true := fun w hw => atoms_spec (ws := uw yX6_isFigure cX6_isFigure 1 (some .boolean)) B.pre w (List.mem_cons_of_mem _ hw)
  have hown : s.vm.findClass RX6 = some m.cls := findClass_of_methodNamed B.named
  have hlk := B.notSynchronized
  have hC : CallFix p m c cX6_isFigure 1 s ([.int p1] : List Value).toArray lw_ok RX6 := ⟨hx, hb, hml, hown, hts⟩
  have hS : va_S (zA z) s.heap s.heap [] := va_S.rf
  have hl := lv_entry ([.int p1]) (n := 1) (Nat.le_of_ble_eq_true rfl)
  rw [lg_entry_eq]
  generalize (lg_sl ([.int p1]) ++ List.replicate (1 - (lg_sl ([.int p1])).length) Slot.unset).toArray = ls at hl ⊢
  have hl : lv_has ls 1 [(0, .int p1)] := hl
  show W p l e (rmF 1 64) s m ([.int p1] : List Value).toArray below meth c s.heap [] 0 0 (MQ below (QcI z (fun r H => TY z (zA z) gh H ∧ (0 ≤ r.toInt ∧ r.toInt ≤ 1))) ([.int p1] : List Value).toArray s 0 0 (zA z)) (F0 m 0 ls [])
  have hT : TY z (zA z) gh s.heap := hW
  have mx_p1 := i_mx p1
  refine lv_iload_n hx hb dX6_isFigure_0 rfl (lv_at hl 0 rfl) ?_
  have J13 : ∀ (ls : Array Slot) (H : Heap) (locs : List Loc), TY z (zA z) gh H → va_S (zA z) s.heap H locs → lv_has ls 1 [(0, .int p1)] → W p l e (rmF 1 64) s m ([.int p1] : List Value).toArray below meth c H locs 0 0 (MQ below (QcI z (fun r H => TY z (zA z) gh H ∧ (0 ≤ r.toInt ∧ r.toInt ≤ 1))) ([.int p1] : List Value).toArray s 0 0 (zA z)) (F0 m 13 ls []) := by
    intro ls H locs hT hS hl
    refine r_iconst hx hb dX6_isFigure_13 (by decide) (by decide) (fun x13 e13 => ?_)
    exact rt_z hx hb hr hlk hS (by omega) (by omega) ⟨hT, by omega⟩ dX6_isFigure_14
  refine r_if_lt (tgt := 13) hx hb dX6_isFigure_1 (by decide) (fun c1 => ?_) (fun c1 => ?_)
  · exact J13 ls _ _ hT hS (lv_sub hl [0] rfl)
  · refine lv_iload_n hx hb dX6_isFigure_4 rfl (lv_at hl 0 rfl) ?_
    refine r_iconst hx hb dX6_isFigure_5 (by decide) (by decide) (fun x5 e5 => ?_)
    refine r_icmp_ge (tgt := 13) hx hb dX6_isFigure_6 (by decide) (fun c6 => ?_) (fun c6 => ?_)
    · exact J13 ls _ _ hT hS (lv_sub hl [0] rfl)
    · refine r_iconst hx hb dX6_isFigure_9 (by decide) (by decide) (fun x9 e9 => ?_)
      refine lv_goto (tgt := 14) hx hb dX6_isFigure_10 (by decide) ?_
      exact rt_z hx hb hr hlk hS (by omega) (by omega) ⟨hT, by omega⟩ dX6_isFigure_14
theorem k_X6_isNoSheet : cBS yX6_isNoSheet cX6_isNoSheet 1 (some .boolean) 1 := ⟨mw_4_18, mw_1_1, mw_4_19, ⟨by decide, by decide, by decide⟩⟩
set_option maxHeartbeats 4000000 in
set_option maxRecDepth 100000 in
theorem c_X6_isNoSheet (l : Launch) (z : Zt) (gh : Gh) (p1 : Int32) : Met l yX6_isNoSheet (uw yX6_isNoSheet cX6_isNoSheet 1 (some .boolean)) (rmF 1 64) (PcW z [.int p1] (fun H => TY z (zA z) gh H)) (QcI z (fun r H => TY z (zA z) gh H ∧ (r.toInt = 0 → 0 ≤ p1.toInt ∧ p1.toInt ≤ 3) ∧ (r.toInt ≠ 0 → p1.toInt < 0 ∨ 3 < p1.toInt) ∧ (0 ≤ r.toInt ∧ r.toInt ≤ 1))) 0 0 (zA z) := by
  refine Met.ofW (cc := cX6_isNoSheet) (maxL := 1) (ret := (some .boolean)) (by decide) rfl ?_
  intro p e s m args below meth c s₁ B hml hv
  obtain ⟨rfl, hW, hK, hSK⟩ := hv
  have hx := B.exec
  have hb := B.bytes
  have hr := B.returns
  have hts : ∀ w ∈ lw_ok, w.before ([.int p1] : List Value).toArray s = true := fun w hw => atoms_spec (ws := uw yX6_isNoSheet cX6_isNoSheet 1 (some .boolean)) B.pre w (List.mem_cons_of_mem _ hw)
  have hown : s.vm.findClass RX6 = some m.cls := findClass_of_methodNamed B.named
  have hlk := B.notSynchronized
  have hC : CallFix p m c cX6_isNoSheet 1 s ([.int p1] : List Value).toArray lw_ok RX6 := ⟨hx, hb, hml, hown, hts⟩
  have hS : va_S (zA z) s.heap s.heap [] := va_S.rf
  have hl := lv_entry ([.int p1]) (n := 1) (Nat.le_of_ble_eq_true rfl)
  rw [lg_entry_eq]
  generalize (lg_sl ([.int p1]) ++ List.replicate (1 - (lg_sl ([.int p1])).length) Slot.unset).toArray = ls at hl ⊢
  have hl : lv_has ls 1 [(0, .int p1)] := hl
  show W p l e (rmF 1 64) s m ([.int p1] : List Value).toArray below meth c s.heap [] 0 0 (MQ below (QcI z (fun r H => TY z (zA z) gh H ∧ (r.toInt = 0 → 0 ≤ p1.toInt ∧ p1.toInt ≤ 3) ∧ (r.toInt ≠ 0 → p1.toInt < 0 ∨ 3 < p1.toInt) ∧ (0 ≤ r.toInt ∧ r.toInt ≤ 1))) ([.int p1] : List Value).toArray s 0 0 (zA z)) (F0 m 0 ls [])
  have hT : TY z (zA z) gh s.heap := hW
  have mx_p1 := i_mx p1
  refine lv_iload_n hx hb dX6_isNoSheet_0 rfl (lv_at hl 0 rfl) ?_
  refine r_if_lt (tgt := 9) hx hb dX6_isNoSheet_1 (by decide) (fun c1 => ?_) (fun c1 => ?_)
  · refine r_iconst hx hb dX6_isNoSheet_9 (by decide) (by decide) (fun x9 e9 => ?_)
    refine lv_goto (tgt := 14) hx hb dX6_isNoSheet_10 (by decide) ?_
    exact rt_z hx hb hr hlk hS (by omega) (by omega) ⟨hT, by omega, by omega, by omega⟩ dX6_isNoSheet_14
  · refine lv_iload_n hx hb dX6_isNoSheet_4 rfl (lv_at hl 0 rfl) ?_
    refine r_iconst hx hb dX6_isNoSheet_5 (by decide) (by decide) (fun x5 e5 => ?_)
    refine r_icmp_lt (tgt := 13) hx hb dX6_isNoSheet_6 (by decide) (fun c6 => ?_) (fun c6 => ?_)
    · refine r_iconst hx hb dX6_isNoSheet_13 (by decide) (by decide) (fun x13 e13 => ?_)
      exact rt_z hx hb hr hlk hS (by omega) (by omega) ⟨hT, by omega, by omega, by omega⟩ dX6_isNoSheet_14
    · refine r_iconst hx hb dX6_isNoSheet_9 (by decide) (by decide) (fun x9 e9 => ?_)
      refine lv_goto (tgt := 14) hx hb dX6_isNoSheet_10 (by decide) ?_
      exact rt_z hx hb hr hlk hS (by omega) (by omega) ⟨hT, by omega, by omega, by omega⟩ dX6_isNoSheet_14
theorem k_X6_isNoLane : cBS yX6_isNoLane cX6_isNoLane 1 (some .boolean) 1 := ⟨mw_4_21, mw_1_1, mw_4_22, ⟨by decide, by decide, by decide⟩⟩
set_option maxHeartbeats 4000000 in
set_option maxRecDepth 100000 in
theorem c_X6_isNoLane (l : Launch) (z : Zt) (gh : Gh) (p1 : Int32) : Met l yX6_isNoLane (uw yX6_isNoLane cX6_isNoLane 1 (some .boolean)) (rmF 1 64) (PcW z [.int p1] (fun H => TY z (zA z) gh H)) (QcI z (fun r H => TY z (zA z) gh H ∧ (r.toInt = 0 → 0 ≤ p1.toInt ∧ p1.toInt ≤ 2) ∧ (r.toInt ≠ 0 → p1.toInt < 0 ∨ 2 < p1.toInt) ∧ (0 ≤ r.toInt ∧ r.toInt ≤ 1))) 0 0 (zA z) := by
  refine Met.ofW (cc := cX6_isNoLane) (maxL := 1) (ret := (some .boolean)) (by decide) rfl ?_
  intro p e s m args below meth c s₁ B hml hv
  obtain ⟨rfl, hW, hK, hSK⟩ := hv
  have hx := B.exec
  have hb := B.bytes
  have hr := B.returns
  have hts : ∀ w ∈ lw_ok, w.before ([.int p1] : List Value).toArray s = true := fun w hw => atoms_spec (ws := uw yX6_isNoLane cX6_isNoLane 1 (some .boolean)) B.pre w (List.mem_cons_of_mem _ hw)
  have hown : s.vm.findClass RX6 = some m.cls := findClass_of_methodNamed B.named
  have hlk := B.notSynchronized
  have hC : CallFix p m c cX6_isNoLane 1 s ([.int p1] : List Value).toArray lw_ok RX6 := ⟨hx, hb, hml, hown, hts⟩
  have hS : va_S (zA z) s.heap s.heap [] := va_S.rf
  have hl := lv_entry ([.int p1]) (n := 1) (Nat.le_of_ble_eq_true rfl)
  rw [lg_entry_eq]
  generalize (lg_sl ([.int p1]) ++ List.replicate (1 - (lg_sl ([.int p1])).length) Slot.unset).toArray = ls at hl ⊢
  have hl : lv_has ls 1 [(0, .int p1)] := hl
  show W p l e (rmF 1 64) s m ([.int p1] : List Value).toArray below meth c s.heap [] 0 0 (MQ below (QcI z (fun r H => TY z (zA z) gh H ∧ (r.toInt = 0 → 0 ≤ p1.toInt ∧ p1.toInt ≤ 2) ∧ (r.toInt ≠ 0 → p1.toInt < 0 ∨ 2 < p1.toInt) ∧ (0 ≤ r.toInt ∧ r.toInt ≤ 1))) ([.int p1] : List Value).toArray s 0 0 (zA z)) (F0 m 0 ls [])
  have hT : TY z (zA z) gh s.heap := hW
  have mx_p1 := i_mx p1
  refine lv_iload_n hx hb dX6_isNoLane_0 rfl (lv_at hl 0 rfl) ?_
  refine r_if_lt (tgt := 9) hx hb dX6_isNoLane_1 (by decide) (fun c1 => ?_) (fun c1 => ?_)
  · refine r_iconst hx hb dX6_isNoLane_9 (by decide) (by decide) (fun x9 e9 => ?_)
    refine lv_goto (tgt := 14) hx hb dX6_isNoLane_10 (by decide) ?_
    exact rt_z hx hb hr hlk hS (by omega) (by omega) ⟨hT, by omega, by omega, by omega⟩ dX6_isNoLane_14
  · refine lv_iload_n hx hb dX6_isNoLane_4 rfl (lv_at hl 0 rfl) ?_
    refine r_iconst hx hb dX6_isNoLane_5 (by decide) (by decide) (fun x5 e5 => ?_)
    refine r_icmp_lt (tgt := 13) hx hb dX6_isNoLane_6 (by decide) (fun c6 => ?_) (fun c6 => ?_)
    · refine r_iconst hx hb dX6_isNoLane_13 (by decide) (by decide) (fun x13 e13 => ?_)
      exact rt_z hx hb hr hlk hS (by omega) (by omega) ⟨hT, by omega, by omega, by omega⟩ dX6_isNoLane_14
    · refine r_iconst hx hb dX6_isNoLane_9 (by decide) (by decide) (fun x9 e9 => ?_)
      refine lv_goto (tgt := 14) hx hb dX6_isNoLane_10 (by decide) ?_
      exact rt_z hx hb hr hlk hS (by omega) (by omega) ⟨hT, by omega, by omega, by omega⟩ dX6_isNoLane_14
theorem k_X6_fault : cBV yX6_fault cX6_fault 1 (some .int) 0 := ⟨mw_2_209, mw_2_210, mw_1_1, mw_2_211, ⟨by decide, by decide, by decide⟩⟩
set_option maxHeartbeats 4000000 in
set_option maxRecDepth 100000 in
theorem c_X6_fault (l : Launch) (z : Zt) (gh : Gh) (h0 o0 : Nat) (g0 : zG z h0 = (16, o0)) : Met l yX6_fault (uw yX6_fault cX6_fault 1 (some .int)) (rmF 1 64) (PcW z [.ref h0] (fun H => TY z (zA z) gh H)) (QcI z (fun r H => TY z (zA z) gh H)) 0 0 (zA z) := by
  refine Met.ofW (cc := cX6_fault) (maxL := 1) (ret := (some .int)) (by decide) rfl ?_
  intro p e s m args below meth c s₁ B hml hv
  obtain ⟨rfl, hW, hK, hSK⟩ := hv
  have hx := B.exec
  have hb := B.bytes
  have hr := B.returns
  have hts : ∀ w ∈ lw_ok, w.before ([.ref h0] : List Value).toArray s = true := fun w hw => atoms_spec (ws := uw yX6_fault cX6_fault 1 (some .int)) B.pre w (List.mem_cons_of_mem _ hw)
  have hown : s.vm.findClass RX6 = some m.cls := findClass_of_methodNamed B.named
  have hlk := B.notSynchronized
  have hC : CallFix p m c cX6_fault 1 s ([.ref h0] : List Value).toArray lw_ok RX6 := ⟨hx, hb, hml, hown, hts⟩
  have hS : va_S (zA z) s.heap s.heap [] := va_S.rf
  have hl := lv_entry ([.ref h0]) (n := 1) (Nat.le_of_ble_eq_true rfl)
  rw [lg_entry_eq]
  generalize (lg_sl ([.ref h0]) ++ List.replicate (1 - (lg_sl ([.ref h0])).length) Slot.unset).toArray = ls at hl ⊢
  have hl : lv_has ls 1 [(0, .ref h0)] := hl
  show W p l e (rmF 1 64) s m ([.ref h0] : List Value).toArray below meth c s.heap [] 0 0 (MQ below (QcI z (fun r H => TY z (zA z) gh H)) ([.ref h0] : List Value).toArray s 0 0 (zA z)) (F0 m 0 ls [])
  have hT : TY z (zA z) gh s.heap := hW
  refine lv_aload_n hx hb dX6_fault_0 rfl (lv_at hl 0 rfl) ?_
  refine gt_HeelDance_latestFault hx hb hts ic_HeelDance hown hK hT g0 (hts _ mw_2_14) dX6_fault_1 (fun x1 => ?_)
  exact rt_i hx hb hr hlk hS hT dX6_fault_4
theorem k_X6_torn : cBV yX6_torn cX6_torn 1 (some .int) 0 := ⟨mw_4_49, mw_4_50, mw_1_1, mw_4_51, ⟨by decide, by decide, by decide⟩⟩
set_option maxHeartbeats 4000000 in
set_option maxRecDepth 100000 in
theorem c_X6_torn (l : Launch) (z : Zt) (gh : Gh) (h0 o0 : Nat) (g0 : zG z h0 = (16, o0)) : Met l yX6_torn (uw yX6_torn cX6_torn 1 (some .int)) (rmF 1 64) (PcW z [.ref h0] (fun H => TY z (zA z) gh H)) (QcI z (fun r H => TY z (zA z) gh H)) 0 0 (zA z) := by
  refine Met.ofW (cc := cX6_torn) (maxL := 1) (ret := (some .int)) (by decide) rfl ?_
  intro p e s m args below meth c s₁ B hml hv
  obtain ⟨rfl, hW, hK, hSK⟩ := hv
  have hx := B.exec
  have hb := B.bytes
  have hr := B.returns
  have hts : ∀ w ∈ lw_ok, w.before ([.ref h0] : List Value).toArray s = true := fun w hw => atoms_spec (ws := uw yX6_torn cX6_torn 1 (some .int)) B.pre w (List.mem_cons_of_mem _ hw)
  have hown : s.vm.findClass RX6 = some m.cls := findClass_of_methodNamed B.named
  have hlk := B.notSynchronized
  have hC : CallFix p m c cX6_torn 1 s ([.ref h0] : List Value).toArray lw_ok RX6 := ⟨hx, hb, hml, hown, hts⟩
  have hS : va_S (zA z) s.heap s.heap [] := va_S.rf
  have hl := lv_entry ([.ref h0]) (n := 1) (Nat.le_of_ble_eq_true rfl)
  rw [lg_entry_eq]
  generalize (lg_sl ([.ref h0]) ++ List.replicate (1 - (lg_sl ([.ref h0])).length) Slot.unset).toArray = ls at hl ⊢
  have hl : lv_has ls 1 [(0, .ref h0)] := hl
  show W p l e (rmF 1 64) s m ([.ref h0] : List Value).toArray below meth c s.heap [] 0 0 (MQ below (QcI z (fun r H => TY z (zA z) gh H)) ([.ref h0] : List Value).toArray s 0 0 (zA z)) (F0 m 0 ls [])
  have hT : TY z (zA z) gh s.heap := hW
  refine lv_aload_n hx hb dX6_torn_0 rfl (lv_at hl 0 rfl) ?_
  refine gt_HeelDance_latestTear hx hb hts ic_HeelDance hown hK hT g0 (hts _ mw_2_15) dX6_torn_1 (fun x1 => ?_)
  exact rt_i hx hb hr hlk hS hT dX6_torn_4
theorem k_X6_woman : cBV yX6_woman cX6_woman 2 (some .int) 1 := ⟨mw_3_7, mw_3_8, mw_1_1, mw_3_9, ⟨by decide, by decide, by decide⟩⟩
set_option maxHeartbeats 4000000 in
set_option maxRecDepth 100000 in
theorem c_X6_woman (l : Launch) (z : Zt) (gh : Gh) (h0 o0 : Nat) (g0 : zG z h0 = (16, o0)) (p1 : Int32) : Met l yX6_woman (uw yX6_woman cX6_woman 2 (some .int)) (rmF 2 85) (PcW z [.ref h0, .int p1] (fun H => TY z (zA z) gh H)) (QcI z (fun r H => TY z (zA z) gh H)) 0 0 (zA z) := by
  refine Met.ofW (cc := cX6_woman) (maxL := 2) (ret := (some .int)) (by decide) rfl ?_
  intro p e s m args below meth c s₁ B hml hv
  obtain ⟨rfl, hW, hK, hSK⟩ := hv
  have hx := B.exec
  have hb := B.bytes
  have hr := B.returns
  have hts : ∀ w ∈ lw_ok, w.before ([.ref h0, .int p1] : List Value).toArray s = true := fun w hw => atoms_spec (ws := uw yX6_woman cX6_woman 2 (some .int)) B.pre w (List.mem_cons_of_mem _ hw)
  have hown : s.vm.findClass RX6 = some m.cls := findClass_of_methodNamed B.named
  have hlk := B.notSynchronized
  have hC : CallFix p m c cX6_woman 2 s ([.ref h0, .int p1] : List Value).toArray lw_ok RX6 := ⟨hx, hb, hml, hown, hts⟩
  have hS : va_S (zA z) s.heap s.heap [] := va_S.rf
  have hl := lv_entry ([.ref h0, .int p1]) (n := 2) (Nat.le_of_ble_eq_true rfl)
  rw [lg_entry_eq]
  generalize (lg_sl ([.ref h0, .int p1]) ++ List.replicate (2 - (lg_sl ([.ref h0, .int p1])).length) Slot.unset).toArray = ls at hl ⊢
  have hl : lv_has ls 2 [(0, .ref h0), (1, .int p1)] := hl
  show W p l e (rmF 2 85) s m ([.ref h0, .int p1] : List Value).toArray below meth c s.heap [] 0 0 (MQ below (QcI z (fun r H => TY z (zA z) gh H)) ([.ref h0, .int p1] : List Value).toArray s 0 0 (zA z)) (F0 m 0 ls [])
  have hT : TY z (zA z) gh s.heap := hW
  have mx_p1 := i_mx p1
  refine lv_aload_n hx hb dX6_woman_0 rfl (lv_at hl 0 rfl) ?_
  refine lv_iload_n hx hb dX6_woman_1 rfl (lv_at hl 1 rfl) ?_
  refine cl_Vi (rest := []) hC hK hSK (c_X6_isNobody l z gh h0 (o0) g0 p1) k_X6_isNobody mw_2_225 ⟨rfl, rfl, Nat.le_of_ble_eq_true rfl, Nat.le_of_ble_eq_true rfl⟩ (rv_HeelDance hK hT g0) hT rfl hl.1 rfl (Nat.le_of_ble_eq_true rfl) dX6_woman_2 ⟨Nat.zero_le _, Nat.zero_le _⟩ hS (fun _ h => h) (fun _ _ h => h) (fun r2 H locs hpo hS => ?_)
  obtain ⟨hT, u2_0, u2_1⟩ := hpo
  refine r_if_eq (tgt := 12) hx hb dX6_woman_5 (by decide) (fun c5 => ?_) (fun c5 => ?_)
  · refine lv_aload_n hx hb dX6_woman_12 rfl (lv_at hl 0 rfl) ?_
    refine gt_HeelDance_now hx hb hts ic_HeelDance hown hK hT g0 (hts _ mw_2_8) dX6_woman_13 (fun q13 hq13 => ?_)
    refine gt_Evening_floor hx hb hts ic_Evening hown hK hT hq13 (hts _ mw_1_91) dX6_woman_16 (fun q16 hq16 => ?_)
    refine gt_Floor_partner hx hb hts ic_Floor hown hK hT hq16 (hts _ mw_1_54) dX6_woman_19 (fun q19 hq19 => ?_)
    refine lv_iload_n hx hb dX6_woman_22 rfl (lv_at hl 1 rfl) ?_
    refine al_27 hx hb hK hT hq19 (by omega) (by omega) dX6_woman_23 (fun x23 e23 => ?_)
    have n23 := ix_nat (i := p1) (by omega)
    unfold p27 at e23
    exact rt_i hx hb hr hlk hS hT dX6_woman_24
  · refine r_iconst hx hb dX6_woman_8 (by decide) (by decide) (fun x8 e8 => ?_)
    refine lv_goto (tgt := 24) hx hb dX6_woman_9 (by decide) ?_
    exact rt_i hx hb hr hlk hS hT dX6_woman_24
theorem k_X6_figure : cBV yX6_figure cX6_figure 2 (some .int) 1 := ⟨mw_3_15, mw_3_16, mw_1_1, mw_3_17, ⟨by decide, by decide, by decide⟩⟩
set_option maxHeartbeats 4000000 in
set_option maxRecDepth 100000 in
theorem c_X6_figure (l : Launch) (z : Zt) (gh : Gh) (h0 o0 : Nat) (g0 : zG z h0 = (16, o0)) (p1 : Int32) : Met l yX6_figure (uw yX6_figure cX6_figure 2 (some .int)) (rmF 1 64) (PcW z [.ref h0, .int p1] (fun H => TY z (zA z) gh H)) (QcI z (fun r H => TY z (zA z) gh H)) 0 0 (zA z) := by
  refine Met.ofW (cc := cX6_figure) (maxL := 2) (ret := (some .int)) (by decide) rfl ?_
  intro p e s m args below meth c s₁ B hml hv
  obtain ⟨rfl, hW, hK, hSK⟩ := hv
  have hx := B.exec
  have hb := B.bytes
  have hr := B.returns
  have hts : ∀ w ∈ lw_ok, w.before ([.ref h0, .int p1] : List Value).toArray s = true := fun w hw => atoms_spec (ws := uw yX6_figure cX6_figure 2 (some .int)) B.pre w (List.mem_cons_of_mem _ hw)
  have hown : s.vm.findClass RX6 = some m.cls := findClass_of_methodNamed B.named
  have hlk := B.notSynchronized
  have hC : CallFix p m c cX6_figure 2 s ([.ref h0, .int p1] : List Value).toArray lw_ok RX6 := ⟨hx, hb, hml, hown, hts⟩
  have hS : va_S (zA z) s.heap s.heap [] := va_S.rf
  have hl := lv_entry ([.ref h0, .int p1]) (n := 2) (Nat.le_of_ble_eq_true rfl)
  rw [lg_entry_eq]
  generalize (lg_sl ([.ref h0, .int p1]) ++ List.replicate (2 - (lg_sl ([.ref h0, .int p1])).length) Slot.unset).toArray = ls at hl ⊢
  have hl : lv_has ls 2 [(0, .ref h0), (1, .int p1)] := hl
  show W p l e (rmF 1 64) s m ([.ref h0, .int p1] : List Value).toArray below meth c s.heap [] 0 0 (MQ below (QcI z (fun r H => TY z (zA z) gh H)) ([.ref h0, .int p1] : List Value).toArray s 0 0 (zA z)) (F0 m 0 ls [])
  have hT : TY z (zA z) gh s.heap := hW
  have mx_p1 := i_mx p1
  refine lv_iload_n hx hb dX6_figure_0 rfl (lv_at hl 1 rfl) ?_
  have J15 : ∀ (ls : Array Slot) (H : Heap) (locs : List Loc), TY z (zA z) gh H → va_S (zA z) s.heap H locs → lv_has ls 2 [(0, .ref h0), (1, .int p1)] → W p l e (rmF 1 64) s m ([.ref h0, .int p1] : List Value).toArray below meth c H locs 0 0 (MQ below (QcI z (fun r H => TY z (zA z) gh H)) ([.ref h0, .int p1] : List Value).toArray s 0 0 (zA z)) (F0 m 15 ls []) := by
    intro ls H locs hT hS hl
    refine r_iconst hx hb dX6_figure_15 (by decide) (by decide) (fun x15 e15 => ?_)
    refine lv_goto (tgt := 28) hx hb dX6_figure_16 (by decide) ?_
    exact rt_i hx hb hr hlk hS hT dX6_figure_28
  refine r_if_lt (tgt := 15) hx hb dX6_figure_1 (by decide) (fun c1 => ?_) (fun c1 => ?_)
  · exact J15 ls _ _ hT hS (lv_sub hl [0, 1] rfl)
  · refine lv_iload_n hx hb dX6_figure_4 rfl (lv_at hl 1 rfl) ?_
    refine lv_aload_n hx hb dX6_figure_5 rfl (lv_at hl 0 rfl) ?_
    refine gt_HeelDance_now hx hb hts ic_HeelDance hown hK hT g0 (hts _ mw_2_8) dX6_figure_6 (fun q6 hq6 => ?_)
    refine gt_Evening_figures hx hb hts ic_Evening hown hK hT hq6 (hts _ mw_1_108) dX6_figure_9 (fun x9 i9 e9 g9 => ?_)
    refine r_icmp_lt (tgt := 19) hx hb dX6_figure_12 (by decide) (fun c12 => ?_) (fun c12 => ?_)
    · refine lv_aload_n hx hb dX6_figure_19 rfl (lv_at hl 0 rfl) ?_
      refine gt_HeelDance_now hx hb hts ic_HeelDance hown hK hT g0 (hts _ mw_2_8) dX6_figure_20 (fun q20 hq20 => ?_)
      refine gt_Evening_program hx hb hts ic_Evening hown hK hT hq20 (hts _ mw_1_99) dX6_figure_23 (fun q23 hq23 => ?_)
      refine lv_iload_n hx hb dX6_figure_26 rfl (lv_at hl 1 rfl) ?_
      refine al_21 hx hb hK hT hq23 (by omega) (by omega) dX6_figure_27 (fun x27 => ?_)
      exact rt_i hx hb hr hlk hS hT dX6_figure_28
    · exact J15 ls _ _ hT hS (lv_sub hl [0, 1] rfl)
theorem k_X6_cousins : cBV yX6_cousins cX6_cousins 2 (some .int) 1 := ⟨mw_3_19, mw_3_20, mw_1_1, mw_3_21, ⟨by decide, by decide, by decide⟩⟩
set_option maxHeartbeats 4000000 in
set_option maxRecDepth 100000 in
theorem c_X6_cousins (l : Launch) (z : Zt) (gh : Gh) (h0 o0 : Nat) (g0 : zG z h0 = (16, o0)) (p1 : Int32) : Met l yX6_cousins (uw yX6_cousins cX6_cousins 2 (some .int)) (rmF 2 85) (PcW z [.ref h0, .int p1] (fun H => TY z (zA z) gh H)) (QcI z (fun r H => TY z (zA z) gh H)) 0 0 (zA z) := by
  refine Met.ofW (cc := cX6_cousins) (maxL := 2) (ret := (some .int)) (by decide) rfl ?_
  intro p e s m args below meth c s₁ B hml hv
  obtain ⟨rfl, hW, hK, hSK⟩ := hv
  have hx := B.exec
  have hb := B.bytes
  have hr := B.returns
  have hts : ∀ w ∈ lw_ok, w.before ([.ref h0, .int p1] : List Value).toArray s = true := fun w hw => atoms_spec (ws := uw yX6_cousins cX6_cousins 2 (some .int)) B.pre w (List.mem_cons_of_mem _ hw)
  have hown : s.vm.findClass RX6 = some m.cls := findClass_of_methodNamed B.named
  have hlk := B.notSynchronized
  have hC : CallFix p m c cX6_cousins 2 s ([.ref h0, .int p1] : List Value).toArray lw_ok RX6 := ⟨hx, hb, hml, hown, hts⟩
  have hS : va_S (zA z) s.heap s.heap [] := va_S.rf
  have hl := lv_entry ([.ref h0, .int p1]) (n := 2) (Nat.le_of_ble_eq_true rfl)
  rw [lg_entry_eq]
  generalize (lg_sl ([.ref h0, .int p1]) ++ List.replicate (2 - (lg_sl ([.ref h0, .int p1])).length) Slot.unset).toArray = ls at hl ⊢
  have hl : lv_has ls 2 [(0, .ref h0), (1, .int p1)] := hl
  show W p l e (rmF 2 85) s m ([.ref h0, .int p1] : List Value).toArray below meth c s.heap [] 0 0 (MQ below (QcI z (fun r H => TY z (zA z) gh H)) ([.ref h0, .int p1] : List Value).toArray s 0 0 (zA z)) (F0 m 0 ls [])
  have hT : TY z (zA z) gh s.heap := hW
  have mx_p1 := i_mx p1
  refine lv_aload_n hx hb dX6_cousins_0 rfl (lv_at hl 0 rfl) ?_
  refine lv_iload_n hx hb dX6_cousins_1 rfl (lv_at hl 1 rfl) ?_
  refine cl_Vi (rest := []) hC hK hSK (c_X6_isNobody l z gh h0 (o0) g0 p1) k_X6_isNobody mw_2_225 ⟨rfl, rfl, Nat.le_of_ble_eq_true rfl, Nat.le_of_ble_eq_true rfl⟩ (rv_HeelDance hK hT g0) hT rfl hl.1 rfl (Nat.le_of_ble_eq_true rfl) dX6_cousins_2 ⟨Nat.zero_le _, Nat.zero_le _⟩ hS (fun _ h => h) (fun _ _ h => h) (fun r2 H locs hpo hS => ?_)
  obtain ⟨hT, u2_0, u2_1⟩ := hpo
  refine r_if_eq (tgt := 12) hx hb dX6_cousins_5 (by decide) (fun c5 => ?_) (fun c5 => ?_)
  · refine lv_aload_n hx hb dX6_cousins_12 rfl (lv_at hl 0 rfl) ?_
    refine gt_HeelDance_now hx hb hts ic_HeelDance hown hK hT g0 (hts _ mw_2_8) dX6_cousins_13 (fun q13 hq13 => ?_)
    refine gt_Evening_kin hx hb hts ic_Evening hown hK hT hq13 (hts _ mw_1_95) dX6_cousins_16 (fun q16 hq16 => ?_)
    refine lv_iload_n hx hb dX6_cousins_19 rfl (lv_at hl 1 rfl) ?_
    refine al_20 hx hb hK hT hq16 (by omega) (by omega) dX6_cousins_20 (fun x20 => ?_)
    exact rt_i hx hb hr hlk hS hT dX6_cousins_21
  · refine r_iconst hx hb dX6_cousins_8 (by decide) (by decide) (fun x8 e8 => ?_)
    refine lv_goto (tgt := 21) hx hb dX6_cousins_9 (by decide) ?_
    exact rt_i hx hb hr hlk hS hT dX6_cousins_21
theorem k_X6_rule : cBV yX6_rule cX6_rule 2 (some .int) 1 := ⟨mw_2_213, mw_2_214, mw_1_1, mw_2_215, ⟨by decide, by decide, by decide⟩⟩
set_option maxHeartbeats 4000000 in
set_option maxRecDepth 100000 in
theorem c_X6_rule (l : Launch) (z : Zt) (gh : Gh) (h0 o0 : Nat) (g0 : zG z h0 = (16, o0)) (p1 : Int32) : Met l yX6_rule (uw yX6_rule cX6_rule 2 (some .int)) (rmF 3 106) (PcW z [.ref h0, .int p1] (fun H => TY z (zA z) gh H)) (QcI z (fun r H => TY z (zA z) gh H)) 0 0 (zA z) := by
  refine Met.ofW (cc := cX6_rule) (maxL := 2) (ret := (some .int)) (by decide) rfl ?_
  intro p e s m args below meth c s₁ B hml hv
  obtain ⟨rfl, hW, hK, hSK⟩ := hv
  have hx := B.exec
  have hb := B.bytes
  have hr := B.returns
  have hts : ∀ w ∈ lw_ok, w.before ([.ref h0, .int p1] : List Value).toArray s = true := fun w hw => atoms_spec (ws := uw yX6_rule cX6_rule 2 (some .int)) B.pre w (List.mem_cons_of_mem _ hw)
  have hown : s.vm.findClass RX6 = some m.cls := findClass_of_methodNamed B.named
  have hlk := B.notSynchronized
  have hC : CallFix p m c cX6_rule 2 s ([.ref h0, .int p1] : List Value).toArray lw_ok RX6 := ⟨hx, hb, hml, hown, hts⟩
  have hS : va_S (zA z) s.heap s.heap [] := va_S.rf
  have hl := lv_entry ([.ref h0, .int p1]) (n := 2) (Nat.le_of_ble_eq_true rfl)
  rw [lg_entry_eq]
  generalize (lg_sl ([.ref h0, .int p1]) ++ List.replicate (2 - (lg_sl ([.ref h0, .int p1])).length) Slot.unset).toArray = ls at hl ⊢
  have hl : lv_has ls 2 [(0, .ref h0), (1, .int p1)] := hl
  show W p l e (rmF 3 106) s m ([.ref h0, .int p1] : List Value).toArray below meth c s.heap [] 0 0 (MQ below (QcI z (fun r H => TY z (zA z) gh H)) ([.ref h0, .int p1] : List Value).toArray s 0 0 (zA z)) (F0 m 0 ls [])
  have hT : TY z (zA z) gh s.heap := hW
  have mx_p1 := i_mx p1
  refine lv_iload_n hx hb dX6_rule_0 rfl (lv_at hl 1 rfl) ?_
  rcases (show p1.toInt = 0 ∨ p1.toInt = 1 ∨ p1.toInt = 2 ∨ p1.toInt = 3 ∨ p1.toInt = 4 ∨ (p1.toInt < 0 ∨ 4 < p1.toInt) by omega) with c1 | c1 | c1 | c1 | c1 | c1
  · refine lv_tableIn (off := 35) (tgt := 36) hx hb dX6_rule_1 (by omega) (by omega) (by rw [c1]; rfl) (by decide) ?_
    refine lv_aload_n hx hb dX6_rule_36 rfl (lv_at hl 0 rfl) ?_
    refine gt_HeelDance_now hx hb hts ic_HeelDance hown hK hT g0 (hts _ mw_2_8) dX6_rule_37 (fun q37 hq37 => ?_)
    refine gt_Evening_floor hx hb hts ic_Evening hown hK hT hq37 (hts _ mw_1_91) dX6_rule_40 (fun q40 hq40 => ?_)
    refine gt_Floor_men hx hb hts ic_Floor hown hK hT hq40 (hts _ mw_1_62) dX6_rule_43 (fun x43 i43 e43 g43 => ?_)
    exact rt_i hx hb hr hlk hS hT dX6_rule_46
  · refine lv_tableIn (off := 46) (tgt := 47) hx hb dX6_rule_1 (by omega) (by omega) (by rw [c1]; rfl) (by decide) ?_
    refine lv_aload_n hx hb dX6_rule_47 rfl (lv_at hl 0 rfl) ?_
    refine gt_HeelDance_now hx hb hts ic_HeelDance hown hK hT g0 (hts _ mw_2_8) dX6_rule_48 (fun q48 hq48 => ?_)
    refine cl_Vi (rest := []) hC hK hSK (c_X0_allKin l z gh q48 (1) hq48) k_X0_allKin mw_2_216 ⟨rfl, rfl, Nat.le_of_ble_eq_true rfl, Nat.le_of_ble_eq_true rfl⟩ (rv_Evening hK hT hq48) hT rfl hl.1 rfl (Nat.le_of_ble_eq_true rfl) dX6_rule_51 ⟨Nat.zero_le _, Nat.zero_le _⟩ hS (fun _ h => h) (fun _ _ h => h) (fun r51 H locs hpo hS => ?_)
    have hT := hpo
    exact rt_i hx hb hr hlk hS hT dX6_rule_54
  · refine lv_tableIn (off := 54) (tgt := 55) hx hb dX6_rule_1 (by omega) (by omega) (by rw [c1]; rfl) (by decide) ?_
    refine lv_aload_n hx hb dX6_rule_55 rfl (lv_at hl 0 rfl) ?_
    refine gt_HeelDance_now hx hb hts ic_HeelDance hown hK hT g0 (hts _ mw_2_8) dX6_rule_56 (fun q56 hq56 => ?_)
    refine gt_Evening_figures hx hb hts ic_Evening hown hK hT hq56 (hts _ mw_1_108) dX6_rule_59 (fun x59 i59 e59 g59 => ?_)
    exact rt_i hx hb hr hlk hS hT dX6_rule_62
  · refine lv_tableIn (off := 62) (tgt := 63) hx hb dX6_rule_1 (by omega) (by omega) (by rw [c1]; rfl) (by decide) ?_
    refine lv_aload_n hx hb dX6_rule_63 rfl (lv_at hl 0 rfl) ?_
    refine gt_HeelDance_now hx hb hts ic_HeelDance hown hK hT g0 (hts _ mw_2_8) dX6_rule_64 (fun q64 hq64 => ?_)
    refine gt_Evening_floor hx hb hts ic_Evening hown hK hT hq64 (hts _ mw_1_91) dX6_rule_67 (fun q67 hq67 => ?_)
    refine gt_Floor_danced hx hb hts ic_Floor hown hK hT hq67 (hts _ mw_1_66) dX6_rule_70 (fun x70 => ?_)
    exact rt_i hx hb hr hlk hS hT dX6_rule_73
  · refine lv_tableIn (off := 73) (tgt := 74) hx hb dX6_rule_1 (by omega) (by omega) (by rw [c1]; rfl) (by decide) ?_
    refine lv_aload_n hx hb dX6_rule_74 rfl (lv_at hl 0 rfl) ?_
    refine gt_HeelDance_now hx hb hts ic_HeelDance hown hK hT g0 (hts _ mw_2_8) dX6_rule_75 (fun q75 hq75 => ?_)
    refine gt_Evening_floor hx hb hts ic_Evening hown hK hT hq75 (hts _ mw_1_91) dX6_rule_78 (fun q78 hq78 => ?_)
    refine cl_Vi (rest := []) hC hK hSK (c_X1_roundBits l z gh q78 (1) hq78) k_X1_roundBits mw_2_217 ⟨rfl, rfl, Nat.le_of_ble_eq_true rfl, Nat.le_of_ble_eq_true rfl⟩ (rv_Floor hK hT hq78) hT rfl hl.1 rfl (Nat.le_of_ble_eq_true rfl) dX6_rule_81 ⟨Nat.zero_le _, Nat.zero_le _⟩ hS (fun _ h => h) (fun _ _ h => h) (fun r81 H locs hpo hS => ?_)
    have hT := hpo
    exact rt_i hx hb hr hlk hS hT dX6_rule_84
  · refine lv_tableOut (tgt := 85) hx hb dX6_rule_1 c1 (by decide) ?_
    refine r_iconst hx hb dX6_rule_85 (by decide) (by decide) (fun x85 e85 => ?_)
    exact rt_i hx hb hr hlk hS hT dX6_rule_86
theorem k_X6_alter : cBV yX6_alter cX6_alter 7 (some .int) 3 := ⟨mw_3_23, mw_3_24, mw_1_1, mw_3_25, ⟨by decide, by decide, by decide⟩⟩
set_option maxHeartbeats 4000000 in
set_option maxRecDepth 100000 in
theorem c_X6_alter (l : Launch) (z : Zt) (gh : Gh) (h0 o0 : Nat) (g0 : zG z h0 = (16, o0)) (p1 : Int32) (p2 : Int32) (p3 : Int32) : Met l yX6_alter (uw yX6_alter cX6_alter 7 (some .int)) (rmF 2 85) (PcW z [.ref h0, .int p1, .int p2, .int p3] (fun H => TY z (zA z) gh H)) (QcI z (fun r H => TY z (zA z) gh H)) 0 0 (zA z) := by
  refine Met.ofW (cc := cX6_alter) (maxL := 7) (ret := (some .int)) (by decide) rfl ?_
  intro p e s m args below meth c s₁ B hml hv
  obtain ⟨rfl, hW, hK, hSK⟩ := hv
  have hx := B.exec
  have hb := B.bytes
  have hr := B.returns
  have hts : ∀ w ∈ lw_ok, w.before ([.ref h0, .int p1, .int p2, .int p3] : List Value).toArray s = true := fun w hw => atoms_spec (ws := uw yX6_alter cX6_alter 7 (some .int)) B.pre w (List.mem_cons_of_mem _ hw)
  have hown : s.vm.findClass RX6 = some m.cls := findClass_of_methodNamed B.named
  have hlk := B.notSynchronized
  have hC : CallFix p m c cX6_alter 7 s ([.ref h0, .int p1, .int p2, .int p3] : List Value).toArray lw_ok RX6 := ⟨hx, hb, hml, hown, hts⟩
  have hS : va_S (zA z) s.heap s.heap [] := va_S.rf
  have hl := lv_entry ([.ref h0, .int p1, .int p2, .int p3]) (n := 7) (Nat.le_of_ble_eq_true rfl)
  rw [lg_entry_eq]
  generalize (lg_sl ([.ref h0, .int p1, .int p2, .int p3]) ++ List.replicate (7 - (lg_sl ([.ref h0, .int p1, .int p2, .int p3])).length) Slot.unset).toArray = ls at hl ⊢
  have hl : lv_has ls 7 [(0, .ref h0), (1, .int p1), (2, .int p2), (3, .int p3)] := hl
  show W p l e (rmF 2 85) s m ([.ref h0, .int p1, .int p2, .int p3] : List Value).toArray below meth c s.heap [] 0 0 (MQ below (QcI z (fun r H => TY z (zA z) gh H)) ([.ref h0, .int p1, .int p2, .int p3] : List Value).toArray s 0 0 (zA z)) (F0 m 0 ls [])
  have hT : TY z (zA z) gh s.heap := hW
  have mx_p1 := i_mx p1
  have mx_p2 := i_mx p2
  have mx_p3 := i_mx p3
  refine lv_aload_n hx hb dX6_alter_0 rfl (lv_at hl 0 rfl) ?_
  refine lv_iload_n hx hb dX6_alter_1 rfl (lv_at hl 1 rfl) ?_
  refine cl_Vi (rest := []) hC hK hSK (c_X6_isNobody l z gh h0 (o0) g0 p1) k_X6_isNobody mw_2_225 ⟨rfl, rfl, Nat.le_of_ble_eq_true rfl, Nat.le_of_ble_eq_true rfl⟩ (rv_HeelDance hK hT g0) hT rfl hl.1 rfl (Nat.le_of_ble_eq_true rfl) dX6_alter_2 ⟨Nat.zero_le _, Nat.zero_le _⟩ hS (fun _ h => h) (fun _ _ h => h) (fun r2 H locs hpo hS => ?_)
  obtain ⟨hT, u2_0, u2_1⟩ := hpo
  refine r_if_ne (tgt := 17) hx hb dX6_alter_5 (by decide) (fun c5 => ?_) (fun c5 => ?_)
  · refine r_iconst hx hb dX6_alter_17 (by decide) (by decide) (fun x17 e17 => ?_)
    exact rt_i hx hb hr hlk hS hT dX6_alter_18
  · refine lv_iload_n hx hb dX6_alter_8 rfl (lv_at hl 2 rfl) ?_
    refine r_if_lt (tgt := 17) hx hb dX6_alter_9 (by decide) (fun c9 => ?_) (fun c9 => ?_)
    · refine r_iconst hx hb dX6_alter_17 (by decide) (by decide) (fun x17 e17 => ?_)
      exact rt_i hx hb hr hlk hS hT dX6_alter_18
    · refine lv_iload_n hx hb dX6_alter_12 rfl (lv_at hl 2 rfl) ?_
      refine r_iconst hx hb dX6_alter_13 (by decide) (by decide) (fun x13 e13 => ?_)
      refine r_icmp_le (tgt := 19) hx hb dX6_alter_14 (by decide) (fun c14 => ?_) (fun c14 => ?_)
      · refine lv_iload_n hx hb dX6_alter_19 rfl (lv_at hl 2 rfl) ?_
        have J29 : ∀ (ls : Array Slot) (H : Heap) (locs : List Loc) (t29_0 : Int32), (3 ≤ t29_0.toInt ∧ t29_0.toInt ≤ 9) → TY z (zA z) gh H → va_S (zA z) s.heap H locs → lv_has ls 7 [(0, .ref h0), (1, .int p1), (2, .int p2), (3, .int p3)] → W p l e (rmF 2 85) s m ([.ref h0, .int p1, .int p2, .int p3] : List Value).toArray below meth c H locs 0 0 (MQ below (QcI z (fun r H => TY z (zA z) gh H)) ([.ref h0, .int p1, .int p2, .int p3] : List Value).toArray s 0 0 (zA z)) (F0 m 29 ls [.int t29_0]) := by
          intro ls H locs t29_0 j29_t29_0 hT hS hl
          refine lv_istore (lv' := [(4, .int t29_0), (0, .ref h0), (1, .int p1), (2, .int p2), (3, .int p3)]) hx hb dX6_alter_29 hl (by decide) rfl (fun ls hl => ?_)
          refine lv_iload_n hx hb dX6_alter_31 rfl (lv_at hl 4 rfl) ?_
          refine r_if_lt (tgt := 41) hx hb dX6_alter_32 (by decide) (fun c32 => ?_) (fun c32 => ?_)
          · refine r_iconst hx hb dX6_alter_41 (by decide) (by decide) (fun x41 e41 => ?_)
            exact rt_i hx hb hr hlk hS hT dX6_alter_42
          · refine lv_iload_n hx hb dX6_alter_35 rfl (lv_at hl 4 rfl) ?_
            refine lv_iload hx hb dX6_alter_36 (lv_at hl 0 rfl) ?_
            refine r_icmp_le (tgt := 43) hx hb dX6_alter_38 (by decide) (fun c38 => ?_) (fun c38 => ?_)
            · refine lv_aload_n hx hb dX6_alter_43 rfl (lv_at hl 1 rfl) ?_
              refine gt_HeelDance_now hx hb hts ic_HeelDance hown hK hT g0 (hts _ mw_2_8) dX6_alter_44 (fun q44 hq44 => ?_)
              refine gt_Evening_floor hx hb hts ic_Evening hown hK hT hq44 (hts _ mw_1_91) dX6_alter_47 (fun q47 hq47 => ?_)
              refine lv_iload_n hx hb dX6_alter_50 rfl (lv_at hl 3 rfl) ?_
              refine cl_Vr (rest := []) hC hK hSK (c_X1_rowOf l z gh q47 (1) hq47 p2) k_X1_rowOf mw_3_26 ⟨rfl, rfl, Nat.le_of_ble_eq_true rfl, Nat.le_of_ble_eq_true rfl⟩ (rv_Floor hK hT hq47) hT rfl hl.1 rfl (Nat.le_of_ble_eq_true rfl) dX6_alter_51 ⟨Nat.zero_le _, Nat.zero_le _⟩ hS (fun _ h => h) (fun _ _ h => h) (fun r51 H locs hpo hS => ?_)
              obtain ⟨hT, hr51⟩ := hpo
              refine lv_astore (lv' := [(5, .ref r51), (4, .int t29_0), (0, .ref h0), (1, .int p1), (2, .int p2), (3, .int p3)]) hx hb dX6_alter_54 hl (by decide) rfl (fun ls hl => ?_)
              refine lv_aload hx hb dX6_alter_56 (lv_at hl 0 rfl) ?_
              refine lv_iload_n hx hb dX6_alter_58 rfl (lv_at hl 3 rfl) ?_
              refine al_20 hx hb hK hT hr51 (by omega) (by omega) dX6_alter_59 (fun x59 => ?_)
              refine lv_istore (lv' := [(6, .int x59), (5, .ref r51), (4, .int t29_0), (0, .ref h0), (1, .int p1), (2, .int p2), (3, .int p3)]) hx hb dX6_alter_60 hl (by decide) rfl (fun ls hl => ?_)
              refine lv_aload hx hb dX6_alter_62 (lv_at hl 1 rfl) ?_
              refine lv_iload_n hx hb dX6_alter_64 rfl (lv_at hl 4 rfl) ?_
              refine lv_iload_n hx hb dX6_alter_65 rfl (lv_at hl 6 rfl) ?_
              refine as_20 hx hb hK hT hS hr51 (by omega) (by omega) dX6_alter_66 (fun H locs hT hS => ?_)
              refine lv_iload hx hb dX6_alter_67 (lv_at hl 0 rfl) ?_
              exact rt_i hx hb hr hlk hS hT dX6_alter_69
            · refine r_iconst hx hb dX6_alter_41 (by decide) (by decide) (fun x41 e41 => ?_)
              exact rt_i hx hb hr hlk hS hT dX6_alter_42
        refine r_if_ne (tgt := 27) hx hb dX6_alter_20 (by decide) (fun c20 => ?_) (fun c20 => ?_)
        · refine r_bipush hx hb dX6_alter_27 rfl (fun x27 e27 => ?_)
          exact J29 ls _ _ x27 (by omega) hT hS (lv_sub hl [0, 1, 2, 3] rfl)
        · refine r_iconst hx hb dX6_alter_23 (by decide) (by decide) (fun x23 e23 => ?_)
          refine lv_goto (tgt := 29) hx hb dX6_alter_24 (by decide) ?_
          exact J29 ls _ _ x23 (by omega) hT hS (lv_sub hl [0, 1, 2, 3] rfl)
      · refine r_iconst hx hb dX6_alter_17 (by decide) (by decide) (fun x17 e17 => ?_)
        exact rt_i hx hb hr hlk hS hT dX6_alter_18
theorem k_X6_kin : cBV yX6_kin cX6_kin 5 (some .int) 3 := ⟨mw_3_35, mw_3_36, mw_1_1, mw_3_37, ⟨by decide, by decide, by decide⟩⟩
set_option maxHeartbeats 4000000 in
set_option maxRecDepth 100000 in
theorem c_X6_kin (l : Launch) (z : Zt) (gh : Gh) (h0 o0 : Nat) (g0 : zG z h0 = (16, o0)) (p1 : Int32) (p2 : Int32) (p3 : Int32) (bp3 : 0 ≤ p3.toInt ∧ p3.toInt ≤ 1) : Met l yX6_kin (uw yX6_kin cX6_kin 5 (some .int)) (rmF 3 106) (PcW z [.ref h0, .int p1, .int p2, .int p3] (fun H => TY z (zA z) gh H)) (QcI z (fun r H => TY z (zA z) gh H)) 0 0 (zA z) := by
  refine Met.ofW (cc := cX6_kin) (maxL := 5) (ret := (some .int)) (by decide) rfl ?_
  intro p e s m args below meth c s₁ B hml hv
  obtain ⟨rfl, hW, hK, hSK⟩ := hv
  have hx := B.exec
  have hb := B.bytes
  have hr := B.returns
  have hts : ∀ w ∈ lw_ok, w.before ([.ref h0, .int p1, .int p2, .int p3] : List Value).toArray s = true := fun w hw => atoms_spec (ws := uw yX6_kin cX6_kin 5 (some .int)) B.pre w (List.mem_cons_of_mem _ hw)
  have hown : s.vm.findClass RX6 = some m.cls := findClass_of_methodNamed B.named
  have hlk := B.notSynchronized
  have hC : CallFix p m c cX6_kin 5 s ([.ref h0, .int p1, .int p2, .int p3] : List Value).toArray lw_ok RX6 := ⟨hx, hb, hml, hown, hts⟩
  have hS : va_S (zA z) s.heap s.heap [] := va_S.rf
  have hl := lv_entry ([.ref h0, .int p1, .int p2, .int p3]) (n := 5) (Nat.le_of_ble_eq_true rfl)
  rw [lg_entry_eq]
  generalize (lg_sl ([.ref h0, .int p1, .int p2, .int p3]) ++ List.replicate (5 - (lg_sl ([.ref h0, .int p1, .int p2, .int p3])).length) Slot.unset).toArray = ls at hl ⊢
  have hl : lv_has ls 5 [(0, .ref h0), (1, .int p1), (2, .int p2), (3, .int p3)] := hl
  show W p l e (rmF 3 106) s m ([.ref h0, .int p1, .int p2, .int p3] : List Value).toArray below meth c s.heap [] 0 0 (MQ below (QcI z (fun r H => TY z (zA z) gh H)) ([.ref h0, .int p1, .int p2, .int p3] : List Value).toArray s 0 0 (zA z)) (F0 m 0 ls [])
  have hT : TY z (zA z) gh s.heap := hW
  have mx_p1 := i_mx p1
  have mx_p2 := i_mx p2
  refine lv_aload_n hx hb dX6_kin_0 rfl (lv_at hl 0 rfl) ?_
  refine lv_iload_n hx hb dX6_kin_1 rfl (lv_at hl 1 rfl) ?_
  refine cl_Vi (rest := []) hC hK hSK (c_X6_isNobody l z gh h0 (o0) g0 p1) k_X6_isNobody mw_2_225 ⟨rfl, rfl, Nat.le_of_ble_eq_true rfl, Nat.le_of_ble_eq_true rfl⟩ (rv_HeelDance hK hT g0) hT rfl hl.1 rfl (Nat.le_of_ble_eq_true rfl) dX6_kin_2 ⟨Nat.zero_le _, Nat.zero_le _⟩ hS (fun _ h => h) (fun _ _ h => h) (fun r2 H locs hpo hS => ?_)
  obtain ⟨hT, u2_0, u2_1⟩ := hpo
  refine r_if_ne (tgt := 16) hx hb dX6_kin_5 (by decide) (fun c5 => ?_) (fun c5 => ?_)
  · refine r_iconst hx hb dX6_kin_16 (by decide) (by decide) (fun x16 e16 => ?_)
    exact rt_i hx hb hr hlk hS hT dX6_kin_17
  · refine lv_aload_n hx hb dX6_kin_8 rfl (lv_at hl 0 rfl) ?_
    refine lv_iload_n hx hb dX6_kin_9 rfl (lv_at hl 2 rfl) ?_
    refine cl_Vi (rest := []) hC hK hSK (c_X6_isNobody l z gh h0 (o0) g0 p2) k_X6_isNobody mw_2_225 ⟨rfl, rfl, Nat.le_of_ble_eq_true rfl, Nat.le_of_ble_eq_true rfl⟩ (rv_HeelDance hK hT g0) hT rfl hl.1 rfl (Nat.le_of_ble_eq_true rfl) dX6_kin_10 ⟨Nat.zero_le _, Nat.zero_le _⟩ hS (fun _ h => h) (fun _ _ h => h) (fun r10 H locs hpo hS => ?_)
    obtain ⟨hT, u10_0, u10_1⟩ := hpo
    refine r_if_eq (tgt := 18) hx hb dX6_kin_13 (by decide) (fun c13 => ?_) (fun c13 => ?_)
    · refine lv_aload_n hx hb dX6_kin_18 rfl (lv_at hl 0 rfl) ?_
      refine gt_HeelDance_now hx hb hts ic_HeelDance hown hK hT g0 (hts _ mw_2_8) dX6_kin_19 (fun q19 hq19 => ?_)
      refine lv_iload_n hx hb dX6_kin_22 rfl (lv_at hl 1 rfl) ?_
      refine lv_iload_n hx hb dX6_kin_23 rfl (lv_at hl 2 rfl) ?_
      refine cl_Vi (rest := []) hC hK hSK (c_X0_areKin l z gh q19 (1) hq19 p1 p2 (by omega)) k_X0_areKin mw_3_38 ⟨rfl, rfl, Nat.le_of_ble_eq_true rfl, Nat.le_of_ble_eq_true rfl⟩ (rv_Evening hK hT hq19) hT rfl hl.1 rfl (Nat.le_of_ble_eq_true rfl) dX6_kin_24 ⟨Nat.zero_le _, Nat.zero_le _⟩ hS (fun _ h => h) (fun _ _ h => h) (fun r24 H locs hpo hS => ?_)
      obtain ⟨hT, u24_0⟩ := hpo
      refine lv_istore (lv' := [(4, .int r24), (0, .ref h0), (1, .int p1), (2, .int p2), (3, .int p3)]) hx hb dX6_kin_27 hl (by decide) rfl (fun ls hl => ?_)
      refine lv_iload_n hx hb dX6_kin_29 rfl (lv_at hl 4 rfl) ?_
      have J53 : ∀ (ls : Array Slot) (H : Heap) (locs : List Loc), TY z (zA z) gh H → va_S (zA z) s.heap H locs → lv_has ls 5 [(0, .ref h0), (1, .int p1), (2, .int p2), (3, .int p3), (4, .int r24)] → W p l e (rmF 3 106) s m ([.ref h0, .int p1, .int p2, .int p3] : List Value).toArray below meth c H locs 0 0 (MQ below (QcI z (fun r H => TY z (zA z) gh H)) ([.ref h0, .int p1, .int p2, .int p3] : List Value).toArray s 0 0 (zA z)) (F0 m 53 ls []) := by
        intro ls H locs hT hS hl
        refine lv_iload_n hx hb dX6_kin_53 rfl (lv_at hl 3 rfl) ?_
        refine lv_iload hx hb dX6_kin_54 (lv_at hl 4 rfl) ?_
        have J74 : ∀ (ls : Array Slot) (H : Heap) (locs : List Loc), TY z (zA z) gh H → va_S (zA z) s.heap H locs → lv_has ls 5 [(0, .ref h0), (1, .int p1), (2, .int p2), (3, .int p3), (4, .int r24)] → W p l e (rmF 3 106) s m ([.ref h0, .int p1, .int p2, .int p3] : List Value).toArray below meth c H locs 0 0 (MQ below (QcI z (fun r H => TY z (zA z) gh H)) ([.ref h0, .int p1, .int p2, .int p3] : List Value).toArray s 0 0 (zA z)) (F0 m 74 ls []) := by
          intro ls H locs hT hS hl
          refine lv_iload hx hb dX6_kin_74 (lv_at hl 4 rfl) ?_
          refine r_if_eq (tgt := 83) hx hb dX6_kin_76 (by decide) (fun c76 => ?_) (fun c76 => ?_)
          · refine r_iconst hx hb dX6_kin_83 (by decide) (by decide) (fun x83 e83 => ?_)
            exact rt_i hx hb hr hlk hS hT dX6_kin_84
          · refine r_iconst hx hb dX6_kin_79 (by decide) (by decide) (fun x79 e79 => ?_)
            refine lv_goto (tgt := 84) hx hb dX6_kin_80 (by decide) ?_
            exact rt_i hx hb hr hlk hS hT dX6_kin_84
        refine r_icmp_eq (tgt := 74) hx hb dX6_kin_56 (by decide) (fun c56 => ?_) (fun c56 => ?_)
        · exact J74 ls _ _ hT hS (lv_sub hl [0, 1, 2, 3, 4] rfl)
        · refine lv_aload_n hx hb dX6_kin_59 rfl (lv_at hl 0 rfl) ?_
          refine gt_HeelDance_now hx hb hts ic_HeelDance hown hK hT g0 (hts _ mw_2_8) dX6_kin_60 (fun q60 hq60 => ?_)
          refine gt_Evening_kin hx hb hts ic_Evening hown hK hT hq60 (hts _ mw_1_95) dX6_kin_63 (fun q63 hq63 => ?_)
          refine lv_iload_n hx hb dX6_kin_66 rfl (lv_at hl 1 rfl) ?_
          refine lv_dup2_11 hx hb dX6_kin_67 rfl rfl ?_
          refine al_20 hx hb hK hT hq63 (by omega) (by omega) dX6_kin_68 (fun x68 => ?_)
          refine r_iconst hx hb dX6_kin_69 (by decide) (by decide) (fun x69 e69 => ?_)
          refine lv_iload_n hx hb dX6_kin_70 rfl (lv_at hl 2 rfl) ?_
          refine r_shl1 hx hb dX6_kin_71 (by omega) (by omega) (by omega) (fun x71 e71 g71 k71 => ?_)
          refine w_ixor hx hb dX6_kin_72 (fun x72 => ?_)
          refine as_20 hx hb hK hT hS hq63 (by omega) (by omega) dX6_kin_73 (fun H locs hT hS => ?_)
          exact J74 ls _ _ hT hS (lv_sub hl [0, 1, 2, 3, 4] rfl)
      refine r_if_eq (tgt := 53) hx hb dX6_kin_30 (by decide) (fun c30 => ?_) (fun c30 => ?_)
      · exact J53 ls _ _ hT hS (lv_sub hl [1, 2, 3, 4, 0] rfl)
      · refine lv_iload hx hb dX6_kin_33 (lv_at hl 0 rfl) ?_
        refine r_if_ne (tgt := 53) hx hb dX6_kin_35 (by decide) (fun c35 => ?_) (fun c35 => ?_)
        · exact J53 ls _ _ hT hS (lv_sub hl [1, 2, 3, 4, 0] rfl)
        · refine lv_aload_n hx hb dX6_kin_38 rfl (lv_at hl 1 rfl) ?_
          refine gt_HeelDance_now hx hb hts ic_HeelDance hown hK hT g0 (hts _ mw_2_8) dX6_kin_39 (fun q39 hq39 => ?_)
          refine cl_Vi (rest := []) hC hK hSK (c_X0_allKin l z gh q39 (1) hq39) k_X0_allKin mw_2_216 ⟨rfl, rfl, Nat.le_of_ble_eq_true rfl, Nat.le_of_ble_eq_true rfl⟩ (rv_Evening hK hT hq39) hT rfl hl.1 rfl (Nat.le_of_ble_eq_true rfl) dX6_kin_42 ⟨Nat.zero_le _, Nat.zero_le _⟩ hS (fun _ h => h) (fun _ _ h => h) (fun r42 H locs hpo hS => ?_)
          have hT := hpo
          refine r_bipush hx hb dX6_kin_45 rfl (fun x45 e45 => ?_)
          refine r_icmp_lt (tgt := 53) hx hb dX6_kin_47 (by decide) (fun c47 => ?_) (fun c47 => ?_)
          · exact J53 ls _ _ hT hS (lv_sub hl [1, 2, 3, 4, 0] rfl)
          · refine r_bipush hx hb dX6_kin_50 rfl (fun x50 e50 => ?_)
            exact rt_i hx hb hr hlk hS hT dX6_kin_52
    · refine r_iconst hx hb dX6_kin_16 (by decide) (by decide) (fun x16 e16 => ?_)
      exact rt_i hx hb hr hlk hS hT dX6_kin_17
theorem k_X6_plan : cBV yX6_plan cX6_plan 2 (some .int) 1 := ⟨mw_3_40, mw_3_41, mw_1_1, mw_3_42, ⟨by decide, by decide, by decide⟩⟩
set_option maxHeartbeats 4000000 in
set_option maxRecDepth 100000 in
theorem c_X6_plan (l : Launch) (z : Zt) (gh : Gh) (h0 o0 : Nat) (g0 : zG z h0 = (16, o0)) (p1 : Int32) : Met l yX6_plan (uw yX6_plan cX6_plan 2 (some .int)) (rmF 2 85) (PcW z [.ref h0, .int p1] (fun H => TY z (zA z) gh H)) (QcI z (fun r H => ∃ gk : Gh, eqv gk gh ∧ TY z (zA z) gk H)) 0 0 (zA z) := by
  refine Met.ofW (cc := cX6_plan) (maxL := 2) (ret := (some .int)) (by decide) rfl ?_
  intro p e s m args below meth c s₁ B hml hv
  obtain ⟨rfl, hW, hK, hSK⟩ := hv
  have hx := B.exec
  have hb := B.bytes
  have hr := B.returns
  have hts : ∀ w ∈ lw_ok, w.before ([.ref h0, .int p1] : List Value).toArray s = true := fun w hw => atoms_spec (ws := uw yX6_plan cX6_plan 2 (some .int)) B.pre w (List.mem_cons_of_mem _ hw)
  have hown : s.vm.findClass RX6 = some m.cls := findClass_of_methodNamed B.named
  have hlk := B.notSynchronized
  have hC : CallFix p m c cX6_plan 2 s ([.ref h0, .int p1] : List Value).toArray lw_ok RX6 := ⟨hx, hb, hml, hown, hts⟩
  have hS : va_S (zA z) s.heap s.heap [] := va_S.rf
  have hl := lv_entry ([.ref h0, .int p1]) (n := 2) (Nat.le_of_ble_eq_true rfl)
  rw [lg_entry_eq]
  generalize (lg_sl ([.ref h0, .int p1]) ++ List.replicate (2 - (lg_sl ([.ref h0, .int p1])).length) Slot.unset).toArray = ls at hl ⊢
  have hl : lv_has ls 2 [(0, .ref h0), (1, .int p1)] := hl
  show W p l e (rmF 2 85) s m ([.ref h0, .int p1] : List Value).toArray below meth c s.heap [] 0 0 (MQ below (QcI z (fun r H => ∃ gk : Gh, eqv gk gh ∧ TY z (zA z) gk H)) ([.ref h0, .int p1] : List Value).toArray s 0 0 (zA z)) (F0 m 0 ls [])
  have hT : TY z (zA z) gh s.heap := hW
  have hg1 : eqv gh gh := eqv_rf gh
  have mx_p1 := i_mx p1
  refine lv_iload_n hx hb dX6_plan_0 rfl (lv_at hl 1 rfl) ?_
  refine cl_Si (rest := []) hC hK hSK (c_X6_isFigure l z gh p1) k_X6_isFigure mw_3_43 ⟨rfl, rfl, Nat.le_of_ble_eq_true rfl, Nat.le_of_ble_eq_true rfl⟩ hT rfl hl.1 rfl (Nat.le_of_ble_eq_true rfl) dX6_plan_1 ⟨Nat.zero_le _, Nat.zero_le _⟩ hS (fun _ h => h) (fun _ _ h => h) (fun r1 H locs hpo hS => ?_)
  obtain ⟨hT, u1_0⟩ := hpo
  refine r_if_ne (tgt := 9) hx hb dX6_plan_4 (by decide) (fun c4 => ?_) (fun c4 => ?_)
  · refine lv_aload_n hx hb dX6_plan_9 rfl (lv_at hl 0 rfl) ?_
    refine gt_HeelDance_now hx hb hts ic_HeelDance hown hK hT g0 (hts _ mw_2_8) dX6_plan_10 (fun q10 hq10 => ?_)
    refine gt_Evening_figures hx hb hts ic_Evening hown hK hT hq10 (hts _ mw_1_108) dX6_plan_13 (fun x13 i13 e13 g13 => ?_)
    refine r_bipush hx hb dX6_plan_16 rfl (fun x16 e16 => ?_)
    refine r_icmp_lt (tgt := 24) hx hb dX6_plan_18 (by decide) (fun c18 => ?_) (fun c18 => ?_)
    · refine lv_aload_n hx hb dX6_plan_24 rfl (lv_at hl 0 rfl) ?_
      refine gt_HeelDance_now hx hb hts ic_HeelDance hown hK hT g0 (hts _ mw_2_8) dX6_plan_25 (fun q25 hq25 => ?_)
      refine lv_iload_n hx hb dX6_plan_28 rfl (lv_at hl 1 rfl) ?_
      refine cl_Vv (rest := []) hC hK hSK (c_X0_addFigure l z gh q25 (1) hq25 p1) k_X0_addFigure mw_3_46 ⟨rfl, rfl, Nat.le_of_ble_eq_true rfl, Nat.le_of_ble_eq_true rfl⟩ (rv_Evening hK hT hq25) hT rfl hl.1 rfl (Nat.le_of_ble_eq_true rfl) dX6_plan_29 ⟨Nat.zero_le _, Nat.zero_le _⟩ hS (fun _ h => h) (fun _ _ h => h) (fun H locs hpo hS => ?_)
      obtain ⟨gk29, hz29, hT⟩ := hpo
      have hg1 := eqv_tr hz29 hg1
      refine lv_aload_n hx hb dX6_plan_32 rfl (lv_at hl 0 rfl) ?_
      refine gt_HeelDance_now hx hb hts ic_HeelDance hown hK hT g0 (hts _ mw_2_8) dX6_plan_33 (fun q33 hq33 => ?_)
      refine gt_Evening_figures hx hb hts ic_Evening hown hK hT hq33 (hts _ mw_1_108) dX6_plan_36 (fun x36 i36 e36 g36 => ?_)
      exact rt_i hx hb hr hlk hS ⟨_, hg1, hT⟩ dX6_plan_39
    · refine r_bipush hx hb dX6_plan_21 rfl (fun x21 e21 => ?_)
      exact rt_i hx hb hr hlk hS ⟨_, hg1, hT⟩ dX6_plan_23
  · refine r_iconst hx hb dX6_plan_7 (by decide) (by decide) (fun x7 e7 => ?_)
    exact rt_i hx hb hr hlk hS ⟨_, hg1, hT⟩ dX6_plan_8
theorem k_X6_cut : cBV yX6_cut cX6_cut 3 (some .int) 1 := ⟨mw_3_48, mw_3_49, mw_1_1, mw_3_50, ⟨by decide, by decide, by decide⟩⟩
set_option maxHeartbeats 4000000 in
set_option maxRecDepth 100000 in
theorem c_X6_cut (l : Launch) (z : Zt) (gh : Gh) (h0 o0 : Nat) (g0 : zG z h0 = (16, o0)) (p1 : Int32) : Met l yX6_cut (uw yX6_cut cX6_cut 3 (some .int)) (rmF 1 64) (PcW z [.ref h0, .int p1] (fun H => TY z (zA z) gh H)) (QcI z (fun r H => ∃ gk : Gh, eqv gk gh ∧ TY z (zA z) gk H)) 0 0 (zA z) := by
  refine Met.ofW (cc := cX6_cut) (maxL := 3) (ret := (some .int)) (by decide) rfl ?_
  intro p e s m args below meth c s₁ B hml hv
  obtain ⟨rfl, hW, hK, hSK⟩ := hv
  have hx := B.exec
  have hb := B.bytes
  have hr := B.returns
  have hts : ∀ w ∈ lw_ok, w.before ([.ref h0, .int p1] : List Value).toArray s = true := fun w hw => atoms_spec (ws := uw yX6_cut cX6_cut 3 (some .int)) B.pre w (List.mem_cons_of_mem _ hw)
  have hown : s.vm.findClass RX6 = some m.cls := findClass_of_methodNamed B.named
  have hlk := B.notSynchronized
  have hC : CallFix p m c cX6_cut 3 s ([.ref h0, .int p1] : List Value).toArray lw_ok RX6 := ⟨hx, hb, hml, hown, hts⟩
  have hS : va_S (zA z) s.heap s.heap [] := va_S.rf
  have hl := lv_entry ([.ref h0, .int p1]) (n := 3) (Nat.le_of_ble_eq_true rfl)
  rw [lg_entry_eq]
  generalize (lg_sl ([.ref h0, .int p1]) ++ List.replicate (3 - (lg_sl ([.ref h0, .int p1])).length) Slot.unset).toArray = ls at hl ⊢
  have hl : lv_has ls 3 [(0, .ref h0), (1, .int p1)] := hl
  show W p l e (rmF 1 64) s m ([.ref h0, .int p1] : List Value).toArray below meth c s.heap [] 0 0 (MQ below (QcI z (fun r H => ∃ gk : Gh, eqv gk gh ∧ TY z (zA z) gk H)) ([.ref h0, .int p1] : List Value).toArray s 0 0 (zA z)) (F0 m 0 ls [])
  have hT : TY z (zA z) gh s.heap := hW
  have hg1 : eqv gh gh := eqv_rf gh
  have mx_p1 := i_mx p1
  refine lv_iload_n hx hb dX6_cut_0 rfl (lv_at hl 1 rfl) ?_
  refine r_if_lt (tgt := 15) hx hb dX6_cut_1 (by decide) (fun c1 => ?_) (fun c1 => ?_)
  · refine r_iconst hx hb dX6_cut_15 (by decide) (by decide) (fun x15 e15 => ?_)
    exact rt_i hx hb hr hlk hS ⟨_, hg1, hT⟩ dX6_cut_16
  · refine lv_iload_n hx hb dX6_cut_4 rfl (lv_at hl 1 rfl) ?_
    refine lv_aload_n hx hb dX6_cut_5 rfl (lv_at hl 0 rfl) ?_
    refine gt_HeelDance_now hx hb hts ic_HeelDance hown hK hT g0 (hts _ mw_2_8) dX6_cut_6 (fun q6 hq6 => ?_)
    refine gt_Evening_figures hx hb hts ic_Evening hown hK hT hq6 (hts _ mw_1_108) dX6_cut_9 (fun x9 i9 e9 g9 => ?_)
    refine r_icmp_le (tgt := 17) hx hb dX6_cut_12 (by decide) (fun c12 => ?_) (fun c12 => ?_)
    · refine lv_aload_n hx hb dX6_cut_17 rfl (lv_at hl 0 rfl) ?_
      refine gt_HeelDance_now hx hb hts ic_HeelDance hown hK hT g0 (hts _ mw_2_8) dX6_cut_18 (fun q18 hq18 => ?_)
      refine gt_Evening_figures hx hb hts ic_Evening hown hK hT hq18 (hts _ mw_1_108) dX6_cut_21 (fun x21 i21 e21 g21 => ?_)
      refine lv_istore_n (lv' := [(2, .int x21), (0, .ref h0), (1, .int p1)]) hx hb dX6_cut_24 rfl hl (by decide) rfl (fun ls hl => ?_)
      refine lv_aload_n hx hb dX6_cut_25 rfl (lv_at hl 1 rfl) ?_
      refine gt_HeelDance_now hx hb hts ic_HeelDance hown hK hT g0 (hts _ mw_2_8) dX6_cut_26 (fun q26 hq26 => ?_)
      refine lv_iload_n hx hb dX6_cut_29 rfl (lv_at hl 2 rfl) ?_
      refine pt_Evening_figures hx hb hts ic_Evening hown hK hT hS hq26 (hts _ mw_1_108) (by omega) (by omega) dX6_cut_30 (fun H locs hT hS => ?_)
      obtain ⟨gk30, w30, hq30, hg1, hT⟩ : ∃ g : Gh, g.1 q26 36 = p1.toInt ∧ (∀ b k, k ≠ 36 → g.1 b k = gh.1 b k) ∧ eqv g gh ∧ TY z (zA z) g H := ⟨_, gs_at _ _ _ _, fun b k hk => gs_nk _ _ _ _ hk, eqv_gs rfl hg1, hT⟩
      refine lv_iload_n hx hb dX6_cut_33 rfl (lv_at hl 0 rfl) ?_
      exact rt_i hx hb hr hlk hS ⟨_, hg1, hT⟩ dX6_cut_34
    · refine r_iconst hx hb dX6_cut_15 (by decide) (by decide) (fun x15 e15 => ?_)
      exact rt_i hx hb hr hlk hS ⟨_, hg1, hT⟩ dX6_cut_16
theorem k_X6_see : cBV yX6_see cX6_see 4 (some .int) 3 := ⟨mw_3_213, mw_3_214, mw_1_1, mw_3_215, ⟨by decide, by decide, by decide⟩⟩
set_option maxHeartbeats 4000000 in
set_option maxRecDepth 100000 in
theorem c_X6_see (l : Launch) (z : Zt) (gh : Gh) (h0 o0 : Nat) (g0 : zG z h0 = (16, o0)) (p1 : Int32) (p2 : Int32) (p3 : Int32) : Met l yX6_see (uw yX6_see cX6_see 4 (some .int)) (rmF 2 87) (PcW z [.ref h0, .int p1, .int p2, .int p3] (fun H => TY z (zA z) gh H)) (QcI z (fun r H => ∃ gk : Gh, eqv gk gh ∧ TY z (zA z) gk H)) 0 0 (zA z) := by
  refine Met.ofW (cc := cX6_see) (maxL := 4) (ret := (some .int)) (by decide) rfl ?_
  intro p e s m args below meth c s₁ B hml hv
  obtain ⟨rfl, hW, hK, hSK⟩ := hv
  have hx := B.exec
  have hb := B.bytes
  have hr := B.returns
  have hts : ∀ w ∈ lw_ok, w.before ([.ref h0, .int p1, .int p2, .int p3] : List Value).toArray s = true := fun w hw => atoms_spec (ws := uw yX6_see cX6_see 4 (some .int)) B.pre w (List.mem_cons_of_mem _ hw)
  have hown : s.vm.findClass RX6 = some m.cls := findClass_of_methodNamed B.named
  have hlk := B.notSynchronized
  have hC : CallFix p m c cX6_see 4 s ([.ref h0, .int p1, .int p2, .int p3] : List Value).toArray lw_ok RX6 := ⟨hx, hb, hml, hown, hts⟩
  have hS : va_S (zA z) s.heap s.heap [] := va_S.rf
  have hl := lv_entry ([.ref h0, .int p1, .int p2, .int p3]) (n := 4) (Nat.le_of_ble_eq_true rfl)
  rw [lg_entry_eq]
  generalize (lg_sl ([.ref h0, .int p1, .int p2, .int p3]) ++ List.replicate (4 - (lg_sl ([.ref h0, .int p1, .int p2, .int p3])).length) Slot.unset).toArray = ls at hl ⊢
  have hl : lv_has ls 4 [(0, .ref h0), (1, .int p1), (2, .int p2), (3, .int p3)] := hl
  show W p l e (rmF 2 87) s m ([.ref h0, .int p1, .int p2, .int p3] : List Value).toArray below meth c s.heap [] 0 0 (MQ below (QcI z (fun r H => ∃ gk : Gh, eqv gk gh ∧ TY z (zA z) gk H)) ([.ref h0, .int p1, .int p2, .int p3] : List Value).toArray s 0 0 (zA z)) (F0 m 0 ls [])
  have hT : TY z (zA z) gh s.heap := hW
  have hg1 : eqv gh gh := eqv_rf gh
  have mx_p1 := i_mx p1
  have mx_p2 := i_mx p2
  have mx_p3 := i_mx p3
  refine lv_aload_n hx hb dX6_see_0 rfl (lv_at hl 0 rfl) ?_
  refine lv_iload_n hx hb dX6_see_1 rfl (lv_at hl 1 rfl) ?_
  refine cl_Vi (rest := []) hC hK hSK (c_X6_isNobody l z gh h0 (o0) g0 p1) k_X6_isNobody mw_2_225 ⟨rfl, rfl, Nat.le_of_ble_eq_true rfl, Nat.le_of_ble_eq_true rfl⟩ (rv_HeelDance hK hT g0) hT rfl hl.1 rfl (Nat.le_of_ble_eq_true rfl) dX6_see_2 ⟨Nat.zero_le _, Nat.zero_le _⟩ hS (fun _ h => h) (fun _ _ h => h) (fun r2 H locs hpo hS => ?_)
  obtain ⟨hT, u2_0, u2_1⟩ := hpo
  refine r_if_ne (tgt := 26) hx hb dX6_see_5 (by decide) (fun c5 => ?_) (fun c5 => ?_)
  · refine r_iconst hx hb dX6_see_26 (by decide) (by decide) (fun x26 e26 => ?_)
    exact rt_i hx hb hr hlk hS ⟨_, hg1, hT⟩ dX6_see_27
  · refine lv_iload_n hx hb dX6_see_8 rfl (lv_at hl 2 rfl) ?_
    refine r_if_lt (tgt := 26) hx hb dX6_see_9 (by decide) (fun c9 => ?_) (fun c9 => ?_)
    · refine r_iconst hx hb dX6_see_26 (by decide) (by decide) (fun x26 e26 => ?_)
      exact rt_i hx hb hr hlk hS ⟨_, hg1, hT⟩ dX6_see_27
    · refine lv_iload_n hx hb dX6_see_12 rfl (lv_at hl 2 rfl) ?_
      refine r_bipush hx hb dX6_see_13 rfl (fun x13 e13 => ?_)
      refine r_icmp_gt (tgt := 26) hx hb dX6_see_15 (by decide) (fun c15 => ?_) (fun c15 => ?_)
      · refine r_iconst hx hb dX6_see_26 (by decide) (by decide) (fun x26 e26 => ?_)
        exact rt_i hx hb hr hlk hS ⟨_, hg1, hT⟩ dX6_see_27
      · refine lv_aload_n hx hb dX6_see_18 rfl (lv_at hl 0 rfl) ?_
        refine lv_iload_n hx hb dX6_see_19 rfl (lv_at hl 3 rfl) ?_
        refine cl_Vi (rest := []) hC hK hSK (c_X6_isNobody l z gh h0 (o0) g0 p3) k_X6_isNobody mw_2_225 ⟨rfl, rfl, Nat.le_of_ble_eq_true rfl, Nat.le_of_ble_eq_true rfl⟩ (rv_HeelDance hK hT g0) hT rfl hl.1 rfl (Nat.le_of_ble_eq_true rfl) dX6_see_20 ⟨Nat.zero_le _, Nat.zero_le _⟩ hS (fun _ h => h) (fun _ _ h => h) (fun r20 H locs hpo hS => ?_)
        obtain ⟨hT, u20_0, u20_1⟩ := hpo
        refine r_if_eq (tgt := 28) hx hb dX6_see_23 (by decide) (fun c23 => ?_) (fun c23 => ?_)
        · refine lv_aload_n hx hb dX6_see_28 rfl (lv_at hl 0 rfl) ?_
          refine gt_HeelDance_now hx hb hts ic_HeelDance hown hK hT g0 (hts _ mw_2_8) dX6_see_29 (fun q29 hq29 => ?_)
          refine gt_Evening_seen hx hb hts ic_Evening hown hK hT hq29 (hts _ mw_1_111) dX6_see_32 (fun x32 i32 e32 g32 => ?_)
          refine r_bipush hx hb dX6_see_35 rfl (fun x35 e35 => ?_)
          refine r_icmp_lt (tgt := 43) hx hb dX6_see_37 (by decide) (fun c37 => ?_) (fun c37 => ?_)
          · refine lv_aload_n hx hb dX6_see_43 rfl (lv_at hl 0 rfl) ?_
            refine gt_HeelDance_now hx hb hts ic_HeelDance hown hK hT g0 (hts _ mw_2_8) dX6_see_44 (fun q44 hq44 => ?_)
            refine lv_iload_n hx hb dX6_see_47 rfl (lv_at hl 1 rfl) ?_
            refine lv_iload_n hx hb dX6_see_48 rfl (lv_at hl 2 rfl) ?_
            refine lv_iload_n hx hb dX6_see_49 rfl (lv_at hl 3 rfl) ?_
            refine cl_Vv (rest := []) hC hK hSK (c_X0_addSeen l z gh q44 (1) hq44 p1 p2 p3 (by omega) (by omega)) k_X0_addSeen mw_3_216 ⟨rfl, rfl, Nat.le_of_ble_eq_true rfl, Nat.le_of_ble_eq_true rfl⟩ (rv_Evening hK hT hq44) hT rfl hl.1 rfl (Nat.le_of_ble_eq_true rfl) dX6_see_50 ⟨Nat.zero_le _, Nat.zero_le _⟩ hS (fun _ h => h) (fun _ _ h => h) (fun H locs hpo hS => ?_)
            obtain ⟨gk50, hz50, hT⟩ := hpo
            have hg1 := eqv_tr hz50 hg1
            refine lv_aload_n hx hb dX6_see_53 rfl (lv_at hl 0 rfl) ?_
            refine gt_HeelDance_now hx hb hts ic_HeelDance hown hK hT g0 (hts _ mw_2_8) dX6_see_54 (fun q54 hq54 => ?_)
            refine gt_Evening_seen hx hb hts ic_Evening hown hK hT hq54 (hts _ mw_1_111) dX6_see_57 (fun x57 i57 e57 g57 => ?_)
            exact rt_i hx hb hr hlk hS ⟨_, hg1, hT⟩ dX6_see_60
          · refine r_bipush hx hb dX6_see_40 rfl (fun x40 e40 => ?_)
            exact rt_i hx hb hr hlk hS ⟨_, hg1, hT⟩ dX6_see_42
        · refine r_iconst hx hb dX6_see_26 (by decide) (by decide) (fun x26 e26 => ?_)
          exact rt_i hx hb hr hlk hS ⟨_, hg1, hT⟩ dX6_see_27
theorem k_X6_forget : cBV yX6_forget cX6_forget 3 (some .int) 1 := ⟨mw_3_221, mw_3_222, mw_1_1, mw_3_223, ⟨by decide, by decide, by decide⟩⟩
set_option maxHeartbeats 4000000 in
set_option maxRecDepth 100000 in
theorem c_X6_forget (l : Launch) (z : Zt) (gh : Gh) (h0 o0 : Nat) (g0 : zG z h0 = (16, o0)) (p1 : Int32) : Met l yX6_forget (uw yX6_forget cX6_forget 3 (some .int)) (rmF 1 64) (PcW z [.ref h0, .int p1] (fun H => TY z (zA z) gh H)) (QcI z (fun r H => ∃ gk : Gh, eqv gk gh ∧ TY z (zA z) gk H)) 0 0 (zA z) := by
  refine Met.ofW (cc := cX6_forget) (maxL := 3) (ret := (some .int)) (by decide) rfl ?_
  intro p e s m args below meth c s₁ B hml hv
  obtain ⟨rfl, hW, hK, hSK⟩ := hv
  have hx := B.exec
  have hb := B.bytes
  have hr := B.returns
  have hts : ∀ w ∈ lw_ok, w.before ([.ref h0, .int p1] : List Value).toArray s = true := fun w hw => atoms_spec (ws := uw yX6_forget cX6_forget 3 (some .int)) B.pre w (List.mem_cons_of_mem _ hw)
  have hown : s.vm.findClass RX6 = some m.cls := findClass_of_methodNamed B.named
  have hlk := B.notSynchronized
  have hC : CallFix p m c cX6_forget 3 s ([.ref h0, .int p1] : List Value).toArray lw_ok RX6 := ⟨hx, hb, hml, hown, hts⟩
  have hS : va_S (zA z) s.heap s.heap [] := va_S.rf
  have hl := lv_entry ([.ref h0, .int p1]) (n := 3) (Nat.le_of_ble_eq_true rfl)
  rw [lg_entry_eq]
  generalize (lg_sl ([.ref h0, .int p1]) ++ List.replicate (3 - (lg_sl ([.ref h0, .int p1])).length) Slot.unset).toArray = ls at hl ⊢
  have hl : lv_has ls 3 [(0, .ref h0), (1, .int p1)] := hl
  show W p l e (rmF 1 64) s m ([.ref h0, .int p1] : List Value).toArray below meth c s.heap [] 0 0 (MQ below (QcI z (fun r H => ∃ gk : Gh, eqv gk gh ∧ TY z (zA z) gk H)) ([.ref h0, .int p1] : List Value).toArray s 0 0 (zA z)) (F0 m 0 ls [])
  have hT : TY z (zA z) gh s.heap := hW
  have hg1 : eqv gh gh := eqv_rf gh
  have mx_p1 := i_mx p1
  refine lv_iload_n hx hb dX6_forget_0 rfl (lv_at hl 1 rfl) ?_
  refine r_if_lt (tgt := 15) hx hb dX6_forget_1 (by decide) (fun c1 => ?_) (fun c1 => ?_)
  · refine r_iconst hx hb dX6_forget_15 (by decide) (by decide) (fun x15 e15 => ?_)
    exact rt_i hx hb hr hlk hS ⟨_, hg1, hT⟩ dX6_forget_16
  · refine lv_iload_n hx hb dX6_forget_4 rfl (lv_at hl 1 rfl) ?_
    refine lv_aload_n hx hb dX6_forget_5 rfl (lv_at hl 0 rfl) ?_
    refine gt_HeelDance_now hx hb hts ic_HeelDance hown hK hT g0 (hts _ mw_2_8) dX6_forget_6 (fun q6 hq6 => ?_)
    refine gt_Evening_seen hx hb hts ic_Evening hown hK hT hq6 (hts _ mw_1_111) dX6_forget_9 (fun x9 i9 e9 g9 => ?_)
    refine r_icmp_le (tgt := 17) hx hb dX6_forget_12 (by decide) (fun c12 => ?_) (fun c12 => ?_)
    · refine lv_aload_n hx hb dX6_forget_17 rfl (lv_at hl 0 rfl) ?_
      refine gt_HeelDance_now hx hb hts ic_HeelDance hown hK hT g0 (hts _ mw_2_8) dX6_forget_18 (fun q18 hq18 => ?_)
      refine gt_Evening_seen hx hb hts ic_Evening hown hK hT hq18 (hts _ mw_1_111) dX6_forget_21 (fun x21 i21 e21 g21 => ?_)
      refine lv_istore_n (lv' := [(2, .int x21), (0, .ref h0), (1, .int p1)]) hx hb dX6_forget_24 rfl hl (by decide) rfl (fun ls hl => ?_)
      refine lv_aload_n hx hb dX6_forget_25 rfl (lv_at hl 1 rfl) ?_
      refine gt_HeelDance_now hx hb hts ic_HeelDance hown hK hT g0 (hts _ mw_2_8) dX6_forget_26 (fun q26 hq26 => ?_)
      refine lv_iload_n hx hb dX6_forget_29 rfl (lv_at hl 2 rfl) ?_
      refine pt_Evening_seen hx hb hts ic_Evening hown hK hT hS hq26 (hts _ mw_1_111) (by omega) (by omega) dX6_forget_30 (fun H locs hT hS => ?_)
      obtain ⟨gk30, w30, hq30, hg1, hT⟩ : ∃ g : Gh, g.1 q26 37 = p1.toInt ∧ (∀ b k, k ≠ 37 → g.1 b k = gh.1 b k) ∧ eqv g gh ∧ TY z (zA z) g H := ⟨_, gs_at _ _ _ _, fun b k hk => gs_nk _ _ _ _ hk, eqv_gs rfl hg1, hT⟩
      refine lv_iload_n hx hb dX6_forget_33 rfl (lv_at hl 0 rfl) ?_
      exact rt_i hx hb hr hlk hS ⟨_, hg1, hT⟩ dX6_forget_34
    · refine r_iconst hx hb dX6_forget_15 (by decide) (by decide) (fun x15 e15 => ?_)
      exact rt_i hx hb hr hlk hS ⟨_, hg1, hT⟩ dX6_forget_16
theorem k_X6_meetingsBehind : cBV yX6_meetingsBehind cX6_meetingsBehind 4 (some .int) 1 := ⟨mw_3_105, ms_1_4, mw_1_1, mw_3_106, ⟨by decide, by decide, by decide⟩⟩
set_option maxHeartbeats 4000000 in
set_option maxRecDepth 100000 in
theorem c_X6_meetingsBehind (l : Launch) (z : Zt) (gh : Gh) (h0 o0 : Nat) (g0 : zG z h0 = (16, o0)) (p1 : Int32) (bp1 : 0 ≤ p1.toInt ∧ p1.toInt ≤ 8) : Met l yX6_meetingsBehind (uw yX6_meetingsBehind cX6_meetingsBehind 4 (some .int)) (rmF 2 86) (PcW z [.ref h0, .int p1] (fun H => TY z (zA z) gh H)) (QcI z (fun r H => TY z (zA z) gh H)) 0 0 (zA z) := by
  refine Met.ofW (cc := cX6_meetingsBehind) (maxL := 4) (ret := (some .int)) (by decide) rfl ?_
  intro p e s m args below meth c s₁ B hml hv
  obtain ⟨rfl, hW, hK, hSK⟩ := hv
  have hx := B.exec
  have hb := B.bytes
  have hr := B.returns
  have hts : ∀ w ∈ lw_ok, w.before ([.ref h0, .int p1] : List Value).toArray s = true := fun w hw => atoms_spec (ws := uw yX6_meetingsBehind cX6_meetingsBehind 4 (some .int)) B.pre w (List.mem_cons_of_mem _ hw)
  have hown : s.vm.findClass RX6 = some m.cls := findClass_of_methodNamed B.named
  have hlk := B.notSynchronized
  have hC : CallFix p m c cX6_meetingsBehind 4 s ([.ref h0, .int p1] : List Value).toArray lw_ok RX6 := ⟨hx, hb, hml, hown, hts⟩
  have hS : va_S (zA z) s.heap s.heap [] := va_S.rf
  have hl := lv_entry ([.ref h0, .int p1]) (n := 4) (Nat.le_of_ble_eq_true rfl)
  rw [lg_entry_eq]
  generalize (lg_sl ([.ref h0, .int p1]) ++ List.replicate (4 - (lg_sl ([.ref h0, .int p1])).length) Slot.unset).toArray = ls at hl ⊢
  have hl : lv_has ls 4 [(0, .ref h0), (1, .int p1)] := hl
  show W p l e (rmF 2 86) s m ([.ref h0, .int p1] : List Value).toArray below meth c s.heap [] 0 0 (MQ below (QcI z (fun r H => TY z (zA z) gh H)) ([.ref h0, .int p1] : List Value).toArray s 0 0 (zA z)) (F0 m 0 ls [])
  have hT : TY z (zA z) gh s.heap := hW
  refine r_iconst hx hb dX6_meetingsBehind_0 (by decide) (by decide) (fun x0 e0 => ?_)
  refine lv_istore_n (lv' := [(2, .int x0), (0, .ref h0), (1, .int p1)]) hx hb dX6_meetingsBehind_1 rfl hl (by decide) rfl (fun ls hl => ?_)
  refine r_iconst hx hb dX6_meetingsBehind_2 (by decide) (by decide) (fun x2 e2 => ?_)
  refine lv_istore_n (lv' := [(3, .int x2), (2, .int x0), (0, .ref h0), (1, .int p1)]) hx hb dX6_meetingsBehind_3 rfl hl (by decide) rfl (fun ls hl => ?_)
  have J4 : ∀ (n4 : Nat) (ls : Array Slot) (H : Heap) (locs : List Loc) (y4_2 : Int32) (y4_3 : Int32), (0 ≤ y4_3.toInt ∧ y4_3.toInt ≤ 5) → (5 - y4_3.toInt) < (n4 : Int) → TY z (zA z) gh H → va_S (zA z) s.heap H locs → lv_has ls 4 [(0, .ref h0), (1, .int p1), (2, .int y4_2), (3, .int y4_3)] → W p l e (rmF 2 86) s m ([.ref h0, .int p1] : List Value).toArray below meth c H locs 0 0 (MQ below (QcI z (fun r H => TY z (zA z) gh H)) ([.ref h0, .int p1] : List Value).toArray s 0 0 (zA z)) (F0 m 4 ls []) := by
    intro n4
    induction n4 with
    | zero => intro ls H locs y4_2 y4_3 j4_y4_3 mm4 hT hS hl; exfalso; omega
    | succ n4 ih4 =>
      intro ls H locs y4_2 y4_3 j4_y4_3 mm4 hT hS hl
      refine lv_iload_n hx hb dX6_meetingsBehind_4 rfl (lv_at hl 3 rfl) ?_
      refine lv_aload_n hx hb dX6_meetingsBehind_5 rfl (lv_at hl 0 rfl) ?_
      refine gt_HeelDance_now hx hb hts ic_HeelDance hown hK hT g0 (hts _ mw_2_8) dX6_meetingsBehind_6 (fun q6 hq6 => ?_)
      refine gt_Evening_floor hx hb hts ic_Evening hown hK hT hq6 (hts _ mw_1_91) dX6_meetingsBehind_9 (fun q9 hq9 => ?_)
      refine gt_Floor_men hx hb hts ic_Floor hown hK hT hq9 (hts _ mw_1_62) dX6_meetingsBehind_12 (fun x12 i12 e12 g12 => ?_)
      refine r_icmp_ge (tgt := 47) hx hb dX6_meetingsBehind_15 (by decide) (fun c15 => ?_) (fun c15 => ?_)
      · refine lv_iload_n hx hb dX6_meetingsBehind_47 rfl (lv_at hl 2 rfl) ?_
        exact rt_i hx hb hr hlk hS hT dX6_meetingsBehind_48
      · refine lv_aload_n hx hb dX6_meetingsBehind_18 rfl (lv_at hl 0 rfl) ?_
        refine gt_HeelDance_now hx hb hts ic_HeelDance hown hK hT g0 (hts _ mw_2_8) dX6_meetingsBehind_19 (fun q19 hq19 => ?_)
        refine lv_iload_n hx hb dX6_meetingsBehind_22 rfl (lv_at hl 3 rfl) ?_
        refine lv_aload_n hx hb dX6_meetingsBehind_23 rfl (lv_at hl 0 rfl) ?_
        refine gt_HeelDance_walk hx hb hts ic_HeelDance hown hK hT g0 (hts _ mw_2_11) dX6_meetingsBehind_24 (fun q24 hq24 => ?_)
        refine lv_iload_n hx hb dX6_meetingsBehind_27 rfl (lv_at hl 3 rfl) ?_
        refine lv_iload_n hx hb dX6_meetingsBehind_28 rfl (lv_at hl 1 rfl) ?_
        refine cl_Vi (rest := [.int y4_3, .ref q19]) hC hK hSK (c_X5_partnerBehind l z gh q24 (0) hq24 y4_3 p1 (by omega) (by omega)) k_X5_partnerBehind mw_3_107 ⟨rfl, rfl, Nat.le_of_ble_eq_true rfl, Nat.le_of_ble_eq_true rfl⟩ (rv_Walk hK hT hq24) hT rfl hl.1 rfl (Nat.le_of_ble_eq_true rfl) dX6_meetingsBehind_29 ⟨Nat.zero_le _, Nat.zero_le _⟩ hS (fun _ h => h) (fun _ _ h => h) (fun r29 H locs hpo hS => ?_)
        have hT := hpo
        refine cl_Vi (rest := []) hC hK hSK (c_X0_areKin l z gh q19 (1) hq19 y4_3 r29 (by omega)) k_X0_areKin mw_3_38 ⟨rfl, rfl, Nat.le_of_ble_eq_true rfl, Nat.le_of_ble_eq_true rfl⟩ (rv_Evening hK hT hq19) hT rfl hl.1 rfl (Nat.le_of_ble_eq_true rfl) dX6_meetingsBehind_32 ⟨Nat.zero_le _, Nat.zero_le _⟩ hS (fun _ h => h) (fun _ _ h => h) (fun r32 H locs hpo hS => ?_)
        obtain ⟨hT, u32_0⟩ := hpo
        have J41 : ∀ (ls : Array Slot) (H : Heap) (locs : List Loc) (y41_2 : Int32), (5 - y4_3.toInt) < ((n4 + 1 : Nat) : Int) → TY z (zA z) gh H → va_S (zA z) s.heap H locs → lv_has ls 4 [(0, .ref h0), (1, .int p1), (2, .int y41_2), (3, .int y4_3)] → W p l e (rmF 2 86) s m ([.ref h0, .int p1] : List Value).toArray below meth c H locs 0 0 (MQ below (QcI z (fun r H => TY z (zA z) gh H)) ([.ref h0, .int p1] : List Value).toArray s 0 0 (zA z)) (F0 m 41 ls []) := by
          intro ls H locs y41_2 mf41_4 hT hS hl
          refine r_iinc (lv' := fun v__ => [(3, .int v__), (0, .ref h0), (1, .int p1), (2, .int y41_2)]) hx hb dX6_meetingsBehind_41 hl (k := 3) rfl (by decide) (fun _ => rfl) ⟨by decide, by decide⟩ (by omega) (by omega) (fun x41 ls e41 hl => ?_)
          refine lv_goto (tgt := 4) hx hb dX6_meetingsBehind_44 (by decide) ?_
          exact ih4 ls _ _ y41_2 x41 (by omega) (by omega) hT hS (lv_sub hl [1, 2, 3, 0] rfl)
        refine r_if_eq (tgt := 41) hx hb dX6_meetingsBehind_35 (by decide) (fun c35 => ?_) (fun c35 => ?_)
        · exact J41 ls _ _ y4_2 (by omega) hT hS (lv_sub hl [0, 1, 2, 3] rfl)
        · refine w_iinc (lv' := fun v__ => [(2, .int v__), (0, .ref h0), (1, .int p1), (3, .int y4_3)]) hx hb dX6_meetingsBehind_38 hl (k := 2) rfl (by decide) (fun _ => rfl) (fun x38 ls hl => ?_)
          exact J41 ls _ _ x38 (by omega) hT hS (lv_sub hl [1, 2, 0, 3] rfl)
  exact J4 (((5 - x2.toInt)).toNat + 1) ls _ _ x0 x2 (by omega) (by omega) hT hS (lv_sub hl [2, 3, 1, 0] rfl)
theorem k_X6_allMeetings : cBV yX6_allMeetings cX6_allMeetings 3 (some .int) 0 := ⟨mw_3_101, ms_1_3, mw_1_1, mw_3_102, ⟨by decide, by decide, by decide⟩⟩
set_option maxHeartbeats 4000000 in
set_option maxRecDepth 100000 in
theorem c_X6_allMeetings (l : Launch) (z : Zt) (gh : Gh) (h0 o0 : Nat) (g0 : zG z h0 = (16, o0)) : Met l yX6_allMeetings (uw yX6_allMeetings cX6_allMeetings 3 (some .int)) (rmF 3 109) (PcW z [.ref h0] (fun H => TY z (zA z) gh H)) (QcI z (fun r H => TY z (zA z) gh H)) 0 0 (zA z) := by
  refine Met.ofW (cc := cX6_allMeetings) (maxL := 3) (ret := (some .int)) (by decide) rfl ?_
  intro p e s m args below meth c s₁ B hml hv
  obtain ⟨rfl, hW, hK, hSK⟩ := hv
  have hx := B.exec
  have hb := B.bytes
  have hr := B.returns
  have hts : ∀ w ∈ lw_ok, w.before ([.ref h0] : List Value).toArray s = true := fun w hw => atoms_spec (ws := uw yX6_allMeetings cX6_allMeetings 3 (some .int)) B.pre w (List.mem_cons_of_mem _ hw)
  have hown : s.vm.findClass RX6 = some m.cls := findClass_of_methodNamed B.named
  have hlk := B.notSynchronized
  have hC : CallFix p m c cX6_allMeetings 3 s ([.ref h0] : List Value).toArray lw_ok RX6 := ⟨hx, hb, hml, hown, hts⟩
  have hS : va_S (zA z) s.heap s.heap [] := va_S.rf
  have hl := lv_entry ([.ref h0]) (n := 3) (Nat.le_of_ble_eq_true rfl)
  rw [lg_entry_eq]
  generalize (lg_sl ([.ref h0]) ++ List.replicate (3 - (lg_sl ([.ref h0])).length) Slot.unset).toArray = ls at hl ⊢
  have hl : lv_has ls 3 [(0, .ref h0)] := hl
  show W p l e (rmF 3 109) s m ([.ref h0] : List Value).toArray below meth c s.heap [] 0 0 (MQ below (QcI z (fun r H => TY z (zA z) gh H)) ([.ref h0] : List Value).toArray s 0 0 (zA z)) (F0 m 0 ls [])
  have hT : TY z (zA z) gh s.heap := hW
  refine r_iconst hx hb dX6_allMeetings_0 (by decide) (by decide) (fun x0 e0 => ?_)
  refine lv_istore_n (lv' := [(1, .int x0), (0, .ref h0)]) hx hb dX6_allMeetings_1 rfl hl (by decide) rfl (fun ls hl => ?_)
  refine r_iconst hx hb dX6_allMeetings_2 (by decide) (by decide) (fun x2 e2 => ?_)
  refine lv_istore_n (lv' := [(2, .int x2), (1, .int x0), (0, .ref h0)]) hx hb dX6_allMeetings_3 rfl hl (by decide) rfl (fun ls hl => ?_)
  have J4 : ∀ (n4 : Nat) (ls : Array Slot) (H : Heap) (locs : List Loc) (y4_1 : Int32) (y4_2 : Int32), (1 ≤ y4_2.toInt ∧ y4_2.toInt ≤ 9) → (9 - y4_2.toInt) < (n4 : Int) → TY z (zA z) gh H → va_S (zA z) s.heap H locs → lv_has ls 3 [(0, .ref h0), (1, .int y4_1), (2, .int y4_2)] → W p l e (rmF 3 109) s m ([.ref h0] : List Value).toArray below meth c H locs 0 0 (MQ below (QcI z (fun r H => TY z (zA z) gh H)) ([.ref h0] : List Value).toArray s 0 0 (zA z)) (F0 m 4 ls []) := by
    intro n4
    induction n4 with
    | zero => intro ls H locs y4_1 y4_2 j4_y4_2 mm4 hT hS hl; exfalso; omega
    | succ n4 ih4 =>
      intro ls H locs y4_1 y4_2 j4_y4_2 mm4 hT hS hl
      refine lv_iload_n hx hb dX6_allMeetings_4 rfl (lv_at hl 2 rfl) ?_
      refine lv_aload_n hx hb dX6_allMeetings_5 rfl (lv_at hl 0 rfl) ?_
      refine gt_HeelDance_walk hx hb hts ic_HeelDance hown hK hT g0 (hts _ mw_2_11) dX6_allMeetings_6 (fun q6 hq6 => ?_)
      refine gt_Walk_steps hx hb hts ic_Walk hown hK hT hq6 (hts _ mw_1_180) dX6_allMeetings_9 (fun x9 i9 e9 g9 => ?_)
      refine r_icmp_gt (tgt := 29) hx hb dX6_allMeetings_12 (by decide) (fun c12 => ?_) (fun c12 => ?_)
      · refine lv_iload_n hx hb dX6_allMeetings_29 rfl (lv_at hl 1 rfl) ?_
        exact rt_i hx hb hr hlk hS hT dX6_allMeetings_30
      · refine lv_iload_n hx hb dX6_allMeetings_15 rfl (lv_at hl 1 rfl) ?_
        refine lv_aload_n hx hb dX6_allMeetings_16 rfl (lv_at hl 0 rfl) ?_
        refine lv_iload_n hx hb dX6_allMeetings_17 rfl (lv_at hl 2 rfl) ?_
        refine cl_Vi (rest := [.int y4_1]) hC hK hSK (c_X6_meetingsBehind l z gh h0 (o0) g0 y4_2 (by omega)) k_X6_meetingsBehind mw_3_103 ⟨rfl, rfl, Nat.le_of_ble_eq_true rfl, Nat.le_of_ble_eq_true rfl⟩ (rv_HeelDance hK hT g0) hT rfl hl.1 rfl (Nat.le_of_ble_eq_true rfl) dX6_allMeetings_18 ⟨Nat.zero_le _, Nat.zero_le _⟩ hS (fun _ h => h) (fun _ _ h => h) (fun r18 H locs hpo hS => ?_)
        have hT := hpo
        refine w_iadd hx hb dX6_allMeetings_21 (fun x21 => ?_)
        refine lv_istore_n (lv' := [(1, .int x21), (0, .ref h0), (2, .int y4_2)]) hx hb dX6_allMeetings_22 rfl hl (by decide) rfl (fun ls hl => ?_)
        refine r_iinc (lv' := fun v__ => [(2, .int v__), (1, .int x21), (0, .ref h0)]) hx hb dX6_allMeetings_23 hl (k := 2) rfl (by decide) (fun _ => rfl) ⟨by decide, by decide⟩ (by omega) (by omega) (fun x23 ls e23 hl => ?_)
        refine lv_goto (tgt := 4) hx hb dX6_allMeetings_26 (by decide) ?_
        exact ih4 ls _ _ x21 x23 (by omega) (by omega) hT hS (lv_sub hl [2, 1, 0] rfl)
  exact J4 (((9 - x2.toInt)).toNat + 1) ls _ _ x0 x2 (by omega) (by omega) hT hS (lv_sub hl [2, 1, 0] rfl)
theorem k_X6_firstMeeting : cBV yX6_firstMeeting cX6_firstMeeting 2 (some .int) 0 := ⟨mw_3_114, ms_1_5, mw_1_1, mw_3_115, ⟨by decide, by decide, by decide⟩⟩
set_option maxHeartbeats 4000000 in
set_option maxRecDepth 100000 in
theorem c_X6_firstMeeting (l : Launch) (z : Zt) (gh : Gh) (h0 o0 : Nat) (g0 : zG z h0 = (16, o0)) : Met l yX6_firstMeeting (uw yX6_firstMeeting cX6_firstMeeting 2 (some .int)) (rmF 3 109) (PcW z [.ref h0] (fun H => TY z (zA z) gh H)) (QcI z (fun r H => TY z (zA z) gh H)) 0 0 (zA z) := by
  refine Met.ofW (cc := cX6_firstMeeting) (maxL := 2) (ret := (some .int)) (by decide) rfl ?_
  intro p e s m args below meth c s₁ B hml hv
  obtain ⟨rfl, hW, hK, hSK⟩ := hv
  have hx := B.exec
  have hb := B.bytes
  have hr := B.returns
  have hts : ∀ w ∈ lw_ok, w.before ([.ref h0] : List Value).toArray s = true := fun w hw => atoms_spec (ws := uw yX6_firstMeeting cX6_firstMeeting 2 (some .int)) B.pre w (List.mem_cons_of_mem _ hw)
  have hown : s.vm.findClass RX6 = some m.cls := findClass_of_methodNamed B.named
  have hlk := B.notSynchronized
  have hC : CallFix p m c cX6_firstMeeting 2 s ([.ref h0] : List Value).toArray lw_ok RX6 := ⟨hx, hb, hml, hown, hts⟩
  have hS : va_S (zA z) s.heap s.heap [] := va_S.rf
  have hl := lv_entry ([.ref h0]) (n := 2) (Nat.le_of_ble_eq_true rfl)
  rw [lg_entry_eq]
  generalize (lg_sl ([.ref h0]) ++ List.replicate (2 - (lg_sl ([.ref h0])).length) Slot.unset).toArray = ls at hl ⊢
  have hl : lv_has ls 2 [(0, .ref h0)] := hl
  show W p l e (rmF 3 109) s m ([.ref h0] : List Value).toArray below meth c s.heap [] 0 0 (MQ below (QcI z (fun r H => TY z (zA z) gh H)) ([.ref h0] : List Value).toArray s 0 0 (zA z)) (F0 m 0 ls [])
  have hT : TY z (zA z) gh s.heap := hW
  refine r_iconst hx hb dX6_firstMeeting_0 (by decide) (by decide) (fun x0 e0 => ?_)
  refine lv_istore_n (lv' := [(1, .int x0), (0, .ref h0)]) hx hb dX6_firstMeeting_1 rfl hl (by decide) rfl (fun ls hl => ?_)
  have J2 : ∀ (n2 : Nat) (ls : Array Slot) (H : Heap) (locs : List Loc) (y2_1 : Int32), (1 ≤ y2_1.toInt ∧ y2_1.toInt ≤ 9) → (9 - y2_1.toInt) < (n2 : Int) → TY z (zA z) gh H → va_S (zA z) s.heap H locs → lv_has ls 2 [(0, .ref h0), (1, .int y2_1)] → W p l e (rmF 3 109) s m ([.ref h0] : List Value).toArray below meth c H locs 0 0 (MQ below (QcI z (fun r H => TY z (zA z) gh H)) ([.ref h0] : List Value).toArray s 0 0 (zA z)) (F0 m 2 ls []) := by
    intro n2
    induction n2 with
    | zero => intro ls H locs y2_1 j2_y2_1 mm2 hT hS hl; exfalso; omega
    | succ n2 ih2 =>
      intro ls H locs y2_1 j2_y2_1 mm2 hT hS hl
      refine lv_iload_n hx hb dX6_firstMeeting_2 rfl (lv_at hl 1 rfl) ?_
      refine lv_aload_n hx hb dX6_firstMeeting_3 rfl (lv_at hl 0 rfl) ?_
      refine gt_HeelDance_walk hx hb hts ic_HeelDance hown hK hT g0 (hts _ mw_2_11) dX6_firstMeeting_4 (fun q4 hq4 => ?_)
      refine gt_Walk_steps hx hb hts ic_Walk hown hK hT hq4 (hts _ mw_1_180) dX6_firstMeeting_7 (fun x7 i7 e7 g7 => ?_)
      refine r_icmp_gt (tgt := 29) hx hb dX6_firstMeeting_10 (by decide) (fun c10 => ?_) (fun c10 => ?_)
      · refine r_bipush hx hb dX6_firstMeeting_29 rfl (fun x29 e29 => ?_)
        exact rt_i hx hb hr hlk hS hT dX6_firstMeeting_31
      · refine lv_aload_n hx hb dX6_firstMeeting_13 rfl (lv_at hl 0 rfl) ?_
        refine lv_iload_n hx hb dX6_firstMeeting_14 rfl (lv_at hl 1 rfl) ?_
        refine cl_Vi (rest := []) hC hK hSK (c_X6_meetingsBehind l z gh h0 (o0) g0 y2_1 (by omega)) k_X6_meetingsBehind mw_3_103 ⟨rfl, rfl, Nat.le_of_ble_eq_true rfl, Nat.le_of_ble_eq_true rfl⟩ (rv_HeelDance hK hT g0) hT rfl hl.1 rfl (Nat.le_of_ble_eq_true rfl) dX6_firstMeeting_15 ⟨Nat.zero_le _, Nat.zero_le _⟩ hS (fun _ h => h) (fun _ _ h => h) (fun r15 H locs hpo hS => ?_)
        have hT := hpo
        refine r_if_le (tgt := 23) hx hb dX6_firstMeeting_18 (by decide) (fun c18 => ?_) (fun c18 => ?_)
        · refine r_iinc (lv' := fun v__ => [(1, .int v__), (0, .ref h0)]) hx hb dX6_firstMeeting_23 hl (k := 1) rfl (by decide) (fun _ => rfl) ⟨by decide, by decide⟩ (by omega) (by omega) (fun x23 ls e23 hl => ?_)
          refine lv_goto (tgt := 2) hx hb dX6_firstMeeting_26 (by decide) ?_
          exact ih2 ls _ _ x23 (by omega) (by omega) hT hS (lv_sub hl [1, 0] rfl)
        · refine lv_iload_n hx hb dX6_firstMeeting_21 rfl (lv_at hl 1 rfl) ?_
          exact rt_i hx hb hr hlk hS hT dX6_firstMeeting_22
  exact J2 (((9 - x0.toInt)).toNat + 1) ls _ _ x0 (by omega) (by omega) hT hS (lv_sub hl [1, 0] rfl)
theorem k_X6_placeIn : cBS yX6_placeIn cX6_placeIn 4 (some .int) 3 := ⟨mw_3_168, mw_1_1, mw_3_169, ⟨by decide, by decide, by decide⟩⟩
set_option maxHeartbeats 4000000 in
set_option maxRecDepth 100000 in
theorem c_X6_placeIn (l : Launch) (z : Zt) (gh : Gh) (ra1 ora1 : Nat) (hra1 : zG z ra1 = (20, ora1)) (p2 : Int32) (p3 : Int32) : Met l yX6_placeIn (uw yX6_placeIn cX6_placeIn 4 (some .int)) (rmF 1 64) (PcW z [.ref ra1, .int p2, .int p3] (fun H => TY z (zA z) gh H)) (QcI z (fun r H => TY z (zA z) gh H)) 0 0 (zA z) := by
  refine Met.ofW (cc := cX6_placeIn) (maxL := 4) (ret := (some .int)) (by decide) rfl ?_
  intro p e s m args below meth c s₁ B hml hv
  obtain ⟨rfl, hW, hK, hSK⟩ := hv
  have hx := B.exec
  have hb := B.bytes
  have hr := B.returns
  have hts : ∀ w ∈ lw_ok, w.before ([.ref ra1, .int p2, .int p3] : List Value).toArray s = true := fun w hw => atoms_spec (ws := uw yX6_placeIn cX6_placeIn 4 (some .int)) B.pre w (List.mem_cons_of_mem _ hw)
  have hown : s.vm.findClass RX6 = some m.cls := findClass_of_methodNamed B.named
  have hlk := B.notSynchronized
  have hC : CallFix p m c cX6_placeIn 4 s ([.ref ra1, .int p2, .int p3] : List Value).toArray lw_ok RX6 := ⟨hx, hb, hml, hown, hts⟩
  have hS : va_S (zA z) s.heap s.heap [] := va_S.rf
  have hl := lv_entry ([.ref ra1, .int p2, .int p3]) (n := 4) (Nat.le_of_ble_eq_true rfl)
  rw [lg_entry_eq]
  generalize (lg_sl ([.ref ra1, .int p2, .int p3]) ++ List.replicate (4 - (lg_sl ([.ref ra1, .int p2, .int p3])).length) Slot.unset).toArray = ls at hl ⊢
  have hl : lv_has ls 4 [(0, .ref ra1), (1, .int p2), (2, .int p3)] := hl
  show W p l e (rmF 1 64) s m ([.ref ra1, .int p2, .int p3] : List Value).toArray below meth c s.heap [] 0 0 (MQ below (QcI z (fun r H => TY z (zA z) gh H)) ([.ref ra1, .int p2, .int p3] : List Value).toArray s 0 0 (zA z)) (F0 m 0 ls [])
  have hT : TY z (zA z) gh s.heap := hW
  have mx_p2 := i_mx p2
  have mx_p3 := i_mx p3
  refine lv_iload_n hx hb dX6_placeIn_0 rfl (lv_at hl 2 rfl) ?_
  refine r_bipush hx hb dX6_placeIn_1 rfl (fun x1 e1 => ?_)
  refine w_isub hx hb dX6_placeIn_3 (fun x3 => ?_)
  refine lv_istore_n (lv' := [(3, .int x3), (0, .ref ra1), (1, .int p2), (2, .int p3)]) hx hb dX6_placeIn_4 rfl hl (by decide) rfl (fun ls hl => ?_)
  refine lv_iload_n hx hb dX6_placeIn_5 rfl (lv_at hl 0 rfl) ?_
  have J20 : ∀ (ls : Array Slot) (H : Heap) (locs : List Loc), TY z (zA z) gh H → va_S (zA z) s.heap H locs → lv_has ls 4 [(0, .ref ra1), (1, .int p2), (2, .int p3), (3, .int x3)] → W p l e (rmF 1 64) s m ([.ref ra1, .int p2, .int p3] : List Value).toArray below meth c H locs 0 0 (MQ below (QcI z (fun r H => TY z (zA z) gh H)) ([.ref ra1, .int p2, .int p3] : List Value).toArray s 0 0 (zA z)) (F0 m 20 ls []) := by
    intro ls H locs hT hS hl
    refine r_bipush hx hb dX6_placeIn_20 rfl (fun x20 e20 => ?_)
    refine lv_goto (tgt := 28) hx hb dX6_placeIn_22 (by decide) ?_
    exact rt_i hx hb hr hlk hS hT dX6_placeIn_28
  refine r_if_lt (tgt := 20) hx hb dX6_placeIn_6 (by decide) (fun c6 => ?_) (fun c6 => ?_)
  · exact J20 ls _ _ hT hS (lv_sub hl [1, 2, 3, 0] rfl)
  · refine lv_iload_n hx hb dX6_placeIn_9 rfl (lv_at hl 0 rfl) ?_
    refine lv_iload_n hx hb dX6_placeIn_10 rfl (lv_at hl 2 rfl) ?_
    refine r_icmp_ge (tgt := 20) hx hb dX6_placeIn_11 (by decide) (fun c11 => ?_) (fun c11 => ?_)
    · exact J20 ls _ _ hT hS (lv_sub hl [1, 2, 3, 0] rfl)
    · refine lv_iload_n hx hb dX6_placeIn_14 rfl (lv_at hl 0 rfl) ?_
      refine lv_aload_n hx hb dX6_placeIn_15 rfl (lv_at hl 1 rfl) ?_
      refine an_20 hx hb hK hT hra1 dX6_placeIn_16 (fun x16 e16 => ?_)
      refine r_icmp_lt (tgt := 25) hx hb dX6_placeIn_17 (by decide) (fun c17 => ?_) (fun c17 => ?_)
      · refine lv_aload_n hx hb dX6_placeIn_25 rfl (lv_at hl 1 rfl) ?_
        refine lv_iload_n hx hb dX6_placeIn_26 rfl (lv_at hl 0 rfl) ?_
        refine al_20 hx hb hK hT hra1 (by omega) (by omega) dX6_placeIn_27 (fun x27 => ?_)
        exact rt_i hx hb hr hlk hS hT dX6_placeIn_28
      · exact J20 ls _ _ hT hS (lv_sub hl [1, 2, 3, 0] rfl)
theorem k_X6_power : cBS yX6_power cX6_power 5 (some .long) 2 := ⟨mw_3_196, mw_1_1, mw_3_197, ⟨by decide, by decide, by decide⟩⟩
set_option maxHeartbeats 4000000 in
set_option maxRecDepth 100000 in
theorem c_X6_power (l : Launch) (z : Zt) (gh : Gh) (p1 : Int32) (p2 : Int32) : Met l yX6_power (uw yX6_power cX6_power 5 (some .long)) (rmF 1 64) (PcW z [.int p1, .int p2] (fun H => TY z (zA z) gh H)) (QcL z (fun r H => TY z (zA z) gh H)) 0 0 (zA z) := by
  refine Met.ofW (cc := cX6_power) (maxL := 5) (ret := (some .long)) (by decide) rfl ?_
  intro p e s m args below meth c s₁ B hml hv
  obtain ⟨rfl, hW, hK, hSK⟩ := hv
  have hx := B.exec
  have hb := B.bytes
  have hr := B.returns
  have hts : ∀ w ∈ lw_ok, w.before ([.int p1, .int p2] : List Value).toArray s = true := fun w hw => atoms_spec (ws := uw yX6_power cX6_power 5 (some .long)) B.pre w (List.mem_cons_of_mem _ hw)
  have hown : s.vm.findClass RX6 = some m.cls := findClass_of_methodNamed B.named
  have hlk := B.notSynchronized
  have hC : CallFix p m c cX6_power 5 s ([.int p1, .int p2] : List Value).toArray lw_ok RX6 := ⟨hx, hb, hml, hown, hts⟩
  have hS : va_S (zA z) s.heap s.heap [] := va_S.rf
  have hl := lv_entry ([.int p1, .int p2]) (n := 5) (Nat.le_of_ble_eq_true rfl)
  rw [lg_entry_eq]
  generalize (lg_sl ([.int p1, .int p2]) ++ List.replicate (5 - (lg_sl ([.int p1, .int p2])).length) Slot.unset).toArray = ls at hl ⊢
  have hl : lv_has ls 5 [(0, .int p1), (1, .int p2)] := hl
  show W p l e (rmF 1 64) s m ([.int p1, .int p2] : List Value).toArray below meth c s.heap [] 0 0 (MQ below (QcL z (fun r H => TY z (zA z) gh H)) ([.int p1, .int p2] : List Value).toArray s 0 0 (zA z)) (F0 m 0 ls [])
  have hT : TY z (zA z) gh s.heap := hW
  have mx_p1 := i_mx p1
  have mx_p2 := i_mx p2
  refine r_lconst1 hx hb dX6_power_0 (fun x0 e0 => ?_)
  refine lv_lstore_n (lv' := [(2, .long x0), (0, .int p1), (1, .int p2)]) hx hb dX6_power_1 rfl hl (by decide) rfl (fun ls hl => ?_)
  refine r_iconst hx hb dX6_power_2 (by decide) (by decide) (fun x2 e2 => ?_)
  refine lv_istore (lv' := [(4, .int x2), (2, .long x0), (0, .int p1), (1, .int p2)]) hx hb dX6_power_3 hl (by decide) rfl (fun ls hl => ?_)
  have J5 : ∀ (n5 : Nat) (ls : Array Slot) (H : Heap) (locs : List Loc) (y5_2 : Int64) (y5_4 : Int32), (0 ≤ y5_4.toInt) → (((p2.toInt - y5_4.toInt).toNat : Nat) : Int) < (n5 : Int) → TY z (zA z) gh H → va_S (zA z) s.heap H locs → lv_has ls 5 [(0, .int p1), (1, .int p2), (2, .long y5_2), (4, .int y5_4)] → W p l e (rmF 1 64) s m ([.int p1, .int p2] : List Value).toArray below meth c H locs 0 0 (MQ below (QcL z (fun r H => TY z (zA z) gh H)) ([.int p1, .int p2] : List Value).toArray s 0 0 (zA z)) (F0 m 5 ls []) := by
    intro n5
    induction n5 with
    | zero => intro ls H locs y5_2 y5_4 j5_y5_4 mm5 hT hS hl; exfalso; omega
    | succ n5 ih5 =>
      intro ls H locs y5_2 y5_4 j5_y5_4 mm5 hT hS hl
      refine lv_iload hx hb dX6_power_5 (lv_at hl 3 rfl) ?_
      refine lv_iload_n hx hb dX6_power_7 rfl (lv_at hl 1 rfl) ?_
      refine r_icmp_ge (tgt := 22) hx hb dX6_power_8 (by decide) (fun c8 => ?_) (fun c8 => ?_)
      · refine lv_lload_n hx hb dX6_power_22 rfl (lv_at hl 2 rfl) ?_
        exact rt_l hx hb hr hlk hS hT dX6_power_23
      · refine lv_lload_n hx hb dX6_power_11 rfl (lv_at hl 2 rfl) ?_
        refine lv_iload_n hx hb dX6_power_12 rfl (lv_at hl 0 rfl) ?_
        refine r_i2l hx hb dX6_power_13 (fun x13 e13 => ?_)
        refine w_lmul hx hb dX6_power_14 (fun x14 => ?_)
        refine lv_lstore_n (lv' := [(2, .long x14), (0, .int p1), (1, .int p2), (4, .int y5_4)]) hx hb dX6_power_15 rfl hl (by decide) rfl (fun ls hl => ?_)
        refine r_iinc (lv' := fun v__ => [(4, .int v__), (2, .long x14), (0, .int p1), (1, .int p2)]) hx hb dX6_power_16 hl (k := 3) rfl (by decide) (fun _ => rfl) ⟨by decide, by decide⟩ (by omega) (by omega) (fun x16 ls e16 hl => ?_)
        refine lv_goto (tgt := 5) hx hb dX6_power_19 (by decide) ?_
        exact ih5 ls _ _ x14 x16 (by omega) (by omega) hT hS (lv_sub hl [2, 3, 1, 0] rfl)
  exact J5 (((((p2.toInt - x2.toInt).toNat : Nat) : Int)).toNat + 1) ls _ _ x0 x2 (by omega) (by omega) hT hS (lv_sub hl [2, 3, 1, 0] rfl)
theorem k_X6_sum : cBS yX6_sum cX6_sum 4 (some .int) 2 := ⟨mw_3_117, mw_1_1, mw_3_118, ⟨by decide, by decide, by decide⟩⟩
set_option maxHeartbeats 4000000 in
set_option maxRecDepth 100000 in
theorem c_X6_sum (l : Launch) (z : Zt) (gh : Gh) (ra1 ora1 : Nat) (hra1 : zG z ra1 = (20, ora1)) (p2 : Int32) : Met l yX6_sum (uw yX6_sum cX6_sum 4 (some .int)) (rmF 1 64) (PcW z [.ref ra1, .int p2] (fun H => TY z (zA z) gh H)) (QcI z (fun r H => TY z (zA z) gh H)) 0 0 (zA z) := by
  refine Met.ofW (cc := cX6_sum) (maxL := 4) (ret := (some .int)) (by decide) rfl ?_
  intro p e s m args below meth c s₁ B hml hv
  obtain ⟨rfl, hW, hK, hSK⟩ := hv
  have hx := B.exec
  have hb := B.bytes
  have hr := B.returns
  have hts : ∀ w ∈ lw_ok, w.before ([.ref ra1, .int p2] : List Value).toArray s = true := fun w hw => atoms_spec (ws := uw yX6_sum cX6_sum 4 (some .int)) B.pre w (List.mem_cons_of_mem _ hw)
  have hown : s.vm.findClass RX6 = some m.cls := findClass_of_methodNamed B.named
  have hlk := B.notSynchronized
  have hC : CallFix p m c cX6_sum 4 s ([.ref ra1, .int p2] : List Value).toArray lw_ok RX6 := ⟨hx, hb, hml, hown, hts⟩
  have hS : va_S (zA z) s.heap s.heap [] := va_S.rf
  have hl := lv_entry ([.ref ra1, .int p2]) (n := 4) (Nat.le_of_ble_eq_true rfl)
  rw [lg_entry_eq]
  generalize (lg_sl ([.ref ra1, .int p2]) ++ List.replicate (4 - (lg_sl ([.ref ra1, .int p2])).length) Slot.unset).toArray = ls at hl ⊢
  have hl : lv_has ls 4 [(0, .ref ra1), (1, .int p2)] := hl
  show W p l e (rmF 1 64) s m ([.ref ra1, .int p2] : List Value).toArray below meth c s.heap [] 0 0 (MQ below (QcI z (fun r H => TY z (zA z) gh H)) ([.ref ra1, .int p2] : List Value).toArray s 0 0 (zA z)) (F0 m 0 ls [])
  have hT : TY z (zA z) gh s.heap := hW
  have mx_p2 := i_mx p2
  refine r_iconst hx hb dX6_sum_0 (by decide) (by decide) (fun x0 e0 => ?_)
  refine lv_istore_n (lv' := [(2, .int x0), (0, .ref ra1), (1, .int p2)]) hx hb dX6_sum_1 rfl hl (by decide) rfl (fun ls hl => ?_)
  refine r_iconst hx hb dX6_sum_2 (by decide) (by decide) (fun x2 e2 => ?_)
  refine lv_istore_n (lv' := [(3, .int x2), (2, .int x0), (0, .ref ra1), (1, .int p2)]) hx hb dX6_sum_3 rfl hl (by decide) rfl (fun ls hl => ?_)
  have J4 : ∀ (n4 : Nat) (ls : Array Slot) (H : Heap) (locs : List Loc) (y4_2 : Int32) (y4_3 : Int32), (0 ≤ y4_3.toInt ∧ y4_3.toInt ≤ 5) → (5 - y4_3.toInt) < (n4 : Int) → TY z (zA z) gh H → va_S (zA z) s.heap H locs → lv_has ls 4 [(0, .ref ra1), (1, .int p2), (2, .int y4_2), (3, .int y4_3)] → W p l e (rmF 1 64) s m ([.ref ra1, .int p2] : List Value).toArray below meth c H locs 0 0 (MQ below (QcI z (fun r H => TY z (zA z) gh H)) ([.ref ra1, .int p2] : List Value).toArray s 0 0 (zA z)) (F0 m 4 ls []) := by
    intro n4
    induction n4 with
    | zero => intro ls H locs y4_2 y4_3 j4_y4_3 mm4 hT hS hl; exfalso; omega
    | succ n4 ih4 =>
      intro ls H locs y4_2 y4_3 j4_y4_3 mm4 hT hS hl
      refine lv_iload_n hx hb dX6_sum_4 rfl (lv_at hl 3 rfl) ?_
      refine lv_iload_n hx hb dX6_sum_5 rfl (lv_at hl 1 rfl) ?_
      refine r_icmp_ge (tgt := 27) hx hb dX6_sum_6 (by decide) (fun c6 => ?_) (fun c6 => ?_)
      · refine lv_iload_n hx hb dX6_sum_27 rfl (lv_at hl 2 rfl) ?_
        exact rt_i hx hb hr hlk hS hT dX6_sum_28
      · refine lv_iload_n hx hb dX6_sum_9 rfl (lv_at hl 3 rfl) ?_
        refine lv_aload_n hx hb dX6_sum_10 rfl (lv_at hl 0 rfl) ?_
        refine an_20 hx hb hK hT hra1 dX6_sum_11 (fun x11 e11 => ?_)
        refine r_icmp_ge (tgt := 27) hx hb dX6_sum_12 (by decide) (fun c12 => ?_) (fun c12 => ?_)
        · refine lv_iload_n hx hb dX6_sum_27 rfl (lv_at hl 2 rfl) ?_
          exact rt_i hx hb hr hlk hS hT dX6_sum_28
        · refine lv_iload_n hx hb dX6_sum_15 rfl (lv_at hl 2 rfl) ?_
          refine lv_aload_n hx hb dX6_sum_16 rfl (lv_at hl 0 rfl) ?_
          refine lv_iload_n hx hb dX6_sum_17 rfl (lv_at hl 3 rfl) ?_
          refine al_20 hx hb hK hT hra1 (by omega) (by omega) dX6_sum_18 (fun x18 => ?_)
          refine w_iadd hx hb dX6_sum_19 (fun x19 => ?_)
          refine lv_istore_n (lv' := [(2, .int x19), (0, .ref ra1), (1, .int p2), (3, .int y4_3)]) hx hb dX6_sum_20 rfl hl (by decide) rfl (fun ls hl => ?_)
          refine r_iinc (lv' := fun v__ => [(3, .int v__), (2, .int x19), (0, .ref ra1), (1, .int p2)]) hx hb dX6_sum_21 hl (k := 3) rfl (by decide) (fun _ => rfl) ⟨by decide, by decide⟩ (by omega) (by omega) (fun x21 ls e21 hl => ?_)
          refine lv_goto (tgt := 4) hx hb dX6_sum_24 (by decide) ?_
          exact ih4 ls _ _ x19 x21 (by omega) (by omega) hT hS (lv_sub hl [2, 3, 1, 0] rfl)
  exact J4 (((5 - x2.toInt)).toNat + 1) ls _ _ x0 x2 (by omega) (by omega) hT hS (lv_sub hl [2, 3, 1, 0] rfl)
