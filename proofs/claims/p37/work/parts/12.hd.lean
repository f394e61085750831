theorem k_X6_man : cBV yX6_man cX6_man 4 (some .int) 2 := ⟨mw_2_222, mw_2_223, mw_1_1, mw_2_224, ⟨by decide, by decide, by decide⟩⟩
set_option maxHeartbeats 4000000 in
set_option maxRecDepth 100000 in
theorem c_X6_man (l : Launch) (z : Zt) (v : Nat → Nat → Int) (h0 o0 : Nat) (g0 : zG z h0 = (16, o0)) (p1 : Int32) (p2 : Int32) : Met l yX6_man (uw yX6_man cX6_man 4 (some .int)) (rmF 3 109) (PcW z [.ref h0, .int p1, .int p2] (fun H => WX z v H)) (QcI z (fun r H => WX z v H)) 0 0 (zA z) := by
  refine Met.ofW (cc := cX6_man) (maxL := 4) (ret := (some .int)) (by decide) rfl ?_
  intro p e s m args below meth c s₁ B hml hv
  obtain ⟨rfl, hW, hK, hSK⟩ := hv
  have hx := B.exec
  have hb := B.bytes
  have hr := B.returns
  have hts : ∀ w ∈ lw_ok, w.before ([.ref h0, .int p1, .int p2] : List Value).toArray s = true := fun w hw => atoms_spec (ws := uw yX6_man cX6_man 4 (some .int)) B.pre w (List.mem_cons_of_mem _ hw)
  have hown : s.vm.findClass RX6 = some m.cls := findClass_of_methodNamed B.named
  have hlk := B.notSynchronized
  have hC : CallFix p m c cX6_man 4 s ([.ref h0, .int p1, .int p2] : List Value).toArray lw_ok RX6 := ⟨hx, hb, hml, hown, hts⟩
  have hS : va_S (zA z) s.heap s.heap [] := va_S.rf
  have hl := lv_entry ([.ref h0, .int p1, .int p2]) (n := 4) (Nat.le_of_ble_eq_true rfl)
  rw [lg_entry_eq]
  generalize (lg_sl ([.ref h0, .int p1, .int p2]) ++ List.replicate (4 - (lg_sl ([.ref h0, .int p1, .int p2])).length) Slot.unset).toArray = ls at hl ⊢
  have hl : lv_has ls 4 [(0, .ref h0), (1, .int p1), (2, .int p2)] := hl
  show W p l e (rmF 3 109) s m ([.ref h0, .int p1, .int p2] : List Value).toArray below meth c s.heap [] 0 0 (MQ below (QcI z (fun r H => WX z v H)) ([.ref h0, .int p1, .int p2] : List Value).toArray s 0 0 (zA z)) (F0 m 0 ls [])
  obtain ⟨gh, hwf, hvis, hT⟩ := hW
  have mx_p1 := i_mx p1
  have mx_p2 := i_mx p2
  refine lv_aload_n hx hb dX6_man_0 rfl (lv_at hl 0 rfl) ?_
  refine lv_iload_n hx hb dX6_man_1 rfl (lv_at hl 1 rfl) ?_
  refine cl_Vi (rest := []) hC hK hSK (c_X6_isNobody l z gh h0 (o0) g0 p1) k_X6_isNobody mw_2_225 ⟨rfl, rfl, Nat.le_of_ble_eq_true rfl, Nat.le_of_ble_eq_true rfl⟩ (rv_HeelDance hK hT g0) hT rfl hl.1 rfl (Nat.le_of_ble_eq_true rfl) dX6_man_2 ⟨Nat.zero_le _, Nat.zero_le _⟩ hS (fun _ h => h) (fun _ _ h => h) (fun r2 H locs hpo hS => ?_)
  obtain ⟨hT, u2_0, u2_1⟩ := hpo
  refine r_if_eq (tgt := 10) hx hb dX6_man_5 (by decide) (fun c5 => ?_) (fun c5 => ?_)
  · refine lv_aload_n hx hb dX6_man_10 rfl (lv_at hl 0 rfl) ?_
    refine gt_HeelDance_now hx hb hts ic_HeelDance hown hK hT g0 (hts _ mw_2_8) dX6_man_11 (fun q11 hq11 => ?_)
    refine gt_Evening_floor hx hb hts ic_Evening hown hK hT hq11 (hts _ mw_1_91) dX6_man_14 (fun q14 hq14 => ?_)
    refine lv_astore_n (lv' := [(3, .ref q14), (0, .ref h0), (1, .int p1), (2, .int p2)]) hx hb dX6_man_17 rfl hl (by decide) rfl (fun ls hl => ?_)
    refine lv_iload_n hx hb dX6_man_18 rfl (lv_at hl 3 rfl) ?_
    rcases (show p2.toInt = 0 ∨ p2.toInt = 1 ∨ p2.toInt = 2 ∨ p2.toInt = 3 ∨ p2.toInt = 4 ∨ p2.toInt = 5 ∨ p2.toInt = 6 ∨ (p2.toInt < 0 ∨ 6 < p2.toInt) by omega) with c19 | c19 | c19 | c19 | c19 | c19 | c19 | c19
    · refine lv_tableIn (off := 41) (tgt := 60) hx hb dX6_man_19 (by omega) (by omega) (by rw [c19]; rfl) (by decide) ?_
      refine lv_aload_n hx hb dX6_man_60 rfl (lv_at hl 0 rfl) ?_
      refine gt_Floor_kind hx hb hts ic_Floor hown hK hT hq14 (hts _ mw_1_44) dX6_man_61 (fun q61 hq61 => ?_)
      refine lv_iload_n hx hb dX6_man_64 rfl (lv_at hl 2 rfl) ?_
      refine al_20 hx hb hK hT hq61 (by omega) (by omega) dX6_man_65 (fun x65 => ?_)
      exact rt_i hx hb hr hlk hS ⟨_, hwf, hvis, hT⟩ dX6_man_66
    · refine lv_tableIn (off := 48) (tgt := 67) hx hb dX6_man_19 (by omega) (by omega) (by rw [c19]; rfl) (by decide) ?_
      refine lv_aload_n hx hb dX6_man_67 rfl (lv_at hl 0 rfl) ?_
      refine gt_Floor_height hx hb hts ic_Floor hown hK hT hq14 (hts _ mw_1_46) dX6_man_68 (fun q68 hq68 => ?_)
      refine lv_iload_n hx hb dX6_man_71 rfl (lv_at hl 2 rfl) ?_
      refine al_20 hx hb hK hT hq68 (by omega) (by omega) dX6_man_72 (fun x72 => ?_)
      exact rt_i hx hb hr hlk hS ⟨_, hwf, hvis, hT⟩ dX6_man_73
    · refine lv_tableIn (off := 55) (tgt := 74) hx hb dX6_man_19 (by omega) (by omega) (by rw [c19]; rfl) (by decide) ?_
      refine lv_aload_n hx hb dX6_man_74 rfl (lv_at hl 0 rfl) ?_
      refine gt_Floor_heels hx hb hts ic_Floor hown hK hT hq14 (hts _ mw_1_48) dX6_man_75 (fun q75 hq75 => ?_)
      refine lv_iload_n hx hb dX6_man_78 rfl (lv_at hl 2 rfl) ?_
      refine al_20 hx hb hK hT hq75 (by omega) (by omega) dX6_man_79 (fun x79 => ?_)
      exact rt_i hx hb hr hlk hS ⟨_, hwf, hvis, hT⟩ dX6_man_80
    · refine lv_tableIn (off := 62) (tgt := 81) hx hb dX6_man_19 (by omega) (by omega) (by rw [c19]; rfl) (by decide) ?_
      refine lv_aload_n hx hb dX6_man_81 rfl (lv_at hl 0 rfl) ?_
      refine gt_Floor_heat hx hb hts ic_Floor hown hK hT hq14 (hts _ mw_1_50) dX6_man_82 (fun q82 hq82 => ?_)
      refine lv_iload_n hx hb dX6_man_85 rfl (lv_at hl 2 rfl) ?_
      refine al_20 hx hb hK hT hq82 (by omega) (by omega) dX6_man_86 (fun x86 => ?_)
      exact rt_i hx hb hr hlk hS ⟨_, hwf, hvis, hT⟩ dX6_man_87
    · refine lv_tableIn (off := 69) (tgt := 88) hx hb dX6_man_19 (by omega) (by omega) (by rw [c19]; rfl) (by decide) ?_
      refine lv_aload_n hx hb dX6_man_88 rfl (lv_at hl 0 rfl) ?_
      refine lv_iload_n hx hb dX6_man_89 rfl (lv_at hl 2 rfl) ?_
      refine cl_Vi (rest := []) hC hK hSK (c_X1_stature l z gh q14 (1) hq14 p1 (by omega)) k_X1_stature mw_2_229 ⟨rfl, rfl, Nat.le_of_ble_eq_true rfl, Nat.le_of_ble_eq_true rfl⟩ (rv_Floor hK hT hq14) hT rfl hl.1 rfl (Nat.le_of_ble_eq_true rfl) dX6_man_90 ⟨Nat.zero_le _, Nat.zero_le _⟩ hS (fun _ h => h) (fun _ _ h => h) (fun r90 H locs hpo hS => ?_)
      have hT := hpo
      refine r_iconst hx hb dX6_man_93 (by decide) (by decide) (fun x93 e93 => ?_)
      refine w_iadd hx hb dX6_man_94 (fun x94 => ?_)
      exact rt_i hx hb hr hlk hS ⟨_, hwf, hvis, hT⟩ dX6_man_95
    · refine lv_tableIn (off := 77) (tgt := 96) hx hb dX6_man_19 (by omega) (by omega) (by rw [c19]; rfl) (by decide) ?_
      refine lv_aload_n hx hb dX6_man_96 rfl (lv_at hl 0 rfl) ?_
      refine cl_Vv (rest := []) hC hK hSK (c_X1_lineUp l z gh q14 (1) hq14 hwf.2.2) k_X1_lineUp mw_2_233 ⟨rfl, rfl, Nat.le_of_ble_eq_true rfl, Nat.le_of_ble_eq_true rfl⟩ (rv_Floor hK hT hq14) hT rfl hl.1 rfl (Nat.le_of_ble_eq_true rfl) dX6_man_97 ⟨Nat.zero_le _, Nat.zero_le _⟩ hS (fun _ h => h) (fun _ _ h => h) (fun H locs hpo hS => ?_)
      obtain ⟨gh97, hz97, hT, u97_0⟩ := hpo
      have hst97 := hz97.2
      have hz97 := eqv_eq hz97.1
      have hwf := wf_of hz97 hwf
      have hvis := vis_of hz97 hvis
      refine lv_aload_n hx hb dX6_man_100 rfl (lv_at hl 0 rfl) ?_
      refine gt_Floor_rankOf hx hb hts ic_Floor hown hK hT hq14 (hts _ mw_1_59) dX6_man_101 (fun q101 hq101 => ?_)
      refine lv_iload_n hx hb dX6_man_104 rfl (lv_at hl 2 rfl) ?_
      refine al_29 hx hb hK hT hq101 (by omega) (by omega) dX6_man_105 (fun x105 i105 e105 => ?_)
      have n105 := ix_nat (i := p1) (by omega)
      unfold p29 at e105
      exact rt_i hx hb hr hlk hS ⟨_, hwf, hvis, hT⟩ dX6_man_106
    · refine lv_tableIn (off := 88) (tgt := 107) hx hb dX6_man_19 (by omega) (by omega) (by rw [c19]; rfl) (by decide) ?_
      refine lv_aload_n hx hb dX6_man_107 rfl (lv_at hl 0 rfl) ?_
      refine lv_iload_n hx hb dX6_man_108 rfl (lv_at hl 2 rfl) ?_
      refine cl_Vi (rest := []) hC hK hSK (c_X1_womanWith l z gh q14 (1) hq14 p1) k_X1_womanWith mw_3_2 ⟨rfl, rfl, Nat.le_of_ble_eq_true rfl, Nat.le_of_ble_eq_true rfl⟩ (rv_Floor hK hT hq14) hT rfl hl.1 rfl (Nat.le_of_ble_eq_true rfl) dX6_man_109 ⟨Nat.zero_le _, Nat.zero_le _⟩ hS (fun _ h => h) (fun _ _ h => h) (fun r109 H locs hpo hS => ?_)
      have hT := hpo
      exact rt_i hx hb hr hlk hS ⟨_, hwf, hvis, hT⟩ dX6_man_112
    · refine lv_tableOut (tgt := 113) hx hb dX6_man_19 c19 (by decide) ?_
      refine r_iconst hx hb dX6_man_113 (by decide) (by decide) (fun x113 e113 => ?_)
      exact rt_i hx hb hr hlk hS ⟨_, hwf, hvis, hT⟩ dX6_man_114
  · refine r_iconst hx hb dX6_man_8 (by decide) (by decide) (fun x8 e8 => ?_)
    exact rt_i hx hb hr hlk hS ⟨_, hwf, hvis, hT⟩ dX6_man_9
theorem k_X6_at : cBV yX6_at cX6_at 2 (some .int) 1 := ⟨mw_3_11, mw_3_12, mw_1_1, mw_3_13, ⟨by decide, by decide, by decide⟩⟩
set_option maxHeartbeats 4000000 in
set_option maxRecDepth 100000 in
theorem c_X6_at (l : Launch) (z : Zt) (v : Nat → Nat → Int) (h0 o0 : Nat) (g0 : zG z h0 = (16, o0)) (p1 : Int32) : Met l yX6_at (uw yX6_at cX6_at 2 (some .int)) (rmF 3 109) (PcW z [.ref h0, .int p1] (fun H => WX z v H)) (QcI z (fun r H => WX z v H)) 0 0 (zA z) := by
  refine Met.ofW (cc := cX6_at) (maxL := 2) (ret := (some .int)) (by decide) rfl ?_
  intro p e s m args below meth c s₁ B hml hv
  obtain ⟨rfl, hW, hK, hSK⟩ := hv
  have hx := B.exec
  have hb := B.bytes
  have hr := B.returns
  have hts : ∀ w ∈ lw_ok, w.before ([.ref h0, .int p1] : List Value).toArray s = true := fun w hw => atoms_spec (ws := uw yX6_at cX6_at 2 (some .int)) B.pre w (List.mem_cons_of_mem _ hw)
  have hown : s.vm.findClass RX6 = some m.cls := findClass_of_methodNamed B.named
  have hlk := B.notSynchronized
  have hC : CallFix p m c cX6_at 2 s ([.ref h0, .int p1] : List Value).toArray lw_ok RX6 := ⟨hx, hb, hml, hown, hts⟩
  have hS : va_S (zA z) s.heap s.heap [] := va_S.rf
  have hl := lv_entry ([.ref h0, .int p1]) (n := 2) (Nat.le_of_ble_eq_true rfl)
  rw [lg_entry_eq]
  generalize (lg_sl ([.ref h0, .int p1]) ++ List.replicate (2 - (lg_sl ([.ref h0, .int p1])).length) Slot.unset).toArray = ls at hl ⊢
  have hl : lv_has ls 2 [(0, .ref h0), (1, .int p1)] := hl
  show W p l e (rmF 3 109) s m ([.ref h0, .int p1] : List Value).toArray below meth c s.heap [] 0 0 (MQ below (QcI z (fun r H => WX z v H)) ([.ref h0, .int p1] : List Value).toArray s 0 0 (zA z)) (F0 m 0 ls [])
  obtain ⟨gh, hwf, hvis, hT⟩ := hW
  have mx_p1 := i_mx p1
  refine lv_aload_n hx hb dX6_at_0 rfl (lv_at hl 0 rfl) ?_
  refine lv_iload_n hx hb dX6_at_1 rfl (lv_at hl 1 rfl) ?_
  refine cl_Vi (rest := []) hC hK hSK (c_X6_isNobody l z gh h0 (o0) g0 p1) k_X6_isNobody mw_2_225 ⟨rfl, rfl, Nat.le_of_ble_eq_true rfl, Nat.le_of_ble_eq_true rfl⟩ (rv_HeelDance hK hT g0) hT rfl hl.1 rfl (Nat.le_of_ble_eq_true rfl) dX6_at_2 ⟨Nat.zero_le _, Nat.zero_le _⟩ hS (fun _ h => h) (fun _ _ h => h) (fun r2 H locs hpo hS => ?_)
  obtain ⟨hT, u2_0, u2_1⟩ := hpo
  refine r_if_eq (tgt := 10) hx hb dX6_at_5 (by decide) (fun c5 => ?_) (fun c5 => ?_)
  · refine lv_aload_n hx hb dX6_at_10 rfl (lv_at hl 0 rfl) ?_
    refine gt_HeelDance_now hx hb hts ic_HeelDance hown hK hT g0 (hts _ mw_2_8) dX6_at_11 (fun q11 hq11 => ?_)
    refine gt_Evening_floor hx hb hts ic_Evening hown hK hT hq11 (hts _ mw_1_91) dX6_at_14 (fun q14 hq14 => ?_)
    refine cl_Vv (rest := []) hC hK hSK (c_X1_lineUp l z gh q14 (1) hq14 hwf.2.2) k_X1_lineUp mw_2_233 ⟨rfl, rfl, Nat.le_of_ble_eq_true rfl, Nat.le_of_ble_eq_true rfl⟩ (rv_Floor hK hT hq14) hT rfl hl.1 rfl (Nat.le_of_ble_eq_true rfl) dX6_at_17 ⟨Nat.zero_le _, Nat.zero_le _⟩ hS (fun _ h => h) (fun _ _ h => h) (fun H locs hpo hS => ?_)
    obtain ⟨gh17, hz17, hT, u17_0⟩ := hpo
    have hst17 := hz17.2
    have hz17 := eqv_eq hz17.1
    have hwf := wf_of hz17 hwf
    have hvis := vis_of hz17 hvis
    refine lv_aload_n hx hb dX6_at_20 rfl (lv_at hl 0 rfl) ?_
    refine gt_HeelDance_now hx hb hts ic_HeelDance hown hK hT g0 (hts _ mw_2_8) dX6_at_21 (fun q21 hq21 => ?_)
    refine gt_Evening_floor hx hb hts ic_Evening hown hK hT hq21 (hts _ mw_1_91) dX6_at_24 (fun q24 hq24 => ?_)
    refine gt_Floor_byRank hx hb hts ic_Floor hown hK hT hq24 (hts _ mw_1_57) dX6_at_27 (fun q27 hq27 => ?_)
    refine lv_iload_n hx hb dX6_at_30 rfl (lv_at hl 1 rfl) ?_
    refine al_28 hx hb hK hT hq27 (by omega) (by omega) dX6_at_31 (fun x31 i31 e31 => ?_)
    have n31 := ix_nat (i := p1) (by omega)
    unfold p28 at e31
    exact rt_i hx hb hr hlk hS ⟨_, hwf, hvis, hT⟩ dX6_at_32
  · refine r_iconst hx hb dX6_at_8 (by decide) (by decide) (fun x8 e8 => ?_)
    exact rt_i hx hb hr hlk hS ⟨_, hwf, hvis, hT⟩ dX6_at_9
theorem k_X6_dance : cBV yX6_dance cX6_dance 2 (some .int) 1 := ⟨mw_3_52, mw_3_53, mw_1_1, mw_3_54, ⟨by decide, by decide, by decide⟩⟩
set_option maxHeartbeats 4000000 in
set_option maxRecDepth 100000 in
theorem c_X6_dance (l : Launch) (z : Zt) (v : Nat → Nat → Int) (h0 o0 : Nat) (g0 : zG z h0 = (16, o0)) (p1 : Int32) : Met l yX6_dance (uw yX6_dance cX6_dance 2 (some .int)) (rmF 4 130) (PcW z [.ref h0, .int p1] (fun H => WX z v H)) (QcI z (fun r H => WX z v H)) 0 0 (zA z) := by
  refine Met.ofW (cc := cX6_dance) (maxL := 2) (ret := (some .int)) (by decide) rfl ?_
  intro p e s m args below meth c s₁ B hml hv
  obtain ⟨rfl, hW, hK, hSK⟩ := hv
  have hx := B.exec
  have hb := B.bytes
  have hr := B.returns
  have hts : ∀ w ∈ lw_ok, w.before ([.ref h0, .int p1] : List Value).toArray s = true := fun w hw => atoms_spec (ws := uw yX6_dance cX6_dance 2 (some .int)) B.pre w (List.mem_cons_of_mem _ hw)
  have hown : s.vm.findClass RX6 = some m.cls := findClass_of_methodNamed B.named
  have hlk := B.notSynchronized
  have hC : CallFix p m c cX6_dance 2 s ([.ref h0, .int p1] : List Value).toArray lw_ok RX6 := ⟨hx, hb, hml, hown, hts⟩
  have hS : va_S (zA z) s.heap s.heap [] := va_S.rf
  have hl := lv_entry ([.ref h0, .int p1]) (n := 2) (Nat.le_of_ble_eq_true rfl)
  rw [lg_entry_eq]
  generalize (lg_sl ([.ref h0, .int p1]) ++ List.replicate (2 - (lg_sl ([.ref h0, .int p1])).length) Slot.unset).toArray = ls at hl ⊢
  have hl : lv_has ls 2 [(0, .ref h0), (1, .int p1)] := hl
  show W p l e (rmF 4 130) s m ([.ref h0, .int p1] : List Value).toArray below meth c s.heap [] 0 0 (MQ below (QcI z (fun r H => WX z v H)) ([.ref h0, .int p1] : List Value).toArray s 0 0 (zA z)) (F0 m 0 ls [])
  obtain ⟨gh, hwf, hvis, hT⟩ := hW
  have mx_p1 := i_mx p1
  refine lv_iload_n hx hb dX6_dance_0 rfl (lv_at hl 1 rfl) ?_
  refine cl_Si (rest := []) hC hK hSK (c_X6_isFigure l z gh p1) k_X6_isFigure mw_3_43 ⟨rfl, rfl, Nat.le_of_ble_eq_true rfl, Nat.le_of_ble_eq_true rfl⟩ hT rfl hl.1 rfl (Nat.le_of_ble_eq_true rfl) dX6_dance_1 ⟨Nat.zero_le _, Nat.zero_le _⟩ hS (fun _ h => h) (fun _ _ h => h) (fun r1 H locs hpo hS => ?_)
  obtain ⟨hT, u1_0⟩ := hpo
  refine r_if_ne (tgt := 9) hx hb dX6_dance_4 (by decide) (fun c4 => ?_) (fun c4 => ?_)
  · refine lv_aload_n hx hb dX6_dance_9 rfl (lv_at hl 0 rfl) ?_
    refine gt_HeelDance_now hx hb hts ic_HeelDance hown hK hT g0 (hts _ mw_2_8) dX6_dance_10 (fun q10 hq10 => ?_)
    refine gt_Evening_floor hx hb hts ic_Evening hown hK hT hq10 (hts _ mw_1_91) dX6_dance_13 (fun q13 hq13 => ?_)
    refine gt_Floor_men hx hb hts ic_Floor hown hK hT hq13 (hts _ mw_1_62) dX6_dance_16 (fun x16 i16 e16 g16 => ?_)
    refine r_if_ne (tgt := 25) hx hb dX6_dance_19 (by decide) (fun c19 => ?_) (fun c19 => ?_)
    · refine lv_aload_n hx hb dX6_dance_25 rfl (lv_at hl 0 rfl) ?_
      refine gt_HeelDance_now hx hb hts ic_HeelDance hown hK hT g0 (hts _ mw_2_8) dX6_dance_26 (fun q26 hq26 => ?_)
      refine gt_Evening_floor hx hb hts ic_Evening hown hK hT hq26 (hts _ mw_1_91) dX6_dance_29 (fun q29 hq29 => ?_)
      refine lv_iload_n hx hb dX6_dance_32 rfl (lv_at hl 1 rfl) ?_
      refine cl_Vv (rest := []) hC hK hSK (c_X1_step l z gh q29 (1) hq29 p1 (hwf.1 q29 _ hq29) hwf.2.2) k_X1_step mw_3_55 ⟨rfl, rfl, Nat.le_of_ble_eq_true rfl, Nat.le_of_ble_eq_true rfl⟩ (rv_Floor hK hT hq29) hT rfl hl.1 rfl (Nat.le_of_ble_eq_true rfl) dX6_dance_33 ⟨Nat.zero_le _, Nat.zero_le _⟩ hS (fun _ h => h) (fun _ _ h => h) (fun H locs hpo hS => ?_)
      obtain ⟨gh33, hz33, hT⟩ := hpo
      have hst33 := hz33.2
      have hz33 := eqv_eq hz33.1
      have hwf := wf_of hz33 hwf
      have hvis := vis_of hz33 hvis
      refine lv_aload_n hx hb dX6_dance_36 rfl (lv_at hl 0 rfl) ?_
      refine gt_HeelDance_now hx hb hts ic_HeelDance hown hK hT g0 (hts _ mw_2_8) dX6_dance_37 (fun q37 hq37 => ?_)
      refine gt_Evening_floor hx hb hts ic_Evening hown hK hT hq37 (hts _ mw_1_91) dX6_dance_40 (fun q40 hq40 => ?_)
      refine cl_Vi (rest := []) hC hK hSK (c_X1_roundBits l z gh33 q40 (1) hq40) k_X1_roundBits mw_2_217 ⟨rfl, rfl, Nat.le_of_ble_eq_true rfl, Nat.le_of_ble_eq_true rfl⟩ (rv_Floor hK hT hq40) hT rfl hl.1 rfl (Nat.le_of_ble_eq_true rfl) dX6_dance_43 ⟨Nat.zero_le _, Nat.zero_le _⟩ hS (fun _ h => h) (fun _ _ h => h) (fun r43 H locs hpo hS => ?_)
      have hT := hpo
      refine cl_Si (rest := []) hC hK hSK (c_J6_bitCount_0f7a4 l z gh33 r43) k_J6_bitCount_0f7a4 mw_3_79 ⟨rfl, rfl, Nat.le_of_ble_eq_true rfl, Nat.le_of_ble_eq_true rfl⟩ hT rfl hl.1 rfl (Nat.le_of_ble_eq_true rfl) dX6_dance_46 ⟨Nat.zero_le _, Nat.zero_le _⟩ hS (fun _ h => h) (fun _ _ h => h) (fun r46 H locs hpo hS => ?_)
      have hT := hpo
      exact rt_i hx hb hr hlk hS ⟨_, hwf, hvis, hT⟩ dX6_dance_49
    · refine r_bipush hx hb dX6_dance_22 rfl (fun x22 e22 => ?_)
      exact rt_i hx hb hr hlk hS ⟨_, hwf, hvis, hT⟩ dX6_dance_24
  · refine r_iconst hx hb dX6_dance_7 (by decide) (by decide) (fun x7 e7 => ?_)
    exact rt_i hx hb hr hlk hS ⟨_, hwf, hvis, hT⟩ dX6_dance_8
theorem k_X6_walkNow : cBV yX6_walkNow cX6_walkNow 1 none 0 := ⟨mw_3_86, ms_1_1, mw_1_1, mw_3_87, ⟨by decide, by decide, by decide⟩⟩
set_option maxHeartbeats 4000000 in
set_option maxRecDepth 100000 in
theorem c_X6_walkNow (l : Launch) (z : Zt) (v : Nat → Nat → Int) (h0 o0 : Nat) (g0 : zG z h0 = (16, o0)) : Met l yX6_walkNow (uw yX6_walkNow cX6_walkNow 1 none) (rmF 5 151) (PcW z [.ref h0] (fun H => WX z v H)) (QcV z (fun H => WX z v H)) 0 0 (zA z) := by
  refine Met.ofW (cc := cX6_walkNow) (maxL := 1) (ret := none) (by decide) rfl ?_
  intro p e s m args below meth c s₁ B hml hv
  obtain ⟨rfl, hW, hK, hSK⟩ := hv
  have hx := B.exec
  have hb := B.bytes
  have hr := B.returns
  have hts : ∀ w ∈ lw_ok, w.before ([.ref h0] : List Value).toArray s = true := fun w hw => atoms_spec (ws := uw yX6_walkNow cX6_walkNow 1 none) B.pre w (List.mem_cons_of_mem _ hw)
  have hown : s.vm.findClass RX6 = some m.cls := findClass_of_methodNamed B.named
  have hlk := B.notSynchronized
  have hC : CallFix p m c cX6_walkNow 1 s ([.ref h0] : List Value).toArray lw_ok RX6 := ⟨hx, hb, hml, hown, hts⟩
  have hS : va_S (zA z) s.heap s.heap [] := va_S.rf
  have hl := lv_entry ([.ref h0]) (n := 1) (Nat.le_of_ble_eq_true rfl)
  rw [lg_entry_eq]
  generalize (lg_sl ([.ref h0]) ++ List.replicate (1 - (lg_sl ([.ref h0])).length) Slot.unset).toArray = ls at hl ⊢
  have hl : lv_has ls 1 [(0, .ref h0)] := hl
  show W p l e (rmF 5 151) s m ([.ref h0] : List Value).toArray below meth c s.heap [] 0 0 (MQ below (QcV z (fun H => WX z v H)) ([.ref h0] : List Value).toArray s 0 0 (zA z)) (F0 m 0 ls [])
  obtain ⟨gh, hwf, hvis, hT⟩ := hW
  refine lv_aload_n hx hb dX6_walkNow_0 rfl (lv_at hl 0 rfl) ?_
  refine gt_HeelDance_walk hx hb hts ic_HeelDance hown hK hT g0 (hts _ mw_2_11) dX6_walkNow_1 (fun q1 hq1 => ?_)
  refine gt_Walk_floor hx hb hts ic_Walk hown hK hT hq1 (hts _ mw_1_177) dX6_walkNow_4 (fun q4 hq4 => ?_)
  refine lv_aload_n hx hb dX6_walkNow_7 rfl (lv_at hl 0 rfl) ?_
  refine gt_HeelDance_now hx hb hts ic_HeelDance hown hK hT g0 (hts _ mw_2_8) dX6_walkNow_8 (fun q8 hq8 => ?_)
  refine gt_Evening_floor hx hb hts ic_Evening hown hK hT hq8 (hts _ mw_1_91) dX6_walkNow_11 (fun q11 hq11 => ?_)
  refine cl_Vv (rest := []) hC hK hSK (c_X1_copyFrom l z v q4 (5) hq4 q11 (1) hq11 (fun q9 => by have h9 := hq4; rw [q9, hq11] at h9; have h8 := congrArg Prod.snd h9; dsimp only at h8; omega)) k_X1_copyFrom mw_3_88 ⟨rfl, rfl, Nat.le_of_ble_eq_true rfl, Nat.le_of_ble_eq_true rfl⟩ (rv_Floor hK hT hq4) ⟨_, hwf, hvis, hT⟩ rfl hl.1 rfl (Nat.le_of_ble_eq_true rfl) dX6_walkNow_14 ⟨Nat.zero_le _, Nat.zero_le _⟩ hS (fun _ h => h) (fun _ _ h => h) (fun H locs hpo hS => ?_)
  obtain ⟨gh14, hwf, hvis, hT⟩ := hpo
  refine lv_aload_n hx hb dX6_walkNow_17 rfl (lv_at hl 0 rfl) ?_
  refine gt_HeelDance_walk hx hb hts ic_HeelDance hown hK hT g0 (hts _ mw_2_11) dX6_walkNow_18 (fun q18 hq18 => ?_)
  refine lv_aload_n hx hb dX6_walkNow_21 rfl (lv_at hl 0 rfl) ?_
  refine gt_HeelDance_now hx hb hts ic_HeelDance hown hK hT g0 (hts _ mw_2_8) dX6_walkNow_22 (fun q22 hq22 => ?_)
  refine cl_Vv (rest := []) hC hK hSK (c_X5_follow l z v q18 (0) hq18 q22 (1) hq22) k_X5_follow mw_3_89 ⟨rfl, rfl, Nat.le_of_ble_eq_true rfl, Nat.le_of_ble_eq_true rfl⟩ (rv_Walk hK hT hq18) ⟨_, hwf, hvis, hT⟩ rfl hl.1 rfl (Nat.le_of_ble_eq_true rfl) dX6_walkNow_25 ⟨Nat.zero_le _, Nat.zero_le _⟩ hS (fun _ h => h) (fun _ _ h => h) (fun H locs hpo hS => ?_)
  obtain ⟨gh25, hwf, hvis, hT⟩ := hpo
  exact rt_v hx hb hr hlk hS ⟨_, hwf, hvis, hT⟩ dX6_walkNow_28
theorem k_X6_walkIsAsSeen : cBV yX6_walkIsAsSeen cX6_walkIsAsSeen 2 (some .boolean) 0 := ⟨mw_3_230, ms_1_11, mw_1_1, mw_3_231, ⟨by decide, by decide, by decide⟩⟩
set_option maxHeartbeats 4000000 in
set_option maxRecDepth 100000 in
theorem c_X6_walkIsAsSeen (l : Launch) (z : Zt) (v : Nat → Nat → Int) (h0 o0 : Nat) (g0 : zG z h0 = (16, o0)) : Met l yX6_walkIsAsSeen (uw yX6_walkIsAsSeen cX6_walkIsAsSeen 2 (some .boolean)) (rmF 5 151) (PcW z [.ref h0] (fun H => WX z v H)) (QcI z (fun r H => WX z v H ∧ (0 ≤ r.toInt ∧ r.toInt ≤ 1))) 0 0 (zA z) := by
  refine Met.ofW (cc := cX6_walkIsAsSeen) (maxL := 2) (ret := (some .boolean)) (by decide) rfl ?_
  intro p e s m args below meth c s₁ B hml hv
  obtain ⟨rfl, hW, hK, hSK⟩ := hv
  have hx := B.exec
  have hb := B.bytes
  have hr := B.returns
  have hts : ∀ w ∈ lw_ok, w.before ([.ref h0] : List Value).toArray s = true := fun w hw => atoms_spec (ws := uw yX6_walkIsAsSeen cX6_walkIsAsSeen 2 (some .boolean)) B.pre w (List.mem_cons_of_mem _ hw)
  have hown : s.vm.findClass RX6 = some m.cls := findClass_of_methodNamed B.named
  have hlk := B.notSynchronized
  have hC : CallFix p m c cX6_walkIsAsSeen 2 s ([.ref h0] : List Value).toArray lw_ok RX6 := ⟨hx, hb, hml, hown, hts⟩
  have hS : va_S (zA z) s.heap s.heap [] := va_S.rf
  have hl := lv_entry ([.ref h0]) (n := 2) (Nat.le_of_ble_eq_true rfl)
  rw [lg_entry_eq]
  generalize (lg_sl ([.ref h0]) ++ List.replicate (2 - (lg_sl ([.ref h0])).length) Slot.unset).toArray = ls at hl ⊢
  have hl : lv_has ls 2 [(0, .ref h0)] := hl
  show W p l e (rmF 5 151) s m ([.ref h0] : List Value).toArray below meth c s.heap [] 0 0 (MQ below (QcI z (fun r H => WX z v H ∧ (0 ≤ r.toInt ∧ r.toInt ≤ 1))) ([.ref h0] : List Value).toArray s 0 0 (zA z)) (F0 m 0 ls [])
  obtain ⟨gh, hwf, hvis, hT⟩ := hW
  refine lv_aload_n hx hb dX6_walkIsAsSeen_0 rfl (lv_at hl 0 rfl) ?_
  refine gt_HeelDance_walk hx hb hts ic_HeelDance hown hK hT g0 (hts _ mw_2_11) dX6_walkIsAsSeen_1 (fun q1 hq1 => ?_)
  refine lv_aload_n hx hb dX6_walkIsAsSeen_4 rfl (lv_at hl 0 rfl) ?_
  refine gt_HeelDance_now hx hb hts ic_HeelDance hown hK hT g0 (hts _ mw_2_8) dX6_walkIsAsSeen_5 (fun q5 hq5 => ?_)
  refine cl_Vv (rest := []) hC hK hSK (c_X5_follow l z v q1 (0) hq1 q5 (1) hq5) k_X5_follow mw_3_89 ⟨rfl, rfl, Nat.le_of_ble_eq_true rfl, Nat.le_of_ble_eq_true rfl⟩ (rv_Walk hK hT hq1) ⟨_, hwf, hvis, hT⟩ rfl hl.1 rfl (Nat.le_of_ble_eq_true rfl) dX6_walkIsAsSeen_8 ⟨Nat.zero_le _, Nat.zero_le _⟩ hS (fun _ h => h) (fun _ _ h => h) (fun H locs hpo hS => ?_)
  obtain ⟨gh8, hwf, hvis, hT⟩ := hpo
  refine r_iconst hx hb dX6_walkIsAsSeen_11 (by decide) (by decide) (fun x11 e11 => ?_)
  refine lv_istore_n (lv' := [(1, .int x11), (0, .ref h0)]) hx hb dX6_walkIsAsSeen_12 rfl hl (by decide) rfl (fun ls hl => ?_)
  have J13 : ∀ (n13 : Nat) (ls : Array Slot) (H : Heap) (locs : List Loc) (y13_1 : Int32) (gh : Gh), (0 ≤ y13_1.toInt ∧ y13_1.toInt ≤ 6) → (6 - y13_1.toInt) < (n13 : Int) → wf z gh → vis z gh v → TY z (zA z) gh H → va_S (zA z) s.heap H locs → lv_has ls 2 [(0, .ref h0), (1, .int y13_1)] → W p l e (rmF 5 151) s m ([.ref h0] : List Value).toArray below meth c H locs 0 0 (MQ below (QcI z (fun r H => WX z v H ∧ (0 ≤ r.toInt ∧ r.toInt ≤ 1))) ([.ref h0] : List Value).toArray s 0 0 (zA z)) (F0 m 13 ls []) := by
    intro n13
    induction n13 with
    | zero => intro ls H locs y13_1 gh j13_y13_1 mm13 hwf hvis hT hS hl; exfalso; omega
    | succ n13 ih13 =>
      intro ls H locs y13_1 gh j13_y13_1 mm13 hwf hvis hT hS hl
      refine lv_iload_n hx hb dX6_walkIsAsSeen_13 rfl (lv_at hl 1 rfl) ?_
      refine lv_aload_n hx hb dX6_walkIsAsSeen_14 rfl (lv_at hl 0 rfl) ?_
      refine gt_HeelDance_now hx hb hts ic_HeelDance hown hK hT g0 (hts _ mw_2_8) dX6_walkIsAsSeen_15 (fun q15 hq15 => ?_)
      refine gt_Evening_seen hx hb hts ic_Evening hown hK hT hq15 (hts _ mw_1_111) dX6_walkIsAsSeen_18 (fun x18 i18 e18 g18 => ?_)
      refine r_icmp_ge (tgt := 69) hx hb dX6_walkIsAsSeen_21 (by decide) (fun c21 => ?_) (fun c21 => ?_)
      · refine r_iconst hx hb dX6_walkIsAsSeen_69 (by decide) (by decide) (fun x69 e69 => ?_)
        exact rt_z hx hb hr hlk hS (by omega) (by omega) ⟨⟨_, hwf, hvis, hT⟩, by omega⟩ dX6_walkIsAsSeen_70
      · refine lv_aload_n hx hb dX6_walkIsAsSeen_24 rfl (lv_at hl 0 rfl) ?_
        refine gt_HeelDance_walk hx hb hts ic_HeelDance hown hK hT g0 (hts _ mw_2_11) dX6_walkIsAsSeen_25 (fun q25 hq25 => ?_)
        refine lv_aload_n hx hb dX6_walkIsAsSeen_28 rfl (lv_at hl 0 rfl) ?_
        refine gt_HeelDance_now hx hb hts ic_HeelDance hown hK hT g0 (hts _ mw_2_8) dX6_walkIsAsSeen_29 (fun q29 hq29 => ?_)
        refine gt_Evening_seenWoman hx hb hts ic_Evening hown hK hT hq29 (hts _ mw_1_101) dX6_walkIsAsSeen_32 (fun q32 hq32 => ?_)
        refine lv_iload_n hx hb dX6_walkIsAsSeen_35 rfl (lv_at hl 1 rfl) ?_
        refine al_25 hx hb hK hT hq32 (by omega) (by omega) dX6_walkIsAsSeen_36 (fun x36 e36 => ?_)
        have n36 := ix_nat (i := y13_1) (by omega)
        unfold p25 at e36
        refine lv_aload_n hx hb dX6_walkIsAsSeen_37 rfl (lv_at hl 0 rfl) ?_
        refine gt_HeelDance_now hx hb hts ic_HeelDance hown hK hT g0 (hts _ mw_2_8) dX6_walkIsAsSeen_38 (fun q38 hq38 => ?_)
        refine gt_Evening_seenBehind hx hb hts ic_Evening hown hK hT hq38 (hts _ mw_1_103) dX6_walkIsAsSeen_41 (fun q41 hq41 => ?_)
        refine lv_iload_n hx hb dX6_walkIsAsSeen_44 rfl (lv_at hl 1 rfl) ?_
        refine al_26 hx hb hK hT hq41 (by omega) (by omega) dX6_walkIsAsSeen_45 (fun x45 e45 => ?_)
        have n45 := ix_nat (i := y13_1) (by omega)
        unfold p26 at e45
        refine cl_Vi (rest := []) hC hK hSK (c_X5_partnerBehind l z gh q25 (0) hq25 x36 x45 (by omega) (by omega)) k_X5_partnerBehind mw_3_107 ⟨rfl, rfl, Nat.le_of_ble_eq_true rfl, Nat.le_of_ble_eq_true rfl⟩ (rv_Walk hK hT hq25) hT rfl hl.1 rfl (Nat.le_of_ble_eq_true rfl) dX6_walkIsAsSeen_46 ⟨Nat.zero_le _, Nat.zero_le _⟩ hS (fun _ h => h) (fun _ _ h => h) (fun r46 H locs hpo hS => ?_)
        have hT := hpo
        refine lv_aload_n hx hb dX6_walkIsAsSeen_49 rfl (lv_at hl 0 rfl) ?_
        refine gt_HeelDance_now hx hb hts ic_HeelDance hown hK hT g0 (hts _ mw_2_8) dX6_walkIsAsSeen_50 (fun q50 hq50 => ?_)
        refine gt_Evening_seenMan hx hb hts ic_Evening hown hK hT hq50 (hts _ mw_1_105) dX6_walkIsAsSeen_53 (fun q53 hq53 => ?_)
        refine lv_iload_n hx hb dX6_walkIsAsSeen_56 rfl (lv_at hl 1 rfl) ?_
        refine al_22 hx hb hK hT hq53 (by omega) (by omega) dX6_walkIsAsSeen_57 (fun x57 => ?_)
        refine r_icmp_eq (tgt := 63) hx hb dX6_walkIsAsSeen_58 (by decide) (fun c58 => ?_) (fun c58 => ?_)
        · refine r_iinc (lv' := fun v__ => [(1, .int v__), (0, .ref h0)]) hx hb dX6_walkIsAsSeen_63 hl (k := 1) rfl (by decide) (fun _ => rfl) ⟨by decide, by decide⟩ (by omega) (by omega) (fun x63 ls e63 hl => ?_)
          refine lv_goto (tgt := 13) hx hb dX6_walkIsAsSeen_66 (by decide) ?_
          exact ih13 ls _ _ x63 _ (by omega) (by omega) hwf hvis hT hS (lv_sub hl [1, 0] rfl)
        · refine r_iconst hx hb dX6_walkIsAsSeen_61 (by decide) (by decide) (fun x61 e61 => ?_)
          exact rt_z hx hb hr hlk hS (by omega) (by omega) ⟨⟨_, hwf, hvis, hT⟩, by omega⟩ dX6_walkIsAsSeen_62
  exact J13 (((6 - x11.toInt)).toNat + 1) ls _ _ x11 _ (by omega) (by omega) hwf hvis hT hS (lv_sub hl [1, 0] rfl)
theorem k_X6_runs : cBV yX6_runs cX6_runs 2 (some .int) 1 := ⟨mw_3_81, mw_3_82, mw_1_1, mw_3_83, ⟨by decide, by decide, by decide⟩⟩
set_option maxHeartbeats 4000000 in
set_option maxRecDepth 100000 in
theorem c_X6_runs (l : Launch) (z : Zt) (v : Nat → Nat → Int) (h0 o0 : Nat) (g0 : zG z h0 = (16, o0)) (p1 : Int32) : Met l yX6_runs (uw yX6_runs cX6_runs 2 (some .int)) (rmF 6 171) (PcW z [.ref h0, .int p1] (fun H => WX z v H)) (QcI z (fun r H => WX z v H)) 0 0 (zA z) := by
  refine Met.ofW (cc := cX6_runs) (maxL := 2) (ret := (some .int)) (by decide) rfl ?_
  intro p e s m args below meth c s₁ B hml hv
  obtain ⟨rfl, hW, hK, hSK⟩ := hv
  have hx := B.exec
  have hb := B.bytes
  have hr := B.returns
  have hts : ∀ w ∈ lw_ok, w.before ([.ref h0, .int p1] : List Value).toArray s = true := fun w hw => atoms_spec (ws := uw yX6_runs cX6_runs 2 (some .int)) B.pre w (List.mem_cons_of_mem _ hw)
  have hown : s.vm.findClass RX6 = some m.cls := findClass_of_methodNamed B.named
  have hlk := B.notSynchronized
  have hC : CallFix p m c cX6_runs 2 s ([.ref h0, .int p1] : List Value).toArray lw_ok RX6 := ⟨hx, hb, hml, hown, hts⟩
  have hS : va_S (zA z) s.heap s.heap [] := va_S.rf
  have hl := lv_entry ([.ref h0, .int p1]) (n := 2) (Nat.le_of_ble_eq_true rfl)
  rw [lg_entry_eq]
  generalize (lg_sl ([.ref h0, .int p1]) ++ List.replicate (2 - (lg_sl ([.ref h0, .int p1])).length) Slot.unset).toArray = ls at hl ⊢
  have hl : lv_has ls 2 [(0, .ref h0), (1, .int p1)] := hl
  show W p l e (rmF 6 171) s m ([.ref h0, .int p1] : List Value).toArray below meth c s.heap [] 0 0 (MQ below (QcI z (fun r H => WX z v H)) ([.ref h0, .int p1] : List Value).toArray s 0 0 (zA z)) (F0 m 0 ls [])
  obtain ⟨gh, hwf, hvis, hT⟩ := hW
  have mx_p1 := i_mx p1
  refine lv_iload_n hx hb dX6_runs_0 rfl (lv_at hl 1 rfl) ?_
  refine r_if_lt (tgt := 9) hx hb dX6_runs_1 (by decide) (fun c1 => ?_) (fun c1 => ?_)
  · refine r_iconst hx hb dX6_runs_9 (by decide) (by decide) (fun x9 e9 => ?_)
    exact rt_i hx hb hr hlk hS ⟨_, hwf, hvis, hT⟩ dX6_runs_10
  · refine lv_iload_n hx hb dX6_runs_4 rfl (lv_at hl 1 rfl) ?_
    refine r_iconst hx hb dX6_runs_5 (by decide) (by decide) (fun x5 e5 => ?_)
    refine r_icmp_le (tgt := 11) hx hb dX6_runs_6 (by decide) (fun c6 => ?_) (fun c6 => ?_)
    · refine lv_aload_n hx hb dX6_runs_11 rfl (lv_at hl 0 rfl) ?_
      refine cl_Vv (rest := []) hC hK hSK (c_X6_walkNow l z v h0 (o0) g0) k_X6_walkNow mw_3_84 ⟨rfl, rfl, Nat.le_of_ble_eq_true rfl, Nat.le_of_ble_eq_true rfl⟩ (rv_HeelDance hK hT g0) ⟨_, hwf, hvis, hT⟩ rfl hl.1 rfl (Nat.le_of_ble_eq_true rfl) dX6_runs_12 ⟨Nat.zero_le _, Nat.zero_le _⟩ hS (fun _ h => h) (fun _ _ h => h) (fun H locs hpo hS => ?_)
      obtain ⟨gh12, hwf, hvis, hT⟩ := hpo
      refine lv_iload_n hx hb dX6_runs_15 rfl (lv_at hl 1 rfl) ?_
      rcases (show p1.toInt = 0 ∨ p1.toInt = 1 ∨ p1.toInt = 2 ∨ p1.toInt = 3 ∨ (p1.toInt < 0 ∨ 3 < p1.toInt) by omega) with c16 | c16 | c16 | c16 | c16
      · refine lv_tableIn (off := 32) (tgt := 48) hx hb dX6_runs_16 (by omega) (by omega) (by rw [c16]; rfl) (by decide) ?_
        refine lv_aload_n hx hb dX6_runs_48 rfl (lv_at hl 0 rfl) ?_
        refine gt_HeelDance_walk hx hb hts ic_HeelDance hown hK hT g0 (hts _ mw_2_11) dX6_runs_49 (fun q49 hq49 => ?_)
        refine gt_Walk_floor hx hb hts ic_Walk hown hK hT hq49 (hts _ mw_1_177) dX6_runs_52 (fun q52 hq52 => ?_)
        refine cl_Vi (rest := []) hC hK hSK (c_X1_roundBits l z gh12 q52 (5) hq52) k_X1_roundBits mw_2_217 ⟨rfl, rfl, Nat.le_of_ble_eq_true rfl, Nat.le_of_ble_eq_true rfl⟩ (rv_Floor hK hT hq52) hT rfl hl.1 rfl (Nat.le_of_ble_eq_true rfl) dX6_runs_55 ⟨Nat.zero_le _, Nat.zero_le _⟩ hS (fun _ h => h) (fun _ _ h => h) (fun r55 H locs hpo hS => ?_)
        have hT := hpo
        refine cl_Si (rest := []) hC hK hSK (c_J6_bitCount_0f7a4 l z gh12 r55) k_J6_bitCount_0f7a4 mw_3_79 ⟨rfl, rfl, Nat.le_of_ble_eq_true rfl, Nat.le_of_ble_eq_true rfl⟩ hT rfl hl.1 rfl (Nat.le_of_ble_eq_true rfl) dX6_runs_58 ⟨Nat.zero_le _, Nat.zero_le _⟩ hS (fun _ h => h) (fun _ _ h => h) (fun r58 H locs hpo hS => ?_)
        have hT := hpo
        exact rt_i hx hb hr hlk hS ⟨_, hwf, hvis, hT⟩ dX6_runs_61
      · refine lv_tableIn (off := 46) (tgt := 62) hx hb dX6_runs_16 (by omega) (by omega) (by rw [c16]; rfl) (by decide) ?_
        refine lv_aload_n hx hb dX6_runs_62 rfl (lv_at hl 0 rfl) ?_
        refine gt_HeelDance_walk hx hb hts ic_HeelDance hown hK hT g0 (hts _ mw_2_11) dX6_runs_63 (fun q63 hq63 => ?_)
        refine gt_Walk_floor hx hb hts ic_Walk hown hK hT hq63 (hts _ mw_1_177) dX6_runs_66 (fun q66 hq66 => ?_)
        refine cl_Vi (rest := []) hC hK hSK (c_X1_roundBits l z gh12 q66 (5) hq66) k_X1_roundBits mw_2_217 ⟨rfl, rfl, Nat.le_of_ble_eq_true rfl, Nat.le_of_ble_eq_true rfl⟩ (rv_Floor hK hT hq66) hT rfl hl.1 rfl (Nat.le_of_ble_eq_true rfl) dX6_runs_69 ⟨Nat.zero_le _, Nat.zero_le _⟩ hS (fun _ h => h) (fun _ _ h => h) (fun r69 H locs hpo hS => ?_)
        have hT := hpo
        exact rt_i hx hb hr hlk hS ⟨_, hwf, hvis, hT⟩ dX6_runs_72
      · refine lv_tableIn (off := 57) (tgt := 73) hx hb dX6_runs_16 (by omega) (by omega) (by rw [c16]; rfl) (by decide) ?_
        refine lv_aload_n hx hb dX6_runs_73 rfl (lv_at hl 0 rfl) ?_
        refine cl_Vi (rest := []) hC hK hSK (c_X6_allMeetings l z gh12 h0 (o0) g0) k_X6_allMeetings mw_3_99 ⟨rfl, rfl, Nat.le_of_ble_eq_true rfl, Nat.le_of_ble_eq_true rfl⟩ (rv_HeelDance hK hT g0) hT rfl hl.1 rfl (Nat.le_of_ble_eq_true rfl) dX6_runs_74 ⟨Nat.zero_le _, Nat.zero_le _⟩ hS (fun _ h => h) (fun _ _ h => h) (fun r74 H locs hpo hS => ?_)
        have hT := hpo
        exact rt_i hx hb hr hlk hS ⟨_, hwf, hvis, hT⟩ dX6_runs_77
      · refine lv_tableIn (off := 62) (tgt := 78) hx hb dX6_runs_16 (by omega) (by omega) (by rw [c16]; rfl) (by decide) ?_
        refine lv_aload_n hx hb dX6_runs_78 rfl (lv_at hl 0 rfl) ?_
        refine cl_Vi (rest := []) hC hK hSK (c_X6_firstMeeting l z gh12 h0 (o0) g0) k_X6_firstMeeting mw_3_112 ⟨rfl, rfl, Nat.le_of_ble_eq_true rfl, Nat.le_of_ble_eq_true rfl⟩ (rv_HeelDance hK hT g0) hT rfl hl.1 rfl (Nat.le_of_ble_eq_true rfl) dX6_runs_79 ⟨Nat.zero_le _, Nat.zero_le _⟩ hS (fun _ h => h) (fun _ _ h => h) (fun r79 H locs hpo hS => ?_)
        have hT := hpo
        exact rt_i hx hb hr hlk hS ⟨_, hwf, hvis, hT⟩ dX6_runs_82
      · refine lv_tableOut (tgt := 83) hx hb dX6_runs_16 c16 (by decide) ?_
        refine lv_aload_n hx hb dX6_runs_83 rfl (lv_at hl 0 rfl) ?_
        refine gt_HeelDance_walk hx hb hts ic_HeelDance hown hK hT g0 (hts _ mw_2_11) dX6_runs_84 (fun q84 hq84 => ?_)
        refine gt_Walk_floor hx hb hts ic_Walk hown hK hT hq84 (hts _ mw_1_177) dX6_runs_87 (fun q87 hq87 => ?_)
        refine gt_Floor_heels hx hb hts ic_Floor hown hK hT hq87 (hts _ mw_1_48) dX6_runs_90 (fun q90 hq90 => ?_)
        refine lv_aload_n hx hb dX6_runs_93 rfl (lv_at hl 0 rfl) ?_
        refine gt_HeelDance_walk hx hb hts ic_HeelDance hown hK hT g0 (hts _ mw_2_11) dX6_runs_94 (fun q94 hq94 => ?_)
        refine gt_Walk_floor hx hb hts ic_Walk hown hK hT hq94 (hts _ mw_1_177) dX6_runs_97 (fun q97 hq97 => ?_)
        refine gt_Floor_men hx hb hts ic_Floor hown hK hT hq97 (hts _ mw_1_62) dX6_runs_100 (fun x100 i100 e100 g100 => ?_)
        refine cl_Si (rest := []) hC hK hSK (c_X6_sum l z gh12 q90 (q87) hq90 x100) k_X6_sum mw_3_116 ⟨rfl, rfl, Nat.le_of_ble_eq_true rfl, Nat.le_of_ble_eq_true rfl⟩ hT rfl hl.1 rfl (Nat.le_of_ble_eq_true rfl) dX6_runs_103 ⟨Nat.zero_le _, Nat.zero_le _⟩ hS (fun _ h => h) (fun _ _ h => h) (fun r103 H locs hpo hS => ?_)
        have hT := hpo
        exact rt_i hx hb hr hlk hS ⟨_, hwf, hvis, hT⟩ dX6_runs_106
    · refine r_iconst hx hb dX6_runs_9 (by decide) (by decide) (fun x9 e9 => ?_)
      exact rt_i hx hb hr hlk hS ⟨_, hwf, hvis, hT⟩ dX6_runs_10
theorem k_X6_ahead : cBV yX6_ahead cX6_ahead 3 (some .int) 2 := ⟨mw_3_120, mw_3_121, mw_1_1, mw_3_122, ⟨by decide, by decide, by decide⟩⟩
set_option maxHeartbeats 4000000 in
set_option maxRecDepth 100000 in
theorem c_X6_ahead (l : Launch) (z : Zt) (v : Nat → Nat → Int) (h0 o0 : Nat) (g0 : zG z h0 = (16, o0)) (p1 : Int32) (p2 : Int32) : Met l yX6_ahead (uw yX6_ahead cX6_ahead 3 (some .int)) (rmF 6 171) (PcW z [.ref h0, .int p1, .int p2] (fun H => WX z v H)) (QcI z (fun r H => WX z v H)) 0 0 (zA z) := by
  refine Met.ofW (cc := cX6_ahead) (maxL := 3) (ret := (some .int)) (by decide) rfl ?_
  intro p e s m args below meth c s₁ B hml hv
  obtain ⟨rfl, hW, hK, hSK⟩ := hv
  have hx := B.exec
  have hb := B.bytes
  have hr := B.returns
  have hts : ∀ w ∈ lw_ok, w.before ([.ref h0, .int p1, .int p2] : List Value).toArray s = true := fun w hw => atoms_spec (ws := uw yX6_ahead cX6_ahead 3 (some .int)) B.pre w (List.mem_cons_of_mem _ hw)
  have hown : s.vm.findClass RX6 = some m.cls := findClass_of_methodNamed B.named
  have hlk := B.notSynchronized
  have hC : CallFix p m c cX6_ahead 3 s ([.ref h0, .int p1, .int p2] : List Value).toArray lw_ok RX6 := ⟨hx, hb, hml, hown, hts⟩
  have hS : va_S (zA z) s.heap s.heap [] := va_S.rf
  have hl := lv_entry ([.ref h0, .int p1, .int p2]) (n := 3) (Nat.le_of_ble_eq_true rfl)
  rw [lg_entry_eq]
  generalize (lg_sl ([.ref h0, .int p1, .int p2]) ++ List.replicate (3 - (lg_sl ([.ref h0, .int p1, .int p2])).length) Slot.unset).toArray = ls at hl ⊢
  have hl : lv_has ls 3 [(0, .ref h0), (1, .int p1), (2, .int p2)] := hl
  show W p l e (rmF 6 171) s m ([.ref h0, .int p1, .int p2] : List Value).toArray below meth c s.heap [] 0 0 (MQ below (QcI z (fun r H => WX z v H)) ([.ref h0, .int p1, .int p2] : List Value).toArray s 0 0 (zA z)) (F0 m 0 ls [])
  obtain ⟨gh, hwf, hvis, hT⟩ := hW
  have mx_p1 := i_mx p1
  have mx_p2 := i_mx p2
  refine lv_aload_n hx hb dX6_ahead_0 rfl (lv_at hl 0 rfl) ?_
  refine lv_iload_n hx hb dX6_ahead_1 rfl (lv_at hl 1 rfl) ?_
  refine cl_Vi (rest := []) hC hK hSK (c_X6_isNobody l z gh h0 (o0) g0 p1) k_X6_isNobody mw_2_225 ⟨rfl, rfl, Nat.le_of_ble_eq_true rfl, Nat.le_of_ble_eq_true rfl⟩ (rv_HeelDance hK hT g0) hT rfl hl.1 rfl (Nat.le_of_ble_eq_true rfl) dX6_ahead_2 ⟨Nat.zero_le _, Nat.zero_le _⟩ hS (fun _ h => h) (fun _ _ h => h) (fun r2 H locs hpo hS => ?_)
  obtain ⟨hT, u2_0, u2_1⟩ := hpo
  refine r_if_ne (tgt := 18) hx hb dX6_ahead_5 (by decide) (fun c5 => ?_) (fun c5 => ?_)
  · refine r_iconst hx hb dX6_ahead_18 (by decide) (by decide) (fun x18 e18 => ?_)
    exact rt_i hx hb hr hlk hS ⟨_, hwf, hvis, hT⟩ dX6_ahead_19
  · refine lv_iload_n hx hb dX6_ahead_8 rfl (lv_at hl 2 rfl) ?_
    refine r_if_lt (tgt := 18) hx hb dX6_ahead_9 (by decide) (fun c9 => ?_) (fun c9 => ?_)
    · refine r_iconst hx hb dX6_ahead_18 (by decide) (by decide) (fun x18 e18 => ?_)
      exact rt_i hx hb hr hlk hS ⟨_, hwf, hvis, hT⟩ dX6_ahead_19
    · refine lv_iload_n hx hb dX6_ahead_12 rfl (lv_at hl 2 rfl) ?_
      refine r_bipush hx hb dX6_ahead_13 rfl (fun x13 e13 => ?_)
      refine r_icmp_le (tgt := 20) hx hb dX6_ahead_15 (by decide) (fun c15 => ?_) (fun c15 => ?_)
      · refine lv_aload_n hx hb dX6_ahead_20 rfl (lv_at hl 0 rfl) ?_
        refine cl_Vv (rest := []) hC hK hSK (c_X6_walkNow l z v h0 (o0) g0) k_X6_walkNow mw_3_84 ⟨rfl, rfl, Nat.le_of_ble_eq_true rfl, Nat.le_of_ble_eq_true rfl⟩ (rv_HeelDance hK hT g0) ⟨_, hwf, hvis, hT⟩ rfl hl.1 rfl (Nat.le_of_ble_eq_true rfl) dX6_ahead_21 ⟨Nat.zero_le _, Nat.zero_le _⟩ hS (fun _ h => h) (fun _ _ h => h) (fun H locs hpo hS => ?_)
        obtain ⟨gh21, hwf, hvis, hT⟩ := hpo
        refine lv_aload_n hx hb dX6_ahead_24 rfl (lv_at hl 0 rfl) ?_
        refine gt_HeelDance_walk hx hb hts ic_HeelDance hown hK hT g0 (hts _ mw_2_11) dX6_ahead_25 (fun q25 hq25 => ?_)
        refine lv_iload_n hx hb dX6_ahead_28 rfl (lv_at hl 1 rfl) ?_
        refine lv_iload_n hx hb dX6_ahead_29 rfl (lv_at hl 2 rfl) ?_
        refine cl_Vi (rest := []) hC hK hSK (c_X5_partnerBehind l z gh21 q25 (0) hq25 p1 p2 (by omega) (by omega)) k_X5_partnerBehind mw_3_107 ⟨rfl, rfl, Nat.le_of_ble_eq_true rfl, Nat.le_of_ble_eq_true rfl⟩ (rv_Walk hK hT hq25) hT rfl hl.1 rfl (Nat.le_of_ble_eq_true rfl) dX6_ahead_30 ⟨Nat.zero_le _, Nat.zero_le _⟩ hS (fun _ h => h) (fun _ _ h => h) (fun r30 H locs hpo hS => ?_)
        have hT := hpo
        exact rt_i hx hb hr hlk hS ⟨_, hwf, hvis, hT⟩ dX6_ahead_33
      · refine r_iconst hx hb dX6_ahead_18 (by decide) (by decide) (fun x18 e18 => ?_)
        exact rt_i hx hb hr hlk hS ⟨_, hwf, hvis, hT⟩ dX6_ahead_19
theorem k_X6_meets : cBV yX6_meets cX6_meets 4 (some .int) 2 := ⟨mw_3_124, mw_3_125, mw_1_1, mw_3_126, ⟨by decide, by decide, by decide⟩⟩
set_option maxHeartbeats 4000000 in
set_option maxRecDepth 100000 in
theorem c_X6_meets (l : Launch) (z : Zt) (v : Nat → Nat → Int) (h0 o0 : Nat) (g0 : zG z h0 = (16, o0)) (p1 : Int32) (p2 : Int32) : Met l yX6_meets (uw yX6_meets cX6_meets 4 (some .int)) (rmF 6 171) (PcW z [.ref h0, .int p1, .int p2] (fun H => WX z v H)) (QcI z (fun r H => WX z v H)) 0 0 (zA z) := by
  refine Met.ofW (cc := cX6_meets) (maxL := 4) (ret := (some .int)) (by decide) rfl ?_
  intro p e s m args below meth c s₁ B hml hv
  obtain ⟨rfl, hW, hK, hSK⟩ := hv
  have hx := B.exec
  have hb := B.bytes
  have hr := B.returns
  have hts : ∀ w ∈ lw_ok, w.before ([.ref h0, .int p1, .int p2] : List Value).toArray s = true := fun w hw => atoms_spec (ws := uw yX6_meets cX6_meets 4 (some .int)) B.pre w (List.mem_cons_of_mem _ hw)
  have hown : s.vm.findClass RX6 = some m.cls := findClass_of_methodNamed B.named
  have hlk := B.notSynchronized
  have hC : CallFix p m c cX6_meets 4 s ([.ref h0, .int p1, .int p2] : List Value).toArray lw_ok RX6 := ⟨hx, hb, hml, hown, hts⟩
  have hS : va_S (zA z) s.heap s.heap [] := va_S.rf
  have hl := lv_entry ([.ref h0, .int p1, .int p2]) (n := 4) (Nat.le_of_ble_eq_true rfl)
  rw [lg_entry_eq]
  generalize (lg_sl ([.ref h0, .int p1, .int p2]) ++ List.replicate (4 - (lg_sl ([.ref h0, .int p1, .int p2])).length) Slot.unset).toArray = ls at hl ⊢
  have hl : lv_has ls 4 [(0, .ref h0), (1, .int p1), (2, .int p2)] := hl
  show W p l e (rmF 6 171) s m ([.ref h0, .int p1, .int p2] : List Value).toArray below meth c s.heap [] 0 0 (MQ below (QcI z (fun r H => WX z v H)) ([.ref h0, .int p1, .int p2] : List Value).toArray s 0 0 (zA z)) (F0 m 0 ls [])
  obtain ⟨gh, hwf, hvis, hT⟩ := hW
  have mx_p1 := i_mx p1
  have mx_p2 := i_mx p2
  refine lv_aload_n hx hb dX6_meets_0 rfl (lv_at hl 0 rfl) ?_
  refine lv_iload_n hx hb dX6_meets_1 rfl (lv_at hl 1 rfl) ?_
  refine cl_Vi (rest := []) hC hK hSK (c_X6_isNobody l z gh h0 (o0) g0 p1) k_X6_isNobody mw_2_225 ⟨rfl, rfl, Nat.le_of_ble_eq_true rfl, Nat.le_of_ble_eq_true rfl⟩ (rv_HeelDance hK hT g0) hT rfl hl.1 rfl (Nat.le_of_ble_eq_true rfl) dX6_meets_2 ⟨Nat.zero_le _, Nat.zero_le _⟩ hS (fun _ h => h) (fun _ _ h => h) (fun r2 H locs hpo hS => ?_)
  obtain ⟨hT, u2_0, u2_1⟩ := hpo
  refine r_if_ne (tgt := 16) hx hb dX6_meets_5 (by decide) (fun c5 => ?_) (fun c5 => ?_)
  · refine r_iconst hx hb dX6_meets_16 (by decide) (by decide) (fun x16 e16 => ?_)
    exact rt_i hx hb hr hlk hS ⟨_, hwf, hvis, hT⟩ dX6_meets_17
  · refine lv_aload_n hx hb dX6_meets_8 rfl (lv_at hl 0 rfl) ?_
    refine lv_iload_n hx hb dX6_meets_9 rfl (lv_at hl 2 rfl) ?_
    refine cl_Vi (rest := []) hC hK hSK (c_X6_isNobody l z gh h0 (o0) g0 p2) k_X6_isNobody mw_2_225 ⟨rfl, rfl, Nat.le_of_ble_eq_true rfl, Nat.le_of_ble_eq_true rfl⟩ (rv_HeelDance hK hT g0) hT rfl hl.1 rfl (Nat.le_of_ble_eq_true rfl) dX6_meets_10 ⟨Nat.zero_le _, Nat.zero_le _⟩ hS (fun _ h => h) (fun _ _ h => h) (fun r10 H locs hpo hS => ?_)
    obtain ⟨hT, u10_0, u10_1⟩ := hpo
    refine r_if_eq (tgt := 18) hx hb dX6_meets_13 (by decide) (fun c13 => ?_) (fun c13 => ?_)
    · refine lv_aload_n hx hb dX6_meets_18 rfl (lv_at hl 0 rfl) ?_
      refine cl_Vv (rest := []) hC hK hSK (c_X6_walkNow l z v h0 (o0) g0) k_X6_walkNow mw_3_84 ⟨rfl, rfl, Nat.le_of_ble_eq_true rfl, Nat.le_of_ble_eq_true rfl⟩ (rv_HeelDance hK hT g0) ⟨_, hwf, hvis, hT⟩ rfl hl.1 rfl (Nat.le_of_ble_eq_true rfl) dX6_meets_19 ⟨Nat.zero_le _, Nat.zero_le _⟩ hS (fun _ h => h) (fun _ _ h => h) (fun H locs hpo hS => ?_)
      obtain ⟨gh19, hwf, hvis, hT⟩ := hpo
      refine r_iconst hx hb dX6_meets_22 (by decide) (by decide) (fun x22 e22 => ?_)
      refine lv_istore_n (lv' := [(3, .int x22), (0, .ref h0), (1, .int p1), (2, .int p2)]) hx hb dX6_meets_23 rfl hl (by decide) rfl (fun ls hl => ?_)
      have J24 : ∀ (n24 : Nat) (ls : Array Slot) (H : Heap) (locs : List Loc) (y24_3 : Int32) (gh : Gh), (0 ≤ y24_3.toInt ∧ y24_3.toInt ≤ 9) → (9 - y24_3.toInt) < (n24 : Int) → wf z gh → vis z gh v → TY z (zA z) gh H → va_S (zA z) s.heap H locs → lv_has ls 4 [(0, .ref h0), (1, .int p1), (2, .int p2), (3, .int y24_3)] → W p l e (rmF 6 171) s m ([.ref h0, .int p1, .int p2] : List Value).toArray below meth c H locs 0 0 (MQ below (QcI z (fun r H => WX z v H)) ([.ref h0, .int p1, .int p2] : List Value).toArray s 0 0 (zA z)) (F0 m 24 ls []) := by
        intro n24
        induction n24 with
        | zero => intro ls H locs y24_3 gh j24_y24_3 mm24 hwf hvis hT hS hl; exfalso; omega
        | succ n24 ih24 =>
          intro ls H locs y24_3 gh j24_y24_3 mm24 hwf hvis hT hS hl
          refine lv_iload_n hx hb dX6_meets_24 rfl (lv_at hl 3 rfl) ?_
          refine lv_aload_n hx hb dX6_meets_25 rfl (lv_at hl 0 rfl) ?_
          refine gt_HeelDance_walk hx hb hts ic_HeelDance hown hK hT g0 (hts _ mw_2_11) dX6_meets_26 (fun q26 hq26 => ?_)
          refine gt_Walk_steps hx hb hts ic_Walk hown hK hT hq26 (hts _ mw_1_180) dX6_meets_29 (fun x29 i29 e29 g29 => ?_)
          refine r_icmp_gt (tgt := 56) hx hb dX6_meets_32 (by decide) (fun c32 => ?_) (fun c32 => ?_)
          · refine r_bipush hx hb dX6_meets_56 rfl (fun x56 e56 => ?_)
            exact rt_i hx hb hr hlk hS ⟨_, hwf, hvis, hT⟩ dX6_meets_58
          · refine lv_aload_n hx hb dX6_meets_35 rfl (lv_at hl 0 rfl) ?_
            refine gt_HeelDance_walk hx hb hts ic_HeelDance hown hK hT g0 (hts _ mw_2_11) dX6_meets_36 (fun q36 hq36 => ?_)
            refine lv_iload_n hx hb dX6_meets_39 rfl (lv_at hl 1 rfl) ?_
            refine lv_iload_n hx hb dX6_meets_40 rfl (lv_at hl 3 rfl) ?_
            refine cl_Vi (rest := []) hC hK hSK (c_X5_partnerBehind l z gh q36 (0) hq36 p1 y24_3 (by omega) (by omega)) k_X5_partnerBehind mw_3_107 ⟨rfl, rfl, Nat.le_of_ble_eq_true rfl, Nat.le_of_ble_eq_true rfl⟩ (rv_Walk hK hT hq36) hT rfl hl.1 rfl (Nat.le_of_ble_eq_true rfl) dX6_meets_41 ⟨Nat.zero_le _, Nat.zero_le _⟩ hS (fun _ h => h) (fun _ _ h => h) (fun r41 H locs hpo hS => ?_)
            have hT := hpo
            refine lv_iload_n hx hb dX6_meets_44 rfl (lv_at hl 2 rfl) ?_
            refine r_icmp_ne (tgt := 50) hx hb dX6_meets_45 (by decide) (fun c45 => ?_) (fun c45 => ?_)
            · refine r_iinc (lv' := fun v__ => [(3, .int v__), (0, .ref h0), (1, .int p1), (2, .int p2)]) hx hb dX6_meets_50 hl (k := 3) rfl (by decide) (fun _ => rfl) ⟨by decide, by decide⟩ (by omega) (by omega) (fun x50 ls e50 hl => ?_)
              refine lv_goto (tgt := 24) hx hb dX6_meets_53 (by decide) ?_
              exact ih24 ls _ _ x50 _ (by omega) (by omega) hwf hvis hT hS (lv_sub hl [1, 2, 3, 0] rfl)
            · refine lv_iload_n hx hb dX6_meets_48 rfl (lv_at hl 3 rfl) ?_
              exact rt_i hx hb hr hlk hS ⟨_, hwf, hvis, hT⟩ dX6_meets_49
      exact J24 (((9 - x22.toInt)).toNat + 1) ls _ _ x22 _ (by omega) (by omega) hwf hvis hT hS (lv_sub hl [1, 2, 3, 0] rfl)
    · refine r_iconst hx hb dX6_meets_16 (by decide) (by decide) (fun x16 e16 => ?_)
      exact rt_i hx hb hr hlk hS ⟨_, hwf, hvis, hT⟩ dX6_meets_17
theorem k_X6_never : cBV yX6_never cX6_never 4 (some .int) 1 := ⟨mw_3_128, mw_3_129, mw_1_1, mw_3_130, ⟨by decide, by decide, by decide⟩⟩
set_option maxHeartbeats 4000000 in
set_option maxRecDepth 100000 in
theorem c_X6_never (l : Launch) (z : Zt) (v : Nat → Nat → Int) (h0 o0 : Nat) (g0 : zG z h0 = (16, o0)) (p1 : Int32) : Met l yX6_never (uw yX6_never cX6_never 4 (some .int)) (rmF 6 171) (PcW z [.ref h0, .int p1] (fun H => WX z v H)) (QcI z (fun r H => WX z v H)) 0 0 (zA z) := by
  refine Met.ofW (cc := cX6_never) (maxL := 4) (ret := (some .int)) (by decide) rfl ?_
  intro p e s m args below meth c s₁ B hml hv
  obtain ⟨rfl, hW, hK, hSK⟩ := hv
  have hx := B.exec
  have hb := B.bytes
  have hr := B.returns
  have hts : ∀ w ∈ lw_ok, w.before ([.ref h0, .int p1] : List Value).toArray s = true := fun w hw => atoms_spec (ws := uw yX6_never cX6_never 4 (some .int)) B.pre w (List.mem_cons_of_mem _ hw)
  have hown : s.vm.findClass RX6 = some m.cls := findClass_of_methodNamed B.named
  have hlk := B.notSynchronized
  have hC : CallFix p m c cX6_never 4 s ([.ref h0, .int p1] : List Value).toArray lw_ok RX6 := ⟨hx, hb, hml, hown, hts⟩
  have hS : va_S (zA z) s.heap s.heap [] := va_S.rf
  have hl := lv_entry ([.ref h0, .int p1]) (n := 4) (Nat.le_of_ble_eq_true rfl)
  rw [lg_entry_eq]
  generalize (lg_sl ([.ref h0, .int p1]) ++ List.replicate (4 - (lg_sl ([.ref h0, .int p1])).length) Slot.unset).toArray = ls at hl ⊢
  have hl : lv_has ls 4 [(0, .ref h0), (1, .int p1)] := hl
  show W p l e (rmF 6 171) s m ([.ref h0, .int p1] : List Value).toArray below meth c s.heap [] 0 0 (MQ below (QcI z (fun r H => WX z v H)) ([.ref h0, .int p1] : List Value).toArray s 0 0 (zA z)) (F0 m 0 ls [])
  obtain ⟨gh, hwf, hvis, hT⟩ := hW
  have mx_p1 := i_mx p1
  refine lv_aload_n hx hb dX6_never_0 rfl (lv_at hl 0 rfl) ?_
  refine lv_iload_n hx hb dX6_never_1 rfl (lv_at hl 1 rfl) ?_
  refine cl_Vi (rest := []) hC hK hSK (c_X6_isNobody l z gh h0 (o0) g0 p1) k_X6_isNobody mw_2_225 ⟨rfl, rfl, Nat.le_of_ble_eq_true rfl, Nat.le_of_ble_eq_true rfl⟩ (rv_HeelDance hK hT g0) hT rfl hl.1 rfl (Nat.le_of_ble_eq_true rfl) dX6_never_2 ⟨Nat.zero_le _, Nat.zero_le _⟩ hS (fun _ h => h) (fun _ _ h => h) (fun r2 H locs hpo hS => ?_)
  obtain ⟨hT, u2_0, u2_1⟩ := hpo
  refine r_if_eq (tgt := 10) hx hb dX6_never_5 (by decide) (fun c5 => ?_) (fun c5 => ?_)
  · refine lv_aload_n hx hb dX6_never_10 rfl (lv_at hl 0 rfl) ?_
    refine cl_Vv (rest := []) hC hK hSK (c_X6_walkNow l z v h0 (o0) g0) k_X6_walkNow mw_3_84 ⟨rfl, rfl, Nat.le_of_ble_eq_true rfl, Nat.le_of_ble_eq_true rfl⟩ (rv_HeelDance hK hT g0) ⟨_, hwf, hvis, hT⟩ rfl hl.1 rfl (Nat.le_of_ble_eq_true rfl) dX6_never_11 ⟨Nat.zero_le _, Nat.zero_le _⟩ hS (fun _ h => h) (fun _ _ h => h) (fun H locs hpo hS => ?_)
    obtain ⟨gh11, hwf, hvis, hT⟩ := hpo
    refine r_iconst hx hb dX6_never_14 (by decide) (by decide) (fun x14 e14 => ?_)
    refine lv_aload_n hx hb dX6_never_15 rfl (lv_at hl 0 rfl) ?_
    refine gt_HeelDance_now hx hb hts ic_HeelDance hown hK hT g0 (hts _ mw_2_8) dX6_never_16 (fun q16 hq16 => ?_)
    refine gt_Evening_floor hx hb hts ic_Evening hown hK hT hq16 (hts _ mw_1_91) dX6_never_19 (fun q19 hq19 => ?_)
    refine gt_Floor_men hx hb hts ic_Floor hown hK hT hq19 (hts _ mw_1_62) dX6_never_22 (fun x22 i22 e22 g22 => ?_)
    refine r_shl1 hx hb dX6_never_25 (by omega) (by omega) (by omega) (fun x25 e25 g25 k25 => ?_)
    refine r_iconst hx hb dX6_never_26 (by decide) (by decide) (fun x26 e26 => ?_)
    refine r_isub hx hb dX6_never_27 (by omega) (by omega) (fun x27 e27 => ?_)
    refine lv_istore_n (lv' := [(2, .int x27), (0, .ref h0), (1, .int p1)]) hx hb dX6_never_28 rfl hl (by decide) rfl (fun ls hl => ?_)
    refine r_iconst hx hb dX6_never_29 (by decide) (by decide) (fun x29 e29 => ?_)
    refine lv_istore_n (lv' := [(3, .int x29), (2, .int x27), (0, .ref h0), (1, .int p1)]) hx hb dX6_never_30 rfl hl (by decide) rfl (fun ls hl => ?_)
    have J31 : ∀ (n31 : Nat) (ls : Array Slot) (H : Heap) (locs : List Loc) (y31_2 : Int32) (y31_3 : Int32) (gh : Gh), (0 ≤ y31_3.toInt ∧ y31_3.toInt ≤ 9) → (9 - y31_3.toInt) < (n31 : Int) → wf z gh → vis z gh v → TY z (zA z) gh H → va_S (zA z) s.heap H locs → lv_has ls 4 [(0, .ref h0), (1, .int p1), (2, .int y31_2), (3, .int y31_3)] → W p l e (rmF 6 171) s m ([.ref h0, .int p1] : List Value).toArray below meth c H locs 0 0 (MQ below (QcI z (fun r H => WX z v H)) ([.ref h0, .int p1] : List Value).toArray s 0 0 (zA z)) (F0 m 31 ls []) := by
      intro n31
      induction n31 with
      | zero => intro ls H locs y31_2 y31_3 gh j31_y31_3 mm31 hwf hvis hT hS hl; exfalso; omega
      | succ n31 ih31 =>
        intro ls H locs y31_2 y31_3 gh j31_y31_3 mm31 hwf hvis hT hS hl
        refine lv_iload_n hx hb dX6_never_31 rfl (lv_at hl 3 rfl) ?_
        refine lv_aload_n hx hb dX6_never_32 rfl (lv_at hl 0 rfl) ?_
        refine gt_HeelDance_walk hx hb hts ic_HeelDance hown hK hT g0 (hts _ mw_2_11) dX6_never_33 (fun q33 hq33 => ?_)
        refine gt_Walk_steps hx hb hts ic_Walk hown hK hT hq33 (hts _ mw_1_180) dX6_never_36 (fun x36 i36 e36 g36 => ?_)
        refine r_icmp_gt (tgt := 64) hx hb dX6_never_39 (by decide) (fun c39 => ?_) (fun c39 => ?_)
        · refine lv_iload_n hx hb dX6_never_64 rfl (lv_at hl 2 rfl) ?_
          exact rt_i hx hb hr hlk hS ⟨_, hwf, hvis, hT⟩ dX6_never_65
        · refine lv_iload_n hx hb dX6_never_42 rfl (lv_at hl 2 rfl) ?_
          refine r_iconst hx hb dX6_never_43 (by decide) (by decide) (fun x43 e43 => ?_)
          refine lv_aload_n hx hb dX6_never_44 rfl (lv_at hl 0 rfl) ?_
          refine gt_HeelDance_walk hx hb hts ic_HeelDance hown hK hT g0 (hts _ mw_2_11) dX6_never_45 (fun q45 hq45 => ?_)
          refine lv_iload_n hx hb dX6_never_48 rfl (lv_at hl 1 rfl) ?_
          refine lv_iload_n hx hb dX6_never_49 rfl (lv_at hl 3 rfl) ?_
          refine cl_Vi (rest := [.int x43, .int y31_2]) hC hK hSK (c_X5_partnerBehind l z gh q45 (0) hq45 p1 y31_3 (by omega) (by omega)) k_X5_partnerBehind mw_3_107 ⟨rfl, rfl, Nat.le_of_ble_eq_true rfl, Nat.le_of_ble_eq_true rfl⟩ (rv_Walk hK hT hq45) hT rfl hl.1 rfl (Nat.le_of_ble_eq_true rfl) dX6_never_50 ⟨Nat.zero_le _, Nat.zero_le _⟩ hS (fun _ h => h) (fun _ _ h => h) (fun r50 H locs hpo hS => ?_)
          have hT := hpo
          refine w_ishl hx hb dX6_never_53 (fun x53 => ?_)
          refine r_iconst hx hb dX6_never_54 (by decide) (by decide) (fun x54 e54 => ?_)
          refine w_ixor hx hb dX6_never_55 (fun x55 => ?_)
          refine w_iand hx hb dX6_never_56 (fun x56 => ?_)
          refine lv_istore_n (lv' := [(2, .int x56), (0, .ref h0), (1, .int p1), (3, .int y31_3)]) hx hb dX6_never_57 rfl hl (by decide) rfl (fun ls hl => ?_)
          refine r_iinc (lv' := fun v__ => [(3, .int v__), (2, .int x56), (0, .ref h0), (1, .int p1)]) hx hb dX6_never_58 hl (k := 3) rfl (by decide) (fun _ => rfl) ⟨by decide, by decide⟩ (by omega) (by omega) (fun x58 ls e58 hl => ?_)
          refine lv_goto (tgt := 31) hx hb dX6_never_61 (by decide) ?_
          exact ih31 ls _ _ x56 x58 _ (by omega) (by omega) hwf hvis hT hS (lv_sub hl [2, 3, 1, 0] rfl)
    exact J31 (((9 - x29.toInt)).toNat + 1) ls _ _ x27 x29 _ (by omega) (by omega) hwf hvis hT hS (lv_sub hl [2, 3, 1, 0] rfl)
  · refine r_iconst hx hb dX6_never_8 (by decide) (by decide) (fun x8 e8 => ?_)
    exact rt_i hx hb hr hlk hS ⟨_, hwf, hvis, hT⟩ dX6_never_9
theorem k_X6_best : cBV yX6_best cX6_best 3 (some .int) 2 := ⟨mw_3_141, mw_3_142, mw_1_1, mw_3_143, ⟨by decide, by decide, by decide⟩⟩
set_option maxHeartbeats 4000000 in
set_option maxRecDepth 100000 in
theorem c_X6_best (l : Launch) (z : Zt) (v : Nat → Nat → Int) (h0 o0 : Nat) (g0 : zG z h0 = (16, o0)) (p1 : Int32) (p2 : Int32) : Met l yX6_best (uw yX6_best cX6_best 3 (some .int)) (rmF 11 309) (PcW z [.ref h0, .int p1, .int p2] (fun H => WX z v H)) (QcI z (fun r H => WX z v H)) 0 0 (zA z) := by
  refine Met.ofW (cc := cX6_best) (maxL := 3) (ret := (some .int)) (by decide) rfl ?_
  intro p e s m args below meth c s₁ B hml hv
  obtain ⟨rfl, hW, hK, hSK⟩ := hv
  have hx := B.exec
  have hb := B.bytes
  have hr := B.returns
  have hts : ∀ w ∈ lw_ok, w.before ([.ref h0, .int p1, .int p2] : List Value).toArray s = true := fun w hw => atoms_spec (ws := uw yX6_best cX6_best 3 (some .int)) B.pre w (List.mem_cons_of_mem _ hw)
  have hown : s.vm.findClass RX6 = some m.cls := findClass_of_methodNamed B.named
  have hlk := B.notSynchronized
  have hC : CallFix p m c cX6_best 3 s ([.ref h0, .int p1, .int p2] : List Value).toArray lw_ok RX6 := ⟨hx, hb, hml, hown, hts⟩
  have hS : va_S (zA z) s.heap s.heap [] := va_S.rf
  have hl := lv_entry ([.ref h0, .int p1, .int p2]) (n := 3) (Nat.le_of_ble_eq_true rfl)
  rw [lg_entry_eq]
  generalize (lg_sl ([.ref h0, .int p1, .int p2]) ++ List.replicate (3 - (lg_sl ([.ref h0, .int p1, .int p2])).length) Slot.unset).toArray = ls at hl ⊢
  have hl : lv_has ls 3 [(0, .ref h0), (1, .int p1), (2, .int p2)] := hl
  show W p l e (rmF 11 309) s m ([.ref h0, .int p1, .int p2] : List Value).toArray below meth c s.heap [] 0 0 (MQ below (QcI z (fun r H => WX z v H)) ([.ref h0, .int p1, .int p2] : List Value).toArray s 0 0 (zA z)) (F0 m 0 ls [])
  obtain ⟨gh, hwf, hvis, hT⟩ := hW
  have mx_p1 := i_mx p1
  have mx_p2 := i_mx p2
  refine lv_iload_n hx hb dX6_best_0 rfl (lv_at hl 1 rfl) ?_
  refine r_if_lt (tgt := 19) hx hb dX6_best_1 (by decide) (fun c1 => ?_) (fun c1 => ?_)
  · refine r_iconst hx hb dX6_best_19 (by decide) (by decide) (fun x19 e19 => ?_)
    exact rt_i hx hb hr hlk hS ⟨_, hwf, hvis, hT⟩ dX6_best_20
  · refine lv_iload_n hx hb dX6_best_4 rfl (lv_at hl 1 rfl) ?_
    refine r_iconst hx hb dX6_best_5 (by decide) (by decide) (fun x5 e5 => ?_)
    refine r_icmp_gt (tgt := 19) hx hb dX6_best_6 (by decide) (fun c6 => ?_) (fun c6 => ?_)
    · refine r_iconst hx hb dX6_best_19 (by decide) (by decide) (fun x19 e19 => ?_)
      exact rt_i hx hb hr hlk hS ⟨_, hwf, hvis, hT⟩ dX6_best_20
    · refine lv_iload_n hx hb dX6_best_9 rfl (lv_at hl 2 rfl) ?_
      have J21 : ∀ (ls : Array Slot) (H : Heap) (locs : List Loc) (gh : Gh), (0 ≤ p2.toInt) → wf z gh → vis z gh v → TY z (zA z) gh H → va_S (zA z) s.heap H locs → lv_has ls 3 [(0, .ref h0), (1, .int p1), (2, .int p2)] → W p l e (rmF 11 309) s m ([.ref h0, .int p1, .int p2] : List Value).toArray below meth c H locs 0 0 (MQ below (QcI z (fun r H => WX z v H)) ([.ref h0, .int p1, .int p2] : List Value).toArray s 0 0 (zA z)) (F0 m 21 ls []) := by
        intro ls H locs gh j21_p2 hwf hvis hT hS hl
        refine lv_aload_n hx hb dX6_best_21 rfl (lv_at hl 0 rfl) ?_
        refine gt_HeelDance_search hx hb hts ic_HeelDance hown hK hT g0 (hts _ mw_2_12) dX6_best_22 (fun q22 hq22 => ?_)
        refine lv_aload_n hx hb dX6_best_25 rfl (lv_at hl 0 rfl) ?_
        refine gt_HeelDance_now hx hb hts ic_HeelDance hown hK hT g0 (hts _ mw_2_8) dX6_best_26 (fun q26 hq26 => ?_)
        refine lv_iload_n hx hb dX6_best_29 rfl (lv_at hl 1 rfl) ?_
        refine r_iconst hx hb dX6_best_30 (by decide) (by decide) (fun x30 e30 => ?_)
        refine cl_Vv (rest := []) hC hK hSK (c_X2_over l z v q22 (0) hq22 q26 (1) hq26 p1 x30 (by omega) (by omega) (by omega)) k_X2_over mw_3_144 ⟨rfl, rfl, Nat.le_of_ble_eq_true rfl, Nat.le_of_ble_eq_true rfl⟩ (rv_Search hK hT hq22) ⟨_, hwf, hvis, hT⟩ rfl hl.1 rfl (Nat.le_of_ble_eq_true rfl) dX6_best_31 ⟨Nat.zero_le _, Nat.zero_le _⟩ hS (fun _ h => h) (fun _ _ h => h) (fun H locs hpo hS => ?_)
        obtain ⟨gh31, hwf, hvis, hT⟩ := hpo
        refine lv_aload_n hx hb dX6_best_34 rfl (lv_at hl 0 rfl) ?_
        refine gt_HeelDance_search hx hb hts ic_HeelDance hown hK hT g0 (hts _ mw_2_12) dX6_best_35 (fun q35 hq35 => ?_)
        refine gt_Search_found hx hb hts ic_Search hown hK hT hq35 (hts _ mw_1_207) dX6_best_38 (fun x38 => ?_)
        refine r_if_ne (tgt := 47) hx hb dX6_best_41 (by decide) (fun c41 => ?_) (fun c41 => ?_)
        · refine lv_iload_n hx hb dX6_best_47 rfl (lv_at hl 2 rfl) ?_
          refine r_if_ne (tgt := 61) hx hb dX6_best_48 (by decide) (fun c48 => ?_) (fun c48 => ?_)
          · refine lv_aload_n hx hb dX6_best_61 rfl (lv_at hl 0 rfl) ?_
            refine gt_HeelDance_search hx hb hts ic_HeelDance hown hK hT g0 (hts _ mw_2_12) dX6_best_62 (fun q62 hq62 => ?_)
            refine gt_Search_bestRow hx hb hts ic_Search hown hK hT hq62 (hts _ mw_1_203) dX6_best_65 (fun q65 hq65 => ?_)
            refine lv_iload_n hx hb dX6_best_68 rfl (lv_at hl 1 rfl) ?_
            refine lv_iload_n hx hb dX6_best_69 rfl (lv_at hl 2 rfl) ?_
            refine cl_Si (rest := []) hC hK hSK (c_X6_placeIn l z gh31 q65 (q62) hq65 p1 p2) k_X6_placeIn mw_3_167 ⟨rfl, rfl, Nat.le_of_ble_eq_true rfl, Nat.le_of_ble_eq_true rfl⟩ hT rfl hl.1 rfl (Nat.le_of_ble_eq_true rfl) dX6_best_70 ⟨Nat.zero_le _, Nat.zero_le _⟩ hS (fun _ h => h) (fun _ _ h => h) (fun r70 H locs hpo hS => ?_)
            have hT := hpo
            exact rt_i hx hb hr hlk hS ⟨_, hwf, hvis, hT⟩ dX6_best_73
          · refine lv_aload_n hx hb dX6_best_51 rfl (lv_at hl 0 rfl) ?_
            refine gt_HeelDance_search hx hb hts ic_HeelDance hown hK hT g0 (hts _ mw_2_12) dX6_best_52 (fun q52 hq52 => ?_)
            refine gt_Search_most hx hb hts ic_Search hown hK hT hq52 (hts _ mw_1_209) dX6_best_55 (fun x55 => ?_)
            refine lv_goto (tgt := 73) hx hb dX6_best_58 (by decide) ?_
            exact rt_i hx hb hr hlk hS ⟨_, hwf, hvis, hT⟩ dX6_best_73
        · refine r_bipush hx hb dX6_best_44 rfl (fun x44 e44 => ?_)
          exact rt_i hx hb hr hlk hS ⟨_, hwf, hvis, hT⟩ dX6_best_46
      refine r_if_eq (tgt := 21) hx hb dX6_best_10 (by decide) (fun c10 => ?_) (fun c10 => ?_)
      · exact J21 ls _ _ _ (by omega) hwf hvis hT hS (lv_sub hl [0, 1, 2] rfl)
      · refine lv_iload_n hx hb dX6_best_13 rfl (lv_at hl 2 rfl) ?_
        refine r_bipush hx hb dX6_best_14 rfl (fun x14 e14 => ?_)
        refine r_icmp_ge (tgt := 21) hx hb dX6_best_16 (by decide) (fun c16 => ?_) (fun c16 => ?_)
        · exact J21 ls _ _ _ (by omega) hwf hvis hT hS (lv_sub hl [0, 1, 2] rfl)
        · refine r_iconst hx hb dX6_best_19 (by decide) (by decide) (fun x19 e19 => ?_)
          exact rt_i hx hb hr hlk hS ⟨_, hwf, hvis, hT⟩ dX6_best_20
theorem k_X6_orders : cBV yX6_orders cX6_orders 2 (some .int) 1 := ⟨mw_3_171, mw_3_172, mw_1_1, mw_3_173, ⟨by decide, by decide, by decide⟩⟩
set_option maxHeartbeats 4000000 in
set_option maxRecDepth 100000 in
theorem c_X6_orders (l : Launch) (z : Zt) (v : Nat → Nat → Int) (h0 o0 : Nat) (g0 : zG z h0 = (16, o0)) (p1 : Int32) : Met l yX6_orders (uw yX6_orders cX6_orders 2 (some .int)) (rmF 11 309) (PcW z [.ref h0, .int p1] (fun H => WX z v H)) (QcI z (fun r H => WX z v H)) 0 0 (zA z) := by
  refine Met.ofW (cc := cX6_orders) (maxL := 2) (ret := (some .int)) (by decide) rfl ?_
  intro p e s m args below meth c s₁ B hml hv
  obtain ⟨rfl, hW, hK, hSK⟩ := hv
  have hx := B.exec
  have hb := B.bytes
  have hr := B.returns
  have hts : ∀ w ∈ lw_ok, w.before ([.ref h0, .int p1] : List Value).toArray s = true := fun w hw => atoms_spec (ws := uw yX6_orders cX6_orders 2 (some .int)) B.pre w (List.mem_cons_of_mem _ hw)
  have hown : s.vm.findClass RX6 = some m.cls := findClass_of_methodNamed B.named
  have hlk := B.notSynchronized
  have hC : CallFix p m c cX6_orders 2 s ([.ref h0, .int p1] : List Value).toArray lw_ok RX6 := ⟨hx, hb, hml, hown, hts⟩
  have hS : va_S (zA z) s.heap s.heap [] := va_S.rf
  have hl := lv_entry ([.ref h0, .int p1]) (n := 2) (Nat.le_of_ble_eq_true rfl)
  rw [lg_entry_eq]
  generalize (lg_sl ([.ref h0, .int p1]) ++ List.replicate (2 - (lg_sl ([.ref h0, .int p1])).length) Slot.unset).toArray = ls at hl ⊢
  have hl : lv_has ls 2 [(0, .ref h0), (1, .int p1)] := hl
  show W p l e (rmF 11 309) s m ([.ref h0, .int p1] : List Value).toArray below meth c s.heap [] 0 0 (MQ below (QcI z (fun r H => WX z v H)) ([.ref h0, .int p1] : List Value).toArray s 0 0 (zA z)) (F0 m 0 ls [])
  obtain ⟨gh, hwf, hvis, hT⟩ := hW
  have mx_p1 := i_mx p1
  refine lv_iload_n hx hb dX6_orders_0 rfl (lv_at hl 1 rfl) ?_
  refine r_if_lt (tgt := 15) hx hb dX6_orders_1 (by decide) (fun c1 => ?_) (fun c1 => ?_)
  · refine r_iconst hx hb dX6_orders_15 (by decide) (by decide) (fun x15 e15 => ?_)
    exact rt_i hx hb hr hlk hS ⟨_, hwf, hvis, hT⟩ dX6_orders_16
  · refine lv_iload_n hx hb dX6_orders_4 rfl (lv_at hl 1 rfl) ?_
    refine r_iconst hx hb dX6_orders_5 (by decide) (by decide) (fun x5 e5 => ?_)
    have J17 : ∀ (ls : Array Slot) (H : Heap) (locs : List Loc) (gh : Gh), wf z gh → vis z gh v → TY z (zA z) gh H → va_S (zA z) s.heap H locs → lv_has ls 2 [(0, .ref h0), (1, .int p1)] → W p l e (rmF 11 309) s m ([.ref h0, .int p1] : List Value).toArray below meth c H locs 0 0 (MQ below (QcI z (fun r H => WX z v H)) ([.ref h0, .int p1] : List Value).toArray s 0 0 (zA z)) (F0 m 17 ls []) := by
      intro ls H locs gh hwf hvis hT hS hl
      refine lv_aload_n hx hb dX6_orders_17 rfl (lv_at hl 0 rfl) ?_
      refine gt_HeelDance_now hx hb hts ic_HeelDance hown hK hT g0 (hts _ mw_2_8) dX6_orders_18 (fun q18 hq18 => ?_)
      refine gt_Evening_figures hx hb hts ic_Evening hown hK hT hq18 (hts _ mw_1_108) dX6_orders_21 (fun x21 i21 e21 g21 => ?_)
      refine r_iconst hx hb dX6_orders_24 (by decide) (by decide) (fun x24 e24 => ?_)
      refine r_icmp_le (tgt := 31) hx hb dX6_orders_25 (by decide) (fun c25 => ?_) (fun c25 => ?_)
      · refine lv_aload_n hx hb dX6_orders_31 rfl (lv_at hl 0 rfl) ?_
        refine gt_HeelDance_search hx hb hts ic_HeelDance hown hK hT g0 (hts _ mw_2_12) dX6_orders_32 (fun q32 hq32 => ?_)
        refine lv_aload_n hx hb dX6_orders_35 rfl (lv_at hl 0 rfl) ?_
        refine gt_HeelDance_now hx hb hts ic_HeelDance hown hK hT g0 (hts _ mw_2_8) dX6_orders_36 (fun q36 hq36 => ?_)
        refine lv_aload_n hx hb dX6_orders_39 rfl (lv_at hl 0 rfl) ?_
        refine gt_HeelDance_now hx hb hts ic_HeelDance hown hK hT g0 (hts _ mw_2_8) dX6_orders_40 (fun q40 hq40 => ?_)
        refine gt_Evening_figures hx hb hts ic_Evening hown hK hT hq40 (hts _ mw_1_108) dX6_orders_43 (fun x43 i43 e43 g43 => ?_)
        refine r_iconst hx hb dX6_orders_46 (by decide) (by decide) (fun x46 e46 => ?_)
        refine cl_Vv (rest := []) hC hK hSK (c_X2_over l z v q32 (0) hq32 q36 (1) hq36 x43 x46 (by omega) (by omega) (by omega)) k_X2_over mw_3_144 ⟨rfl, rfl, Nat.le_of_ble_eq_true rfl, Nat.le_of_ble_eq_true rfl⟩ (rv_Search hK hT hq32) ⟨_, hwf, hvis, hT⟩ rfl hl.1 rfl (Nat.le_of_ble_eq_true rfl) dX6_orders_47 ⟨Nat.zero_le _, Nat.zero_le _⟩ hS (fun _ h => h) (fun _ _ h => h) (fun H locs hpo hS => ?_)
        obtain ⟨gh47, hwf, hvis, hT⟩ := hpo
        refine lv_iload_n hx hb dX6_orders_50 rfl (lv_at hl 1 rfl) ?_
        refine r_if_ne (tgt := 62) hx hb dX6_orders_51 (by decide) (fun c51 => ?_) (fun c51 => ?_)
        · refine lv_aload_n hx hb dX6_orders_62 rfl (lv_at hl 0 rfl) ?_
          refine gt_HeelDance_search hx hb hts ic_HeelDance hown hK hT g0 (hts _ mw_2_12) dX6_orders_63 (fun q63 hq63 => ?_)
          refine gt_Search_found hx hb hts ic_Search hown hK hT hq63 (hts _ mw_1_207) dX6_orders_66 (fun x66 => ?_)
          refine r_if_ne (tgt := 75) hx hb dX6_orders_69 (by decide) (fun c69 => ?_) (fun c69 => ?_)
          · refine lv_iload_n hx hb dX6_orders_75 rfl (lv_at hl 1 rfl) ?_
            refine r_iconst hx hb dX6_orders_76 (by decide) (by decide) (fun x76 e76 => ?_)
            refine r_icmp_ne (tgt := 90) hx hb dX6_orders_77 (by decide) (fun c77 => ?_) (fun c77 => ?_)
            · refine lv_aload_n hx hb dX6_orders_90 rfl (lv_at hl 0 rfl) ?_
              refine gt_HeelDance_search hx hb hts ic_HeelDance hown hK hT g0 (hts _ mw_2_12) dX6_orders_91 (fun q91 hq91 => ?_)
              refine gt_Search_firstRow hx hb hts ic_Search hown hK hT hq91 (hts _ mw_1_201) dX6_orders_94 (fun q94 hq94 => ?_)
              refine lv_aload_n hx hb dX6_orders_97 rfl (lv_at hl 0 rfl) ?_
              refine gt_HeelDance_now hx hb hts ic_HeelDance hown hK hT g0 (hts _ mw_2_8) dX6_orders_98 (fun q98 hq98 => ?_)
              refine gt_Evening_figures hx hb hts ic_Evening hown hK hT hq98 (hts _ mw_1_108) dX6_orders_101 (fun x101 i101 e101 g101 => ?_)
              refine lv_iload_n hx hb dX6_orders_104 rfl (lv_at hl 1 rfl) ?_
              refine cl_Si (rest := []) hC hK hSK (c_X6_placeIn l z gh47 q94 (q91) hq94 x101 p1) k_X6_placeIn mw_3_167 ⟨rfl, rfl, Nat.le_of_ble_eq_true rfl, Nat.le_of_ble_eq_true rfl⟩ hT rfl hl.1 rfl (Nat.le_of_ble_eq_true rfl) dX6_orders_105 ⟨Nat.zero_le _, Nat.zero_le _⟩ hS (fun _ h => h) (fun _ _ h => h) (fun r105 H locs hpo hS => ?_)
              have hT := hpo
              exact rt_i hx hb hr hlk hS ⟨_, hwf, hvis, hT⟩ dX6_orders_108
            · refine lv_aload_n hx hb dX6_orders_80 rfl (lv_at hl 0 rfl) ?_
              refine gt_HeelDance_search hx hb hts ic_HeelDance hown hK hT g0 (hts _ mw_2_12) dX6_orders_81 (fun q81 hq81 => ?_)
              refine gt_Search_most hx hb hts ic_Search hown hK hT hq81 (hts _ mw_1_209) dX6_orders_84 (fun x84 => ?_)
              refine lv_goto (tgt := 108) hx hb dX6_orders_87 (by decide) ?_
              exact rt_i hx hb hr hlk hS ⟨_, hwf, hvis, hT⟩ dX6_orders_108
          · refine r_bipush hx hb dX6_orders_72 rfl (fun x72 e72 => ?_)
            exact rt_i hx hb hr hlk hS ⟨_, hwf, hvis, hT⟩ dX6_orders_74
        · refine lv_aload_n hx hb dX6_orders_54 rfl (lv_at hl 0 rfl) ?_
          refine gt_HeelDance_search hx hb hts ic_HeelDance hown hK hT g0 (hts _ mw_2_12) dX6_orders_55 (fun q55 hq55 => ?_)
          refine gt_Search_found hx hb hts ic_Search hown hK hT hq55 (hts _ mw_1_207) dX6_orders_58 (fun x58 => ?_)
          exact rt_i hx hb hr hlk hS ⟨_, hwf, hvis, hT⟩ dX6_orders_61
      · refine r_bipush hx hb dX6_orders_28 rfl (fun x28 e28 => ?_)
        exact rt_i hx hb hr hlk hS ⟨_, hwf, hvis, hT⟩ dX6_orders_30
    refine r_icmp_le (tgt := 17) hx hb dX6_orders_6 (by decide) (fun c6 => ?_) (fun c6 => ?_)
    · exact J17 ls _ _ _ hwf hvis hT hS (lv_sub hl [0, 1] rfl)
    · refine lv_iload_n hx hb dX6_orders_9 rfl (lv_at hl 1 rfl) ?_
      refine r_bipush hx hb dX6_orders_10 rfl (fun x10 e10 => ?_)
      refine r_icmp_ge (tgt := 17) hx hb dX6_orders_12 (by decide) (fun c12 => ?_) (fun c12 => ?_)
      · exact J17 ls _ _ _ hwf hvis hT hS (lv_sub hl [0, 1] rfl)
      · refine r_iconst hx hb dX6_orders_15 (by decide) (by decide) (fun x15 e15 => ?_)
        exact rt_i hx hb hr hlk hS ⟨_, hwf, hvis, hT⟩ dX6_orders_16
theorem k_X6_roundRepeating : cBV yX6_roundRepeating cX6_roundRepeating 4 (some .int) 1 := ⟨mw_3_180, ms_1_8, mw_1_1, mw_3_181, ⟨by decide, by decide, by decide⟩⟩
set_option maxHeartbeats 4000000 in
set_option maxRecDepth 100000 in
theorem c_X6_roundRepeating (l : Launch) (z : Zt) (v : Nat → Nat → Int) (h0 o0 : Nat) (g0 : zG z h0 = (16, o0)) (p1 : Int32) : Met l yX6_roundRepeating (uw yX6_roundRepeating cX6_roundRepeating 4 (some .int)) (rmF 4 130) (PcW z [.ref h0, .int p1] (fun H => WX z v H)) (QcI z (fun r H => WX z v H)) 0 0 (zA z) := by
  refine Met.ofW (cc := cX6_roundRepeating) (maxL := 4) (ret := (some .int)) (by decide) rfl ?_
  intro p e s m args below meth c s₁ B hml hv
  obtain ⟨rfl, hW, hK, hSK⟩ := hv
  have hx := B.exec
  have hb := B.bytes
  have hr := B.returns
  have hts : ∀ w ∈ lw_ok, w.before ([.ref h0, .int p1] : List Value).toArray s = true := fun w hw => atoms_spec (ws := uw yX6_roundRepeating cX6_roundRepeating 4 (some .int)) B.pre w (List.mem_cons_of_mem _ hw)
  have hown : s.vm.findClass RX6 = some m.cls := findClass_of_methodNamed B.named
  have hlk := B.notSynchronized
  have hC : CallFix p m c cX6_roundRepeating 4 s ([.ref h0, .int p1] : List Value).toArray lw_ok RX6 := ⟨hx, hb, hml, hown, hts⟩
  have hS : va_S (zA z) s.heap s.heap [] := va_S.rf
  have hl := lv_entry ([.ref h0, .int p1]) (n := 4) (Nat.le_of_ble_eq_true rfl)
  rw [lg_entry_eq]
  generalize (lg_sl ([.ref h0, .int p1]) ++ List.replicate (4 - (lg_sl ([.ref h0, .int p1])).length) Slot.unset).toArray = ls at hl ⊢
  have hl : lv_has ls 4 [(0, .ref h0), (1, .int p1)] := hl
  show W p l e (rmF 4 130) s m ([.ref h0, .int p1] : List Value).toArray below meth c s.heap [] 0 0 (MQ below (QcI z (fun r H => WX z v H)) ([.ref h0, .int p1] : List Value).toArray s 0 0 (zA z)) (F0 m 0 ls [])
  obtain ⟨gh, hwf, hvis, hT⟩ := hW
  have mx_p1 := i_mx p1
  refine lv_aload_n hx hb dX6_roundRepeating_0 rfl (lv_at hl 0 rfl) ?_
  refine gt_HeelDance_walk hx hb hts ic_HeelDance hown hK hT g0 (hts _ mw_2_11) dX6_roundRepeating_1 (fun q1 hq1 => ?_)
  refine gt_Walk_floor hx hb hts ic_Walk hown hK hT hq1 (hts _ mw_1_177) dX6_roundRepeating_4 (fun q4 hq4 => ?_)
  refine lv_astore_n (lv' := [(2, .ref q4), (0, .ref h0), (1, .int p1)]) hx hb dX6_roundRepeating_7 rfl hl (by decide) rfl (fun ls hl => ?_)
  refine lv_aload_n hx hb dX6_roundRepeating_8 rfl (lv_at hl 0 rfl) ?_
  refine lv_aload_n hx hb dX6_roundRepeating_9 rfl (lv_at hl 1 rfl) ?_
  refine gt_HeelDance_now hx hb hts ic_HeelDance hown hK hT g0 (hts _ mw_2_8) dX6_roundRepeating_10 (fun q10 hq10 => ?_)
  refine gt_Evening_floor hx hb hts ic_Evening hown hK hT hq10 (hts _ mw_1_91) dX6_roundRepeating_13 (fun q13 hq13 => ?_)
  refine cl_Vv (rest := []) hC hK hSK (c_X1_copyFrom l z v q4 (5) hq4 q13 (1) hq13 (fun q9 => by have h9 := hq4; rw [q9, hq13] at h9; have h8 := congrArg Prod.snd h9; dsimp only at h8; omega)) k_X1_copyFrom mw_3_88 ⟨rfl, rfl, Nat.le_of_ble_eq_true rfl, Nat.le_of_ble_eq_true rfl⟩ (rv_Floor hK hT hq4) ⟨_, hwf, hvis, hT⟩ rfl hl.1 rfl (Nat.le_of_ble_eq_true rfl) dX6_roundRepeating_16 ⟨Nat.zero_le _, Nat.zero_le _⟩ hS (fun _ h => h) (fun _ _ h => h) (fun H locs hpo hS => ?_)
  obtain ⟨gh16, hwf, hvis, hT⟩ := hpo
  refine r_iconst hx hb dX6_roundRepeating_19 (by decide) (by decide) (fun x19 e19 => ?_)
  refine lv_istore_n (lv' := [(3, .int x19), (2, .ref q4), (0, .ref h0), (1, .int p1)]) hx hb dX6_roundRepeating_20 rfl hl (by decide) rfl (fun ls hl => ?_)
  have J21 : ∀ (n21 : Nat) (ls : Array Slot) (H : Heap) (locs : List Loc) (y21_3 : Int32) (gh : Gh), (0 ≤ y21_3.toInt ∧ y21_3.toInt ≤ 8) → (8 - y21_3.toInt) < (n21 : Int) → wf z gh → vis z gh v → TY z (zA z) gh H → va_S (zA z) s.heap H locs → lv_has ls 4 [(0, .ref h0), (1, .int p1), (2, .ref q4), (3, .int y21_3)] → W p l e (rmF 4 130) s m ([.ref h0, .int p1] : List Value).toArray below meth c H locs 0 0 (MQ below (QcI z (fun r H => WX z v H)) ([.ref h0, .int p1] : List Value).toArray s 0 0 (zA z)) (F0 m 21 ls []) := by
    intro n21
    induction n21 with
    | zero => intro ls H locs y21_3 gh j21_y21_3 mm21 hwf hvis hT hS hl; exfalso; omega
    | succ n21 ih21 =>
      intro ls H locs y21_3 gh j21_y21_3 mm21 hwf hvis hT hS hl
      refine lv_iload_n hx hb dX6_roundRepeating_21 rfl (lv_at hl 3 rfl) ?_
      refine lv_aload_n hx hb dX6_roundRepeating_22 rfl (lv_at hl 0 rfl) ?_
      refine gt_HeelDance_now hx hb hts ic_HeelDance hown hK hT g0 (hts _ mw_2_8) dX6_roundRepeating_23 (fun q23 hq23 => ?_)
      refine gt_Evening_figures hx hb hts ic_Evening hown hK hT hq23 (hts _ mw_1_108) dX6_roundRepeating_26 (fun x26 i26 e26 g26 => ?_)
      refine r_icmp_ge (tgt := 73) hx hb dX6_roundRepeating_29 (by decide) (fun c29 => ?_) (fun c29 => ?_)
      · refine lv_aload_n hx hb dX6_roundRepeating_73 rfl (lv_at hl 2 rfl) ?_
        refine cl_Vi (rest := []) hC hK hSK (c_X1_roundBits l z gh q4 (5) hq4) k_X1_roundBits mw_2_217 ⟨rfl, rfl, Nat.le_of_ble_eq_true rfl, Nat.le_of_ble_eq_true rfl⟩ (rv_Floor hK hT hq4) hT rfl hl.1 rfl (Nat.le_of_ble_eq_true rfl) dX6_roundRepeating_74 ⟨Nat.zero_le _, Nat.zero_le _⟩ hS (fun _ h => h) (fun _ _ h => h) (fun r74 H locs hpo hS => ?_)
        have hT := hpo
        exact rt_i hx hb hr hlk hS ⟨_, hwf, hvis, hT⟩ dX6_roundRepeating_77
      · refine lv_aload_n hx hb dX6_roundRepeating_32 rfl (lv_at hl 2 rfl) ?_
        refine lv_aload_n hx hb dX6_roundRepeating_33 rfl (lv_at hl 0 rfl) ?_
        refine gt_HeelDance_now hx hb hts ic_HeelDance hown hK hT g0 (hts _ mw_2_8) dX6_roundRepeating_34 (fun q34 hq34 => ?_)
        refine gt_Evening_program hx hb hts ic_Evening hown hK hT hq34 (hts _ mw_1_99) dX6_roundRepeating_37 (fun q37 hq37 => ?_)
        refine lv_iload_n hx hb dX6_roundRepeating_40 rfl (lv_at hl 3 rfl) ?_
        refine al_21 hx hb hK hT hq37 (by omega) (by omega) dX6_roundRepeating_41 (fun x41 => ?_)
        refine cl_Vv (rest := []) hC hK hSK (c_X1_step l z gh q4 (5) hq4 x41 (hwf.1 q4 _ hq4) hwf.2.2) k_X1_step mw_3_55 ⟨rfl, rfl, Nat.le_of_ble_eq_true rfl, Nat.le_of_ble_eq_true rfl⟩ (rv_Floor hK hT hq4) hT rfl hl.1 rfl (Nat.le_of_ble_eq_true rfl) dX6_roundRepeating_42 ⟨Nat.zero_le _, Nat.zero_le _⟩ hS (fun _ h => h) (fun _ _ h => h) (fun H locs hpo hS => ?_)
        obtain ⟨gh42, hz42, hT⟩ := hpo
        have hst42 := hz42.2
        have hz42 := eqv_eq hz42.1
        have hwf := wf_of hz42 hwf
        have hvis := vis_of hz42 hvis
        refine lv_iload_n hx hb dX6_roundRepeating_45 rfl (lv_at hl 1 rfl) ?_
        refine lv_iload_n hx hb dX6_roundRepeating_46 rfl (lv_at hl 3 rfl) ?_
        refine w_ishr hx hb dX6_roundRepeating_47 (fun x47 => ?_)
        refine r_iconst hx hb dX6_roundRepeating_48 (by decide) (by decide) (fun x48 e48 => ?_)
        refine w_iand hx hb dX6_roundRepeating_49 (fun x49 => ?_)
        refine r_iconst hx hb dX6_roundRepeating_50 (by decide) (by decide) (fun x50 e50 => ?_)
        have J67 : ∀ (ls : Array Slot) (H : Heap) (locs : List Loc) (gh : Gh), (8 - y21_3.toInt) < ((n21 + 1 : Nat) : Int) → wf z gh → vis z gh v → TY z (zA z) gh H → va_S (zA z) s.heap H locs → lv_has ls 4 [(0, .ref h0), (1, .int p1), (2, .ref q4), (3, .int y21_3)] → W p l e (rmF 4 130) s m ([.ref h0, .int p1] : List Value).toArray below meth c H locs 0 0 (MQ below (QcI z (fun r H => WX z v H)) ([.ref h0, .int p1] : List Value).toArray s 0 0 (zA z)) (F0 m 67 ls []) := by
          intro ls H locs gh mf67_21 hwf hvis hT hS hl
          refine r_iinc (lv' := fun v__ => [(3, .int v__), (0, .ref h0), (1, .int p1), (2, .ref q4)]) hx hb dX6_roundRepeating_67 hl (k := 3) rfl (by decide) (fun _ => rfl) ⟨by decide, by decide⟩ (by omega) (by omega) (fun x67 ls e67 hl => ?_)
          refine lv_goto (tgt := 21) hx hb dX6_roundRepeating_70 (by decide) ?_
          exact ih21 ls _ _ x67 _ (by omega) (by omega) hwf hvis hT hS (lv_sub hl [1, 2, 3, 0] rfl)
        refine r_icmp_ne (tgt := 67) hx hb dX6_roundRepeating_51 (by decide) (fun c51 => ?_) (fun c51 => ?_)
        · exact J67 ls _ _ _ (by omega) hwf hvis hT hS (lv_sub hl [0, 1, 2, 3] rfl)
        · refine lv_aload_n hx hb dX6_roundRepeating_54 rfl (lv_at hl 2 rfl) ?_
          refine lv_aload_n hx hb dX6_roundRepeating_55 rfl (lv_at hl 0 rfl) ?_
          refine gt_HeelDance_now hx hb hts ic_HeelDance hown hK hT g0 (hts _ mw_2_8) dX6_roundRepeating_56 (fun q56 hq56 => ?_)
          refine gt_Evening_program hx hb hts ic_Evening hown hK hT hq56 (hts _ mw_1_99) dX6_roundRepeating_59 (fun q59 hq59 => ?_)
          refine lv_iload_n hx hb dX6_roundRepeating_62 rfl (lv_at hl 3 rfl) ?_
          refine al_21 hx hb hK hT hq59 (by omega) (by omega) dX6_roundRepeating_63 (fun x63 => ?_)
          refine cl_Vv (rest := []) hC hK hSK (c_X1_step l z gh42 q4 (5) hq4 x63 (hwf.1 q4 _ hq4) hwf.2.2) k_X1_step mw_3_55 ⟨rfl, rfl, Nat.le_of_ble_eq_true rfl, Nat.le_of_ble_eq_true rfl⟩ (rv_Floor hK hT hq4) hT rfl hl.1 rfl (Nat.le_of_ble_eq_true rfl) dX6_roundRepeating_64 ⟨Nat.zero_le _, Nat.zero_le _⟩ hS (fun _ h => h) (fun _ _ h => h) (fun H locs hpo hS => ?_)
          obtain ⟨gh64, hz64, hT⟩ := hpo
          have hst64 := hz64.2
          have hz64 := eqv_eq hz64.1
          have hwf := wf_of hz64 hwf
          have hvis := vis_of hz64 hvis
          exact J67 ls _ _ _ (by omega) hwf hvis hT hS (lv_sub hl [0, 1, 2, 3] rfl)
  exact J21 (((8 - x19.toInt)).toNat + 1) ls _ _ x19 _ (by omega) (by omega) hwf hvis hT hS (lv_sub hl [2, 3, 1, 0] rfl)
theorem k_X6_again : cBV yX6_again cX6_again 6 (some .int) 1 := ⟨mw_3_175, mw_3_176, mw_1_1, mw_3_177, ⟨by decide, by decide, by decide⟩⟩
set_option maxHeartbeats 4000000 in
set_option maxRecDepth 100000 in
theorem c_X6_again (l : Launch) (z : Zt) (v : Nat → Nat → Int) (h0 o0 : Nat) (g0 : zG z h0 = (16, o0)) (p1 : Int32) : Met l yX6_again (uw yX6_again cX6_again 6 (some .int)) (rmF 5 153) (PcW z [.ref h0, .int p1] (fun H => WX z v H)) (QcI z (fun r H => WX z v H)) 0 0 (zA z) := by
  refine Met.ofW (cc := cX6_again) (maxL := 6) (ret := (some .int)) (by decide) rfl ?_
  intro p e s m args below meth c s₁ B hml hv
  obtain ⟨rfl, hW, hK, hSK⟩ := hv
  have hx := B.exec
  have hb := B.bytes
  have hr := B.returns
  have hts : ∀ w ∈ lw_ok, w.before ([.ref h0, .int p1] : List Value).toArray s = true := fun w hw => atoms_spec (ws := uw yX6_again cX6_again 6 (some .int)) B.pre w (List.mem_cons_of_mem _ hw)
  have hown : s.vm.findClass RX6 = some m.cls := findClass_of_methodNamed B.named
  have hlk := B.notSynchronized
  have hC : CallFix p m c cX6_again 6 s ([.ref h0, .int p1] : List Value).toArray lw_ok RX6 := ⟨hx, hb, hml, hown, hts⟩
  have hS : va_S (zA z) s.heap s.heap [] := va_S.rf
  have hl := lv_entry ([.ref h0, .int p1]) (n := 6) (Nat.le_of_ble_eq_true rfl)
  rw [lg_entry_eq]
  generalize (lg_sl ([.ref h0, .int p1]) ++ List.replicate (6 - (lg_sl ([.ref h0, .int p1])).length) Slot.unset).toArray = ls at hl ⊢
  have hl : lv_has ls 6 [(0, .ref h0), (1, .int p1)] := hl
  show W p l e (rmF 5 153) s m ([.ref h0, .int p1] : List Value).toArray below meth c s.heap [] 0 0 (MQ below (QcI z (fun r H => WX z v H)) ([.ref h0, .int p1] : List Value).toArray s 0 0 (zA z)) (F0 m 0 ls [])
  obtain ⟨gh, hwf, hvis, hT⟩ := hW
  have mx_p1 := i_mx p1
  refine lv_iload_n hx hb dX6_again_0 rfl (lv_at hl 1 rfl) ?_
  refine r_if_lt (tgt := 9) hx hb dX6_again_1 (by decide) (fun c1 => ?_) (fun c1 => ?_)
  · refine r_iconst hx hb dX6_again_9 (by decide) (by decide) (fun x9 e9 => ?_)
    exact rt_i hx hb hr hlk hS ⟨_, hwf, hvis, hT⟩ dX6_again_10
  · refine lv_iload_n hx hb dX6_again_4 rfl (lv_at hl 1 rfl) ?_
    refine r_iconst hx hb dX6_again_5 (by decide) (by decide) (fun x5 e5 => ?_)
    refine r_icmp_le (tgt := 11) hx hb dX6_again_6 (by decide) (fun c6 => ?_) (fun c6 => ?_)
    · refine lv_aload_n hx hb dX6_again_11 rfl (lv_at hl 0 rfl) ?_
      refine r_iconst hx hb dX6_again_12 (by decide) (by decide) (fun x12 e12 => ?_)
      refine cl_Vi (rest := []) hC hK hSK (c_X6_roundRepeating l z v h0 (o0) g0 x12) k_X6_roundRepeating mw_3_178 ⟨rfl, rfl, Nat.le_of_ble_eq_true rfl, Nat.le_of_ble_eq_true rfl⟩ (rv_HeelDance hK hT g0) ⟨_, hwf, hvis, hT⟩ rfl hl.1 rfl (Nat.le_of_ble_eq_true rfl) dX6_again_13 ⟨Nat.zero_le _, Nat.zero_le _⟩ hS (fun _ h => h) (fun _ _ h => h) (fun r13 H locs hpo hS => ?_)
      obtain ⟨gh13, hwf, hvis, hT⟩ := hpo
      refine cl_Si (rest := []) hC hK hSK (c_J6_bitCount_0f7a4 l z gh13 r13) k_J6_bitCount_0f7a4 mw_3_79 ⟨rfl, rfl, Nat.le_of_ble_eq_true rfl, Nat.le_of_ble_eq_true rfl⟩ hT rfl hl.1 rfl (Nat.le_of_ble_eq_true rfl) dX6_again_16 ⟨Nat.zero_le _, Nat.zero_le _⟩ hS (fun _ h => h) (fun _ _ h => h) (fun r16 H locs hpo hS => ?_)
      have hT := hpo
      refine lv_istore_n (lv' := [(2, .int r16), (0, .ref h0), (1, .int p1)]) hx hb dX6_again_19 rfl hl (by decide) rfl (fun ls hl => ?_)
      refine r_bipush hx hb dX6_again_20 rfl (fun x20 e20 => ?_)
      refine lv_istore_n (lv' := [(3, .int x20), (2, .int r16), (0, .ref h0), (1, .int p1)]) hx hb dX6_again_22 rfl hl (by decide) rfl (fun ls hl => ?_)
      refine r_iconst hx hb dX6_again_23 (by decide) (by decide) (fun x23 e23 => ?_)
      refine lv_istore (lv' := [(4, .int x23), (3, .int x20), (2, .int r16), (0, .ref h0), (1, .int p1)]) hx hb dX6_again_24 hl (by decide) rfl (fun ls hl => ?_)
      have J26 : ∀ (n26 : Nat) (ls : Array Slot) (H : Heap) (locs : List Loc) (y26_2 : Int32) (y26_3 : Int32) (y26_4 : Int32) (gh : Gh), (-4 ≤ y26_3.toInt ∧ y26_3.toInt ≤ 7) → (0 ≤ y26_4.toInt ∧ y26_4.toInt ≤ 8) → (8 - y26_4.toInt) < (n26 : Int) → wf z gh → vis z gh v → TY z (zA z) gh H → va_S (zA z) s.heap H locs → lv_has ls 6 [(0, .ref h0), (1, .int p1), (2, .int y26_2), (3, .int y26_3), (4, .int y26_4)] → W p l e (rmF 5 153) s m ([.ref h0, .int p1] : List Value).toArray below meth c H locs 0 0 (MQ below (QcI z (fun r H => WX z v H)) ([.ref h0, .int p1] : List Value).toArray s 0 0 (zA z)) (F0 m 26 ls []) := by
        intro n26
        induction n26 with
        | zero => intro ls H locs y26_2 y26_3 y26_4 gh j26_y26_3 j26_y26_4 mm26 hwf hvis hT hS hl; exfalso; omega
        | succ n26 ih26 =>
          intro ls H locs y26_2 y26_3 y26_4 gh j26_y26_3 j26_y26_4 mm26 hwf hvis hT hS hl
          refine lv_iload hx hb dX6_again_26 (lv_at hl 4 rfl) ?_
          refine lv_aload_n hx hb dX6_again_28 rfl (lv_at hl 0 rfl) ?_
          refine gt_HeelDance_now hx hb hts ic_HeelDance hown hK hT g0 (hts _ mw_2_8) dX6_again_29 (fun q29 hq29 => ?_)
          refine gt_Evening_figures hx hb hts ic_Evening hown hK hT hq29 (hts _ mw_1_108) dX6_again_32 (fun x32 i32 e32 g32 => ?_)
          refine r_icmp_ge (tgt := 69) hx hb dX6_again_35 (by decide) (fun c35 => ?_) (fun c35 => ?_)
          · refine lv_iload_n hx hb dX6_again_69 rfl (lv_at hl 3 rfl) ?_
            refine r_bipush hx hb dX6_again_70 rfl (fun x70 e70 => ?_)
            have J79 : ∀ (ls : Array Slot) (H : Heap) (locs : List Loc) (gh : Gh), wf z gh → vis z gh v → TY z (zA z) gh H → va_S (zA z) s.heap H locs → lv_has ls 6 [(0, .ref h0), (1, .int p1), (2, .int y26_2), (3, .int y26_3), (4, .int y26_4)] → W p l e (rmF 5 153) s m ([.ref h0, .int p1] : List Value).toArray below meth c H locs 0 0 (MQ below (QcI z (fun r H => WX z v H)) ([.ref h0, .int p1] : List Value).toArray s 0 0 (zA z)) (F0 m 79 ls []) := by
              intro ls H locs gh hwf hvis hT hS hl
              refine lv_iload_n hx hb dX6_again_79 rfl (lv_at hl 3 rfl) ?_
              refine lv_goto (tgt := 84) hx hb dX6_again_80 (by decide) ?_
              exact rt_i hx hb hr hlk hS ⟨_, hwf, hvis, hT⟩ dX6_again_84
            refine r_icmp_eq (tgt := 79) hx hb dX6_again_72 (by decide) (fun c72 => ?_) (fun c72 => ?_)
            · exact J79 ls _ _ _ hwf hvis hT hS (lv_sub hl [0, 1, 2, 3, 4] rfl)
            · refine lv_iload_n hx hb dX6_again_75 rfl (lv_at hl 1 rfl) ?_
              refine r_if_ne (tgt := 83) hx hb dX6_again_76 (by decide) (fun c76 => ?_) (fun c76 => ?_)
              · refine lv_iload_n hx hb dX6_again_83 rfl (lv_at hl 2 rfl) ?_
                exact rt_i hx hb hr hlk hS ⟨_, hwf, hvis, hT⟩ dX6_again_84
              · exact J79 ls _ _ _ hwf hvis hT hS (lv_sub hl [0, 1, 2, 3, 4] rfl)
          · refine lv_aload_n hx hb dX6_again_38 rfl (lv_at hl 0 rfl) ?_
            refine r_iconst hx hb dX6_again_39 (by decide) (by decide) (fun x39 e39 => ?_)
            refine lv_iload hx hb dX6_again_40 (lv_at hl 4 rfl) ?_
            refine r_shl1 hx hb dX6_again_42 (by omega) (by omega) (by omega) (fun x42 e42 g42 k42 => ?_)
            refine cl_Vi (rest := []) hC hK hSK (c_X6_roundRepeating l z v h0 (o0) g0 x42) k_X6_roundRepeating mw_3_178 ⟨rfl, rfl, Nat.le_of_ble_eq_true rfl, Nat.le_of_ble_eq_true rfl⟩ (rv_HeelDance hK hT g0) ⟨_, hwf, hvis, hT⟩ rfl hl.1 rfl (Nat.le_of_ble_eq_true rfl) dX6_again_43 ⟨Nat.zero_le _, Nat.zero_le _⟩ hS (fun _ h => h) (fun _ _ h => h) (fun r43 H locs hpo hS => ?_)
            obtain ⟨gh43, hwf, hvis, hT⟩ := hpo
            refine cl_Si (rest := []) hC hK hSK (c_J6_bitCount_0f7a4 l z gh43 r43) k_J6_bitCount_0f7a4 mw_3_79 ⟨rfl, rfl, Nat.le_of_ble_eq_true rfl, Nat.le_of_ble_eq_true rfl⟩ hT rfl hl.1 rfl (Nat.le_of_ble_eq_true rfl) dX6_again_46 ⟨Nat.zero_le _, Nat.zero_le _⟩ hS (fun _ h => h) (fun _ _ h => h) (fun r46 H locs hpo hS => ?_)
            have hT := hpo
            refine lv_istore (lv' := [(5, .int r46), (0, .ref h0), (1, .int p1), (2, .int y26_2), (3, .int y26_3), (4, .int y26_4)]) hx hb dX6_again_49 hl (by decide) rfl (fun ls hl => ?_)
            refine lv_iload hx hb dX6_again_51 (lv_at hl 0 rfl) ?_
            refine lv_iload_n hx hb dX6_again_53 rfl (lv_at hl 3 rfl) ?_
            have J63 : ∀ (ls : Array Slot) (H : Heap) (locs : List Loc) (y63_2 : Int32) (y63_3 : Int32) (gh : Gh), (-4 ≤ y63_3.toInt ∧ y63_3.toInt ≤ 7) → (8 - y26_4.toInt) < ((n26 + 1 : Nat) : Int) → wf z gh → vis z gh v → TY z (zA z) gh H → va_S (zA z) s.heap H locs → lv_has ls 6 [(0, .ref h0), (1, .int p1), (2, .int y63_2), (3, .int y63_3), (4, .int y26_4), (5, .int r46)] → W p l e (rmF 5 153) s m ([.ref h0, .int p1] : List Value).toArray below meth c H locs 0 0 (MQ below (QcI z (fun r H => WX z v H)) ([.ref h0, .int p1] : List Value).toArray s 0 0 (zA z)) (F0 m 63 ls []) := by
              intro ls H locs y63_2 y63_3 gh j63_y63_3 mf63_26 hwf hvis hT hS hl
              refine r_iinc (lv' := fun v__ => [(4, .int v__), (0, .ref h0), (1, .int p1), (2, .int y63_2), (3, .int y63_3), (5, .int r46)]) hx hb dX6_again_63 hl (k := 4) rfl (by decide) (fun _ => rfl) ⟨by decide, by decide⟩ (by omega) (by omega) (fun x63 ls e63 hl => ?_)
              refine lv_goto (tgt := 26) hx hb dX6_again_66 (by decide) ?_
              exact ih26 ls _ _ y63_2 y63_3 x63 _ (by omega) (by omega) (by omega) hwf hvis hT hS (lv_sub hl [1, 2, 3, 4, 0] rfl)
            refine r_icmp_le (tgt := 63) hx hb dX6_again_54 (by decide) (fun c54 => ?_) (fun c54 => ?_)
            · exact J63 ls _ _ y26_2 y26_3 _ (by omega) (by omega) hwf hvis hT hS (lv_sub hl [1, 2, 3, 4, 5, 0] rfl)
            · refine lv_iload hx hb dX6_again_57 (lv_at hl 0 rfl) ?_
              refine lv_istore_n (lv' := [(2, .int r46), (5, .int r46), (0, .ref h0), (1, .int p1), (3, .int y26_3), (4, .int y26_4)]) hx hb dX6_again_59 rfl hl (by decide) rfl (fun ls hl => ?_)
              refine lv_iload hx hb dX6_again_60 (lv_at hl 5 rfl) ?_
              refine lv_istore_n (lv' := [(3, .int y26_4), (2, .int r46), (5, .int r46), (0, .ref h0), (1, .int p1), (4, .int y26_4)]) hx hb dX6_again_62 rfl hl (by decide) rfl (fun ls hl => ?_)
              exact J63 ls _ _ r46 y26_4 _ (by omega) (by omega) hwf hvis hT hS (lv_sub hl [3, 4, 1, 0, 5, 2] rfl)
      exact J26 (((8 - x23.toInt)).toNat + 1) ls _ _ r16 x20 x23 _ (by omega) (by omega) (by omega) hwf hvis hT hS (lv_sub hl [3, 4, 2, 1, 0] rfl)
    · refine r_iconst hx hb dX6_again_9 (by decide) (by decide) (fun x9 e9 => ?_)
      exact rt_i hx hb hr hlk hS ⟨_, hwf, hvis, hT⟩ dX6_again_10
theorem k_X6_coins : cBV yX6_coins cX6_coins 6 (some .int) 1 := ⟨mw_3_183, mw_3_184, mw_1_1, mw_3_185, ⟨by decide, by decide, by decide⟩⟩
set_option maxHeartbeats 4000000 in
set_option maxRecDepth 100000 in
theorem c_X6_coins (l : Launch) (z : Zt) (v : Nat → Nat → Int) (h0 o0 : Nat) (g0 : zG z h0 = (16, o0)) (p1 : Int32) : Met l yX6_coins (uw yX6_coins cX6_coins 6 (some .int)) (rmF 5 153) (PcW z [.ref h0, .int p1] (fun H => WX z v H)) (QcI z (fun r H => WX z v H)) 0 0 (zA z) := by
  refine Met.ofW (cc := cX6_coins) (maxL := 6) (ret := (some .int)) (by decide) rfl ?_
  intro p e s m args below meth c s₁ B hml hv
  obtain ⟨rfl, hW, hK, hSK⟩ := hv
  have hx := B.exec
  have hb := B.bytes
  have hr := B.returns
  have hts : ∀ w ∈ lw_ok, w.before ([.ref h0, .int p1] : List Value).toArray s = true := fun w hw => atoms_spec (ws := uw yX6_coins cX6_coins 6 (some .int)) B.pre w (List.mem_cons_of_mem _ hw)
  have hown : s.vm.findClass RX6 = some m.cls := findClass_of_methodNamed B.named
  have hlk := B.notSynchronized
  have hC : CallFix p m c cX6_coins 6 s ([.ref h0, .int p1] : List Value).toArray lw_ok RX6 := ⟨hx, hb, hml, hown, hts⟩
  have hS : va_S (zA z) s.heap s.heap [] := va_S.rf
  have hl := lv_entry ([.ref h0, .int p1]) (n := 6) (Nat.le_of_ble_eq_true rfl)
  rw [lg_entry_eq]
  generalize (lg_sl ([.ref h0, .int p1]) ++ List.replicate (6 - (lg_sl ([.ref h0, .int p1])).length) Slot.unset).toArray = ls at hl ⊢
  have hl : lv_has ls 6 [(0, .ref h0), (1, .int p1)] := hl
  show W p l e (rmF 5 153) s m ([.ref h0, .int p1] : List Value).toArray below meth c s.heap [] 0 0 (MQ below (QcI z (fun r H => WX z v H)) ([.ref h0, .int p1] : List Value).toArray s 0 0 (zA z)) (F0 m 0 ls [])
  obtain ⟨gh, hwf, hvis, hT⟩ := hW
  have mx_p1 := i_mx p1
  refine lv_iload_n hx hb dX6_coins_0 rfl (lv_at hl 1 rfl) ?_
  refine r_if_lt (tgt := 20) hx hb dX6_coins_1 (by decide) (fun c1 => ?_) (fun c1 => ?_)
  · refine r_iconst hx hb dX6_coins_20 (by decide) (by decide) (fun x20 e20 => ?_)
    exact rt_i hx hb hr hlk hS ⟨_, hwf, hvis, hT⟩ dX6_coins_21
  · refine lv_iload_n hx hb dX6_coins_4 rfl (lv_at hl 1 rfl) ?_
    refine r_iconst hx hb dX6_coins_5 (by decide) (by decide) (fun x5 e5 => ?_)
    refine lv_aload_n hx hb dX6_coins_6 rfl (lv_at hl 0 rfl) ?_
    refine gt_HeelDance_now hx hb hts ic_HeelDance hown hK hT g0 (hts _ mw_2_8) dX6_coins_7 (fun q7 hq7 => ?_)
    refine gt_Evening_floor hx hb hts ic_Evening hown hK hT hq7 (hts _ mw_1_91) dX6_coins_10 (fun q10 hq10 => ?_)
    refine gt_Floor_men hx hb hts ic_Floor hown hK hT hq10 (hts _ mw_1_62) dX6_coins_13 (fun x13 i13 e13 g13 => ?_)
    refine r_shl1 hx hb dX6_coins_16 (by omega) (by omega) (by omega) (fun x16 e16 g16 k16 => ?_)
    refine r_icmp_lt (tgt := 22) hx hb dX6_coins_17 (by decide) (fun c17 => ?_) (fun c17 => ?_)
    · refine lv_aload_n hx hb dX6_coins_22 rfl (lv_at hl 0 rfl) ?_
      refine gt_HeelDance_now hx hb hts ic_HeelDance hown hK hT g0 (hts _ mw_2_8) dX6_coins_23 (fun q23 hq23 => ?_)
      refine gt_Evening_figures hx hb hts ic_Evening hown hK hT hq23 (hts _ mw_1_108) dX6_coins_26 (fun x26 i26 e26 g26 => ?_)
      refine r_iconst hx hb dX6_coins_29 (by decide) (by decide) (fun x29 e29 => ?_)
      refine r_icmp_le (tgt := 36) hx hb dX6_coins_30 (by decide) (fun c30 => ?_) (fun c30 => ?_)
      · refine r_bipush hx hb dX6_coins_36 rfl (fun x36 e36 => ?_)
        refine lv_istore_n (lv' := [(2, .int x36), (0, .ref h0), (1, .int p1)]) hx hb dX6_coins_38 rfl hl (by decide) rfl (fun ls hl => ?_)
        refine r_iconst hx hb dX6_coins_39 (by decide) (by decide) (fun x39 e39 => ?_)
        refine lv_istore_n (lv' := [(3, .int x39), (2, .int x36), (0, .ref h0), (1, .int p1)]) hx hb dX6_coins_40 rfl hl (by decide) rfl (fun ls hl => ?_)
        have J41 : ∀ (n41 : Nat) (ls : Array Slot) (H : Heap) (locs : List Loc) (y41_2 : Int32) (y41_3 : Int32) (gh : Gh), (0 ≤ y41_3.toInt ∧ y41_3.toInt ≤ 256) → (256 - y41_3.toInt) < (n41 : Int) → wf z gh → vis z gh v → TY z (zA z) gh H → va_S (zA z) s.heap H locs → lv_has ls 6 [(0, .ref h0), (1, .int p1), (2, .int y41_2), (3, .int y41_3)] → W p l e (rmF 5 153) s m ([.ref h0, .int p1] : List Value).toArray below meth c H locs 0 0 (MQ below (QcI z (fun r H => WX z v H)) ([.ref h0, .int p1] : List Value).toArray s 0 0 (zA z)) (F0 m 41 ls []) := by
          intro n41
          induction n41 with
          | zero => intro ls H locs y41_2 y41_3 gh j41_y41_3 mm41 hwf hvis hT hS hl; exfalso; omega
          | succ n41 ih41 =>
            intro ls H locs y41_2 y41_3 gh j41_y41_3 mm41 hwf hvis hT hS hl
            refine lv_iload_n hx hb dX6_coins_41 rfl (lv_at hl 3 rfl) ?_
            refine r_iconst hx hb dX6_coins_42 (by decide) (by decide) (fun x42 e42 => ?_)
            refine lv_aload_n hx hb dX6_coins_43 rfl (lv_at hl 0 rfl) ?_
            refine gt_HeelDance_now hx hb hts ic_HeelDance hown hK hT g0 (hts _ mw_2_8) dX6_coins_44 (fun q44 hq44 => ?_)
            refine gt_Evening_figures hx hb hts ic_Evening hown hK hT hq44 (hts _ mw_1_108) dX6_coins_47 (fun x47 i47 e47 g47 => ?_)
            refine r_shl1 hx hb dX6_coins_50 (by omega) (by omega) (by omega) (fun x50 e50 g50 k50 => ?_)
            refine r_icmp_ge (tgt := 104) hx hb dX6_coins_51 (by decide) (fun c51 => ?_) (fun c51 => ?_)
            · refine lv_iload_n hx hb dX6_coins_104 rfl (lv_at hl 2 rfl) ?_
              exact rt_i hx hb hr hlk hS ⟨_, hwf, hvis, hT⟩ dX6_coins_105
            · refine lv_iload_n hx hb dX6_coins_54 rfl (lv_at hl 3 rfl) ?_
              refine cl_Si (rest := []) hC hK hSK (c_J6_bitCount_0f7a4 l z gh y41_3) k_J6_bitCount_0f7a4 mw_3_79 ⟨rfl, rfl, Nat.le_of_ble_eq_true rfl, Nat.le_of_ble_eq_true rfl⟩ hT rfl hl.1 rfl (Nat.le_of_ble_eq_true rfl) dX6_coins_55 ⟨Nat.zero_le _, Nat.zero_le _⟩ hS (fun _ h => h) (fun _ _ h => h) (fun r55 H locs hpo hS => ?_)
              have hT := hpo
              refine lv_istore (lv' := [(4, .int r55), (0, .ref h0), (1, .int p1), (2, .int y41_2), (3, .int y41_3)]) hx hb dX6_coins_58 hl (by decide) rfl (fun ls hl => ?_)
              refine lv_iload_n hx hb dX6_coins_60 rfl (lv_at hl 3 rfl) ?_
              refine r_bipush hx hb dX6_coins_61 rfl (fun x61 e61 => ?_)
              have J77 : ∀ (ls : Array Slot) (H : Heap) (locs : List Loc) (t77_0 : Int32) (gh : Gh), (0 ≤ t77_0.toInt ∧ t77_0.toInt ≤ 1) → (256 - y41_3.toInt) < ((n41 + 1 : Nat) : Int) → wf z gh → vis z gh v → TY z (zA z) gh H → va_S (zA z) s.heap H locs → lv_has ls 6 [(0, .ref h0), (1, .int p1), (2, .int y41_2), (3, .int y41_3), (4, .int r55)] → W p l e (rmF 5 153) s m ([.ref h0, .int p1] : List Value).toArray below meth c H locs 0 0 (MQ below (QcI z (fun r H => WX z v H)) ([.ref h0, .int p1] : List Value).toArray s 0 0 (zA z)) (F0 m 77 ls [.int t77_0]) := by
                intro ls H locs t77_0 gh j77_t77_0 mf77_41 hwf hvis hT hS hl
                refine lv_istore (lv' := [(5, .int t77_0), (0, .ref h0), (1, .int p1), (2, .int y41_2), (3, .int y41_3), (4, .int r55)]) hx hb dX6_coins_77 hl (by decide) rfl (fun ls hl => ?_)
                refine lv_iload hx hb dX6_coins_79 (lv_at hl 0 rfl) ?_
                have J98 : ∀ (ls : Array Slot) (H : Heap) (locs : List Loc) (y98_2 : Int32) (gh : Gh), (256 - y41_3.toInt) < ((n41 + 1 : Nat) : Int) → wf z gh → vis z gh v → TY z (zA z) gh H → va_S (zA z) s.heap H locs → lv_has ls 6 [(0, .ref h0), (1, .int p1), (2, .int y98_2), (3, .int y41_3), (4, .int r55), (5, .int t77_0)] → W p l e (rmF 5 153) s m ([.ref h0, .int p1] : List Value).toArray below meth c H locs 0 0 (MQ below (QcI z (fun r H => WX z v H)) ([.ref h0, .int p1] : List Value).toArray s 0 0 (zA z)) (F0 m 98 ls []) := by
                  intro ls H locs y98_2 gh mf98_41 hwf hvis hT hS hl
                  refine r_iinc (lv' := fun v__ => [(3, .int v__), (0, .ref h0), (1, .int p1), (2, .int y98_2), (4, .int r55), (5, .int t77_0)]) hx hb dX6_coins_98 hl (k := 3) rfl (by decide) (fun _ => rfl) ⟨by decide, by decide⟩ (by omega) (by omega) (fun x98 ls e98 hl => ?_)
                  refine lv_goto (tgt := 41) hx hb dX6_coins_101 (by decide) ?_
                  exact ih41 ls _ _ y98_2 x98 _ (by omega) (by omega) hwf hvis hT hS (lv_sub hl [1, 2, 3, 0] rfl)
                refine r_if_eq (tgt := 98) hx hb dX6_coins_81 (by decide) (fun c81 => ?_) (fun c81 => ?_)
                · exact J98 ls _ _ y41_2 _ (by omega) hwf hvis hT hS (lv_sub hl [1, 2, 3, 4, 5, 0] rfl)
                · refine lv_aload_n hx hb dX6_coins_84 rfl (lv_at hl 1 rfl) ?_
                  refine lv_iload_n hx hb dX6_coins_85 rfl (lv_at hl 4 rfl) ?_
                  refine cl_Vi (rest := []) hC hK hSK (c_X6_roundRepeating l z v h0 (o0) g0 y41_3) k_X6_roundRepeating mw_3_178 ⟨rfl, rfl, Nat.le_of_ble_eq_true rfl, Nat.le_of_ble_eq_true rfl⟩ (rv_HeelDance hK hT g0) ⟨_, hwf, hvis, hT⟩ rfl hl.1 rfl (Nat.le_of_ble_eq_true rfl) dX6_coins_86 ⟨Nat.zero_le _, Nat.zero_le _⟩ hS (fun _ h => h) (fun _ _ h => h) (fun r86 H locs hpo hS => ?_)
                  obtain ⟨gh86, hwf, hvis, hT⟩ := hpo
                  refine lv_iload_n hx hb dX6_coins_89 rfl (lv_at hl 2 rfl) ?_
                  refine w_iand hx hb dX6_coins_90 (fun x90 => ?_)
                  refine lv_iload_n hx hb dX6_coins_91 rfl (lv_at hl 2 rfl) ?_
                  refine r_icmp_ne (tgt := 98) hx hb dX6_coins_92 (by decide) (fun c92 => ?_) (fun c92 => ?_)
                  · exact J98 ls _ _ y41_2 _ (by omega) hwf hvis hT hS (lv_sub hl [1, 2, 3, 4, 5, 0] rfl)
                  · refine lv_iload hx hb dX6_coins_95 (lv_at hl 5 rfl) ?_
                    refine lv_istore_n (lv' := [(2, .int r55), (5, .int t77_0), (0, .ref h0), (1, .int p1), (3, .int y41_3), (4, .int r55)]) hx hb dX6_coins_97 rfl hl (by decide) rfl (fun ls hl => ?_)
                    exact J98 ls _ _ r55 _ (by omega) hwf hvis hT hS (lv_sub hl [2, 3, 0, 4, 5, 1] rfl)
              have J72 : ∀ (ls : Array Slot) (H : Heap) (locs : List Loc) (gh : Gh), (256 - y41_3.toInt) < ((n41 + 1 : Nat) : Int) → wf z gh → vis z gh v → TY z (zA z) gh H → va_S (zA z) s.heap H locs → lv_has ls 6 [(0, .ref h0), (1, .int p1), (2, .int y41_2), (3, .int y41_3), (4, .int r55)] → W p l e (rmF 5 153) s m ([.ref h0, .int p1] : List Value).toArray below meth c H locs 0 0 (MQ below (QcI z (fun r H => WX z v H)) ([.ref h0, .int p1] : List Value).toArray s 0 0 (zA z)) (F0 m 72 ls []) := by
                intro ls H locs gh mf72_41 hwf hvis hT hS hl
                refine r_iconst hx hb dX6_coins_72 (by decide) (by decide) (fun x72 e72 => ?_)
                refine lv_goto (tgt := 77) hx hb dX6_coins_73 (by decide) ?_
                exact J77 ls _ _ x72 _ (by omega) (by omega) hwf hvis hT hS (lv_sub hl [0, 1, 2, 3, 4] rfl)
              refine r_icmp_eq (tgt := 72) hx hb dX6_coins_63 (by decide) (fun c63 => ?_) (fun c63 => ?_)
              · exact J72 ls _ _ _ (by omega) hwf hvis hT hS (lv_sub hl [1, 2, 3, 4, 0] rfl)
              · refine lv_iload hx hb dX6_coins_66 (lv_at hl 0 rfl) ?_
                refine lv_iload_n hx hb dX6_coins_68 rfl (lv_at hl 3 rfl) ?_
                refine r_icmp_ge (tgt := 76) hx hb dX6_coins_69 (by decide) (fun c69 => ?_) (fun c69 => ?_)
                · refine r_iconst hx hb dX6_coins_76 (by decide) (by decide) (fun x76 e76 => ?_)
                  exact J77 ls _ _ x76 _ (by omega) (by omega) hwf hvis hT hS (lv_sub hl [1, 2, 3, 4, 0] rfl)
                · exact J72 ls _ _ _ (by omega) hwf hvis hT hS (lv_sub hl [1, 2, 3, 4, 0] rfl)
        exact J41 (((256 - x39.toInt)).toNat + 1) ls _ _ x36 x39 _ (by omega) (by omega) hwf hvis hT hS (lv_sub hl [2, 3, 1, 0] rfl)
      · refine r_bipush hx hb dX6_coins_33 rfl (fun x33 e33 => ?_)
        exact rt_i hx hb hr hlk hS ⟨_, hwf, hvis, hT⟩ dX6_coins_35
    · refine r_iconst hx hb dX6_coins_20 (by decide) (by decide) (fun x20 e20 => ?_)
      exact rt_i hx hb hr hlk hS ⟨_, hwf, hvis, hT⟩ dX6_coins_21
theorem k_X6_greatestCommon : cBS yX6_greatestCommon cX6_greatestCommon 11 (some .long) 2 := ⟨mw_3_206, mw_1_1, mw_3_207, ⟨by decide, by decide, by decide⟩⟩
set_option maxHeartbeats 4000000 in
set_option maxRecDepth 100000 in
theorem c_X6_greatestCommon (l : Launch) (z : Zt) (gh : Gh) (p1 : Int64) (p2 : Int64) : Met l yX6_greatestCommon (uw yX6_greatestCommon cX6_greatestCommon 11 (some .long)) (rmF 1 64) (PcW z [.long p1, .long p2] (fun H => TY z (zA z) gh H)) (QcL z (fun r H => TY z (zA z) gh H)) 0 0 (zA z) := by
  refine Met.ofW (cc := cX6_greatestCommon) (maxL := 11) (ret := (some .long)) (by decide) rfl ?_
  intro p e s m args below meth c s₁ B hml hv
  obtain ⟨rfl, hW, hK, hSK⟩ := hv
  have hx := B.exec
  have hb := B.bytes
  have hr := B.returns
  have hts : ∀ w ∈ lw_ok, w.before ([.long p1, .long p2] : List Value).toArray s = true := fun w hw => atoms_spec (ws := uw yX6_greatestCommon cX6_greatestCommon 11 (some .long)) B.pre w (List.mem_cons_of_mem _ hw)
  have hown : s.vm.findClass RX6 = some m.cls := findClass_of_methodNamed B.named
  have hlk := B.notSynchronized
  have hC : CallFix p m c cX6_greatestCommon 11 s ([.long p1, .long p2] : List Value).toArray lw_ok RX6 := ⟨hx, hb, hml, hown, hts⟩
  have hS : va_S (zA z) s.heap s.heap [] := va_S.rf
  have hl := lv_entry ([.long p1, .long p2]) (n := 11) (Nat.le_of_ble_eq_true rfl)
  rw [lg_entry_eq]
  generalize (lg_sl ([.long p1, .long p2]) ++ List.replicate (11 - (lg_sl ([.long p1, .long p2])).length) Slot.unset).toArray = ls at hl ⊢
  have hl : lv_has ls 11 [(0, .long p1), (2, .long p2)] := hl
  show W p l e (rmF 1 64) s m ([.long p1, .long p2] : List Value).toArray below meth c s.heap [] 0 0 (MQ below (QcL z (fun r H => TY z (zA z) gh H)) ([.long p1, .long p2] : List Value).toArray s 0 0 (zA z)) (F0 m 0 ls [])
  have hT : TY z (zA z) gh s.heap := hW
  refine lv_lload_n hx hb dX6_greatestCommon_0 rfl (lv_at hl 0 rfl) ?_
  refine lv_lstore (lv' := [(4, .long p1), (0, .long p1), (2, .long p2)]) hx hb dX6_greatestCommon_1 hl (by decide) rfl (fun ls hl => ?_)
  refine lv_lload_n hx hb dX6_greatestCommon_3 rfl (lv_at hl 2 rfl) ?_
  refine lv_lstore (lv' := [(6, .long p2), (4, .long p1), (0, .long p1), (2, .long p2)]) hx hb dX6_greatestCommon_4 hl (by decide) rfl (fun ls hl => ?_)
  refine r_iconst hx hb dX6_greatestCommon_6 (by decide) (by decide) (fun x6 e6 => ?_)
  refine lv_istore (lv' := [(8, .int x6), (6, .long p2), (4, .long p1), (0, .long p1), (2, .long p2)]) hx hb dX6_greatestCommon_7 hl (by decide) rfl (fun ls hl => ?_)
  have J9 : ∀ (n9 : Nat) (ls : Array Slot) (H : Heap) (locs : List Loc) (y9_4 : Int64) (y9_6 : Int64) (y9_8 : Int32), (0 ≤ y9_8.toInt ∧ y9_8.toInt ≤ 100) → (100 - y9_8.toInt) < (n9 : Int) → TY z (zA z) gh H → va_S (zA z) s.heap H locs → lv_has ls 11 [(0, .long p1), (2, .long p2), (4, .long y9_4), (6, .long y9_6), (8, .int y9_8)] → W p l e (rmF 1 64) s m ([.long p1, .long p2] : List Value).toArray below meth c H locs 0 0 (MQ below (QcL z (fun r H => TY z (zA z) gh H)) ([.long p1, .long p2] : List Value).toArray s 0 0 (zA z)) (F0 m 9 ls []) := by
    intro n9
    induction n9 with
    | zero => intro ls H locs y9_4 y9_6 y9_8 j9_y9_8 mm9 hT hS hl; exfalso; omega
    | succ n9 ih9 =>
      intro ls H locs y9_4 y9_6 y9_8 j9_y9_8 mm9 hT hS hl
      refine lv_iload hx hb dX6_greatestCommon_9 (lv_at hl 4 rfl) ?_
      refine r_bipush hx hb dX6_greatestCommon_11 rfl (fun x11 e11 => ?_)
      refine r_icmp_ge (tgt := 44) hx hb dX6_greatestCommon_13 (by decide) (fun c13 => ?_) (fun c13 => ?_)
      · refine lv_lload hx hb dX6_greatestCommon_44 (lv_at hl 2 rfl) ?_
        exact rt_l hx hb hr hlk hS hT dX6_greatestCommon_46
      · refine lv_lload hx hb dX6_greatestCommon_16 (lv_at hl 3 rfl) ?_
        refine r_lconst0 hx hb dX6_greatestCommon_18 (fun x18 e18 => ?_)
        refine r_lcmp hx hb dX6_greatestCommon_19 (fun x19 e19 g19 k19 => ?_)
        have v19 : -1 ≤ x19.toInt ∧ x19.toInt ≤ 1 := by omega
        refine r_if_eq (tgt := 44) hx hb dX6_greatestCommon_20 (by decide) (fun c20 => ?_) (fun c20 => ?_)
        · refine lv_lload hx hb dX6_greatestCommon_44 (lv_at hl 2 rfl) ?_
          exact rt_l hx hb hr hlk hS hT dX6_greatestCommon_46
        · refine lv_lload hx hb dX6_greatestCommon_23 (lv_at hl 2 rfl) ?_
          refine lv_lload hx hb dX6_greatestCommon_25 (lv_at hl 3 rfl) ?_
          refine r_lrem hx hb dX6_greatestCommon_27 (by omega) (fun x27 e27 => ?_)
          refine lv_lstore (lv' := [(9, .long x27), (0, .long p1), (2, .long p2), (4, .long y9_4), (6, .long y9_6), (8, .int y9_8)]) hx hb dX6_greatestCommon_28 hl (by decide) rfl (fun ls hl => ?_)
          refine lv_lload hx hb dX6_greatestCommon_30 (lv_at hl 4 rfl) ?_
          refine lv_lstore (lv' := [(4, .long y9_6), (9, .long x27), (0, .long p1), (2, .long p2), (6, .long y9_6), (8, .int y9_8)]) hx hb dX6_greatestCommon_32 hl (by decide) rfl (fun ls hl => ?_)
          refine lv_lload hx hb dX6_greatestCommon_34 (lv_at hl 1 rfl) ?_
          refine lv_lstore (lv' := [(6, .long x27), (4, .long y9_6), (9, .long x27), (0, .long p1), (2, .long p2), (8, .int y9_8)]) hx hb dX6_greatestCommon_36 hl (by decide) rfl (fun ls hl => ?_)
          refine r_iinc (lv' := fun v__ => [(8, .int v__), (6, .long x27), (4, .long y9_6), (9, .long x27), (0, .long p1), (2, .long p2)]) hx hb dX6_greatestCommon_38 hl (k := 5) rfl (by decide) (fun _ => rfl) ⟨by decide, by decide⟩ (by omega) (by omega) (fun x38 ls e38 hl => ?_)
          refine lv_goto (tgt := 9) hx hb dX6_greatestCommon_41 (by decide) ?_
          exact ih9 ls _ _ y9_6 x27 x38 (by omega) (by omega) hT hS (lv_sub hl [4, 5, 2, 1, 0] rfl)
  exact J9 (((100 - x6.toInt)).toNat + 1) ls _ _ p1 p2 x6 (by omega) (by omega) hT hS (lv_sub hl [3, 4, 2, 1, 0] rfl)
theorem k_X6_fraction : cBS yX6_fraction cX6_fraction 7 (some .long) 3 := ⟨mw_3_203, mw_1_1, mw_3_204, ⟨by decide, by decide, by decide⟩⟩
set_option maxHeartbeats 4000000 in
set_option maxRecDepth 100000 in
theorem c_X6_fraction (l : Launch) (z : Zt) (gh : Gh) (p1 : Int64) (p2 : Int64) (p3 : Int32) : Met l yX6_fraction (uw yX6_fraction cX6_fraction 7 (some .long)) (rmF 2 94) (PcW z [.long p1, .long p2, .int p3] (fun H => TY z (zA z) gh H)) (QcL z (fun r H => TY z (zA z) gh H)) 0 0 (zA z) := by
  refine Met.ofW (cc := cX6_fraction) (maxL := 7) (ret := (some .long)) (by decide) rfl ?_
  intro p e s m args below meth c s₁ B hml hv
  obtain ⟨rfl, hW, hK, hSK⟩ := hv
  have hx := B.exec
  have hb := B.bytes
  have hr := B.returns
  have hts : ∀ w ∈ lw_ok, w.before ([.long p1, .long p2, .int p3] : List Value).toArray s = true := fun w hw => atoms_spec (ws := uw yX6_fraction cX6_fraction 7 (some .long)) B.pre w (List.mem_cons_of_mem _ hw)
  have hown : s.vm.findClass RX6 = some m.cls := findClass_of_methodNamed B.named
  have hlk := B.notSynchronized
  have hC : CallFix p m c cX6_fraction 7 s ([.long p1, .long p2, .int p3] : List Value).toArray lw_ok RX6 := ⟨hx, hb, hml, hown, hts⟩
  have hS : va_S (zA z) s.heap s.heap [] := va_S.rf
  have hl := lv_entry ([.long p1, .long p2, .int p3]) (n := 7) (Nat.le_of_ble_eq_true rfl)
  rw [lg_entry_eq]
  generalize (lg_sl ([.long p1, .long p2, .int p3]) ++ List.replicate (7 - (lg_sl ([.long p1, .long p2, .int p3])).length) Slot.unset).toArray = ls at hl ⊢
  have hl : lv_has ls 7 [(0, .long p1), (2, .long p2), (4, .int p3)] := hl
  show W p l e (rmF 2 94) s m ([.long p1, .long p2, .int p3] : List Value).toArray below meth c s.heap [] 0 0 (MQ below (QcL z (fun r H => TY z (zA z) gh H)) ([.long p1, .long p2, .int p3] : List Value).toArray s 0 0 (zA z)) (F0 m 0 ls [])
  have hT : TY z (zA z) gh s.heap := hW
  have mx_p3 := i_mx p3
  refine lv_lload_n hx hb dX6_fraction_0 rfl (lv_at hl 0 rfl) ?_
  refine lv_lload_n hx hb dX6_fraction_1 rfl (lv_at hl 1 rfl) ?_
  refine cl_Sl (rest := []) hC hK hSK (c_X6_greatestCommon l z gh p1 p2) k_X6_greatestCommon mw_3_205 ⟨rfl, rfl, Nat.le_of_ble_eq_true rfl, Nat.le_of_ble_eq_true rfl⟩ hT rfl hl.1 rfl (Nat.le_of_ble_eq_true rfl) dX6_fraction_2 ⟨Nat.zero_le _, Nat.zero_le _⟩ hS (fun _ h => h) (fun _ _ h => h) (fun r2 H locs hpo hS => ?_)
  have hT := hpo
  refine lv_lstore (lv' := [(5, .long r2), (0, .long p1), (2, .long p2), (4, .int p3)]) hx hb dX6_fraction_5 hl (by decide) rfl (fun ls hl => ?_)
  refine lv_lload hx hb dX6_fraction_7 (lv_at hl 0 rfl) ?_
  refine r_lconst0 hx hb dX6_fraction_9 (fun x9 e9 => ?_)
  refine r_lcmp hx hb dX6_fraction_10 (fun x10 e10 g10 k10 => ?_)
  have v10 : -1 ≤ x10.toInt ∧ x10.toInt ≤ 1 := by omega
  refine r_if_ne (tgt := 18) hx hb dX6_fraction_11 (by decide) (fun c11 => ?_) (fun c11 => ?_)
  · refine lv_iload hx hb dX6_fraction_18 (lv_at hl 3 rfl) ?_
    refine r_if_ne (tgt := 30) hx hb dX6_fraction_20 (by decide) (fun c20 => ?_) (fun c20 => ?_)
    · refine lv_lload_n hx hb dX6_fraction_30 rfl (lv_at hl 2 rfl) ?_
      refine lv_lload hx hb dX6_fraction_31 (lv_at hl 0 rfl) ?_
      refine w_ldiv hx hb dX6_fraction_33 (by omega) (fun x33 => ?_)
      exact rt_l hx hb hr hlk hS hT dX6_fraction_34
    · refine lv_lload_n hx hb dX6_fraction_23 rfl (lv_at hl 1 rfl) ?_
      refine lv_lload hx hb dX6_fraction_24 (lv_at hl 0 rfl) ?_
      refine w_ldiv hx hb dX6_fraction_26 (by omega) (fun x26 => ?_)
      refine lv_goto (tgt := 34) hx hb dX6_fraction_27 (by decide) ?_
      exact rt_l hx hb hr hlk hS hT dX6_fraction_34
  · refine r_ldc2 (-1) rfl hx hb hts hown mw_3_190 dX6_fraction_14 (fun x14 e14 => ?_)
    exact rt_l hx hb hr hlk hS hT dX6_fraction_17
theorem k_X6_roundWithBroken : cBV yX6_roundWithBroken cX6_roundWithBroken 3 (some .int) 1 := ⟨mw_3_200, ms_1_10, mw_1_1, mw_3_201, ⟨by decide, by decide, by decide⟩⟩
set_option maxHeartbeats 4000000 in
set_option maxRecDepth 100000 in
theorem c_X6_roundWithBroken (l : Launch) (z : Zt) (v : Nat → Nat → Int) (h0 o0 : Nat) (g0 : zG z h0 = (16, o0)) (p1 : Int32) : Met l yX6_roundWithBroken (uw yX6_roundWithBroken cX6_roundWithBroken 3 (some .int)) (rmF 5 151) (PcW z [.ref h0, .int p1] (fun H => WX z v H)) (QcI z (fun r H => WX z v H)) 0 0 (zA z) := by
  refine Met.ofW (cc := cX6_roundWithBroken) (maxL := 3) (ret := (some .int)) (by decide) rfl ?_
  intro p e s m args below meth c s₁ B hml hv
  obtain ⟨rfl, hW, hK, hSK⟩ := hv
  have hx := B.exec
  have hb := B.bytes
  have hr := B.returns
  have hts : ∀ w ∈ lw_ok, w.before ([.ref h0, .int p1] : List Value).toArray s = true := fun w hw => atoms_spec (ws := uw yX6_roundWithBroken cX6_roundWithBroken 3 (some .int)) B.pre w (List.mem_cons_of_mem _ hw)
  have hown : s.vm.findClass RX6 = some m.cls := findClass_of_methodNamed B.named
  have hlk := B.notSynchronized
  have hC : CallFix p m c cX6_roundWithBroken 3 s ([.ref h0, .int p1] : List Value).toArray lw_ok RX6 := ⟨hx, hb, hml, hown, hts⟩
  have hS : va_S (zA z) s.heap s.heap [] := va_S.rf
  have hl := lv_entry ([.ref h0, .int p1]) (n := 3) (Nat.le_of_ble_eq_true rfl)
  rw [lg_entry_eq]
  generalize (lg_sl ([.ref h0, .int p1]) ++ List.replicate (3 - (lg_sl ([.ref h0, .int p1])).length) Slot.unset).toArray = ls at hl ⊢
  have hl : lv_has ls 3 [(0, .ref h0), (1, .int p1)] := hl
  show W p l e (rmF 5 151) s m ([.ref h0, .int p1] : List Value).toArray below meth c s.heap [] 0 0 (MQ below (QcI z (fun r H => WX z v H)) ([.ref h0, .int p1] : List Value).toArray s 0 0 (zA z)) (F0 m 0 ls [])
  obtain ⟨gh, hwf, hvis, hT⟩ := hW
  have mx_p1 := i_mx p1
  refine lv_aload_n hx hb dX6_roundWithBroken_0 rfl (lv_at hl 0 rfl) ?_
  refine gt_HeelDance_walk hx hb hts ic_HeelDance hown hK hT g0 (hts _ mw_2_11) dX6_roundWithBroken_1 (fun q1 hq1 => ?_)
  refine gt_Walk_floor hx hb hts ic_Walk hown hK hT hq1 (hts _ mw_1_177) dX6_roundWithBroken_4 (fun q4 hq4 => ?_)
  refine lv_aload_n hx hb dX6_roundWithBroken_7 rfl (lv_at hl 0 rfl) ?_
  refine gt_HeelDance_now hx hb hts ic_HeelDance hown hK hT g0 (hts _ mw_2_8) dX6_roundWithBroken_8 (fun q8 hq8 => ?_)
  refine gt_Evening_floor hx hb hts ic_Evening hown hK hT hq8 (hts _ mw_1_91) dX6_roundWithBroken_11 (fun q11 hq11 => ?_)
  refine cl_Vv (rest := []) hC hK hSK (c_X1_copyFrom l z v q4 (5) hq4 q11 (1) hq11 (fun q9 => by have h9 := hq4; rw [q9, hq11] at h9; have h8 := congrArg Prod.snd h9; dsimp only at h8; omega)) k_X1_copyFrom mw_3_88 ⟨rfl, rfl, Nat.le_of_ble_eq_true rfl, Nat.le_of_ble_eq_true rfl⟩ (rv_Floor hK hT hq4) ⟨_, hwf, hvis, hT⟩ rfl hl.1 rfl (Nat.le_of_ble_eq_true rfl) dX6_roundWithBroken_14 ⟨Nat.zero_le _, Nat.zero_le _⟩ hS (fun _ h => h) (fun _ _ h => h) (fun H locs hpo hS => ?_)
  obtain ⟨gh14, hwf, hvis, hT⟩ := hpo
  refine r_iconst hx hb dX6_roundWithBroken_17 (by decide) (by decide) (fun x17 e17 => ?_)
  refine lv_istore_n (lv' := [(2, .int x17), (0, .ref h0), (1, .int p1)]) hx hb dX6_roundWithBroken_18 rfl hl (by decide) rfl (fun ls hl => ?_)
  have J19 : ∀ (n19 : Nat) (ls : Array Slot) (H : Heap) (locs : List Loc) (y19_2 : Int32) (gh : Gh), (0 ≤ y19_2.toInt ∧ y19_2.toInt ≤ 5) → (5 - y19_2.toInt) < (n19 : Int) → wf z gh → vis z gh v → TY z (zA z) gh H → va_S (zA z) s.heap H locs → lv_has ls 3 [(0, .ref h0), (1, .int p1), (2, .int y19_2)] → W p l e (rmF 5 151) s m ([.ref h0, .int p1] : List Value).toArray below meth c H locs 0 0 (MQ below (QcI z (fun r H => WX z v H)) ([.ref h0, .int p1] : List Value).toArray s 0 0 (zA z)) (F0 m 19 ls []) := by
    intro n19
    induction n19 with
    | zero => intro ls H locs y19_2 gh j19_y19_2 mm19 hwf hvis hT hS hl; exfalso; omega
    | succ n19 ih19 =>
      intro ls H locs y19_2 gh j19_y19_2 mm19 hwf hvis hT hS hl
      refine lv_iload_n hx hb dX6_roundWithBroken_19 rfl (lv_at hl 2 rfl) ?_
      refine lv_aload_n hx hb dX6_roundWithBroken_20 rfl (lv_at hl 0 rfl) ?_
      refine gt_HeelDance_now hx hb hts ic_HeelDance hown hK hT g0 (hts _ mw_2_8) dX6_roundWithBroken_21 (fun q21 hq21 => ?_)
      refine gt_Evening_floor hx hb hts ic_Evening hown hK hT hq21 (hts _ mw_1_91) dX6_roundWithBroken_24 (fun q24 hq24 => ?_)
      refine gt_Floor_men hx hb hts ic_Floor hown hK hT hq24 (hts _ mw_1_62) dX6_roundWithBroken_27 (fun x27 i27 e27 g27 => ?_)
      refine r_icmp_ge (tgt := 61) hx hb dX6_roundWithBroken_30 (by decide) (fun c30 => ?_) (fun c30 => ?_)
      · refine lv_aload_n hx hb dX6_roundWithBroken_61 rfl (lv_at hl 0 rfl) ?_
        refine gt_HeelDance_walk hx hb hts ic_HeelDance hown hK hT g0 (hts _ mw_2_11) dX6_roundWithBroken_62 (fun q62 hq62 => ?_)
        refine lv_aload_n hx hb dX6_roundWithBroken_65 rfl (lv_at hl 0 rfl) ?_
        refine gt_HeelDance_now hx hb hts ic_HeelDance hown hK hT g0 (hts _ mw_2_8) dX6_roundWithBroken_66 (fun q66 hq66 => ?_)
        refine cl_Vv (rest := []) hC hK hSK (c_X5_follow l z v q62 (0) hq62 q66 (1) hq66) k_X5_follow mw_3_89 ⟨rfl, rfl, Nat.le_of_ble_eq_true rfl, Nat.le_of_ble_eq_true rfl⟩ (rv_Walk hK hT hq62) ⟨_, hwf, hvis, hT⟩ rfl hl.1 rfl (Nat.le_of_ble_eq_true rfl) dX6_roundWithBroken_69 ⟨Nat.zero_le _, Nat.zero_le _⟩ hS (fun _ h => h) (fun _ _ h => h) (fun H locs hpo hS => ?_)
        obtain ⟨gh69, hwf, hvis, hT⟩ := hpo
        refine lv_aload_n hx hb dX6_roundWithBroken_72 rfl (lv_at hl 0 rfl) ?_
        refine gt_HeelDance_walk hx hb hts ic_HeelDance hown hK hT g0 (hts _ mw_2_11) dX6_roundWithBroken_73 (fun q73 hq73 => ?_)
        refine gt_Walk_floor hx hb hts ic_Walk hown hK hT hq73 (hts _ mw_1_177) dX6_roundWithBroken_76 (fun q76 hq76 => ?_)
        refine cl_Vi (rest := []) hC hK hSK (c_X1_roundBits l z gh69 q76 (5) hq76) k_X1_roundBits mw_2_217 ⟨rfl, rfl, Nat.le_of_ble_eq_true rfl, Nat.le_of_ble_eq_true rfl⟩ (rv_Floor hK hT hq76) hT rfl hl.1 rfl (Nat.le_of_ble_eq_true rfl) dX6_roundWithBroken_79 ⟨Nat.zero_le _, Nat.zero_le _⟩ hS (fun _ h => h) (fun _ _ h => h) (fun r79 H locs hpo hS => ?_)
        have hT := hpo
        exact rt_i hx hb hr hlk hS ⟨_, hwf, hvis, hT⟩ dX6_roundWithBroken_82
      · refine lv_iload_n hx hb dX6_roundWithBroken_33 rfl (lv_at hl 1 rfl) ?_
        refine lv_iload_n hx hb dX6_roundWithBroken_34 rfl (lv_at hl 2 rfl) ?_
        refine w_ishr hx hb dX6_roundWithBroken_35 (fun x35 => ?_)
        refine r_iconst hx hb dX6_roundWithBroken_36 (by decide) (by decide) (fun x36 e36 => ?_)
        refine w_iand hx hb dX6_roundWithBroken_37 (fun x37 => ?_)
        refine r_iconst hx hb dX6_roundWithBroken_38 (by decide) (by decide) (fun x38 e38 => ?_)
        have J55 : ∀ (ls : Array Slot) (H : Heap) (locs : List Loc) (gh : Gh), (5 - y19_2.toInt) < ((n19 + 1 : Nat) : Int) → wf z gh → vis z gh v → TY z (zA z) gh H → va_S (zA z) s.heap H locs → lv_has ls 3 [(0, .ref h0), (1, .int p1), (2, .int y19_2)] → W p l e (rmF 5 151) s m ([.ref h0, .int p1] : List Value).toArray below meth c H locs 0 0 (MQ below (QcI z (fun r H => WX z v H)) ([.ref h0, .int p1] : List Value).toArray s 0 0 (zA z)) (F0 m 55 ls []) := by
          intro ls H locs gh mf55_19 hwf hvis hT hS hl
          refine r_iinc (lv' := fun v__ => [(2, .int v__), (0, .ref h0), (1, .int p1)]) hx hb dX6_roundWithBroken_55 hl (k := 2) rfl (by decide) (fun _ => rfl) ⟨by decide, by decide⟩ (by omega) (by omega) (fun x55 ls e55 hl => ?_)
          refine lv_goto (tgt := 19) hx hb dX6_roundWithBroken_58 (by decide) ?_
          exact ih19 ls _ _ x55 _ (by omega) (by omega) hwf hvis hT hS (lv_sub hl [1, 2, 0] rfl)
        refine r_icmp_ne (tgt := 55) hx hb dX6_roundWithBroken_39 (by decide) (fun c39 => ?_) (fun c39 => ?_)
        · exact J55 ls _ _ _ (by omega) hwf hvis hT hS (lv_sub hl [0, 1, 2] rfl)
        · refine lv_aload_n hx hb dX6_roundWithBroken_42 rfl (lv_at hl 0 rfl) ?_
          refine gt_HeelDance_walk hx hb hts ic_HeelDance hown hK hT g0 (hts _ mw_2_11) dX6_roundWithBroken_43 (fun q43 hq43 => ?_)
          refine gt_Walk_floor hx hb hts ic_Walk hown hK hT hq43 (hts _ mw_1_177) dX6_roundWithBroken_46 (fun q46 hq46 => ?_)
          refine gt_Floor_heels hx hb hts ic_Floor hown hK hT hq46 (hts _ mw_1_48) dX6_roundWithBroken_49 (fun q49 hq49 => ?_)
          refine lv_iload_n hx hb dX6_roundWithBroken_52 rfl (lv_at hl 2 rfl) ?_
          refine r_iconst hx hb dX6_roundWithBroken_53 (by decide) (by decide) (fun x53 e53 => ?_)
          refine as_20 hx hb hK hT hS hq49 (by omega) (by omega) dX6_roundWithBroken_54 (fun H locs hT hS => ?_)
          exact J55 ls _ _ _ (by omega) hwf hvis hT hS (lv_sub hl [0, 1, 2] rfl)
  exact J19 (((5 - x17.toInt)).toNat + 1) ls _ _ x17 _ (by omega) (by omega) hwf hvis hT hS (lv_sub hl [1, 2, 0] rfl)
theorem k_X6_weighed : cBV yX6_weighed cX6_weighed 10 (some .long) 2 := ⟨mw_3_193, ms_1_9, mw_1_1, mw_3_194, ⟨by decide, by decide, by decide⟩⟩
set_option maxHeartbeats 4000000 in
set_option maxRecDepth 100000 in
theorem c_X6_weighed (l : Launch) (z : Zt) (v : Nat → Nat → Int) (h0 o0 : Nat) (g0 : zG z h0 = (16, o0)) (p1 : Int32) (p2 : Int32) : Met l yX6_weighed (uw yX6_weighed cX6_weighed 10 (some .long)) (rmF 6 173) (PcW z [.ref h0, .int p1, .int p2] (fun H => WX z v H)) (QcL z (fun r H => WX z v H)) 0 0 (zA z) := by
  refine Met.ofW (cc := cX6_weighed) (maxL := 10) (ret := (some .long)) (by decide) rfl ?_
  intro p e s m args below meth c s₁ B hml hv
  obtain ⟨rfl, hW, hK, hSK⟩ := hv
  have hx := B.exec
  have hb := B.bytes
  have hr := B.returns
  have hts : ∀ w ∈ lw_ok, w.before ([.ref h0, .int p1, .int p2] : List Value).toArray s = true := fun w hw => atoms_spec (ws := uw yX6_weighed cX6_weighed 10 (some .long)) B.pre w (List.mem_cons_of_mem _ hw)
  have hown : s.vm.findClass RX6 = some m.cls := findClass_of_methodNamed B.named
  have hlk := B.notSynchronized
  have hC : CallFix p m c cX6_weighed 10 s ([.ref h0, .int p1, .int p2] : List Value).toArray lw_ok RX6 := ⟨hx, hb, hml, hown, hts⟩
  have hS : va_S (zA z) s.heap s.heap [] := va_S.rf
  have hl := lv_entry ([.ref h0, .int p1, .int p2]) (n := 10) (Nat.le_of_ble_eq_true rfl)
  rw [lg_entry_eq]
  generalize (lg_sl ([.ref h0, .int p1, .int p2]) ++ List.replicate (10 - (lg_sl ([.ref h0, .int p1, .int p2])).length) Slot.unset).toArray = ls at hl ⊢
  have hl : lv_has ls 10 [(0, .ref h0), (1, .int p1), (2, .int p2)] := hl
  show W p l e (rmF 6 173) s m ([.ref h0, .int p1, .int p2] : List Value).toArray below meth c s.heap [] 0 0 (MQ below (QcL z (fun r H => WX z v H)) ([.ref h0, .int p1, .int p2] : List Value).toArray s 0 0 (zA z)) (F0 m 0 ls [])
  obtain ⟨gh, hwf, hvis, hT⟩ := hW
  have mx_p1 := i_mx p1
  have mx_p2 := i_mx p2
  refine lv_aload_n hx hb dX6_weighed_0 rfl (lv_at hl 0 rfl) ?_
  refine gt_HeelDance_now hx hb hts ic_HeelDance hown hK hT g0 (hts _ mw_2_8) dX6_weighed_1 (fun q1 hq1 => ?_)
  refine gt_Evening_floor hx hb hts ic_Evening hown hK hT hq1 (hts _ mw_1_91) dX6_weighed_4 (fun q4 hq4 => ?_)
  refine gt_Floor_men hx hb hts ic_Floor hown hK hT hq4 (hts _ mw_1_62) dX6_weighed_7 (fun x7 i7 e7 g7 => ?_)
  refine lv_istore_n (lv' := [(3, .int x7), (0, .ref h0), (1, .int p1), (2, .int p2)]) hx hb dX6_weighed_10 rfl hl (by decide) rfl (fun ls hl => ?_)
  refine r_lconst0 hx hb dX6_weighed_11 (fun x11 e11 => ?_)
  refine lv_lstore (lv' := [(4, .long x11), (3, .int x7), (0, .ref h0), (1, .int p1), (2, .int p2)]) hx hb dX6_weighed_12 hl (by decide) rfl (fun ls hl => ?_)
  refine r_iconst hx hb dX6_weighed_14 (by decide) (by decide) (fun x14 e14 => ?_)
  refine lv_istore (lv' := [(6, .int x14), (4, .long x11), (3, .int x7), (0, .ref h0), (1, .int p1), (2, .int p2)]) hx hb dX6_weighed_15 hl (by decide) rfl (fun ls hl => ?_)
  have J17 : ∀ (n17 : Nat) (ls : Array Slot) (H : Heap) (locs : List Loc) (y17_4 : Int64) (y17_6 : Int32) (gh : Gh), (0 ≤ y17_6.toInt ∧ y17_6.toInt ≤ 256) → (256 - y17_6.toInt) < (n17 : Int) → wf z gh → vis z gh v → TY z (zA z) gh H → va_S (zA z) s.heap H locs → lv_has ls 10 [(0, .ref h0), (1, .int p1), (2, .int p2), (3, .int x7), (4, .long y17_4), (6, .int y17_6)] → W p l e (rmF 6 173) s m ([.ref h0, .int p1, .int p2] : List Value).toArray below meth c H locs 0 0 (MQ below (QcL z (fun r H => WX z v H)) ([.ref h0, .int p1, .int p2] : List Value).toArray s 0 0 (zA z)) (F0 m 17 ls []) := by
    intro n17
    induction n17 with
    | zero => intro ls H locs y17_4 y17_6 gh j17_y17_6 mm17 hwf hvis hT hS hl; exfalso; omega
    | succ n17 ih17 =>
      intro ls H locs y17_4 y17_6 gh j17_y17_6 mm17 hwf hvis hT hS hl
      refine lv_iload hx hb dX6_weighed_17 (lv_at hl 5 rfl) ?_
      refine r_iconst hx hb dX6_weighed_19 (by decide) (by decide) (fun x19 e19 => ?_)
      refine lv_iload_n hx hb dX6_weighed_20 rfl (lv_at hl 3 rfl) ?_
      refine r_shl1 hx hb dX6_weighed_21 (by omega) (by omega) (by omega) (fun x21 e21 g21 k21 => ?_)
      refine r_icmp_ge (tgt := 85) hx hb dX6_weighed_22 (by decide) (fun c22 => ?_) (fun c22 => ?_)
      · refine lv_lload hx hb dX6_weighed_85 (lv_at hl 4 rfl) ?_
        exact rt_l hx hb hr hlk hS ⟨_, hwf, hvis, hT⟩ dX6_weighed_87
      · refine lv_iload hx hb dX6_weighed_25 (lv_at hl 5 rfl) ?_
        refine cl_Si (rest := []) hC hK hSK (c_J6_bitCount_0f7a4 l z gh y17_6) k_J6_bitCount_0f7a4 mw_3_79 ⟨rfl, rfl, Nat.le_of_ble_eq_true rfl, Nat.le_of_ble_eq_true rfl⟩ hT rfl hl.1 rfl (Nat.le_of_ble_eq_true rfl) dX6_weighed_27 ⟨Nat.zero_le _, Nat.zero_le _⟩ hS (fun _ h => h) (fun _ _ h => h) (fun r27 H locs hpo hS => ?_)
        have hT := hpo
        refine lv_istore (lv' := [(7, .int r27), (0, .ref h0), (1, .int p1), (2, .int p2), (3, .int x7), (4, .long y17_4), (6, .int y17_6)]) hx hb dX6_weighed_30 hl (by decide) rfl (fun ls hl => ?_)
        refine lv_iload_n hx hb dX6_weighed_32 rfl (lv_at hl 2 rfl) ?_
        refine lv_iload hx hb dX6_weighed_33 (lv_at hl 0 rfl) ?_
        refine cl_Sl (rest := []) hC hK hSK (c_X6_power l z gh p1 r27) k_X6_power mw_3_195 ⟨rfl, rfl, Nat.le_of_ble_eq_true rfl, Nat.le_of_ble_eq_true rfl⟩ hT rfl hl.1 rfl (Nat.le_of_ble_eq_true rfl) dX6_weighed_35 ⟨Nat.zero_le _, Nat.zero_le _⟩ hS (fun _ h => h) (fun _ _ h => h) (fun r35 H locs hpo hS => ?_)
        have hT := hpo
        refine r_bipush hx hb dX6_weighed_38 rfl (fun x38 e38 => ?_)
        refine lv_iload_n hx hb dX6_weighed_40 rfl (lv_at hl 2 rfl) ?_
        refine w_isub hx hb dX6_weighed_41 (fun x41 => ?_)
        refine lv_iload_n hx hb dX6_weighed_42 rfl (lv_at hl 4 rfl) ?_
        refine lv_iload hx hb dX6_weighed_43 (lv_at hl 0 rfl) ?_
        refine w_isub hx hb dX6_weighed_45 (fun x45 => ?_)
        refine cl_Sl (rest := [.long r35]) hC hK hSK (c_X6_power l z gh x41 x45) k_X6_power mw_3_195 ⟨rfl, rfl, Nat.le_of_ble_eq_true rfl, Nat.le_of_ble_eq_true rfl⟩ hT rfl hl.1 rfl (Nat.le_of_ble_eq_true rfl) dX6_weighed_46 ⟨Nat.zero_le _, Nat.zero_le _⟩ hS (fun _ h => h) (fun _ _ h => h) (fun r46 H locs hpo hS => ?_)
        have hT := hpo
        refine w_lmul hx hb dX6_weighed_49 (fun x49 => ?_)
        refine lv_lstore (lv' := [(8, .long x49), (7, .int r27), (0, .ref h0), (1, .int p1), (2, .int p2), (3, .int x7), (4, .long y17_4), (6, .int y17_6)]) hx hb dX6_weighed_50 hl (by decide) rfl (fun ls hl => ?_)
        refine lv_lload hx hb dX6_weighed_52 (lv_at hl 0 rfl) ?_
        refine r_lconst0 hx hb dX6_weighed_54 (fun x54 e54 => ?_)
        refine r_lcmp hx hb dX6_weighed_55 (fun x55 e55 g55 k55 => ?_)
        have v55 : -1 ≤ x55.toInt ∧ x55.toInt ≤ 1 := by omega
        have J79 : ∀ (ls : Array Slot) (H : Heap) (locs : List Loc) (y79_4 : Int64) (gh : Gh), (256 - y17_6.toInt) < ((n17 + 1 : Nat) : Int) → wf z gh → vis z gh v → TY z (zA z) gh H → va_S (zA z) s.heap H locs → lv_has ls 10 [(0, .ref h0), (1, .int p1), (2, .int p2), (3, .int x7), (4, .long y79_4), (6, .int y17_6), (7, .int r27), (8, .long x49)] → W p l e (rmF 6 173) s m ([.ref h0, .int p1, .int p2] : List Value).toArray below meth c H locs 0 0 (MQ below (QcL z (fun r H => WX z v H)) ([.ref h0, .int p1, .int p2] : List Value).toArray s 0 0 (zA z)) (F0 m 79 ls []) := by
          intro ls H locs y79_4 gh mf79_17 hwf hvis hT hS hl
          refine r_iinc (lv' := fun v__ => [(6, .int v__), (0, .ref h0), (1, .int p1), (2, .int p2), (3, .int x7), (4, .long y79_4), (7, .int r27), (8, .long x49)]) hx hb dX6_weighed_79 hl (k := 5) rfl (by decide) (fun _ => rfl) ⟨by decide, by decide⟩ (by omega) (by omega) (fun x79 ls e79 hl => ?_)
          refine lv_goto (tgt := 17) hx hb dX6_weighed_82 (by decide) ?_
          exact ih17 ls _ _ y79_4 x79 _ (by omega) (by omega) hwf hvis hT hS (lv_sub hl [1, 2, 3, 4, 5, 0] rfl)
        refine r_if_eq (tgt := 79) hx hb dX6_weighed_56 (by decide) (fun c56 => ?_) (fun c56 => ?_)
        · exact J79 ls _ _ y17_4 _ (by omega) hwf hvis hT hS (lv_sub hl [2, 3, 4, 5, 6, 7, 1, 0] rfl)
        · refine lv_lload hx hb dX6_weighed_59 (lv_at hl 6 rfl) ?_
          refine lv_lload hx hb dX6_weighed_61 (lv_at hl 0 rfl) ?_
          refine lv_aload_n hx hb dX6_weighed_63 rfl (lv_at hl 2 rfl) ?_
          refine lv_iload hx hb dX6_weighed_64 (lv_at hl 7 rfl) ?_
          refine cl_Vi (rest := [.long x49, .long y17_4]) hC hK hSK (c_X6_roundWithBroken l z v h0 (o0) g0 y17_6) k_X6_roundWithBroken mw_3_198 ⟨rfl, rfl, Nat.le_of_ble_eq_true rfl, Nat.le_of_ble_eq_true rfl⟩ (rv_HeelDance hK hT g0) ⟨_, hwf, hvis, hT⟩ rfl hl.1 rfl (Nat.le_of_ble_eq_true rfl) dX6_weighed_66 ⟨Nat.zero_le _, Nat.zero_le _⟩ hS (fun _ h => h) (fun _ _ h => h) (fun r66 H locs hpo hS => ?_)
          obtain ⟨gh66, hwf, hvis, hT⟩ := hpo
          refine lv_iload_n hx hb dX6_weighed_69 rfl (lv_at hl 4 rfl) ?_
          refine w_iand hx hb dX6_weighed_70 (fun x70 => ?_)
          refine cl_Si (rest := [.long x49, .long y17_4]) hC hK hSK (c_J6_bitCount_0f7a4 l z gh66 x70) k_J6_bitCount_0f7a4 mw_3_79 ⟨rfl, rfl, Nat.le_of_ble_eq_true rfl, Nat.le_of_ble_eq_true rfl⟩ hT rfl hl.1 rfl (Nat.le_of_ble_eq_true rfl) dX6_weighed_71 ⟨Nat.zero_le _, Nat.zero_le _⟩ hS (fun _ h => h) (fun _ _ h => h) (fun r71 H locs hpo hS => ?_)
          have hT := hpo
          refine r_i2l hx hb dX6_weighed_74 (fun x74 e74 => ?_)
          refine w_lmul hx hb dX6_weighed_75 (fun x75 => ?_)
          refine w_ladd hx hb dX6_weighed_76 (fun x76 => ?_)
          refine lv_lstore (lv' := [(4, .long x76), (8, .long x49), (7, .int r27), (0, .ref h0), (1, .int p1), (2, .int p2), (3, .int x7), (6, .int y17_6)]) hx hb dX6_weighed_77 hl (by decide) rfl (fun ls hl => ?_)
          exact J79 ls _ _ x76 _ (by omega) hwf hvis hT hS (lv_sub hl [3, 4, 5, 6, 0, 7, 2, 1] rfl)
  exact J17 (((256 - x14.toInt)).toNat + 1) ls _ _ x11 x14 _ (by omega) (by omega) hwf hvis hT hS (lv_sub hl [3, 4, 5, 2, 1, 0] rfl)
theorem k_X6_luck : cBV yX6_luck cX6_luck 4 (some .long) 3 := ⟨mw_3_187, mw_3_188, mw_1_1, mw_3_189, ⟨by decide, by decide, by decide⟩⟩
set_option maxHeartbeats 4000000 in
set_option maxRecDepth 100000 in
theorem c_X6_luck (l : Launch) (z : Zt) (v : Nat → Nat → Int) (h0 o0 : Nat) (g0 : zG z h0 = (16, o0)) (p1 : Int32) (p2 : Int32) (p3 : Int32) : Met l yX6_luck (uw yX6_luck cX6_luck 4 (some .long)) (rmF 7 202) (PcW z [.ref h0, .int p1, .int p2, .int p3] (fun H => WX z v H)) (QcL z (fun r H => WX z v H)) 0 0 (zA z) := by
  refine Met.ofW (cc := cX6_luck) (maxL := 4) (ret := (some .long)) (by decide) rfl ?_
  intro p e s m args below meth c s₁ B hml hv
  obtain ⟨rfl, hW, hK, hSK⟩ := hv
  have hx := B.exec
  have hb := B.bytes
  have hr := B.returns
  have hts : ∀ w ∈ lw_ok, w.before ([.ref h0, .int p1, .int p2, .int p3] : List Value).toArray s = true := fun w hw => atoms_spec (ws := uw yX6_luck cX6_luck 4 (some .long)) B.pre w (List.mem_cons_of_mem _ hw)
  have hown : s.vm.findClass RX6 = some m.cls := findClass_of_methodNamed B.named
  have hlk := B.notSynchronized
  have hC : CallFix p m c cX6_luck 4 s ([.ref h0, .int p1, .int p2, .int p3] : List Value).toArray lw_ok RX6 := ⟨hx, hb, hml, hown, hts⟩
  have hS : va_S (zA z) s.heap s.heap [] := va_S.rf
  have hl := lv_entry ([.ref h0, .int p1, .int p2, .int p3]) (n := 4) (Nat.le_of_ble_eq_true rfl)
  rw [lg_entry_eq]
  generalize (lg_sl ([.ref h0, .int p1, .int p2, .int p3]) ++ List.replicate (4 - (lg_sl ([.ref h0, .int p1, .int p2, .int p3])).length) Slot.unset).toArray = ls at hl ⊢
  have hl : lv_has ls 4 [(0, .ref h0), (1, .int p1), (2, .int p2), (3, .int p3)] := hl
  show W p l e (rmF 7 202) s m ([.ref h0, .int p1, .int p2, .int p3] : List Value).toArray below meth c s.heap [] 0 0 (MQ below (QcL z (fun r H => WX z v H)) ([.ref h0, .int p1, .int p2, .int p3] : List Value).toArray s 0 0 (zA z)) (F0 m 0 ls [])
  obtain ⟨gh, hwf, hvis, hT⟩ := hW
  have mx_p1 := i_mx p1
  have mx_p2 := i_mx p2
  have mx_p3 := i_mx p3
  refine lv_iload_n hx hb dX6_luck_0 rfl (lv_at hl 1 rfl) ?_
  refine r_if_lt (tgt := 27) hx hb dX6_luck_1 (by decide) (fun c1 => ?_) (fun c1 => ?_)
  · refine r_ldc2 (-1) rfl hx hb hts hown mw_3_190 dX6_luck_27 (fun x27 e27 => ?_)
    exact rt_l hx hb hr hlk hS ⟨_, hwf, hvis, hT⟩ dX6_luck_30
  · refine lv_iload_n hx hb dX6_luck_4 rfl (lv_at hl 1 rfl) ?_
    refine r_bipush hx hb dX6_luck_5 rfl (fun x5 e5 => ?_)
    refine r_icmp_gt (tgt := 27) hx hb dX6_luck_7 (by decide) (fun c7 => ?_) (fun c7 => ?_)
    · refine r_ldc2 (-1) rfl hx hb hts hown mw_3_190 dX6_luck_27 (fun x27 e27 => ?_)
      exact rt_l hx hb hr hlk hS ⟨_, hwf, hvis, hT⟩ dX6_luck_30
    · refine lv_aload_n hx hb dX6_luck_10 rfl (lv_at hl 0 rfl) ?_
      refine lv_iload_n hx hb dX6_luck_11 rfl (lv_at hl 2 rfl) ?_
      refine cl_Vi (rest := []) hC hK hSK (c_X6_isNobody l z gh h0 (o0) g0 p2) k_X6_isNobody mw_2_225 ⟨rfl, rfl, Nat.le_of_ble_eq_true rfl, Nat.le_of_ble_eq_true rfl⟩ (rv_HeelDance hK hT g0) hT rfl hl.1 rfl (Nat.le_of_ble_eq_true rfl) dX6_luck_12 ⟨Nat.zero_le _, Nat.zero_le _⟩ hS (fun _ h => h) (fun _ _ h => h) (fun r12 H locs hpo hS => ?_)
      obtain ⟨hT, u12_0, u12_1⟩ := hpo
      refine r_if_ne (tgt := 27) hx hb dX6_luck_15 (by decide) (fun c15 => ?_) (fun c15 => ?_)
      · refine r_ldc2 (-1) rfl hx hb hts hown mw_3_190 dX6_luck_27 (fun x27 e27 => ?_)
        exact rt_l hx hb hr hlk hS ⟨_, hwf, hvis, hT⟩ dX6_luck_30
      · refine lv_iload_n hx hb dX6_luck_18 rfl (lv_at hl 3 rfl) ?_
        refine r_if_lt (tgt := 27) hx hb dX6_luck_19 (by decide) (fun c19 => ?_) (fun c19 => ?_)
        · refine r_ldc2 (-1) rfl hx hb hts hown mw_3_190 dX6_luck_27 (fun x27 e27 => ?_)
          exact rt_l hx hb hr hlk hS ⟨_, hwf, hvis, hT⟩ dX6_luck_30
        · refine lv_iload_n hx hb dX6_luck_22 rfl (lv_at hl 3 rfl) ?_
          refine r_iconst hx hb dX6_luck_23 (by decide) (by decide) (fun x23 e23 => ?_)
          refine r_icmp_le (tgt := 31) hx hb dX6_luck_24 (by decide) (fun c24 => ?_) (fun c24 => ?_)
          · refine lv_aload_n hx hb dX6_luck_31 rfl (lv_at hl 0 rfl) ?_
            refine lv_iload_n hx hb dX6_luck_32 rfl (lv_at hl 1 rfl) ?_
            refine r_iconst hx hb dX6_luck_33 (by decide) (by decide) (fun x33 e33 => ?_)
            refine lv_iload_n hx hb dX6_luck_34 rfl (lv_at hl 2 rfl) ?_
            refine r_shl1 hx hb dX6_luck_35 (by omega) (by omega) (by omega) (fun x35 e35 g35 k35 => ?_)
            refine cl_Vl (rest := []) hC hK hSK (c_X6_weighed l z v h0 (o0) g0 p1 x35) k_X6_weighed mw_3_191 ⟨rfl, rfl, Nat.le_of_ble_eq_true rfl, Nat.le_of_ble_eq_true rfl⟩ (rv_HeelDance hK hT g0) ⟨_, hwf, hvis, hT⟩ rfl hl.1 rfl (Nat.le_of_ble_eq_true rfl) dX6_luck_36 ⟨Nat.zero_le _, Nat.zero_le _⟩ hS (fun _ h => h) (fun _ _ h => h) (fun r36 H locs hpo hS => ?_)
            obtain ⟨gh36, hwf, hvis, hT⟩ := hpo
            refine r_bipush hx hb dX6_luck_39 rfl (fun x39 e39 => ?_)
            refine lv_aload_n hx hb dX6_luck_41 rfl (lv_at hl 0 rfl) ?_
            refine gt_HeelDance_now hx hb hts ic_HeelDance hown hK hT g0 (hts _ mw_2_8) dX6_luck_42 (fun q42 hq42 => ?_)
            refine gt_Evening_floor hx hb hts ic_Evening hown hK hT hq42 (hts _ mw_1_91) dX6_luck_45 (fun q45 hq45 => ?_)
            refine gt_Floor_men hx hb hts ic_Floor hown hK hT hq45 (hts _ mw_1_62) dX6_luck_48 (fun x48 i48 e48 g48 => ?_)
            refine cl_Sl (rest := [.long r36]) hC hK hSK (c_X6_power l z gh36 x39 x48) k_X6_power mw_3_195 ⟨rfl, rfl, Nat.le_of_ble_eq_true rfl, Nat.le_of_ble_eq_true rfl⟩ hT rfl hl.1 rfl (Nat.le_of_ble_eq_true rfl) dX6_luck_51 ⟨Nat.zero_le _, Nat.zero_le _⟩ hS (fun _ h => h) (fun _ _ h => h) (fun r51 H locs hpo hS => ?_)
            have hT := hpo
            refine lv_iload_n hx hb dX6_luck_54 rfl (lv_at hl 3 rfl) ?_
            refine cl_Sl (rest := []) hC hK hSK (c_X6_fraction l z gh36 r36 r51 p3) k_X6_fraction mw_3_202 ⟨rfl, rfl, Nat.le_of_ble_eq_true rfl, Nat.le_of_ble_eq_true rfl⟩ hT rfl hl.1 rfl (Nat.le_of_ble_eq_true rfl) dX6_luck_55 ⟨Nat.zero_le _, Nat.zero_le _⟩ hS (fun _ h => h) (fun _ _ h => h) (fun r55 H locs hpo hS => ?_)
            have hT := hpo
            exact rt_l hx hb hr hlk hS ⟨_, hwf, hvis, hT⟩ dX6_luck_58
          · refine r_ldc2 (-1) rfl hx hb hts hown mw_3_190 dX6_luck_27 (fun x27 e27 => ?_)
            exact rt_l hx hb hr hlk hS ⟨_, hwf, hvis, hT⟩ dX6_luck_30
theorem k_X6_mean : cBV yX6_mean cX6_mean 4 (some .long) 2 := ⟨mw_3_209, mw_3_210, mw_1_1, mw_3_211, ⟨by decide, by decide, by decide⟩⟩
set_option maxHeartbeats 4000000 in
set_option maxRecDepth 100000 in
theorem c_X6_mean (l : Launch) (z : Zt) (v : Nat → Nat → Int) (h0 o0 : Nat) (g0 : zG z h0 = (16, o0)) (p1 : Int32) (p2 : Int32) : Met l yX6_mean (uw yX6_mean cX6_mean 4 (some .long)) (rmF 7 202) (PcW z [.ref h0, .int p1, .int p2] (fun H => WX z v H)) (QcL z (fun r H => WX z v H)) 0 0 (zA z) := by
  refine Met.ofW (cc := cX6_mean) (maxL := 4) (ret := (some .long)) (by decide) rfl ?_
  intro p e s m args below meth c s₁ B hml hv
  obtain ⟨rfl, hW, hK, hSK⟩ := hv
  have hx := B.exec
  have hb := B.bytes
  have hr := B.returns
  have hts : ∀ w ∈ lw_ok, w.before ([.ref h0, .int p1, .int p2] : List Value).toArray s = true := fun w hw => atoms_spec (ws := uw yX6_mean cX6_mean 4 (some .long)) B.pre w (List.mem_cons_of_mem _ hw)
  have hown : s.vm.findClass RX6 = some m.cls := findClass_of_methodNamed B.named
  have hlk := B.notSynchronized
  have hC : CallFix p m c cX6_mean 4 s ([.ref h0, .int p1, .int p2] : List Value).toArray lw_ok RX6 := ⟨hx, hb, hml, hown, hts⟩
  have hS : va_S (zA z) s.heap s.heap [] := va_S.rf
  have hl := lv_entry ([.ref h0, .int p1, .int p2]) (n := 4) (Nat.le_of_ble_eq_true rfl)
  rw [lg_entry_eq]
  generalize (lg_sl ([.ref h0, .int p1, .int p2]) ++ List.replicate (4 - (lg_sl ([.ref h0, .int p1, .int p2])).length) Slot.unset).toArray = ls at hl ⊢
  have hl : lv_has ls 4 [(0, .ref h0), (1, .int p1), (2, .int p2)] := hl
  show W p l e (rmF 7 202) s m ([.ref h0, .int p1, .int p2] : List Value).toArray below meth c s.heap [] 0 0 (MQ below (QcL z (fun r H => WX z v H)) ([.ref h0, .int p1, .int p2] : List Value).toArray s 0 0 (zA z)) (F0 m 0 ls [])
  obtain ⟨gh, hwf, hvis, hT⟩ := hW
  have mx_p1 := i_mx p1
  have mx_p2 := i_mx p2
  refine lv_iload_n hx hb dX6_mean_0 rfl (lv_at hl 1 rfl) ?_
  refine r_if_lt (tgt := 19) hx hb dX6_mean_1 (by decide) (fun c1 => ?_) (fun c1 => ?_)
  · refine r_ldc2 (-1) rfl hx hb hts hown mw_3_190 dX6_mean_19 (fun x19 e19 => ?_)
    exact rt_l hx hb hr hlk hS ⟨_, hwf, hvis, hT⟩ dX6_mean_22
  · refine lv_iload_n hx hb dX6_mean_4 rfl (lv_at hl 1 rfl) ?_
    refine r_bipush hx hb dX6_mean_5 rfl (fun x5 e5 => ?_)
    refine r_icmp_gt (tgt := 19) hx hb dX6_mean_7 (by decide) (fun c7 => ?_) (fun c7 => ?_)
    · refine r_ldc2 (-1) rfl hx hb hts hown mw_3_190 dX6_mean_19 (fun x19 e19 => ?_)
      exact rt_l hx hb hr hlk hS ⟨_, hwf, hvis, hT⟩ dX6_mean_22
    · refine lv_iload_n hx hb dX6_mean_10 rfl (lv_at hl 2 rfl) ?_
      refine r_if_lt (tgt := 19) hx hb dX6_mean_11 (by decide) (fun c11 => ?_) (fun c11 => ?_)
      · refine r_ldc2 (-1) rfl hx hb hts hown mw_3_190 dX6_mean_19 (fun x19 e19 => ?_)
        exact rt_l hx hb hr hlk hS ⟨_, hwf, hvis, hT⟩ dX6_mean_22
      · refine lv_iload_n hx hb dX6_mean_14 rfl (lv_at hl 2 rfl) ?_
        refine r_iconst hx hb dX6_mean_15 (by decide) (by decide) (fun x15 e15 => ?_)
        refine r_icmp_le (tgt := 23) hx hb dX6_mean_16 (by decide) (fun c16 => ?_) (fun c16 => ?_)
        · refine r_iconst hx hb dX6_mean_23 (by decide) (by decide) (fun x23 e23 => ?_)
          refine lv_aload_n hx hb dX6_mean_24 rfl (lv_at hl 0 rfl) ?_
          refine gt_HeelDance_now hx hb hts ic_HeelDance hown hK hT g0 (hts _ mw_2_8) dX6_mean_25 (fun q25 hq25 => ?_)
          refine gt_Evening_floor hx hb hts ic_Evening hown hK hT hq25 (hts _ mw_1_91) dX6_mean_28 (fun q28 hq28 => ?_)
          refine gt_Floor_men hx hb hts ic_Floor hown hK hT hq28 (hts _ mw_1_62) dX6_mean_31 (fun x31 i31 e31 g31 => ?_)
          refine r_shl1 hx hb dX6_mean_34 (by omega) (by omega) (by omega) (fun x34 e34 g34 k34 => ?_)
          refine r_iconst hx hb dX6_mean_35 (by decide) (by decide) (fun x35 e35 => ?_)
          refine r_isub hx hb dX6_mean_36 (by omega) (by omega) (fun x36 e36 => ?_)
          refine lv_istore_n (lv' := [(3, .int x36), (0, .ref h0), (1, .int p1), (2, .int p2)]) hx hb dX6_mean_37 rfl hl (by decide) rfl (fun ls hl => ?_)
          refine lv_aload_n hx hb dX6_mean_38 rfl (lv_at hl 1 rfl) ?_
          refine lv_iload_n hx hb dX6_mean_39 rfl (lv_at hl 2 rfl) ?_
          refine lv_iload_n hx hb dX6_mean_40 rfl (lv_at hl 0 rfl) ?_
          refine cl_Vl (rest := []) hC hK hSK (c_X6_weighed l z v h0 (o0) g0 p1 x36) k_X6_weighed mw_3_191 ⟨rfl, rfl, Nat.le_of_ble_eq_true rfl, Nat.le_of_ble_eq_true rfl⟩ (rv_HeelDance hK hT g0) ⟨_, hwf, hvis, hT⟩ rfl hl.1 rfl (Nat.le_of_ble_eq_true rfl) dX6_mean_41 ⟨Nat.zero_le _, Nat.zero_le _⟩ hS (fun _ h => h) (fun _ _ h => h) (fun r41 H locs hpo hS => ?_)
          obtain ⟨gh41, hwf, hvis, hT⟩ := hpo
          refine r_bipush hx hb dX6_mean_44 rfl (fun x44 e44 => ?_)
          refine lv_aload_n hx hb dX6_mean_46 rfl (lv_at hl 1 rfl) ?_
          refine gt_HeelDance_now hx hb hts ic_HeelDance hown hK hT g0 (hts _ mw_2_8) dX6_mean_47 (fun q47 hq47 => ?_)
          refine gt_Evening_floor hx hb hts ic_Evening hown hK hT hq47 (hts _ mw_1_91) dX6_mean_50 (fun q50 hq50 => ?_)
          refine gt_Floor_men hx hb hts ic_Floor hown hK hT hq50 (hts _ mw_1_62) dX6_mean_53 (fun x53 i53 e53 g53 => ?_)
          refine cl_Sl (rest := [.long r41]) hC hK hSK (c_X6_power l z gh41 x44 x53) k_X6_power mw_3_195 ⟨rfl, rfl, Nat.le_of_ble_eq_true rfl, Nat.le_of_ble_eq_true rfl⟩ hT rfl hl.1 rfl (Nat.le_of_ble_eq_true rfl) dX6_mean_56 ⟨Nat.zero_le _, Nat.zero_le _⟩ hS (fun _ h => h) (fun _ _ h => h) (fun r56 H locs hpo hS => ?_)
          have hT := hpo
          refine lv_iload_n hx hb dX6_mean_59 rfl (lv_at hl 3 rfl) ?_
          refine cl_Sl (rest := []) hC hK hSK (c_X6_fraction l z gh41 r41 r56 p2) k_X6_fraction mw_3_202 ⟨rfl, rfl, Nat.le_of_ble_eq_true rfl, Nat.le_of_ble_eq_true rfl⟩ hT rfl hl.1 rfl (Nat.le_of_ble_eq_true rfl) dX6_mean_60 ⟨Nat.zero_le _, Nat.zero_le _⟩ hS (fun _ h => h) (fun _ _ h => h) (fun r60 H locs hpo hS => ?_)
          have hT := hpo
          exact rt_l hx hb hr hlk hS ⟨_, hwf, hvis, hT⟩ dX6_mean_63
        · refine r_ldc2 (-1) rfl hx hb hts hown mw_3_190 dX6_mean_19 (fun x19 e19 => ?_)
          exact rt_l hx hb hr hlk hS ⟨_, hwf, hvis, hT⟩ dX6_mean_22
theorem k_X6_bent : cBV yX6_bent cX6_bent 3 (some .int) 0 := ⟨mw_3_225, mw_3_226, mw_1_1, mw_3_227, ⟨by decide, by decide, by decide⟩⟩
set_option maxHeartbeats 4000000 in
set_option maxRecDepth 100000 in
theorem c_X6_bent (l : Launch) (z : Zt) (v : Nat → Nat → Int) (h0 o0 : Nat) (g0 : zG z h0 = (16, o0)) : Met l yX6_bent (uw yX6_bent cX6_bent 3 (some .int)) (rmF 6 172) (PcW z [.ref h0] (fun H => WX z v H)) (QcI z (fun r H => WX z v H)) 0 0 (zA z) := by
  refine Met.ofW (cc := cX6_bent) (maxL := 3) (ret := (some .int)) (by decide) rfl ?_
  intro p e s m args below meth c s₁ B hml hv
  obtain ⟨rfl, hW, hK, hSK⟩ := hv
  have hx := B.exec
  have hb := B.bytes
  have hr := B.returns
  have hts : ∀ w ∈ lw_ok, w.before ([.ref h0] : List Value).toArray s = true := fun w hw => atoms_spec (ws := uw yX6_bent cX6_bent 3 (some .int)) B.pre w (List.mem_cons_of_mem _ hw)
  have hown : s.vm.findClass RX6 = some m.cls := findClass_of_methodNamed B.named
  have hlk := B.notSynchronized
  have hC : CallFix p m c cX6_bent 3 s ([.ref h0] : List Value).toArray lw_ok RX6 := ⟨hx, hb, hml, hown, hts⟩
  have hS : va_S (zA z) s.heap s.heap [] := va_S.rf
  have hl := lv_entry ([.ref h0]) (n := 3) (Nat.le_of_ble_eq_true rfl)
  rw [lg_entry_eq]
  generalize (lg_sl ([.ref h0]) ++ List.replicate (3 - (lg_sl ([.ref h0])).length) Slot.unset).toArray = ls at hl ⊢
  have hl : lv_has ls 3 [(0, .ref h0)] := hl
  show W p l e (rmF 6 172) s m ([.ref h0] : List Value).toArray below meth c s.heap [] 0 0 (MQ below (QcI z (fun r H => WX z v H)) ([.ref h0] : List Value).toArray s 0 0 (zA z)) (F0 m 0 ls [])
  obtain ⟨gh, hwf, hvis, hT⟩ := hW
  refine r_iconst hx hb dX6_bent_0 (by decide) (by decide) (fun x0 e0 => ?_)
  refine lv_istore_n (lv' := [(1, .int x0), (0, .ref h0)]) hx hb dX6_bent_1 rfl hl (by decide) rfl (fun ls hl => ?_)
  refine r_iconst hx hb dX6_bent_2 (by decide) (by decide) (fun x2 e2 => ?_)
  refine lv_istore_n (lv' := [(2, .int x2), (1, .int x0), (0, .ref h0)]) hx hb dX6_bent_3 rfl hl (by decide) rfl (fun ls hl => ?_)
  have J4 : ∀ (n4 : Nat) (ls : Array Slot) (H : Heap) (locs : List Loc) (y4_1 : Int32) (y4_2 : Int32) (gh : Gh), (0 ≤ y4_2.toInt ∧ y4_2.toInt ≤ 5) → (5 - y4_2.toInt) < (n4 : Int) → wf z gh → vis z gh v → TY z (zA z) gh H → va_S (zA z) s.heap H locs → lv_has ls 3 [(0, .ref h0), (1, .int y4_1), (2, .int y4_2)] → W p l e (rmF 6 172) s m ([.ref h0] : List Value).toArray below meth c H locs 0 0 (MQ below (QcI z (fun r H => WX z v H)) ([.ref h0] : List Value).toArray s 0 0 (zA z)) (F0 m 4 ls []) := by
    intro n4
    induction n4 with
    | zero => intro ls H locs y4_1 y4_2 gh j4_y4_2 mm4 hwf hvis hT hS hl; exfalso; omega
    | succ n4 ih4 =>
      intro ls H locs y4_1 y4_2 gh j4_y4_2 mm4 hwf hvis hT hS hl
      refine lv_iload_n hx hb dX6_bent_4 rfl (lv_at hl 2 rfl) ?_
      refine lv_aload_n hx hb dX6_bent_5 rfl (lv_at hl 0 rfl) ?_
      refine gt_HeelDance_now hx hb hts ic_HeelDance hown hK hT g0 (hts _ mw_2_8) dX6_bent_6 (fun q6 hq6 => ?_)
      refine gt_Evening_floor hx hb hts ic_Evening hown hK hT hq6 (hts _ mw_1_91) dX6_bent_9 (fun q9 hq9 => ?_)
      refine gt_Floor_men hx hb hts ic_Floor hown hK hT hq9 (hts _ mw_1_62) dX6_bent_12 (fun x12 i12 e12 g12 => ?_)
      refine r_icmp_ge (tgt := 67) hx hb dX6_bent_15 (by decide) (fun c15 => ?_) (fun c15 => ?_)
      · refine lv_iload_n hx hb dX6_bent_67 rfl (lv_at hl 1 rfl) ?_
        exact rt_i hx hb hr hlk hS ⟨_, hwf, hvis, hT⟩ dX6_bent_68
      · refine lv_aload_n hx hb dX6_bent_18 rfl (lv_at hl 0 rfl) ?_
        refine gt_HeelDance_walk hx hb hts ic_HeelDance hown hK hT g0 (hts _ mw_2_11) dX6_bent_19 (fun q19 hq19 => ?_)
        refine gt_Walk_floor hx hb hts ic_Walk hown hK hT hq19 (hts _ mw_1_177) dX6_bent_22 (fun q22 hq22 => ?_)
        refine lv_aload_n hx hb dX6_bent_25 rfl (lv_at hl 0 rfl) ?_
        refine gt_HeelDance_now hx hb hts ic_HeelDance hown hK hT g0 (hts _ mw_2_8) dX6_bent_26 (fun q26 hq26 => ?_)
        refine gt_Evening_floor hx hb hts ic_Evening hown hK hT hq26 (hts _ mw_1_91) dX6_bent_29 (fun q29 hq29 => ?_)
        refine cl_Vv (rest := []) hC hK hSK (c_X1_copyFrom l z v q22 (5) hq22 q29 (1) hq29 (fun q9 => by have h9 := hq22; rw [q9, hq29] at h9; have h8 := congrArg Prod.snd h9; dsimp only at h8; omega)) k_X1_copyFrom mw_3_88 ⟨rfl, rfl, Nat.le_of_ble_eq_true rfl, Nat.le_of_ble_eq_true rfl⟩ (rv_Floor hK hT hq22) ⟨_, hwf, hvis, hT⟩ rfl hl.1 rfl (Nat.le_of_ble_eq_true rfl) dX6_bent_32 ⟨Nat.zero_le _, Nat.zero_le _⟩ hS (fun _ h => h) (fun _ _ h => h) (fun H locs hpo hS => ?_)
        obtain ⟨gh32, hwf, hvis, hT⟩ := hpo
        refine lv_aload_n hx hb dX6_bent_35 rfl (lv_at hl 0 rfl) ?_
        refine gt_HeelDance_walk hx hb hts ic_HeelDance hown hK hT g0 (hts _ mw_2_11) dX6_bent_36 (fun q36 hq36 => ?_)
        refine gt_Walk_floor hx hb hts ic_Walk hown hK hT hq36 (hts _ mw_1_177) dX6_bent_39 (fun q39 hq39 => ?_)
        refine gt_Floor_kind hx hb hts ic_Floor hown hK hT hq39 (hts _ mw_1_44) dX6_bent_42 (fun q42 hq42 => ?_)
        refine lv_iload_n hx hb dX6_bent_45 rfl (lv_at hl 2 rfl) ?_
        refine r_iconst hx hb dX6_bent_46 (by decide) (by decide) (fun x46 e46 => ?_)
        refine as_20 hx hb hK hT hS hq42 (by omega) (by omega) dX6_bent_47 (fun H locs hT hS => ?_)
        refine lv_aload_n hx hb dX6_bent_48 rfl (lv_at hl 0 rfl) ?_
        refine cl_Vi (rest := []) hC hK hSK (c_X6_walkIsAsSeen l z v h0 (o0) g0) k_X6_walkIsAsSeen mw_3_228 ⟨rfl, rfl, Nat.le_of_ble_eq_true rfl, Nat.le_of_ble_eq_true rfl⟩ (rv_HeelDance hK hT g0) ⟨_, hwf, hvis, hT⟩ rfl hl.1 rfl (Nat.le_of_ble_eq_true rfl) dX6_bent_49 ⟨Nat.zero_le _, Nat.zero_le _⟩ hS (fun _ h => h) (fun _ _ h => h) (fun r49 H locs hpo hS => ?_)
        obtain ⟨⟨gh49, hwf, hvis, hT⟩, u49_0⟩ := hpo
        have J61 : ∀ (ls : Array Slot) (H : Heap) (locs : List Loc) (y61_1 : Int32) (gh : Gh), (5 - y4_2.toInt) < ((n4 + 1 : Nat) : Int) → wf z gh → vis z gh v → TY z (zA z) gh H → va_S (zA z) s.heap H locs → lv_has ls 3 [(0, .ref h0), (1, .int y61_1), (2, .int y4_2)] → W p l e (rmF 6 172) s m ([.ref h0] : List Value).toArray below meth c H locs 0 0 (MQ below (QcI z (fun r H => WX z v H)) ([.ref h0] : List Value).toArray s 0 0 (zA z)) (F0 m 61 ls []) := by
          intro ls H locs y61_1 gh mf61_4 hwf hvis hT hS hl
          refine r_iinc (lv' := fun v__ => [(2, .int v__), (0, .ref h0), (1, .int y61_1)]) hx hb dX6_bent_61 hl (k := 2) rfl (by decide) (fun _ => rfl) ⟨by decide, by decide⟩ (by omega) (by omega) (fun x61 ls e61 hl => ?_)
          refine lv_goto (tgt := 4) hx hb dX6_bent_64 (by decide) ?_
          exact ih4 ls _ _ y61_1 x61 _ (by omega) (by omega) hwf hvis hT hS (lv_sub hl [1, 2, 0] rfl)
        refine r_if_eq (tgt := 61) hx hb dX6_bent_52 (by decide) (fun c52 => ?_) (fun c52 => ?_)
        · exact J61 ls _ _ y4_1 _ (by omega) hwf hvis hT hS (lv_sub hl [0, 1, 2] rfl)
        · refine lv_iload_n hx hb dX6_bent_55 rfl (lv_at hl 1 rfl) ?_
          refine r_iconst hx hb dX6_bent_56 (by decide) (by decide) (fun x56 e56 => ?_)
          refine lv_iload_n hx hb dX6_bent_57 rfl (lv_at hl 2 rfl) ?_
          refine r_shl1 hx hb dX6_bent_58 (by omega) (by omega) (by omega) (fun x58 e58 g58 k58 => ?_)
          refine w_ior hx hb dX6_bent_59 (fun x59 => ?_)
          refine lv_istore_n (lv' := [(1, .int x59), (0, .ref h0), (2, .int y4_2)]) hx hb dX6_bent_60 rfl hl (by decide) rfl (fun ls hl => ?_)
          exact J61 ls _ _ x59 _ (by omega) hwf hvis hT hS (lv_sub hl [1, 0, 2] rfl)
  exact J4 (((5 - x2.toInt)).toNat + 1) ls _ _ x0 x2 _ (by omega) (by omega) hwf hvis hT hS (lv_sub hl [2, 1, 0] rfl)
theorem k_X6_heights : cBV yX6_heights cX6_heights 4 (some .int) 1 := ⟨mw_3_233, mw_3_234, mw_1_1, mw_3_235, ⟨by decide, by decide, by decide⟩⟩
set_option maxHeartbeats 4000000 in
set_option maxRecDepth 100000 in
theorem c_X6_heights (l : Launch) (z : Zt) (v : Nat → Nat → Int) (h0 o0 : Nat) (g0 : zG z h0 = (16, o0)) (p1 : Int32) : Met l yX6_heights (uw yX6_heights cX6_heights 4 (some .int)) (rmF 6 172) (PcW z [.ref h0, .int p1] (fun H => WX z v H)) (QcI z (fun r H => WX z v H)) 0 0 (zA z) := by
  refine Met.ofW (cc := cX6_heights) (maxL := 4) (ret := (some .int)) (by decide) rfl ?_
  intro p e s m args below meth c s₁ B hml hv
  obtain ⟨rfl, hW, hK, hSK⟩ := hv
  have hx := B.exec
  have hb := B.bytes
  have hr := B.returns
  have hts : ∀ w ∈ lw_ok, w.before ([.ref h0, .int p1] : List Value).toArray s = true := fun w hw => atoms_spec (ws := uw yX6_heights cX6_heights 4 (some .int)) B.pre w (List.mem_cons_of_mem _ hw)
  have hown : s.vm.findClass RX6 = some m.cls := findClass_of_methodNamed B.named
  have hlk := B.notSynchronized
  have hC : CallFix p m c cX6_heights 4 s ([.ref h0, .int p1] : List Value).toArray lw_ok RX6 := ⟨hx, hb, hml, hown, hts⟩
  have hS : va_S (zA z) s.heap s.heap [] := va_S.rf
  have hl := lv_entry ([.ref h0, .int p1]) (n := 4) (Nat.le_of_ble_eq_true rfl)
  rw [lg_entry_eq]
  generalize (lg_sl ([.ref h0, .int p1]) ++ List.replicate (4 - (lg_sl ([.ref h0, .int p1])).length) Slot.unset).toArray = ls at hl ⊢
  have hl : lv_has ls 4 [(0, .ref h0), (1, .int p1)] := hl
  show W p l e (rmF 6 172) s m ([.ref h0, .int p1] : List Value).toArray below meth c s.heap [] 0 0 (MQ below (QcI z (fun r H => WX z v H)) ([.ref h0, .int p1] : List Value).toArray s 0 0 (zA z)) (F0 m 0 ls [])
  obtain ⟨gh, hwf, hvis, hT⟩ := hW
  have mx_p1 := i_mx p1
  refine lv_aload_n hx hb dX6_heights_0 rfl (lv_at hl 0 rfl) ?_
  refine lv_iload_n hx hb dX6_heights_1 rfl (lv_at hl 1 rfl) ?_
  refine cl_Vi (rest := []) hC hK hSK (c_X6_isNobody l z gh h0 (o0) g0 p1) k_X6_isNobody mw_2_225 ⟨rfl, rfl, Nat.le_of_ble_eq_true rfl, Nat.le_of_ble_eq_true rfl⟩ (rv_HeelDance hK hT g0) hT rfl hl.1 rfl (Nat.le_of_ble_eq_true rfl) dX6_heights_2 ⟨Nat.zero_le _, Nat.zero_le _⟩ hS (fun _ h => h) (fun _ _ h => h) (fun r2 H locs hpo hS => ?_)
  obtain ⟨hT, u2_0, u2_1⟩ := hpo
  refine r_if_eq (tgt := 10) hx hb dX6_heights_5 (by decide) (fun c5 => ?_) (fun c5 => ?_)
  · refine r_iconst hx hb dX6_heights_10 (by decide) (by decide) (fun x10 e10 => ?_)
    refine lv_istore_n (lv' := [(2, .int x10), (0, .ref h0), (1, .int p1)]) hx hb dX6_heights_11 rfl hl (by decide) rfl (fun ls hl => ?_)
    refine r_iconst hx hb dX6_heights_12 (by decide) (by decide) (fun x12 e12 => ?_)
    refine lv_istore_n (lv' := [(3, .int x12), (2, .int x10), (0, .ref h0), (1, .int p1)]) hx hb dX6_heights_13 rfl hl (by decide) rfl (fun ls hl => ?_)
    have J14 : ∀ (n14 : Nat) (ls : Array Slot) (H : Heap) (locs : List Loc) (y14_2 : Int32) (y14_3 : Int32) (gh : Gh), (0 ≤ y14_3.toInt ∧ y14_3.toInt ≤ 10) → (10 - y14_3.toInt) < (n14 : Int) → wf z gh → vis z gh v → TY z (zA z) gh H → va_S (zA z) s.heap H locs → lv_has ls 4 [(0, .ref h0), (1, .int p1), (2, .int y14_2), (3, .int y14_3)] → W p l e (rmF 6 172) s m ([.ref h0, .int p1] : List Value).toArray below meth c H locs 0 0 (MQ below (QcI z (fun r H => WX z v H)) ([.ref h0, .int p1] : List Value).toArray s 0 0 (zA z)) (F0 m 14 ls []) := by
      intro n14
      induction n14 with
      | zero => intro ls H locs y14_2 y14_3 gh j14_y14_3 mm14 hwf hvis hT hS hl; exfalso; omega
      | succ n14 ih14 =>
        intro ls H locs y14_2 y14_3 gh j14_y14_3 mm14 hwf hvis hT hS hl
        refine lv_iload_n hx hb dX6_heights_14 rfl (lv_at hl 3 rfl) ?_
        refine r_bipush hx hb dX6_heights_15 rfl (fun x15 e15 => ?_)
        refine r_icmp_gt (tgt := 69) hx hb dX6_heights_17 (by decide) (fun c17 => ?_) (fun c17 => ?_)
        · refine lv_iload_n hx hb dX6_heights_69 rfl (lv_at hl 2 rfl) ?_
          exact rt_i hx hb hr hlk hS ⟨_, hwf, hvis, hT⟩ dX6_heights_70
        · refine lv_aload_n hx hb dX6_heights_20 rfl (lv_at hl 0 rfl) ?_
          refine gt_HeelDance_walk hx hb hts ic_HeelDance hown hK hT g0 (hts _ mw_2_11) dX6_heights_21 (fun q21 hq21 => ?_)
          refine gt_Walk_floor hx hb hts ic_Walk hown hK hT hq21 (hts _ mw_1_177) dX6_heights_24 (fun q24 hq24 => ?_)
          refine lv_aload_n hx hb dX6_heights_27 rfl (lv_at hl 0 rfl) ?_
          refine gt_HeelDance_now hx hb hts ic_HeelDance hown hK hT g0 (hts _ mw_2_8) dX6_heights_28 (fun q28 hq28 => ?_)
          refine gt_Evening_floor hx hb hts ic_Evening hown hK hT hq28 (hts _ mw_1_91) dX6_heights_31 (fun q31 hq31 => ?_)
          refine cl_Vv (rest := []) hC hK hSK (c_X1_copyFrom l z v q24 (5) hq24 q31 (1) hq31 (fun q9 => by have h9 := hq24; rw [q9, hq31] at h9; have h8 := congrArg Prod.snd h9; dsimp only at h8; omega)) k_X1_copyFrom mw_3_88 ⟨rfl, rfl, Nat.le_of_ble_eq_true rfl, Nat.le_of_ble_eq_true rfl⟩ (rv_Floor hK hT hq24) ⟨_, hwf, hvis, hT⟩ rfl hl.1 rfl (Nat.le_of_ble_eq_true rfl) dX6_heights_34 ⟨Nat.zero_le _, Nat.zero_le _⟩ hS (fun _ h => h) (fun _ _ h => h) (fun H locs hpo hS => ?_)
          obtain ⟨gh34, hwf, hvis, hT⟩ := hpo
          refine lv_aload_n hx hb dX6_heights_37 rfl (lv_at hl 0 rfl) ?_
          refine gt_HeelDance_walk hx hb hts ic_HeelDance hown hK hT g0 (hts _ mw_2_11) dX6_heights_38 (fun q38 hq38 => ?_)
          refine gt_Walk_floor hx hb hts ic_Walk hown hK hT hq38 (hts _ mw_1_177) dX6_heights_41 (fun q41 hq41 => ?_)
          refine gt_Floor_height hx hb hts ic_Floor hown hK hT hq41 (hts _ mw_1_46) dX6_heights_44 (fun q44 hq44 => ?_)
          refine lv_iload_n hx hb dX6_heights_47 rfl (lv_at hl 1 rfl) ?_
          refine lv_iload_n hx hb dX6_heights_48 rfl (lv_at hl 3 rfl) ?_
          refine as_20 hx hb hK hT hS hq44 (by omega) (by omega) dX6_heights_49 (fun H locs hT hS => ?_)
          refine lv_aload_n hx hb dX6_heights_50 rfl (lv_at hl 0 rfl) ?_
          refine cl_Vi (rest := []) hC hK hSK (c_X6_walkIsAsSeen l z v h0 (o0) g0) k_X6_walkIsAsSeen mw_3_228 ⟨rfl, rfl, Nat.le_of_ble_eq_true rfl, Nat.le_of_ble_eq_true rfl⟩ (rv_HeelDance hK hT g0) ⟨_, hwf, hvis, hT⟩ rfl hl.1 rfl (Nat.le_of_ble_eq_true rfl) dX6_heights_51 ⟨Nat.zero_le _, Nat.zero_le _⟩ hS (fun _ h => h) (fun _ _ h => h) (fun r51 H locs hpo hS => ?_)
          obtain ⟨⟨gh51, hwf, hvis, hT⟩, u51_0⟩ := hpo
          have J63 : ∀ (ls : Array Slot) (H : Heap) (locs : List Loc) (y63_2 : Int32) (gh : Gh), (10 - y14_3.toInt) < ((n14 + 1 : Nat) : Int) → wf z gh → vis z gh v → TY z (zA z) gh H → va_S (zA z) s.heap H locs → lv_has ls 4 [(0, .ref h0), (1, .int p1), (2, .int y63_2), (3, .int y14_3)] → W p l e (rmF 6 172) s m ([.ref h0, .int p1] : List Value).toArray below meth c H locs 0 0 (MQ below (QcI z (fun r H => WX z v H)) ([.ref h0, .int p1] : List Value).toArray s 0 0 (zA z)) (F0 m 63 ls []) := by
            intro ls H locs y63_2 gh mf63_14 hwf hvis hT hS hl
            refine r_iinc (lv' := fun v__ => [(3, .int v__), (0, .ref h0), (1, .int p1), (2, .int y63_2)]) hx hb dX6_heights_63 hl (k := 3) rfl (by decide) (fun _ => rfl) ⟨by decide, by decide⟩ (by omega) (by omega) (fun x63 ls e63 hl => ?_)
            refine lv_goto (tgt := 14) hx hb dX6_heights_66 (by decide) ?_
            exact ih14 ls _ _ y63_2 x63 _ (by omega) (by omega) hwf hvis hT hS (lv_sub hl [1, 2, 3, 0] rfl)
          refine r_if_eq (tgt := 63) hx hb dX6_heights_54 (by decide) (fun c54 => ?_) (fun c54 => ?_)
          · exact J63 ls _ _ y14_2 _ (by omega) hwf hvis hT hS (lv_sub hl [0, 1, 2, 3] rfl)
          · refine lv_iload_n hx hb dX6_heights_57 rfl (lv_at hl 2 rfl) ?_
            refine r_iconst hx hb dX6_heights_58 (by decide) (by decide) (fun x58 e58 => ?_)
            refine lv_iload_n hx hb dX6_heights_59 rfl (lv_at hl 3 rfl) ?_
            refine w_ishl hx hb dX6_heights_60 (fun x60 => ?_)
            refine w_ior hx hb dX6_heights_61 (fun x61 => ?_)
            refine lv_istore_n (lv' := [(2, .int x61), (0, .ref h0), (1, .int p1), (3, .int y14_3)]) hx hb dX6_heights_62 rfl hl (by decide) rfl (fun ls hl => ?_)
            exact J63 ls _ _ x61 _ (by omega) hwf hvis hT hS (lv_sub hl [1, 2, 0, 3] rfl)
    exact J14 (((10 - x12.toInt)).toNat + 1) ls _ _ x10 x12 _ (by omega) (by omega) hwf hvis hT hS (lv_sub hl [2, 3, 1, 0] rfl)
  · refine r_iconst hx hb dX6_heights_8 (by decide) (by decide) (fun x8 e8 => ?_)
    exact rt_i hx hb hr hlk hS ⟨_, hwf, hvis, hT⟩ dX6_heights_9
theorem k_X6_shoes : cBV yX6_shoes cX6_shoes 6 (some .int) 1 := ⟨mw_3_237, mw_3_238, mw_1_1, mw_3_239, ⟨by decide, by decide, by decide⟩⟩
set_option maxHeartbeats 4000000 in
set_option maxRecDepth 100000 in
theorem c_X6_shoes (l : Launch) (z : Zt) (v : Nat → Nat → Int) (h0 o0 : Nat) (g0 : zG z h0 = (16, o0)) (p1 : Int32) : Met l yX6_shoes (uw yX6_shoes cX6_shoes 6 (some .int)) (rmF 6 172) (PcW z [.ref h0, .int p1] (fun H => WX z v H)) (QcI z (fun r H => WX z v H)) 0 0 (zA z) := by
  refine Met.ofW (cc := cX6_shoes) (maxL := 6) (ret := (some .int)) (by decide) rfl ?_
  intro p e s m args below meth c s₁ B hml hv
  obtain ⟨rfl, hW, hK, hSK⟩ := hv
  have hx := B.exec
  have hb := B.bytes
  have hr := B.returns
  have hts : ∀ w ∈ lw_ok, w.before ([.ref h0, .int p1] : List Value).toArray s = true := fun w hw => atoms_spec (ws := uw yX6_shoes cX6_shoes 6 (some .int)) B.pre w (List.mem_cons_of_mem _ hw)
  have hown : s.vm.findClass RX6 = some m.cls := findClass_of_methodNamed B.named
  have hlk := B.notSynchronized
  have hC : CallFix p m c cX6_shoes 6 s ([.ref h0, .int p1] : List Value).toArray lw_ok RX6 := ⟨hx, hb, hml, hown, hts⟩
  have hS : va_S (zA z) s.heap s.heap [] := va_S.rf
  have hl := lv_entry ([.ref h0, .int p1]) (n := 6) (Nat.le_of_ble_eq_true rfl)
  rw [lg_entry_eq]
  generalize (lg_sl ([.ref h0, .int p1]) ++ List.replicate (6 - (lg_sl ([.ref h0, .int p1])).length) Slot.unset).toArray = ls at hl ⊢
  have hl : lv_has ls 6 [(0, .ref h0), (1, .int p1)] := hl
  show W p l e (rmF 6 172) s m ([.ref h0, .int p1] : List Value).toArray below meth c s.heap [] 0 0 (MQ below (QcI z (fun r H => WX z v H)) ([.ref h0, .int p1] : List Value).toArray s 0 0 (zA z)) (F0 m 0 ls [])
  obtain ⟨gh, hwf, hvis, hT⟩ := hW
  have mx_p1 := i_mx p1
  refine lv_iload_n hx hb dX6_shoes_0 rfl (lv_at hl 1 rfl) ?_
  refine r_if_lt (tgt := 9) hx hb dX6_shoes_1 (by decide) (fun c1 => ?_) (fun c1 => ?_)
  · refine r_iconst hx hb dX6_shoes_9 (by decide) (by decide) (fun x9 e9 => ?_)
    exact rt_i hx hb hr hlk hS ⟨_, hwf, hvis, hT⟩ dX6_shoes_10
  · refine lv_iload_n hx hb dX6_shoes_4 rfl (lv_at hl 1 rfl) ?_
    refine r_iconst hx hb dX6_shoes_5 (by decide) (by decide) (fun x5 e5 => ?_)
    refine r_icmp_le (tgt := 11) hx hb dX6_shoes_6 (by decide) (fun c6 => ?_) (fun c6 => ?_)
    · refine r_bipush hx hb dX6_shoes_11 rfl (fun x11 e11 => ?_)
      refine lv_istore_n (lv' := [(2, .int x11), (0, .ref h0), (1, .int p1)]) hx hb dX6_shoes_13 rfl hl (by decide) rfl (fun ls hl => ?_)
      refine r_iconst hx hb dX6_shoes_14 (by decide) (by decide) (fun x14 e14 => ?_)
      refine lv_istore_n (lv' := [(3, .int x14), (2, .int x11), (0, .ref h0), (1, .int p1)]) hx hb dX6_shoes_15 rfl hl (by decide) rfl (fun ls hl => ?_)
      refine r_iconst hx hb dX6_shoes_16 (by decide) (by decide) (fun x16 e16 => ?_)
      refine lv_istore (lv' := [(4, .int x16), (3, .int x14), (2, .int x11), (0, .ref h0), (1, .int p1)]) hx hb dX6_shoes_17 hl (by decide) rfl (fun ls hl => ?_)
      have J19 : ∀ (n19 : Nat) (ls : Array Slot) (H : Heap) (locs : List Loc) (y19_2 : Int32) (y19_3 : Int32) (y19_4 : Int32) (gh : Gh), (-4 ≤ y19_2.toInt ∧ y19_2.toInt ≤ 44) → (0 ≤ y19_4.toInt ∧ y19_4.toInt ≤ 5) → (5 - y19_4.toInt) < (n19 : Int) → wf z gh → vis z gh v → TY z (zA z) gh H → va_S (zA z) s.heap H locs → lv_has ls 6 [(0, .ref h0), (1, .int p1), (2, .int y19_2), (3, .int y19_3), (4, .int y19_4)] → W p l e (rmF 6 172) s m ([.ref h0, .int p1] : List Value).toArray below meth c H locs 0 0 (MQ below (QcI z (fun r H => WX z v H)) ([.ref h0, .int p1] : List Value).toArray s 0 0 (zA z)) (F0 m 19 ls []) := by
        intro n19
        induction n19 with
        | zero => intro ls H locs y19_2 y19_3 y19_4 gh j19_y19_2 j19_y19_4 mm19 hwf hvis hT hS hl; exfalso; omega
        | succ n19 ih19 =>
          intro ls H locs y19_2 y19_3 y19_4 gh j19_y19_2 j19_y19_4 mm19 hwf hvis hT hS hl
          refine lv_iload hx hb dX6_shoes_19 (lv_at hl 4 rfl) ?_
          refine lv_aload_n hx hb dX6_shoes_21 rfl (lv_at hl 0 rfl) ?_
          refine gt_HeelDance_now hx hb hts ic_HeelDance hown hK hT g0 (hts _ mw_2_8) dX6_shoes_22 (fun q22 hq22 => ?_)
          refine gt_Evening_floor hx hb hts ic_Evening hown hK hT hq22 (hts _ mw_1_91) dX6_shoes_25 (fun q25 hq25 => ?_)
          refine gt_Floor_men hx hb hts ic_Floor hown hK hT hq25 (hts _ mw_1_62) dX6_shoes_28 (fun x28 i28 e28 g28 => ?_)
          refine r_icmp_ge (tgt := 163) hx hb dX6_shoes_31 (by decide) (fun c31 => ?_) (fun c31 => ?_)
          · refine lv_iload_n hx hb dX6_shoes_163 rfl (lv_at hl 1 rfl) ?_
            refine r_if_ne (tgt := 171) hx hb dX6_shoes_164 (by decide) (fun c164 => ?_) (fun c164 => ?_)
            · refine lv_iload_n hx hb dX6_shoes_171 rfl (lv_at hl 3 rfl) ?_
              exact rt_i hx hb hr hlk hS ⟨_, hwf, hvis, hT⟩ dX6_shoes_172
            · refine lv_iload_n hx hb dX6_shoes_167 rfl (lv_at hl 2 rfl) ?_
              refine lv_goto (tgt := 172) hx hb dX6_shoes_168 (by decide) ?_
              exact rt_i hx hb hr hlk hS ⟨_, hwf, hvis, hT⟩ dX6_shoes_172
          · refine lv_iload hx hb dX6_shoes_34 (lv_at hl 4 rfl) ?_
            refine r_iconst hx hb dX6_shoes_36 (by decide) (by decide) (fun x36 e36 => ?_)
            refine r_iadd hx hb dX6_shoes_37 (by omega) (by omega) (fun x37 e37 => ?_)
            refine lv_istore (lv' := [(5, .int x37), (0, .ref h0), (1, .int p1), (2, .int y19_2), (3, .int y19_3), (4, .int y19_4)]) hx hb dX6_shoes_38 hl (by decide) rfl (fun ls hl => ?_)
            have J40 : ∀ (n40 : Nat) (ls : Array Slot) (H : Heap) (locs : List Loc) (y40_2 : Int32) (y40_3 : Int32) (y40_5 : Int32) (gh : Gh), (-4 ≤ y40_2.toInt ∧ y40_2.toInt ≤ 44) → (1 ≤ y40_5.toInt ∧ y40_5.toInt ≤ 5) → (5 - y19_4.toInt) < ((n19 + 1 : Nat) : Int) → (5 - y40_5.toInt) < (n40 : Int) → wf z gh → vis z gh v → TY z (zA z) gh H → va_S (zA z) s.heap H locs → lv_has ls 6 [(0, .ref h0), (1, .int p1), (2, .int y40_2), (3, .int y40_3), (4, .int y19_4), (5, .int y40_5)] → W p l e (rmF 6 172) s m ([.ref h0, .int p1] : List Value).toArray below meth c H locs 0 0 (MQ below (QcI z (fun r H => WX z v H)) ([.ref h0, .int p1] : List Value).toArray s 0 0 (zA z)) (F0 m 40 ls []) := by
              intro n40
              induction n40 with
              | zero => intro ls H locs y40_2 y40_3 y40_5 gh j40_y40_2 j40_y40_5 mf40_19 mm40 hwf hvis hT hS hl; exfalso; omega
              | succ n40 ih40 =>
                intro ls H locs y40_2 y40_3 y40_5 gh j40_y40_2 j40_y40_5 mf40_19 mm40 hwf hvis hT hS hl
                refine lv_iload hx hb dX6_shoes_40 (lv_at hl 5 rfl) ?_
                refine lv_aload_n hx hb dX6_shoes_42 rfl (lv_at hl 0 rfl) ?_
                refine gt_HeelDance_now hx hb hts ic_HeelDance hown hK hT g0 (hts _ mw_2_8) dX6_shoes_43 (fun q43 hq43 => ?_)
                refine gt_Evening_floor hx hb hts ic_Evening hown hK hT hq43 (hts _ mw_1_91) dX6_shoes_46 (fun q46 hq46 => ?_)
                refine gt_Floor_men hx hb hts ic_Floor hown hK hT hq46 (hts _ mw_1_62) dX6_shoes_49 (fun x49 i49 e49 g49 => ?_)
                refine r_icmp_ge (tgt := 157) hx hb dX6_shoes_52 (by decide) (fun c52 => ?_) (fun c52 => ?_)
                · refine r_iinc (lv' := fun v__ => [(4, .int v__), (0, .ref h0), (1, .int p1), (2, .int y40_2), (3, .int y40_3), (5, .int y40_5)]) hx hb dX6_shoes_157 hl (k := 4) rfl (by decide) (fun _ => rfl) ⟨by decide, by decide⟩ (by omega) (by omega) (fun x157 ls e157 hl => ?_)
                  refine lv_goto (tgt := 19) hx hb dX6_shoes_160 (by decide) ?_
                  exact ih19 ls _ _ y40_2 y40_3 x157 _ (by omega) (by omega) (by omega) hwf hvis hT hS (lv_sub hl [1, 2, 3, 4, 0] rfl)
                · refine lv_aload_n hx hb dX6_shoes_55 rfl (lv_at hl 0 rfl) ?_
                  refine gt_HeelDance_walk hx hb hts ic_HeelDance hown hK hT g0 (hts _ mw_2_11) dX6_shoes_56 (fun q56 hq56 => ?_)
                  refine gt_Walk_floor hx hb hts ic_Walk hown hK hT hq56 (hts _ mw_1_177) dX6_shoes_59 (fun q59 hq59 => ?_)
                  refine lv_aload_n hx hb dX6_shoes_62 rfl (lv_at hl 0 rfl) ?_
                  refine gt_HeelDance_now hx hb hts ic_HeelDance hown hK hT g0 (hts _ mw_2_8) dX6_shoes_63 (fun q63 hq63 => ?_)
                  refine gt_Evening_floor hx hb hts ic_Evening hown hK hT hq63 (hts _ mw_1_91) dX6_shoes_66 (fun q66 hq66 => ?_)
                  refine cl_Vv (rest := []) hC hK hSK (c_X1_copyFrom l z v q59 (5) hq59 q66 (1) hq66 (fun q9 => by have h9 := hq59; rw [q9, hq66] at h9; have h8 := congrArg Prod.snd h9; dsimp only at h8; omega)) k_X1_copyFrom mw_3_88 ⟨rfl, rfl, Nat.le_of_ble_eq_true rfl, Nat.le_of_ble_eq_true rfl⟩ (rv_Floor hK hT hq59) ⟨_, hwf, hvis, hT⟩ rfl hl.1 rfl (Nat.le_of_ble_eq_true rfl) dX6_shoes_69 ⟨Nat.zero_le _, Nat.zero_le _⟩ hS (fun _ h => h) (fun _ _ h => h) (fun H locs hpo hS => ?_)
                  obtain ⟨gh69, hwf, hvis, hT⟩ := hpo
                  refine lv_aload_n hx hb dX6_shoes_72 rfl (lv_at hl 0 rfl) ?_
                  refine gt_HeelDance_walk hx hb hts ic_HeelDance hown hK hT g0 (hts _ mw_2_11) dX6_shoes_73 (fun q73 hq73 => ?_)
                  refine gt_Walk_floor hx hb hts ic_Walk hown hK hT hq73 (hts _ mw_1_177) dX6_shoes_76 (fun q76 hq76 => ?_)
                  refine gt_Floor_heels hx hb hts ic_Floor hown hK hT hq76 (hts _ mw_1_48) dX6_shoes_79 (fun q79 hq79 => ?_)
                  refine lv_iload hx hb dX6_shoes_82 (lv_at hl 4 rfl) ?_
                  refine lv_aload_n hx hb dX6_shoes_84 rfl (lv_at hl 0 rfl) ?_
                  refine gt_HeelDance_now hx hb hts ic_HeelDance hown hK hT g0 (hts _ mw_2_8) dX6_shoes_85 (fun q85 hq85 => ?_)
                  refine gt_Evening_floor hx hb hts ic_Evening hown hK hT hq85 (hts _ mw_1_91) dX6_shoes_88 (fun q88 hq88 => ?_)
                  refine gt_Floor_heels hx hb hts ic_Floor hown hK hT hq88 (hts _ mw_1_48) dX6_shoes_91 (fun q91 hq91 => ?_)
                  refine lv_iload hx hb dX6_shoes_94 (lv_at hl 5 rfl) ?_
                  refine al_20 hx hb hK hT hq91 (by omega) (by omega) dX6_shoes_96 (fun x96 => ?_)
                  refine as_20 hx hb hK hT hS hq79 (by omega) (by omega) dX6_shoes_97 (fun H locs hT hS => ?_)
                  refine lv_aload_n hx hb dX6_shoes_98 rfl (lv_at hl 0 rfl) ?_
                  refine gt_HeelDance_walk hx hb hts ic_HeelDance hown hK hT g0 (hts _ mw_2_11) dX6_shoes_99 (fun q99 hq99 => ?_)
                  refine gt_Walk_floor hx hb hts ic_Walk hown hK hT hq99 (hts _ mw_1_177) dX6_shoes_102 (fun q102 hq102 => ?_)
                  refine gt_Floor_heels hx hb hts ic_Floor hown hK hT hq102 (hts _ mw_1_48) dX6_shoes_105 (fun q105 hq105 => ?_)
                  refine lv_iload hx hb dX6_shoes_108 (lv_at hl 5 rfl) ?_
                  refine lv_aload_n hx hb dX6_shoes_110 rfl (lv_at hl 0 rfl) ?_
                  refine gt_HeelDance_now hx hb hts ic_HeelDance hown hK hT g0 (hts _ mw_2_8) dX6_shoes_111 (fun q111 hq111 => ?_)
                  refine gt_Evening_floor hx hb hts ic_Evening hown hK hT hq111 (hts _ mw_1_91) dX6_shoes_114 (fun q114 hq114 => ?_)
                  refine gt_Floor_heels hx hb hts ic_Floor hown hK hT hq114 (hts _ mw_1_48) dX6_shoes_117 (fun q117 hq117 => ?_)
                  refine lv_iload hx hb dX6_shoes_120 (lv_at hl 4 rfl) ?_
                  refine al_20 hx hb hK hT hq117 (by omega) (by omega) dX6_shoes_122 (fun x122 => ?_)
                  refine as_20 hx hb hK hT hS hq105 (by omega) (by omega) dX6_shoes_123 (fun H locs hT hS => ?_)
                  refine lv_aload_n hx hb dX6_shoes_124 rfl (lv_at hl 0 rfl) ?_
                  refine cl_Vi (rest := []) hC hK hSK (c_X6_walkIsAsSeen l z v h0 (o0) g0) k_X6_walkIsAsSeen mw_3_228 ⟨rfl, rfl, Nat.le_of_ble_eq_true rfl, Nat.le_of_ble_eq_true rfl⟩ (rv_HeelDance hK hT g0) ⟨_, hwf, hvis, hT⟩ rfl hl.1 rfl (Nat.le_of_ble_eq_true rfl) dX6_shoes_125 ⟨Nat.zero_le _, Nat.zero_le _⟩ hS (fun _ h => h) (fun _ _ h => h) (fun r125 H locs hpo hS => ?_)
                  obtain ⟨⟨gh125, hwf, hvis, hT⟩, u125_0⟩ := hpo
                  have J151 : ∀ (ls : Array Slot) (H : Heap) (locs : List Loc) (y151_2 : Int32) (y151_3 : Int32) (gh : Gh), (-4 ≤ y151_2.toInt ∧ y151_2.toInt ≤ 44) → (5 - y19_4.toInt) < ((n19 + 1 : Nat) : Int) → (5 - y40_5.toInt) < ((n40 + 1 : Nat) : Int) → wf z gh → vis z gh v → TY z (zA z) gh H → va_S (zA z) s.heap H locs → lv_has ls 6 [(0, .ref h0), (1, .int p1), (2, .int y151_2), (3, .int y151_3), (4, .int y19_4), (5, .int y40_5)] → W p l e (rmF 6 172) s m ([.ref h0, .int p1] : List Value).toArray below meth c H locs 0 0 (MQ below (QcI z (fun r H => WX z v H)) ([.ref h0, .int p1] : List Value).toArray s 0 0 (zA z)) (F0 m 151 ls []) := by
                    intro ls H locs y151_2 y151_3 gh j151_y151_2 mf151_19 mf151_40 hwf hvis hT hS hl
                    refine r_iinc (lv' := fun v__ => [(5, .int v__), (0, .ref h0), (1, .int p1), (2, .int y151_2), (3, .int y151_3), (4, .int y19_4)]) hx hb dX6_shoes_151 hl (k := 5) rfl (by decide) (fun _ => rfl) ⟨by decide, by decide⟩ (by omega) (by omega) (fun x151 ls e151 hl => ?_)
                    refine lv_goto (tgt := 40) hx hb dX6_shoes_154 (by decide) ?_
                    exact ih40 ls _ _ y151_2 y151_3 x151 _ (by omega) (by omega) (by omega) (by omega) hwf hvis hT hS (lv_sub hl [1, 2, 3, 4, 5, 0] rfl)
                  refine r_if_eq (tgt := 151) hx hb dX6_shoes_128 (by decide) (fun c128 => ?_) (fun c128 => ?_)
                  · exact J151 ls _ _ y40_2 y40_3 _ (by omega) (by omega) (by omega) hwf hvis hT hS (lv_sub hl [0, 1, 2, 3, 4, 5] rfl)
                  · refine lv_iload_n hx hb dX6_shoes_131 rfl (lv_at hl 3 rfl) ?_
                    have J147 : ∀ (ls : Array Slot) (H : Heap) (locs : List Loc) (t147_0 : Int32) (gh : Gh), (-4 ≤ t147_0.toInt ∧ t147_0.toInt ≤ 44) → (5 - y19_4.toInt) < ((n19 + 1 : Nat) : Int) → (5 - y40_5.toInt) < ((n40 + 1 : Nat) : Int) → wf z gh → vis z gh v → TY z (zA z) gh H → va_S (zA z) s.heap H locs → lv_has ls 6 [(0, .ref h0), (1, .int p1), (2, .int y40_2), (3, .int y40_3), (4, .int y19_4), (5, .int y40_5)] → W p l e (rmF 6 172) s m ([.ref h0, .int p1] : List Value).toArray below meth c H locs 0 0 (MQ below (QcI z (fun r H => WX z v H)) ([.ref h0, .int p1] : List Value).toArray s 0 0 (zA z)) (F0 m 147 ls [.int t147_0]) := by
                      intro ls H locs t147_0 gh j147_t147_0 mf147_19 mf147_40 hwf hvis hT hS hl
                      refine lv_istore_n (lv' := [(2, .int t147_0), (0, .ref h0), (1, .int p1), (3, .int y40_3), (4, .int y19_4), (5, .int y40_5)]) hx hb dX6_shoes_147 rfl hl (by decide) rfl (fun ls hl => ?_)
                      refine w_iinc (lv' := fun v__ => [(3, .int v__), (2, .int t147_0), (0, .ref h0), (1, .int p1), (4, .int y19_4), (5, .int y40_5)]) hx hb dX6_shoes_148 hl (k := 3) rfl (by decide) (fun _ => rfl) (fun x148 ls hl => ?_)
                      exact J151 ls _ _ t147_0 x148 _ (by omega) (by omega) (by omega) hwf hvis hT hS (lv_sub hl [2, 3, 1, 0, 4, 5] rfl)
                    refine r_if_ne (tgt := 146) hx hb dX6_shoes_132 (by decide) (fun c132 => ?_) (fun c132 => ?_)
                    · refine lv_iload_n hx hb dX6_shoes_146 rfl (lv_at hl 2 rfl) ?_
                      exact J147 ls _ _ y40_2 _ (by omega) (by omega) (by omega) hwf hvis hT hS (lv_sub hl [0, 1, 2, 3, 4, 5] rfl)
                    · refine r_bipush hx hb dX6_shoes_135 rfl (fun x135 e135 => ?_)
                      refine lv_iload hx hb dX6_shoes_137 (lv_at hl 4 rfl) ?_
                      refine r_imulL (10) (by omega) hx hb dX6_shoes_139 (by omega) (by omega) (fun x139 e139 => ?_)
                      refine lv_iload hx hb dX6_shoes_140 (lv_at hl 5 rfl) ?_
                      refine r_iadd hx hb dX6_shoes_142 (by omega) (by omega) (fun x142 e142 => ?_)
                      refine lv_goto (tgt := 147) hx hb dX6_shoes_143 (by decide) ?_
                      exact J147 ls _ _ x142 _ (by omega) (by omega) (by omega) hwf hvis hT hS (lv_sub hl [0, 1, 2, 3, 4, 5] rfl)
            exact J40 (((5 - x37.toInt)).toNat + 1) ls _ _ y19_2 y19_3 x37 _ (by omega) (by omega) (by omega) (by omega) hwf hvis hT hS (lv_sub hl [1, 2, 3, 4, 5, 0] rfl)
      exact J19 (((5 - x16.toInt)).toNat + 1) ls _ _ x11 x14 x16 _ (by omega) (by omega) (by omega) hwf hvis hT hS (lv_sub hl [3, 4, 2, 1, 0] rfl)
    · refine r_iconst hx hb dX6_shoes_9 (by decide) (by decide) (fun x9 e9 => ?_)
      exact rt_i hx hb hr hlk hS ⟨_, hwf, hvis, hT⟩ dX6_shoes_10
theorem k_X6_drift : cBV yX6_drift cX6_drift 8 (some .int) 3 := ⟨mw_4_1, mw_4_2, mw_1_1, mw_4_3, ⟨by decide, by decide, by decide⟩⟩
set_option maxHeartbeats 4000000 in
set_option maxRecDepth 100000 in
theorem c_X6_drift (l : Launch) (z : Zt) (v : Nat → Nat → Int) (h0 o0 : Nat) (g0 : zG z h0 = (16, o0)) (p1 : Int32) (p2 : Int32) (p3 : Int32) : Met l yX6_drift (uw yX6_drift cX6_drift 8 (some .int)) (rmF 4 130) (PcW z [.ref h0, .int p1, .int p2, .int p3] (fun H => WX z v H)) (QcI z (fun r H => WX z v H)) 0 0 (zA z) := by
  refine Met.ofW (cc := cX6_drift) (maxL := 8) (ret := (some .int)) (by decide) rfl ?_
  intro p e s m args below meth c s₁ B hml hv
  obtain ⟨rfl, hW, hK, hSK⟩ := hv
  have hx := B.exec
  have hb := B.bytes
  have hr := B.returns
  have hts : ∀ w ∈ lw_ok, w.before ([.ref h0, .int p1, .int p2, .int p3] : List Value).toArray s = true := fun w hw => atoms_spec (ws := uw yX6_drift cX6_drift 8 (some .int)) B.pre w (List.mem_cons_of_mem _ hw)
  have hown : s.vm.findClass RX6 = some m.cls := findClass_of_methodNamed B.named
  have hlk := B.notSynchronized
  have hC : CallFix p m c cX6_drift 8 s ([.ref h0, .int p1, .int p2, .int p3] : List Value).toArray lw_ok RX6 := ⟨hx, hb, hml, hown, hts⟩
  have hS : va_S (zA z) s.heap s.heap [] := va_S.rf
  have hl := lv_entry ([.ref h0, .int p1, .int p2, .int p3]) (n := 8) (Nat.le_of_ble_eq_true rfl)
  rw [lg_entry_eq]
  generalize (lg_sl ([.ref h0, .int p1, .int p2, .int p3]) ++ List.replicate (8 - (lg_sl ([.ref h0, .int p1, .int p2, .int p3])).length) Slot.unset).toArray = ls at hl ⊢
  have hl : lv_has ls 8 [(0, .ref h0), (1, .int p1), (2, .int p2), (3, .int p3)] := hl
  show W p l e (rmF 4 130) s m ([.ref h0, .int p1, .int p2, .int p3] : List Value).toArray below meth c s.heap [] 0 0 (MQ below (QcI z (fun r H => WX z v H)) ([.ref h0, .int p1, .int p2, .int p3] : List Value).toArray s 0 0 (zA z)) (F0 m 0 ls [])
  obtain ⟨gh, hwf, hvis, hT⟩ := hW
  have mx_p1 := i_mx p1
  have mx_p2 := i_mx p2
  have mx_p3 := i_mx p3
  refine lv_iload_n hx hb dX6_drift_0 rfl (lv_at hl 2 rfl) ?_
  refine r_iconst hx hb dX6_drift_1 (by decide) (by decide) (fun x1 e1 => ?_)
  refine r_icmp_lt (tgt := 20) hx hb dX6_drift_2 (by decide) (fun c2 => ?_) (fun c2 => ?_)
  · refine r_iconst hx hb dX6_drift_20 (by decide) (by decide) (fun x20 e20 => ?_)
    exact rt_i hx hb hr hlk hS ⟨_, hwf, hvis, hT⟩ dX6_drift_21
  · refine lv_iload_n hx hb dX6_drift_5 rfl (lv_at hl 2 rfl) ?_
    refine r_bipush hx hb dX6_drift_6 rfl (fun x6 e6 => ?_)
    refine r_icmp_gt (tgt := 20) hx hb dX6_drift_8 (by decide) (fun c8 => ?_) (fun c8 => ?_)
    · refine r_iconst hx hb dX6_drift_20 (by decide) (by decide) (fun x20 e20 => ?_)
      exact rt_i hx hb hr hlk hS ⟨_, hwf, hvis, hT⟩ dX6_drift_21
    · refine lv_iload_n hx hb dX6_drift_11 rfl (lv_at hl 3 rfl) ?_
      refine r_if_lt (tgt := 20) hx hb dX6_drift_12 (by decide) (fun c12 => ?_) (fun c12 => ?_)
      · refine r_iconst hx hb dX6_drift_20 (by decide) (by decide) (fun x20 e20 => ?_)
        exact rt_i hx hb hr hlk hS ⟨_, hwf, hvis, hT⟩ dX6_drift_21
      · refine lv_iload_n hx hb dX6_drift_15 rfl (lv_at hl 3 rfl) ?_
        refine r_iconst hx hb dX6_drift_16 (by decide) (by decide) (fun x16 e16 => ?_)
        refine r_icmp_le (tgt := 22) hx hb dX6_drift_17 (by decide) (fun c17 => ?_) (fun c17 => ?_)
        · refine lv_aload_n hx hb dX6_drift_22 rfl (lv_at hl 0 rfl) ?_
          refine gt_HeelDance_now hx hb hts ic_HeelDance hown hK hT g0 (hts _ mw_2_8) dX6_drift_23 (fun q23 hq23 => ?_)
          refine gt_Evening_floor hx hb hts ic_Evening hown hK hT hq23 (hts _ mw_1_91) dX6_drift_26 (fun q26 hq26 => ?_)
          refine gt_Floor_men hx hb hts ic_Floor hown hK hT hq26 (hts _ mw_1_62) dX6_drift_29 (fun x29 i29 e29 g29 => ?_)
          refine r_if_ne (tgt := 38) hx hb dX6_drift_32 (by decide) (fun c32 => ?_) (fun c32 => ?_)
          · refine lv_aload_n hx hb dX6_drift_38 rfl (lv_at hl 0 rfl) ?_
            refine gt_HeelDance_walk hx hb hts ic_HeelDance hown hK hT g0 (hts _ mw_2_11) dX6_drift_39 (fun q39 hq39 => ?_)
            refine gt_Walk_floor hx hb hts ic_Walk hown hK hT hq39 (hts _ mw_1_177) dX6_drift_42 (fun q42 hq42 => ?_)
            refine lv_astore (lv' := [(4, .ref q42), (0, .ref h0), (1, .int p1), (2, .int p2), (3, .int p3)]) hx hb dX6_drift_45 hl (by decide) rfl (fun ls hl => ?_)
            refine lv_aload hx hb dX6_drift_47 (lv_at hl 0 rfl) ?_
            refine lv_aload_n hx hb dX6_drift_49 rfl (lv_at hl 1 rfl) ?_
            refine gt_HeelDance_now hx hb hts ic_HeelDance hown hK hT g0 (hts _ mw_2_8) dX6_drift_50 (fun q50 hq50 => ?_)
            refine gt_Evening_floor hx hb hts ic_Evening hown hK hT hq50 (hts _ mw_1_91) dX6_drift_53 (fun q53 hq53 => ?_)
            refine cl_Vv (rest := []) hC hK hSK (c_X1_copyFrom l z v q42 (5) hq42 q53 (1) hq53 (fun q9 => by have h9 := hq42; rw [q9, hq53] at h9; have h8 := congrArg Prod.snd h9; dsimp only at h8; omega)) k_X1_copyFrom mw_3_88 ⟨rfl, rfl, Nat.le_of_ble_eq_true rfl, Nat.le_of_ble_eq_true rfl⟩ (rv_Floor hK hT hq42) ⟨_, hwf, hvis, hT⟩ rfl hl.1 rfl (Nat.le_of_ble_eq_true rfl) dX6_drift_56 ⟨Nat.zero_le _, Nat.zero_le _⟩ hS (fun _ h => h) (fun _ _ h => h) (fun H locs hpo hS => ?_)
            obtain ⟨gh56, hwf, hvis, hT⟩ := hpo
            refine lv_iload_n hx hb dX6_drift_59 rfl (lv_at hl 2 rfl) ?_
            refine lv_istore (lv' := [(5, .int p1), (4, .ref q42), (0, .ref h0), (1, .int p1), (2, .int p2), (3, .int p3)]) hx hb dX6_drift_60 hl (by decide) rfl (fun ls hl => ?_)
            refine r_iconst hx hb dX6_drift_62 (by decide) (by decide) (fun x62 e62 => ?_)
            refine lv_istore (lv' := [(6, .int x62), (5, .int p1), (4, .ref q42), (0, .ref h0), (1, .int p1), (2, .int p2), (3, .int p3)]) hx hb dX6_drift_63 hl (by decide) rfl (fun ls hl => ?_)
            refine r_iconst hx hb dX6_drift_65 (by decide) (by decide) (fun x65 e65 => ?_)
            refine lv_istore (lv' := [(7, .int x65), (6, .int x62), (5, .int p1), (4, .ref q42), (0, .ref h0), (1, .int p1), (2, .int p2), (3, .int p3)]) hx hb dX6_drift_66 hl (by decide) rfl (fun ls hl => ?_)
            have J68 : ∀ (n68 : Nat) (ls : Array Slot) (H : Heap) (locs : List Loc) (y68_5 : Int32) (y68_6 : Int32) (y68_7 : Int32) (gh : Gh), (0 ≤ y68_7.toInt ∧ y68_7.toInt ≤ 60) → (60 - y68_7.toInt) < (n68 : Int) → wf z gh → vis z gh v → TY z (zA z) gh H → va_S (zA z) s.heap H locs → lv_has ls 8 [(0, .ref h0), (1, .int p1), (2, .int p2), (3, .int p3), (4, .ref q42), (5, .int y68_5), (6, .int y68_6), (7, .int y68_7)] → W p l e (rmF 4 130) s m ([.ref h0, .int p1, .int p2, .int p3] : List Value).toArray below meth c H locs 0 0 (MQ below (QcI z (fun r H => WX z v H)) ([.ref h0, .int p1, .int p2, .int p3] : List Value).toArray s 0 0 (zA z)) (F0 m 68 ls []) := by
              intro n68
              induction n68 with
              | zero => intro ls H locs y68_5 y68_6 y68_7 gh j68_y68_7 mm68 hwf hvis hT hS hl; exfalso; omega
              | succ n68 ih68 =>
                intro ls H locs y68_5 y68_6 y68_7 gh j68_y68_7 mm68 hwf hvis hT hS hl
                refine lv_iload hx hb dX6_drift_68 (lv_at hl 7 rfl) ?_
                refine lv_iload_n hx hb dX6_drift_70 rfl (lv_at hl 2 rfl) ?_
                refine r_icmp_ge (tgt := 120) hx hb dX6_drift_71 (by decide) (fun c71 => ?_) (fun c71 => ?_)
                · refine lv_iload_n hx hb dX6_drift_120 rfl (lv_at hl 3 rfl) ?_
                  refine r_if_ne (tgt := 129) hx hb dX6_drift_121 (by decide) (fun c121 => ?_) (fun c121 => ?_)
                  · refine lv_aload hx hb dX6_drift_129 (lv_at hl 4 rfl) ?_
                    refine gt_Floor_partner hx hb hts ic_Floor hown hK hT hq42 (hts _ mw_1_54) dX6_drift_131 (fun q131 hq131 => ?_)
                    refine r_iconst hx hb dX6_drift_134 (by decide) (by decide) (fun x134 e134 => ?_)
                    refine al_27 hx hb hK hT hq131 (by omega) (by omega) dX6_drift_135 (fun x135 e135 => ?_)
                    have n135 := ix_nat (i := x134) (by omega)
                    unfold p27 at e135
                    exact rt_i hx hb hr hlk hS ⟨_, hwf, hvis, hT⟩ dX6_drift_136
                  · refine lv_iload hx hb dX6_drift_124 (lv_at hl 6 rfl) ?_
                    refine lv_goto (tgt := 136) hx hb dX6_drift_126 (by decide) ?_
                    exact rt_i hx hb hr hlk hS ⟨_, hwf, hvis, hT⟩ dX6_drift_136
                · refine lv_iload hx hb dX6_drift_74 (lv_at hl 5 rfl) ?_
                  refine r_ldc (1103515245) rfl hx hb hts hown mw_4_4 dX6_drift_76 (fun x76 e76 => ?_)
                  refine w_imul hx hb dX6_drift_78 (fun x78 => ?_)
                  refine r_sipush hx hb dX6_drift_79 rfl (fun x79 e79 => ?_)
                  refine w_iadd hx hb dX6_drift_82 (fun x82 => ?_)
                  refine lv_istore (lv' := [(5, .int x82), (0, .ref h0), (1, .int p1), (2, .int p2), (3, .int p3), (4, .ref q42), (6, .int y68_6), (7, .int y68_7)]) hx hb dX6_drift_83 hl (by decide) rfl (fun ls hl => ?_)
                  refine lv_aload hx hb dX6_drift_85 (lv_at hl 5 rfl) ?_
                  refine lv_iload hx hb dX6_drift_87 (lv_at hl 0 rfl) ?_
                  refine r_bipush hx hb dX6_drift_89 rfl (fun x89 e89 => ?_)
                  refine w_iushr hx hb dX6_drift_91 (fun x91 => ?_)
                  refine r_sipush hx hb dX6_drift_92 rfl (fun x92 e92 => ?_)
                  refine w_iand hx hb dX6_drift_95 (fun x95 => ?_)
                  refine r_iconst hx hb dX6_drift_96 (by decide) (by decide) (fun x96 e96 => ?_)
                  refine w_irem hx hb dX6_drift_97 (by omega) (fun x97 => ?_)
                  refine cl_Vv (rest := []) hC hK hSK (c_X1_step l z gh q42 (5) hq42 x97 (hwf.1 q42 _ hq42) hwf.2.2) k_X1_step mw_3_55 ⟨rfl, rfl, Nat.le_of_ble_eq_true rfl, Nat.le_of_ble_eq_true rfl⟩ (rv_Floor hK hT hq42) hT rfl hl.1 rfl (Nat.le_of_ble_eq_true rfl) dX6_drift_98 ⟨Nat.zero_le _, Nat.zero_le _⟩ hS (fun _ h => h) (fun _ _ h => h) (fun H locs hpo hS => ?_)
                  obtain ⟨gh98, hz98, hT⟩ := hpo
                  have hst98 := hz98.2
                  have hz98 := eqv_eq hz98.1
                  have hwf := wf_of hz98 hwf
                  have hvis := vis_of hz98 hvis
                  refine lv_iload hx hb dX6_drift_101 (lv_at hl 6 rfl) ?_
                  refine lv_aload hx hb dX6_drift_103 (lv_at hl 5 rfl) ?_
                  refine cl_Vi (rest := [.int y68_6]) hC hK hSK (c_X1_roundBits l z gh98 q42 (5) hq42) k_X1_roundBits mw_2_217 ⟨rfl, rfl, Nat.le_of_ble_eq_true rfl, Nat.le_of_ble_eq_true rfl⟩ (rv_Floor hK hT hq42) hT rfl hl.1 rfl (Nat.le_of_ble_eq_true rfl) dX6_drift_105 ⟨Nat.zero_le _, Nat.zero_le _⟩ hS (fun _ h => h) (fun _ _ h => h) (fun r105 H locs hpo hS => ?_)
                  have hT := hpo
                  refine cl_Si (rest := [.int y68_6]) hC hK hSK (c_J6_bitCount_0f7a4 l z gh98 r105) k_J6_bitCount_0f7a4 mw_3_79 ⟨rfl, rfl, Nat.le_of_ble_eq_true rfl, Nat.le_of_ble_eq_true rfl⟩ hT rfl hl.1 rfl (Nat.le_of_ble_eq_true rfl) dX6_drift_108 ⟨Nat.zero_le _, Nat.zero_le _⟩ hS (fun _ h => h) (fun _ _ h => h) (fun r108 H locs hpo hS => ?_)
                  have hT := hpo
                  refine w_iadd hx hb dX6_drift_111 (fun x111 => ?_)
                  refine lv_istore (lv' := [(6, .int x111), (5, .int x82), (0, .ref h0), (1, .int p1), (2, .int p2), (3, .int p3), (4, .ref q42), (7, .int y68_7)]) hx hb dX6_drift_112 hl (by decide) rfl (fun ls hl => ?_)
                  refine r_iinc (lv' := fun v__ => [(7, .int v__), (6, .int x111), (5, .int x82), (0, .ref h0), (1, .int p1), (2, .int p2), (3, .int p3), (4, .ref q42)]) hx hb dX6_drift_114 hl (k := 7) rfl (by decide) (fun _ => rfl) ⟨by decide, by decide⟩ (by omega) (by omega) (fun x114 ls e114 hl => ?_)
                  refine lv_goto (tgt := 68) hx hb dX6_drift_117 (by decide) ?_
                  exact ih68 ls _ _ x82 x111 x114 _ (by omega) (by omega) hwf hvis hT hS (lv_sub hl [3, 4, 5, 6, 7, 2, 1, 0] rfl)
            exact J68 (((60 - x65.toInt)).toNat + 1) ls _ _ p1 x62 x65 _ (by omega) (by omega) hwf hvis hT hS (lv_sub hl [4, 5, 6, 7, 3, 2, 1, 0] rfl)
          · refine r_bipush hx hb dX6_drift_35 rfl (fun x35 e35 => ?_)
            exact rt_i hx hb hr hlk hS ⟨_, hwf, hvis, hT⟩ dX6_drift_37
        · refine r_iconst hx hb dX6_drift_20 (by decide) (by decide) (fun x20 e20 => ?_)
          exact rt_i hx hb hr hlk hS ⟨_, hwf, hvis, hT⟩ dX6_drift_21
theorem k_X6_keep : cBV yX6_keep cX6_keep 3 (some .int) 1 := ⟨mw_4_6, mw_4_7, mw_1_1, mw_4_8, ⟨by decide, by decide, by decide⟩⟩
set_option maxHeartbeats 4000000 in
set_option maxRecDepth 100000 in
theorem c_X6_keep (l : Launch) (z : Zt) (v : Nat → Nat → Int) (h0 o0 : Nat) (g0 : zG z h0 = (16, o0)) (p1 : Int32) : Met l yX6_keep (uw yX6_keep cX6_keep 3 (some .int)) (rmF 3 107) (PcW z [.ref h0, .int p1] (fun H => WX z v H)) (QcI z (fun r H => WX z v H)) 0 0 (zA z) := by
  refine Met.ofW (cc := cX6_keep) (maxL := 3) (ret := (some .int)) (by decide) rfl ?_
  intro p e s m args below meth c s₁ B hml hv
  obtain ⟨rfl, hW, hK, hSK⟩ := hv
  have hx := B.exec
  have hb := B.bytes
  have hr := B.returns
  have hts : ∀ w ∈ lw_ok, w.before ([.ref h0, .int p1] : List Value).toArray s = true := fun w hw => atoms_spec (ws := uw yX6_keep cX6_keep 3 (some .int)) B.pre w (List.mem_cons_of_mem _ hw)
  have hown : s.vm.findClass RX6 = some m.cls := findClass_of_methodNamed B.named
  have hlk := B.notSynchronized
  have hC : CallFix p m c cX6_keep 3 s ([.ref h0, .int p1] : List Value).toArray lw_ok RX6 := ⟨hx, hb, hml, hown, hts⟩
  have hS : va_S (zA z) s.heap s.heap [] := va_S.rf
  have hl := lv_entry ([.ref h0, .int p1]) (n := 3) (Nat.le_of_ble_eq_true rfl)
  rw [lg_entry_eq]
  generalize (lg_sl ([.ref h0, .int p1]) ++ List.replicate (3 - (lg_sl ([.ref h0, .int p1])).length) Slot.unset).toArray = ls at hl ⊢
  have hl : lv_has ls 3 [(0, .ref h0), (1, .int p1)] := hl
  show W p l e (rmF 3 107) s m ([.ref h0, .int p1] : List Value).toArray below meth c s.heap [] 0 0 (MQ below (QcI z (fun r H => WX z v H)) ([.ref h0, .int p1] : List Value).toArray s 0 0 (zA z)) (F0 m 0 ls [])
  obtain ⟨gh, hwf, hvis, hT⟩ := hW
  have mx_p1 := i_mx p1
  refine lv_iload_n hx hb dX6_keep_0 rfl (lv_at hl 1 rfl) ?_
  refine r_if_lt (tgt := 9) hx hb dX6_keep_1 (by decide) (fun c1 => ?_) (fun c1 => ?_)
  · refine r_iconst hx hb dX6_keep_9 (by decide) (by decide) (fun x9 e9 => ?_)
    exact rt_i hx hb hr hlk hS ⟨_, hwf, hvis, hT⟩ dX6_keep_10
  · refine lv_iload_n hx hb dX6_keep_4 rfl (lv_at hl 1 rfl) ?_
    refine r_iconst hx hb dX6_keep_5 (by decide) (by decide) (fun x5 e5 => ?_)
    refine r_icmp_lt (tgt := 11) hx hb dX6_keep_6 (by decide) (fun c6 => ?_) (fun c6 => ?_)
    · refine lv_aload_n hx hb dX6_keep_11 rfl (lv_at hl 0 rfl) ?_
      refine gt_HeelDance_kept hx hb hts ic_HeelDance hown hK hT g0 (hts _ mw_2_10) dX6_keep_12 (fun q12 hq12 => ?_)
      refine lv_iload_n hx hb dX6_keep_15 rfl (lv_at hl 1 rfl) ?_
      refine al_33 hx hb hK hT hq12 (by omega) (by omega) dX6_keep_16 (fun x16 e16 => ?_)
      have n16 := ix_nat (i := p1) (by omega)
      unfold p33 at e16
      have J25 : ∀ (ls : Array Slot) (H : Heap) (locs : List Loc) (t25_0 : Int32) (gh : Gh), (0 ≤ t25_0.toInt ∧ t25_0.toInt ≤ 1) → wf z gh → vis z gh v → TY z (zA z) gh H → va_S (zA z) s.heap H locs → lv_has ls 3 [(0, .ref h0), (1, .int p1)] → W p l e (rmF 3 107) s m ([.ref h0, .int p1] : List Value).toArray below meth c H locs 0 0 (MQ below (QcI z (fun r H => WX z v H)) ([.ref h0, .int p1] : List Value).toArray s 0 0 (zA z)) (F0 m 25 ls [.int t25_0]) := by
        intro ls H locs t25_0 gh j25_t25_0 hwf hvis hT hS hl
        refine lv_istore_n (lv' := [(2, .int t25_0), (0, .ref h0), (1, .int p1)]) hx hb dX6_keep_25 rfl hl (by decide) rfl (fun ls hl => ?_)
        refine lv_aload_n hx hb dX6_keep_26 rfl (lv_at hl 1 rfl) ?_
        refine gt_HeelDance_images hx hb hts ic_HeelDance hown hK hT g0 (hts _ mw_2_9) dX6_keep_27 (fun q27 hq27 => ?_)
        refine lv_iload_n hx hb dX6_keep_30 rfl (lv_at hl 2 rfl) ?_
        refine al_36 hx hb hK hT hq27 (by omega) (by omega) dX6_keep_31 (fun q31 hq31 => ?_)
        refine lv_aload_n hx hb dX6_keep_32 rfl (lv_at hl 1 rfl) ?_
        refine gt_HeelDance_now hx hb hts ic_HeelDance hown hK hT g0 (hts _ mw_2_8) dX6_keep_33 (fun q33 hq33 => ?_)
        refine cl_Vv (rest := []) hC hK hSK (c_X0_copyFrom l z v q31 (3 + p1.toNatClampNeg) hq31 q33 (1) hq33 (by have n90 := ix_nat (i := p1) (by omega); omega)) k_X0_copyFrom mw_2_196 ⟨rfl, rfl, Nat.le_of_ble_eq_true rfl, Nat.le_of_ble_eq_true rfl⟩ (rv_Evening hK hT hq31) ⟨_, hwf, hvis, hT⟩ rfl hl.1 rfl (Nat.le_of_ble_eq_true rfl) dX6_keep_36 ⟨Nat.zero_le _, Nat.zero_le _⟩ hS (fun _ h => h) (fun _ _ h => h) (fun H locs hpo hS => ?_)
        obtain ⟨gh36, hwf, hvis, hT⟩ := hpo
        refine lv_aload_n hx hb dX6_keep_39 rfl (lv_at hl 1 rfl) ?_
        refine gt_HeelDance_kept hx hb hts ic_HeelDance hown hK hT g0 (hts _ mw_2_10) dX6_keep_40 (fun q40 hq40 => ?_)
        refine lv_iload_n hx hb dX6_keep_43 rfl (lv_at hl 2 rfl) ?_
        refine r_iconst hx hb dX6_keep_44 (by decide) (by decide) (fun x44 e44 => ?_)
        refine as_33 hx hb hK hT hS hq40 (by omega) (by omega) (by omega) (by omega) (by have n0 := ix_nat (i := p1) (by omega); unfold p33; omega) dX6_keep_45 (fun H locs hT hS => ?_)
        refine lv_iload_n hx hb dX6_keep_46 rfl (lv_at hl 0 rfl) ?_
        exact rt_i hx hb hr hlk hS ⟨_, hwf, hvis, hT⟩ dX6_keep_47
      refine r_if_eq (tgt := 24) hx hb dX6_keep_17 (by decide) (fun c17 => ?_) (fun c17 => ?_)
      · refine r_iconst hx hb dX6_keep_24 (by decide) (by decide) (fun x24 e24 => ?_)
        exact J25 ls _ _ x24 _ (by omega) hwf hvis hT hS (lv_sub hl [0, 1] rfl)
      · refine r_iconst hx hb dX6_keep_20 (by decide) (by decide) (fun x20 e20 => ?_)
        refine lv_goto (tgt := 25) hx hb dX6_keep_21 (by decide) ?_
        exact J25 ls _ _ x20 _ (by omega) hwf hvis hT hS (lv_sub hl [0, 1] rfl)
    · refine r_iconst hx hb dX6_keep_9 (by decide) (by decide) (fun x9 e9 => ?_)
      exact rt_i hx hb hr hlk hS ⟨_, hwf, hvis, hT⟩ dX6_keep_10
theorem k_X6_back : cBV yX6_back cX6_back 2 (some .int) 1 := ⟨mw_4_10, mw_4_11, mw_1_1, mw_4_12, ⟨by decide, by decide, by decide⟩⟩
set_option maxHeartbeats 4000000 in
set_option maxRecDepth 100000 in
theorem c_X6_back (l : Launch) (z : Zt) (v : Nat → Nat → Int) (h0 o0 : Nat) (g0 : zG z h0 = (16, o0)) (p1 : Int32) : Met l yX6_back (uw yX6_back cX6_back 2 (some .int)) (rmF 3 107) (PcW z [.ref h0, .int p1] (fun H => WX z v H)) (QcI z (fun r H => WX z v H)) 0 0 (zA z) := by
  refine Met.ofW (cc := cX6_back) (maxL := 2) (ret := (some .int)) (by decide) rfl ?_
  intro p e s m args below meth c s₁ B hml hv
  obtain ⟨rfl, hW, hK, hSK⟩ := hv
  have hx := B.exec
  have hb := B.bytes
  have hr := B.returns
  have hts : ∀ w ∈ lw_ok, w.before ([.ref h0, .int p1] : List Value).toArray s = true := fun w hw => atoms_spec (ws := uw yX6_back cX6_back 2 (some .int)) B.pre w (List.mem_cons_of_mem _ hw)
  have hown : s.vm.findClass RX6 = some m.cls := findClass_of_methodNamed B.named
  have hlk := B.notSynchronized
  have hC : CallFix p m c cX6_back 2 s ([.ref h0, .int p1] : List Value).toArray lw_ok RX6 := ⟨hx, hb, hml, hown, hts⟩
  have hS : va_S (zA z) s.heap s.heap [] := va_S.rf
  have hl := lv_entry ([.ref h0, .int p1]) (n := 2) (Nat.le_of_ble_eq_true rfl)
  rw [lg_entry_eq]
  generalize (lg_sl ([.ref h0, .int p1]) ++ List.replicate (2 - (lg_sl ([.ref h0, .int p1])).length) Slot.unset).toArray = ls at hl ⊢
  have hl : lv_has ls 2 [(0, .ref h0), (1, .int p1)] := hl
  show W p l e (rmF 3 107) s m ([.ref h0, .int p1] : List Value).toArray below meth c s.heap [] 0 0 (MQ below (QcI z (fun r H => WX z v H)) ([.ref h0, .int p1] : List Value).toArray s 0 0 (zA z)) (F0 m 0 ls [])
  obtain ⟨gh, hwf, hvis, hT⟩ := hW
  have mx_p1 := i_mx p1
  refine lv_iload_n hx hb dX6_back_0 rfl (lv_at hl 1 rfl) ?_
  refine r_if_lt (tgt := 9) hx hb dX6_back_1 (by decide) (fun c1 => ?_) (fun c1 => ?_)
  · refine r_iconst hx hb dX6_back_9 (by decide) (by decide) (fun x9 e9 => ?_)
    exact rt_i hx hb hr hlk hS ⟨_, hwf, hvis, hT⟩ dX6_back_10
  · refine lv_iload_n hx hb dX6_back_4 rfl (lv_at hl 1 rfl) ?_
    refine r_iconst hx hb dX6_back_5 (by decide) (by decide) (fun x5 e5 => ?_)
    refine r_icmp_lt (tgt := 11) hx hb dX6_back_6 (by decide) (fun c6 => ?_) (fun c6 => ?_)
    · refine lv_aload_n hx hb dX6_back_11 rfl (lv_at hl 0 rfl) ?_
      refine gt_HeelDance_kept hx hb hts ic_HeelDance hown hK hT g0 (hts _ mw_2_10) dX6_back_12 (fun q12 hq12 => ?_)
      refine lv_iload_n hx hb dX6_back_15 rfl (lv_at hl 1 rfl) ?_
      refine al_33 hx hb hK hT hq12 (by omega) (by omega) dX6_back_16 (fun x16 e16 => ?_)
      have n16 := ix_nat (i := p1) (by omega)
      unfold p33 at e16
      refine r_if_ne (tgt := 23) hx hb dX6_back_17 (by decide) (fun c17 => ?_) (fun c17 => ?_)
      · refine lv_aload_n hx hb dX6_back_23 rfl (lv_at hl 0 rfl) ?_
        refine gt_HeelDance_now hx hb hts ic_HeelDance hown hK hT g0 (hts _ mw_2_8) dX6_back_24 (fun q24 hq24 => ?_)
        refine lv_aload_n hx hb dX6_back_27 rfl (lv_at hl 0 rfl) ?_
        refine gt_HeelDance_images hx hb hts ic_HeelDance hown hK hT g0 (hts _ mw_2_9) dX6_back_28 (fun q28 hq28 => ?_)
        refine lv_iload_n hx hb dX6_back_31 rfl (lv_at hl 1 rfl) ?_
        refine al_36 hx hb hK hT hq28 (by omega) (by omega) dX6_back_32 (fun q32 hq32 => ?_)
        refine cl_Vv (rest := []) hC hK hSK (c_X0_copyFrom l z v q24 (1) hq24 q32 (3 + p1.toNatClampNeg) hq32 (by have n90 := ix_nat (i := p1) (by omega); omega)) k_X0_copyFrom mw_2_196 ⟨rfl, rfl, Nat.le_of_ble_eq_true rfl, Nat.le_of_ble_eq_true rfl⟩ (rv_Evening hK hT hq24) ⟨_, hwf, hvis, hT⟩ rfl hl.1 rfl (Nat.le_of_ble_eq_true rfl) dX6_back_33 ⟨Nat.zero_le _, Nat.zero_le _⟩ hS (fun _ h => h) (fun _ _ h => h) (fun H locs hpo hS => ?_)
        obtain ⟨gh33, hwf, hvis, hT⟩ := hpo
        refine lv_aload_n hx hb dX6_back_36 rfl (lv_at hl 0 rfl) ?_
        refine gt_HeelDance_now hx hb hts ic_HeelDance hown hK hT g0 (hts _ mw_2_8) dX6_back_37 (fun q37 hq37 => ?_)
        refine gt_Evening_floor hx hb hts ic_Evening hown hK hT hq37 (hts _ mw_1_91) dX6_back_40 (fun q40 hq40 => ?_)
        refine gt_Floor_danced hx hb hts ic_Floor hown hK hT hq40 (hts _ mw_1_66) dX6_back_43 (fun x43 => ?_)
        exact rt_i hx hb hr hlk hS ⟨_, hwf, hvis, hT⟩ dX6_back_46
      · refine r_bipush hx hb dX6_back_20 rfl (fun x20 e20 => ?_)
        exact rt_i hx hb hr hlk hS ⟨_, hwf, hvis, hT⟩ dX6_back_22
    · refine r_iconst hx hb dX6_back_9 (by decide) (by decide) (fun x9 e9 => ?_)
      exact rt_i hx hb hr hlk hS ⟨_, hwf, hvis, hT⟩ dX6_back_10
theorem k_X6_period : cBV yX6_period cX6_period 4 (some .int) 1 := ⟨mw_3_132, mw_3_133, mw_1_1, mw_3_134, ⟨by decide, by decide, by decide⟩⟩
set_option maxHeartbeats 4000000 in
set_option maxRecDepth 100000 in
theorem c_X6_period (l : Launch) (z : Zt) (v : Nat → Nat → Int) (h0 o0 : Nat) (g0 : zG z h0 = (16, o0)) (p1 : Int32) : Met l yX6_period (uw yX6_period cX6_period 4 (some .int)) (rmF 3 109) (PcW z [.ref h0, .int p1] (fun H => WX z v H)) (QcI z (fun r H => WX z v H)) 0 0 (zA z) := by
  refine Met.ofW (cc := cX6_period) (maxL := 4) (ret := (some .int)) (by decide) rfl ?_
  intro p e s m args below meth c s₁ B hml hv
  obtain ⟨rfl, hW, hK, hSK⟩ := hv
  have hx := B.exec
  have hb := B.bytes
  have hr := B.returns
  have hts : ∀ w ∈ lw_ok, w.before ([.ref h0, .int p1] : List Value).toArray s = true := fun w hw => atoms_spec (ws := uw yX6_period cX6_period 4 (some .int)) B.pre w (List.mem_cons_of_mem _ hw)
  have hown : s.vm.findClass RX6 = some m.cls := findClass_of_methodNamed B.named
  have hlk := B.notSynchronized
  have hC : CallFix p m c cX6_period 4 s ([.ref h0, .int p1] : List Value).toArray lw_ok RX6 := ⟨hx, hb, hml, hown, hts⟩
  have hS : va_S (zA z) s.heap s.heap [] := va_S.rf
  have hl := lv_entry ([.ref h0, .int p1]) (n := 4) (Nat.le_of_ble_eq_true rfl)
  rw [lg_entry_eq]
  generalize (lg_sl ([.ref h0, .int p1]) ++ List.replicate (4 - (lg_sl ([.ref h0, .int p1])).length) Slot.unset).toArray = ls at hl ⊢
  have hl : lv_has ls 4 [(0, .ref h0), (1, .int p1)] := hl
  show W p l e (rmF 3 109) s m ([.ref h0, .int p1] : List Value).toArray below meth c s.heap [] 0 0 (MQ below (QcI z (fun r H => WX z v H)) ([.ref h0, .int p1] : List Value).toArray s 0 0 (zA z)) (F0 m 0 ls [])
  obtain ⟨gh, hwf, hvis, hT⟩ := hW
  have mx_p1 := i_mx p1
  refine lv_iload_n hx hb dX6_period_0 rfl (lv_at hl 1 rfl) ?_
  refine cl_Si (rest := []) hC hK hSK (c_X6_isFigure l z gh p1) k_X6_isFigure mw_3_43 ⟨rfl, rfl, Nat.le_of_ble_eq_true rfl, Nat.le_of_ble_eq_true rfl⟩ hT rfl hl.1 rfl (Nat.le_of_ble_eq_true rfl) dX6_period_1 ⟨Nat.zero_le _, Nat.zero_le _⟩ hS (fun _ h => h) (fun _ _ h => h) (fun r1 H locs hpo hS => ?_)
  obtain ⟨hT, u1_0⟩ := hpo
  refine r_if_ne (tgt := 9) hx hb dX6_period_4 (by decide) (fun c4 => ?_) (fun c4 => ?_)
  · refine lv_aload_n hx hb dX6_period_9 rfl (lv_at hl 0 rfl) ?_
    refine gt_HeelDance_now hx hb hts ic_HeelDance hown hK hT g0 (hts _ mw_2_8) dX6_period_10 (fun q10 hq10 => ?_)
    refine gt_Evening_floor hx hb hts ic_Evening hown hK hT hq10 (hts _ mw_1_91) dX6_period_13 (fun q13 hq13 => ?_)
    refine gt_Floor_men hx hb hts ic_Floor hown hK hT hq13 (hts _ mw_1_62) dX6_period_16 (fun x16 i16 e16 g16 => ?_)
    refine r_if_ne (tgt := 25) hx hb dX6_period_19 (by decide) (fun c19 => ?_) (fun c19 => ?_)
    · refine lv_aload_n hx hb dX6_period_25 rfl (lv_at hl 0 rfl) ?_
      refine gt_HeelDance_walk hx hb hts ic_HeelDance hown hK hT g0 (hts _ mw_2_11) dX6_period_26 (fun q26 hq26 => ?_)
      refine gt_Walk_floor hx hb hts ic_Walk hown hK hT hq26 (hts _ mw_1_177) dX6_period_29 (fun q29 hq29 => ?_)
      refine lv_astore_n (lv' := [(2, .ref q29), (0, .ref h0), (1, .int p1)]) hx hb dX6_period_32 rfl hl (by decide) rfl (fun ls hl => ?_)
      refine lv_aload_n hx hb dX6_period_33 rfl (lv_at hl 0 rfl) ?_
      refine lv_aload_n hx hb dX6_period_34 rfl (lv_at hl 1 rfl) ?_
      refine gt_HeelDance_now hx hb hts ic_HeelDance hown hK hT g0 (hts _ mw_2_8) dX6_period_35 (fun q35 hq35 => ?_)
      refine gt_Evening_floor hx hb hts ic_Evening hown hK hT hq35 (hts _ mw_1_91) dX6_period_38 (fun q38 hq38 => ?_)
      refine cl_Vv (rest := []) hC hK hSK (c_X1_copyFrom l z v q29 (5) hq29 q38 (1) hq38 (fun q9 => by have h9 := hq29; rw [q9, hq38] at h9; have h8 := congrArg Prod.snd h9; dsimp only at h8; omega)) k_X1_copyFrom mw_3_88 ⟨rfl, rfl, Nat.le_of_ble_eq_true rfl, Nat.le_of_ble_eq_true rfl⟩ (rv_Floor hK hT hq29) ⟨_, hwf, hvis, hT⟩ rfl hl.1 rfl (Nat.le_of_ble_eq_true rfl) dX6_period_41 ⟨Nat.zero_le _, Nat.zero_le _⟩ hS (fun _ h => h) (fun _ _ h => h) (fun H locs hpo hS => ?_)
      obtain ⟨gh41, hwf, hvis, hT⟩ := hpo
      refine lv_aload_n hx hb dX6_period_44 rfl (lv_at hl 0 rfl) ?_
      refine cl_Vv (rest := []) hC hK hSK (c_X1_lineUp l z gh41 q29 (5) hq29 hwf.2.2) k_X1_lineUp mw_2_233 ⟨rfl, rfl, Nat.le_of_ble_eq_true rfl, Nat.le_of_ble_eq_true rfl⟩ (rv_Floor hK hT hq29) hT rfl hl.1 rfl (Nat.le_of_ble_eq_true rfl) dX6_period_45 ⟨Nat.zero_le _, Nat.zero_le _⟩ hS (fun _ h => h) (fun _ _ h => h) (fun H locs hpo hS => ?_)
      obtain ⟨gh45, hz45, hT, u45_0⟩ := hpo
      have hst45 := hz45.2
      have hz45 := eqv_eq hz45.1
      have hwf := wf_of hz45 hwf
      have hvis := vis_of hz45 hvis
      refine r_iconst hx hb dX6_period_48 (by decide) (by decide) (fun x48 e48 => ?_)
      refine lv_istore_n (lv' := [(3, .int x48), (2, .ref q29), (0, .ref h0), (1, .int p1)]) hx hb dX6_period_49 rfl hl (by decide) rfl (fun ls hl => ?_)
      have J50 : ∀ (n50 : Nat) (ls : Array Slot) (H : Heap) (locs : List Loc) (y50_3 : Int32) (gh : Gh), (1 ≤ y50_3.toInt ∧ y50_3.toInt ≤ 61) → (rkF z gh q29) → (61 - y50_3.toInt) < (n50 : Int) → wf z gh → vis z gh v → TY z (zA z) gh H → va_S (zA z) s.heap H locs → lv_has ls 4 [(0, .ref h0), (1, .int p1), (2, .ref q29), (3, .int y50_3)] → W p l e (rmF 3 109) s m ([.ref h0, .int p1] : List Value).toArray below meth c H locs 0 0 (MQ below (QcI z (fun r H => WX z v H)) ([.ref h0, .int p1] : List Value).toArray s 0 0 (zA z)) (F0 m 50 ls []) := by
        intro n50
        induction n50 with
        | zero => intro ls H locs y50_3 gh j50_y50_3 ex50_0 mm50 hwf hvis hT hS hl; exfalso; omega
        | succ n50 ih50 =>
          intro ls H locs y50_3 gh j50_y50_3 ex50_0 mm50 hwf hvis hT hS hl
          refine lv_iload_n hx hb dX6_period_50 rfl (lv_at hl 3 rfl) ?_
          refine r_bipush hx hb dX6_period_51 rfl (fun x51 e51 => ?_)
          refine r_icmp_gt (tgt := 83) hx hb dX6_period_53 (by decide) (fun c53 => ?_) (fun c53 => ?_)
          · refine r_bipush hx hb dX6_period_83 rfl (fun x83 e83 => ?_)
            exact rt_i hx hb hr hlk hS ⟨_, hwf, hvis, hT⟩ dX6_period_85
          · refine lv_aload_n hx hb dX6_period_56 rfl (lv_at hl 2 rfl) ?_
            refine lv_iload_n hx hb dX6_period_57 rfl (lv_at hl 1 rfl) ?_
            refine cl_Vv (rest := []) hC hK hSK (c_X1_change l z gh q29 (5) hq29 p1 (hwf.1 q29 _ hq29) ex50_0) k_X1_change mw_3_135 ⟨rfl, rfl, Nat.le_of_ble_eq_true rfl, Nat.le_of_ble_eq_true rfl⟩ (rv_Floor hK hT hq29) hT rfl hl.1 rfl (Nat.le_of_ble_eq_true rfl) dX6_period_58 ⟨Nat.zero_le _, Nat.zero_le _⟩ hS (fun _ h => h) (fun _ _ h => h) (fun H locs hpo hS => ?_)
            have hT := hpo
            refine lv_aload_n hx hb dX6_period_61 rfl (lv_at hl 2 rfl) ?_
            refine lv_aload_n hx hb dX6_period_62 rfl (lv_at hl 0 rfl) ?_
            refine gt_HeelDance_now hx hb hts ic_HeelDance hown hK hT g0 (hts _ mw_2_8) dX6_period_63 (fun q63 hq63 => ?_)
            refine gt_Evening_floor hx hb hts ic_Evening hown hK hT hq63 (hts _ mw_1_91) dX6_period_66 (fun q66 hq66 => ?_)
            refine cl_Vi (rest := []) hC hK hSK (c_X1_isPairedAs l z gh q29 (5) hq29 q66 (1) hq66) k_X1_isPairedAs mw_3_136 ⟨rfl, rfl, Nat.le_of_ble_eq_true rfl, Nat.le_of_ble_eq_true rfl⟩ (rv_Floor hK hT hq29) hT rfl hl.1 rfl (Nat.le_of_ble_eq_true rfl) dX6_period_69 ⟨Nat.zero_le _, Nat.zero_le _⟩ hS (fun _ h => h) (fun _ _ h => h) (fun r69 H locs hpo hS => ?_)
            obtain ⟨hT, u69_0⟩ := hpo
            refine r_if_eq (tgt := 77) hx hb dX6_period_72 (by decide) (fun c72 => ?_) (fun c72 => ?_)
            · refine r_iinc (lv' := fun v__ => [(3, .int v__), (0, .ref h0), (1, .int p1), (2, .ref q29)]) hx hb dX6_period_77 hl (k := 3) rfl (by decide) (fun _ => rfl) ⟨by decide, by decide⟩ (by omega) (by omega) (fun x77 ls e77 hl => ?_)
              refine lv_goto (tgt := 50) hx hb dX6_period_80 (by decide) ?_
              exact ih50 ls _ _ x77 _ (by omega) (by exact ex50_0) (by omega) hwf hvis hT hS (lv_sub hl [1, 2, 3, 0] rfl)
            · refine lv_iload_n hx hb dX6_period_75 rfl (lv_at hl 3 rfl) ?_
              exact rt_i hx hb hr hlk hS ⟨_, hwf, hvis, hT⟩ dX6_period_76
      exact J50 (((61 - x48.toInt)).toNat + 1) ls _ _ x48 _ (by omega) (by exact u45_0) (by omega) hwf hvis hT hS (lv_sub hl [2, 3, 1, 0] rfl)
    · refine r_bipush hx hb dX6_period_22 rfl (fun x22 e22 => ?_)
      exact rt_i hx hb hr hlk hS ⟨_, hwf, hvis, hT⟩ dX6_period_24
  · refine r_iconst hx hb dX6_period_7 (by decide) (by decide) (fun x7 e7 => ?_)
    exact rt_i hx hb hr hlk hS ⟨_, hwf, hvis, hT⟩ dX6_period_8
theorem k_X6_read : cBV yX6_read cX6_read 9 (some .int) 4 := ⟨mw_4_45, mw_4_46, mw_1_1, mw_4_47, ⟨by decide, by decide, by decide⟩⟩
set_option maxHeartbeats 4000000 in
set_option maxRecDepth 100000 in
theorem c_X6_read (l : Launch) (z : Zt) (v : Nat → Nat → Int) (h0 o0 : Nat) (g0 : zG z h0 = (16, o0)) (p1 : Int32) (p2 : Int32) (p3 : Int32) (p4 : Int32) : Met l yX6_read (uw yX6_read cX6_read 9 (some .int)) (rmF 4 130) (PcW z [.ref h0, .int p1, .int p2, .int p3, .int p4] (fun H => WX z v H)) (QcI z (fun r H => WX z v H)) 0 0 (zA z) := by
  refine Met.ofW (cc := cX6_read) (maxL := 9) (ret := (some .int)) (by decide) rfl ?_
  intro p e s m args below meth c s₁ B hml hv
  obtain ⟨rfl, hW, hK, hSK⟩ := hv
  have hx := B.exec
  have hb := B.bytes
  have hr := B.returns
  have hts : ∀ w ∈ lw_ok, w.before ([.ref h0, .int p1, .int p2, .int p3, .int p4] : List Value).toArray s = true := fun w hw => atoms_spec (ws := uw yX6_read cX6_read 9 (some .int)) B.pre w (List.mem_cons_of_mem _ hw)
  have hown : s.vm.findClass RX6 = some m.cls := findClass_of_methodNamed B.named
  have hlk := B.notSynchronized
  have hC : CallFix p m c cX6_read 9 s ([.ref h0, .int p1, .int p2, .int p3, .int p4] : List Value).toArray lw_ok RX6 := ⟨hx, hb, hml, hown, hts⟩
  have hS : va_S (zA z) s.heap s.heap [] := va_S.rf
  have hl := lv_entry ([.ref h0, .int p1, .int p2, .int p3, .int p4]) (n := 9) (Nat.le_of_ble_eq_true rfl)
  rw [lg_entry_eq]
  generalize (lg_sl ([.ref h0, .int p1, .int p2, .int p3, .int p4]) ++ List.replicate (9 - (lg_sl ([.ref h0, .int p1, .int p2, .int p3, .int p4])).length) Slot.unset).toArray = ls at hl ⊢
  have hl : lv_has ls 9 [(0, .ref h0), (1, .int p1), (2, .int p2), (3, .int p3), (4, .int p4)] := hl
  show W p l e (rmF 4 130) s m ([.ref h0, .int p1, .int p2, .int p3, .int p4] : List Value).toArray below meth c s.heap [] 0 0 (MQ below (QcI z (fun r H => WX z v H)) ([.ref h0, .int p1, .int p2, .int p3, .int p4] : List Value).toArray s 0 0 (zA z)) (F0 m 0 ls [])
  obtain ⟨gh, hwf, hvis, hT⟩ := hW
  have mx_p1 := i_mx p1
  have mx_p2 := i_mx p2
  have mx_p3 := i_mx p3
  have mx_p4 := i_mx p4
  refine lv_iload_n hx hb dX6_read_0 rfl (lv_at hl 1 rfl) ?_
  refine cl_Si (rest := []) hC hK hSK (c_X6_isNoSheet l z gh p1) k_X6_isNoSheet mw_4_17 ⟨rfl, rfl, Nat.le_of_ble_eq_true rfl, Nat.le_of_ble_eq_true rfl⟩ hT rfl hl.1 rfl (Nat.le_of_ble_eq_true rfl) dX6_read_1 ⟨Nat.zero_le _, Nat.zero_le _⟩ hS (fun _ h => h) (fun _ _ h => h) (fun r1 H locs hpo hS => ?_)
  obtain ⟨hT, u1_0, u1_1, u1_2⟩ := hpo
  refine r_if_ne (tgt := 26) hx hb dX6_read_4 (by decide) (fun c4 => ?_) (fun c4 => ?_)
  · refine r_iconst hx hb dX6_read_26 (by decide) (by decide) (fun x26 e26 => ?_)
    exact rt_i hx hb hr hlk hS ⟨_, hwf, hvis, hT⟩ dX6_read_27
  · refine lv_iload_n hx hb dX6_read_7 rfl (lv_at hl 2 rfl) ?_
    refine cl_Si (rest := []) hC hK hSK (c_X6_isNoLane l z gh p2) k_X6_isNoLane mw_4_20 ⟨rfl, rfl, Nat.le_of_ble_eq_true rfl, Nat.le_of_ble_eq_true rfl⟩ hT rfl hl.1 rfl (Nat.le_of_ble_eq_true rfl) dX6_read_8 ⟨Nat.zero_le _, Nat.zero_le _⟩ hS (fun _ h => h) (fun _ _ h => h) (fun r8 H locs hpo hS => ?_)
    obtain ⟨hT, u8_0, u8_1, u8_2⟩ := hpo
    refine r_if_ne (tgt := 26) hx hb dX6_read_11 (by decide) (fun c11 => ?_) (fun c11 => ?_)
    · refine r_iconst hx hb dX6_read_26 (by decide) (by decide) (fun x26 e26 => ?_)
      exact rt_i hx hb hr hlk hS ⟨_, hwf, hvis, hT⟩ dX6_read_27
    · refine lv_iload hx hb dX6_read_14 (lv_at hl 4 rfl) ?_
      refine r_if_lt (tgt := 26) hx hb dX6_read_16 (by decide) (fun c16 => ?_) (fun c16 => ?_)
      · refine r_iconst hx hb dX6_read_26 (by decide) (by decide) (fun x26 e26 => ?_)
        exact rt_i hx hb hr hlk hS ⟨_, hwf, hvis, hT⟩ dX6_read_27
      · refine lv_iload hx hb dX6_read_19 (lv_at hl 4 rfl) ?_
        refine r_bipush hx hb dX6_read_21 rfl (fun x21 e21 => ?_)
        refine r_icmp_le (tgt := 28) hx hb dX6_read_23 (by decide) (fun c23 => ?_) (fun c23 => ?_)
        · refine lv_aload_n hx hb dX6_read_28 rfl (lv_at hl 0 rfl) ?_
          refine gt_HeelDance_walk hx hb hts ic_HeelDance hown hK hT g0 (hts _ mw_2_11) dX6_read_29 (fun q29 hq29 => ?_)
          refine gt_Walk_floor hx hb hts ic_Walk hown hK hT hq29 (hts _ mw_1_177) dX6_read_32 (fun q32 hq32 => ?_)
          refine lv_astore (lv' := [(5, .ref q32), (0, .ref h0), (1, .int p1), (2, .int p2), (3, .int p3), (4, .int p4)]) hx hb dX6_read_35 hl (by decide) rfl (fun ls hl => ?_)
          refine lv_aload hx hb dX6_read_37 (lv_at hl 0 rfl) ?_
          refine lv_aload_n hx hb dX6_read_39 rfl (lv_at hl 1 rfl) ?_
          refine gt_HeelDance_now hx hb hts ic_HeelDance hown hK hT g0 (hts _ mw_2_8) dX6_read_40 (fun q40 hq40 => ?_)
          refine gt_Evening_floor hx hb hts ic_Evening hown hK hT hq40 (hts _ mw_1_91) dX6_read_43 (fun q43 hq43 => ?_)
          refine cl_Vv (rest := []) hC hK hSK (c_X1_copyFrom l z v q32 (5) hq32 q43 (1) hq43 (fun q9 => by have h9 := hq32; rw [q9, hq43] at h9; have h8 := congrArg Prod.snd h9; dsimp only at h8; omega)) k_X1_copyFrom mw_3_88 ⟨rfl, rfl, Nat.le_of_ble_eq_true rfl, Nat.le_of_ble_eq_true rfl⟩ (rv_Floor hK hT hq32) ⟨_, hwf, hvis, hT⟩ rfl hl.1 rfl (Nat.le_of_ble_eq_true rfl) dX6_read_46 ⟨Nat.zero_le _, Nat.zero_le _⟩ hS (fun _ h => h) (fun _ _ h => h) (fun H locs hpo hS => ?_)
          obtain ⟨gh46, hwf, hvis, hT⟩ := hpo
          refine r_iconst hx hb dX6_read_49 (by decide) (by decide) (fun x49 e49 => ?_)
          refine lv_istore (lv' := [(6, .int x49), (5, .ref q32), (0, .ref h0), (1, .int p1), (2, .int p2), (3, .int p3), (4, .int p4)]) hx hb dX6_read_50 hl (by decide) rfl (fun ls hl => ?_)
          refine r_iconst hx hb dX6_read_52 (by decide) (by decide) (fun x52 e52 => ?_)
          refine lv_istore (lv' := [(7, .int x52), (6, .int x49), (5, .ref q32), (0, .ref h0), (1, .int p1), (2, .int p2), (3, .int p3), (4, .int p4)]) hx hb dX6_read_53 hl (by decide) rfl (fun ls hl => ?_)
          have J55 : ∀ (n55 : Nat) (ls : Array Slot) (H : Heap) (locs : List Loc) (y55_6 : Int32) (y55_7 : Int32) (gh : Gh), (0 ≤ y55_6.toInt ∧ y55_6.toInt ≤ 0) → (0 ≤ y55_7.toInt ∧ y55_7.toInt ≤ 20) → (20 - y55_7.toInt) < (n55 : Int) → wf z gh → vis z gh v → TY z (zA z) gh H → va_S (zA z) s.heap H locs → lv_has ls 9 [(0, .ref h0), (1, .int p1), (2, .int p2), (3, .int p3), (4, .int p4), (5, .ref q32), (6, .int y55_6), (7, .int y55_7)] → W p l e (rmF 4 130) s m ([.ref h0, .int p1, .int p2, .int p3, .int p4] : List Value).toArray below meth c H locs 0 0 (MQ below (QcI z (fun r H => WX z v H)) ([.ref h0, .int p1, .int p2, .int p3, .int p4] : List Value).toArray s 0 0 (zA z)) (F0 m 55 ls []) := by
            intro n55
            induction n55 with
            | zero => intro ls H locs y55_6 y55_7 gh j55_y55_6 j55_y55_7 mm55 hwf hvis hT hS hl; exfalso; omega
            | succ n55 ih55 =>
              intro ls H locs y55_6 y55_7 gh j55_y55_6 j55_y55_7 mm55 hwf hvis hT hS hl
              refine lv_iload hx hb dX6_read_55 (lv_at hl 7 rfl) ?_
              refine lv_iload hx hb dX6_read_57 (lv_at hl 4 rfl) ?_
              have J139 : ∀ (ls : Array Slot) (H : Heap) (locs : List Loc) (y139_6 : Int32) (gh : Gh), (0 ≤ y139_6.toInt ∧ y139_6.toInt ≤ 3) → wf z gh → vis z gh v → TY z (zA z) gh H → va_S (zA z) s.heap H locs → lv_has ls 9 [(0, .ref h0), (1, .int p1), (2, .int p2), (3, .int p3), (4, .int p4), (5, .ref q32), (6, .int y139_6), (7, .int y55_7)] → W p l e (rmF 4 130) s m ([.ref h0, .int p1, .int p2, .int p3, .int p4] : List Value).toArray below meth c H locs 0 0 (MQ below (QcI z (fun r H => WX z v H)) ([.ref h0, .int p1, .int p2, .int p3, .int p4] : List Value).toArray s 0 0 (zA z)) (F0 m 139 ls []) := by
                intro ls H locs y139_6 gh j139_y139_6 hwf hvis hT hS hl
                refine lv_aload_n hx hb dX6_read_139 rfl (lv_at hl 0 rfl) ?_
                refine gt_HeelDance_now hx hb hts ic_HeelDance hown hK hT g0 (hts _ mw_2_8) dX6_read_140 (fun q140 hq140 => ?_)
                refine gt_Evening_floor hx hb hts ic_Evening hown hK hT hq140 (hts _ mw_1_91) dX6_read_143 (fun q143 hq143 => ?_)
                refine lv_aload hx hb dX6_read_146 (lv_at hl 5 rfl) ?_
                refine cl_Vv (rest := []) hC hK hSK (c_X1_copyFrom l z v q143 (1) hq143 q32 (5) hq32 (fun q9 => by have h9 := hq143; rw [q9, hq32] at h9; have h8 := congrArg Prod.snd h9; dsimp only at h8; omega)) k_X1_copyFrom mw_3_88 ⟨rfl, rfl, Nat.le_of_ble_eq_true rfl, Nat.le_of_ble_eq_true rfl⟩ (rv_Floor hK hT hq143) ⟨_, hwf, hvis, hT⟩ rfl hl.1 rfl (Nat.le_of_ble_eq_true rfl) dX6_read_148 ⟨Nat.zero_le _, Nat.zero_le _⟩ hS (fun _ h => h) (fun _ _ h => h) (fun H locs hpo hS => ?_)
                obtain ⟨gh148, hwf, hvis, hT⟩ := hpo
                refine lv_aload_n hx hb dX6_read_151 rfl (lv_at hl 0 rfl) ?_
                refine lv_iload hx hb dX6_read_152 (lv_at hl 6 rfl) ?_
                refine pt_HeelDance_latestTear hx hb hts ic_HeelDance hown hK hT hS g0 (hts _ mw_2_15) dX6_read_154 (fun H locs hT hS => ?_)
                refine lv_iload hx hb dX6_read_157 (lv_at hl 7 rfl) ?_
                exact rt_i hx hb hr hlk hS ⟨_, hwf, hvis, hT⟩ dX6_read_159
              refine r_icmp_ge (tgt := 139) hx hb dX6_read_59 (by decide) (fun c59 => ?_) (fun c59 => ?_)
              · exact J139 ls _ _ y55_6 _ (by omega) hwf hvis hT hS (lv_sub hl [0, 1, 2, 3, 4, 5, 6, 7] rfl)
              · refine lv_aload_n hx hb dX6_read_62 rfl (lv_at hl 0 rfl) ?_
                refine gt_HeelDance_sheets hx hb hts ic_HeelDance hown hK hT g0 (hts _ mw_2_13) dX6_read_63 (fun q63 hq63 => ?_)
                refine lv_iload_n hx hb dX6_read_66 rfl (lv_at hl 1 rfl) ?_
                refine al_37 hx hb hK hT hq63 (by omega) (by omega) dX6_read_67 (fun q67 hq67 => ?_)
                refine lv_iload_n hx hb dX6_read_68 rfl (lv_at hl 2 rfl) ?_
                refine lv_iload_n hx hb dX6_read_69 rfl (lv_at hl 3 rfl) ?_
                refine r_i2l hx hb dX6_read_70 (fun x70 e70 => ?_)
                refine lv_iload hx hb dX6_read_71 (lv_at hl 7 rfl) ?_
                refine r_i2l hx hb dX6_read_73 (fun x73 e73 => ?_)
                refine r_ladd hx hb dX6_read_74 (by omega) (by omega) (fun x74 e74 => ?_)
                refine cl_Vi (rest := []) hC hK hSK (c_X3_faultAt l z gh q67 (p1.toNatClampNeg) hq67 p2 x74) k_X3_faultAt mw_4_36 ⟨rfl, rfl, Nat.le_of_ble_eq_true rfl, Nat.le_of_ble_eq_true rfl⟩ (rv_Sheet hK hT hq67) hT rfl hl.1 rfl (Nat.le_of_ble_eq_true rfl) dX6_read_75 ⟨Nat.zero_le _, Nat.zero_le _⟩ hS (fun _ h => h) (fun _ _ h => h) (fun r75 H locs hpo hS => ?_)
                obtain ⟨hT, u75_0, u75_1, u75_2, u75_3⟩ := hpo
                have b75 := ty_sh hT hq67
                refine lv_istore (lv' := [(6, .int r75), (0, .ref h0), (1, .int p1), (2, .int p2), (3, .int p3), (4, .int p4), (5, .ref q32), (7, .int y55_7)]) hx hb dX6_read_78 hl (by decide) rfl (fun ls hl => ?_)
                refine lv_iload hx hb dX6_read_80 (lv_at hl 0 rfl) ?_
                refine r_if_eq (tgt := 88) hx hb dX6_read_82 (by decide) (fun c82 => ?_) (fun c82 => ?_)
                · refine lv_aload_n hx hb dX6_read_88 rfl (lv_at hl 1 rfl) ?_
                  refine gt_HeelDance_sheets hx hb hts ic_HeelDance hown hK hT g0 (hts _ mw_2_13) dX6_read_89 (fun q89 hq89 => ?_)
                  refine lv_iload_n hx hb dX6_read_92 rfl (lv_at hl 2 rfl) ?_
                  refine al_37 hx hb hK hT hq89 (by omega) (by omega) dX6_read_93 (fun q93 hq93 => ?_)
                  refine gt_Sheet_cells hx hb hts ic_Sheet hown hK hT hq93 (hts _ mw_1_235) dX6_read_94 (fun q94 hq94 => ?_)
                  refine lv_iload_n hx hb dX6_read_97 rfl (lv_at hl 4 rfl) ?_
                  refine lv_iload hx hb dX6_read_98 (lv_at hl 7 rfl) ?_
                  refine r_iadd hx hb dX6_read_100 (by omega) (by omega) (fun x100 e100 => ?_)
                  refine al_23 hx hb hK hT hq94 (by omega) (by omega) dX6_read_101 (fun x101 => ?_)
                  refine lv_istore (lv' := [(8, .int x101), (6, .int r75), (0, .ref h0), (1, .int p1), (2, .int p2), (3, .int p3), (4, .int p4), (5, .ref q32), (7, .int y55_7)]) hx hb dX6_read_102 hl (by decide) rfl (fun ls hl => ?_)
                  refine lv_iload hx hb dX6_read_104 (lv_at hl 0 rfl) ?_
                  refine cl_Si (rest := []) hC hK hSK (c_X6_isFigure l z gh x101) k_X6_isFigure mw_3_43 ⟨rfl, rfl, Nat.le_of_ble_eq_true rfl, Nat.le_of_ble_eq_true rfl⟩ hT rfl hl.1 rfl (Nat.le_of_ble_eq_true rfl) dX6_read_106 ⟨Nat.zero_le _, Nat.zero_le _⟩ hS (fun _ h => h) (fun _ _ h => h) (fun r106 H locs hpo hS => ?_)
                  obtain ⟨hT, u106_0⟩ := hpo
                  refine r_if_eq (tgt := 120) hx hb dX6_read_109 (by decide) (fun c109 => ?_) (fun c109 => ?_)
                  · refine r_bipush hx hb dX6_read_120 rfl (fun x120 e120 => ?_)
                    refine lv_iload hx hb dX6_read_122 (lv_at hl 8 rfl) ?_
                    refine r_isub hx hb dX6_read_124 (by omega) (by omega) (fun x124 e124 => ?_)
                    exact rt_i hx hb hr hlk hS ⟨_, hwf, hvis, hT⟩ dX6_read_125
                  · refine lv_aload hx hb dX6_read_112 (lv_at hl 7 rfl) ?_
                    refine gt_Floor_men hx hb hts ic_Floor hown hK hT hq32 (hts _ mw_1_62) dX6_read_114 (fun x114 i114 e114 g114 => ?_)
                    refine r_if_ne (tgt := 126) hx hb dX6_read_117 (by decide) (fun c117 => ?_) (fun c117 => ?_)
                    · refine lv_aload hx hb dX6_read_126 (lv_at hl 7 rfl) ?_
                      refine lv_iload hx hb dX6_read_128 (lv_at hl 0 rfl) ?_
                      refine cl_Vv (rest := []) hC hK hSK (c_X1_step l z gh q32 (5) hq32 x101 (hwf.1 q32 _ hq32) hwf.2.2) k_X1_step mw_3_55 ⟨rfl, rfl, Nat.le_of_ble_eq_true rfl, Nat.le_of_ble_eq_true rfl⟩ (rv_Floor hK hT hq32) hT rfl hl.1 rfl (Nat.le_of_ble_eq_true rfl) dX6_read_130 ⟨Nat.zero_le _, Nat.zero_le _⟩ hS (fun _ h => h) (fun _ _ h => h) (fun H locs hpo hS => ?_)
                      obtain ⟨gh130, hz130, hT⟩ := hpo
                      have hst130 := hz130.2
                      have hz130 := eqv_eq hz130.1
                      have hwf := wf_of hz130 hwf
                      have hvis := vis_of hz130 hvis
                      refine r_iinc (lv' := fun v__ => [(7, .int v__), (8, .int x101), (6, .int r75), (0, .ref h0), (1, .int p1), (2, .int p2), (3, .int p3), (4, .int p4), (5, .ref q32)]) hx hb dX6_read_133 hl (k := 8) rfl (by decide) (fun _ => rfl) ⟨by decide, by decide⟩ (by omega) (by omega) (fun x133 ls e133 hl => ?_)
                      refine lv_goto (tgt := 55) hx hb dX6_read_136 (by decide) ?_
                      exact ih55 ls _ _ r75 x133 _ (by omega) (by omega) (by omega) hwf hvis hT hS (lv_sub hl [3, 4, 5, 6, 7, 8, 2, 0] rfl)
                    · refine r_bipush hx hb dX6_read_120 rfl (fun x120 e120 => ?_)
                      refine lv_iload hx hb dX6_read_122 (lv_at hl 8 rfl) ?_
                      refine r_isub hx hb dX6_read_124 (by omega) (by omega) (fun x124 e124 => ?_)
                      exact rt_i hx hb hr hlk hS ⟨_, hwf, hvis, hT⟩ dX6_read_125
                · refine lv_goto (tgt := 139) hx hb dX6_read_85 (by decide) ?_
                  exact J139 ls _ _ r75 _ (by omega) hwf hvis hT hS (lv_sub hl [1, 2, 3, 4, 5, 6, 0, 7] rfl)
          exact J55 (((20 - x52.toInt)).toNat + 1) ls _ _ x49 x52 _ (by omega) (by omega) (by omega) hwf hvis hT hS (lv_sub hl [3, 4, 5, 6, 7, 2, 1, 0] rfl)
        · refine r_iconst hx hb dX6_read_26 (by decide) (by decide) (fun x26 e26 => ?_)
          exact rt_i hx hb hr hlk hS ⟨_, hwf, hvis, hT⟩ dX6_read_27
theorem k_X6_count : cBV yX6_count cX6_count 2 (some .int) 1 := ⟨mw_4_53, mw_4_54, mw_1_1, mw_4_55, ⟨by decide, by decide, by decide⟩⟩
set_option maxHeartbeats 4000000 in
set_option maxRecDepth 100000 in
theorem c_X6_count (l : Launch) (z : Zt) (gh : Gh) (h0 o0 : Nat) (g0 : zG z h0 = (16, o0)) (p1 : Int32) : Met l yX6_count (uw yX6_count cX6_count 2 (some .int)) (rmF 2 87) (PcW z [.ref h0, .int p1] (fun H => TY z (zA z) gh H)) (QcI z (fun r H => TY z (zA z) gh H)) 0 0 (zA z) := by
  refine Met.ofW (cc := cX6_count) (maxL := 2) (ret := (some .int)) (by decide) rfl ?_
  intro p e s m args below meth c s₁ B hml hv
  obtain ⟨rfl, hW, hK, hSK⟩ := hv
  have hx := B.exec
  have hb := B.bytes
  have hr := B.returns
  have hts : ∀ w ∈ lw_ok, w.before ([.ref h0, .int p1] : List Value).toArray s = true := fun w hw => atoms_spec (ws := uw yX6_count cX6_count 2 (some .int)) B.pre w (List.mem_cons_of_mem _ hw)
  have hown : s.vm.findClass RX6 = some m.cls := findClass_of_methodNamed B.named
  have hlk := B.notSynchronized
  have hC : CallFix p m c cX6_count 2 s ([.ref h0, .int p1] : List Value).toArray lw_ok RX6 := ⟨hx, hb, hml, hown, hts⟩
  have hS : va_S (zA z) s.heap s.heap [] := va_S.rf
  have hl := lv_entry ([.ref h0, .int p1]) (n := 2) (Nat.le_of_ble_eq_true rfl)
  rw [lg_entry_eq]
  generalize (lg_sl ([.ref h0, .int p1]) ++ List.replicate (2 - (lg_sl ([.ref h0, .int p1])).length) Slot.unset).toArray = ls at hl ⊢
  have hl : lv_has ls 2 [(0, .ref h0), (1, .int p1)] := hl
  show W p l e (rmF 2 87) s m ([.ref h0, .int p1] : List Value).toArray below meth c s.heap [] 0 0 (MQ below (QcI z (fun r H => TY z (zA z) gh H)) ([.ref h0, .int p1] : List Value).toArray s 0 0 (zA z)) (F0 m 0 ls [])
  have hT : TY z (zA z) gh s.heap := hW
  have mx_p1 := i_mx p1
  refine lv_iload_n hx hb dX6_count_0 rfl (lv_at hl 1 rfl) ?_
  rcases (show p1.toInt = 0 ∨ p1.toInt = 1 ∨ p1.toInt = 2 ∨ p1.toInt = 3 ∨ p1.toInt = 4 ∨ p1.toInt = 5 ∨ (p1.toInt < 0 ∨ 5 < p1.toInt) by omega) with c1 | c1 | c1 | c1 | c1 | c1 | c1
  · refine lv_tableIn (off := 39) (tgt := 40) hx hb dX6_count_1 (by omega) (by omega) (by rw [c1]; rfl) (by decide) ?_
    refine lv_aload_n hx hb dX6_count_40 rfl (lv_at hl 0 rfl) ?_
    refine gt_HeelDance_now hx hb hts ic_HeelDance hown hK hT g0 (hts _ mw_2_8) dX6_count_41 (fun q41 hq41 => ?_)
    refine gt_Evening_seen hx hb hts ic_Evening hown hK hT hq41 (hts _ mw_1_111) dX6_count_44 (fun x44 i44 e44 g44 => ?_)
    exact rt_i hx hb hr hlk hS hT dX6_count_47
  · refine lv_tableIn (off := 47) (tgt := 48) hx hb dX6_count_1 (by omega) (by omega) (by rw [c1]; rfl) (by decide) ?_
    refine lv_aload_n hx hb dX6_count_48 rfl (lv_at hl 0 rfl) ?_
    refine gt_HeelDance_kept hx hb hts ic_HeelDance hown hK hT g0 (hts _ mw_2_10) dX6_count_49 (fun q49 hq49 => ?_)
    refine r_iconst hx hb dX6_count_52 (by decide) (by decide) (fun x52 e52 => ?_)
    refine al_33 hx hb hK hT hq49 (by omega) (by omega) dX6_count_53 (fun x53 e53 => ?_)
    have n53 := ix_nat (i := x52) (by omega)
    unfold p33 at e53
    have J62 : ∀ (ls : Array Slot) (H : Heap) (locs : List Loc) (t62_0 : Int32), (0 ≤ t62_0.toInt ∧ t62_0.toInt ≤ 1) → TY z (zA z) gh H → va_S (zA z) s.heap H locs → lv_has ls 2 [(0, .ref h0), (1, .int p1)] → W p l e (rmF 2 87) s m ([.ref h0, .int p1] : List Value).toArray below meth c H locs 0 0 (MQ below (QcI z (fun r H => TY z (zA z) gh H)) ([.ref h0, .int p1] : List Value).toArray s 0 0 (zA z)) (F0 m 62 ls [.int t62_0]) := by
      intro ls H locs t62_0 j62_t62_0 hT hS hl
      refine lv_aload_n hx hb dX6_count_62 rfl (lv_at hl 0 rfl) ?_
      refine gt_HeelDance_kept hx hb hts ic_HeelDance hown hK hT g0 (hts _ mw_2_10) dX6_count_63 (fun q63 hq63 => ?_)
      refine r_iconst hx hb dX6_count_66 (by decide) (by decide) (fun x66 e66 => ?_)
      refine al_33 hx hb hK hT hq63 (by omega) (by omega) dX6_count_67 (fun x67 e67 => ?_)
      have n67 := ix_nat (i := x66) (by omega)
      unfold p33 at e67
      refine r_if_eq (tgt := 75) hx hb dX6_count_68 (by decide) (fun c68 => ?_) (fun c68 => ?_)
      · refine r_iconst hx hb dX6_count_75 (by decide) (by decide) (fun x75 e75 => ?_)
        refine r_iadd hx hb dX6_count_76 (by omega) (by omega) (fun x76 e76 => ?_)
        exact rt_i hx hb hr hlk hS hT dX6_count_77
      · refine r_iconst hx hb dX6_count_71 (by decide) (by decide) (fun x71 e71 => ?_)
        refine lv_goto (tgt := 76) hx hb dX6_count_72 (by decide) ?_
        refine r_iadd hx hb dX6_count_76 (by omega) (by omega) (fun x76 e76 => ?_)
        exact rt_i hx hb hr hlk hS hT dX6_count_77
    refine r_if_eq (tgt := 61) hx hb dX6_count_54 (by decide) (fun c54 => ?_) (fun c54 => ?_)
    · refine r_iconst hx hb dX6_count_61 (by decide) (by decide) (fun x61 e61 => ?_)
      exact J62 ls _ _ x61 (by omega) hT hS (lv_sub hl [0, 1] rfl)
    · refine r_iconst hx hb dX6_count_57 (by decide) (by decide) (fun x57 e57 => ?_)
      refine lv_goto (tgt := 62) hx hb dX6_count_58 (by decide) ?_
      exact J62 ls _ _ x57 (by omega) hT hS (lv_sub hl [0, 1] rfl)
  · refine lv_tableIn (off := 77) (tgt := 78) hx hb dX6_count_1 (by omega) (by omega) (by rw [c1]; rfl) (by decide) ?_
    refine lv_aload_n hx hb dX6_count_78 rfl (lv_at hl 0 rfl) ?_
    refine gt_HeelDance_tape hx hb hts ic_HeelDance hown hK hT g0 (hts _ mw_2_7) dX6_count_79 (fun q79 hq79 => ?_)
    refine gt_Tape_length hx hb hts ic_Tape hown hK hT hq79 (hts _ mw_1_133) dX6_count_82 (fun x82 i82 e82 g82 => ?_)
    exact rt_i hx hb hr hlk hS hT dX6_count_85
  · refine lv_tableIn (off := 85) (tgt := 86) hx hb dX6_count_1 (by omega) (by omega) (by rw [c1]; rfl) (by decide) ?_
    refine lv_aload_n hx hb dX6_count_86 rfl (lv_at hl 0 rfl) ?_
    refine gt_HeelDance_sheets hx hb hts ic_HeelDance hown hK hT g0 (hts _ mw_2_13) dX6_count_87 (fun q87 hq87 => ?_)
    refine r_iconst hx hb dX6_count_90 (by decide) (by decide) (fun x90 e90 => ?_)
    refine al_37 hx hb hK hT hq87 (by omega) (by omega) dX6_count_91 (fun q91 hq91 => ?_)
    refine gt_Sheet_lane hx hb hts ic_Sheet hown hK hT hq91 (hts _ mw_1_237) dX6_count_92 (fun x92 i92 e92 g92 => ?_)
    refine r_iconst hx hb dX6_count_95 (by decide) (by decide) (fun x95 e95 => ?_)
    refine r_icmp_ne (tgt := 104) hx hb dX6_count_96 (by decide) (fun c96 => ?_) (fun c96 => ?_)
    · refine lv_aload_n hx hb dX6_count_104 rfl (lv_at hl 0 rfl) ?_
      refine gt_HeelDance_sheets hx hb hts ic_HeelDance hown hK hT g0 (hts _ mw_2_13) dX6_count_105 (fun q105 hq105 => ?_)
      refine r_iconst hx hb dX6_count_108 (by decide) (by decide) (fun x108 e108 => ?_)
      refine al_37 hx hb hK hT hq105 (by omega) (by omega) dX6_count_109 (fun q109 hq109 => ?_)
      refine gt_Sheet_length hx hb hts ic_Sheet hown hK hT hq109 (hts _ mw_1_239) dX6_count_110 (fun x110 i110 e110 g110 => ?_)
      exact rt_i hx hb hr hlk hS hT dX6_count_113
    · refine r_bipush hx hb dX6_count_99 rfl (fun x99 e99 => ?_)
      refine lv_goto (tgt := 113) hx hb dX6_count_101 (by decide) ?_
      exact rt_i hx hb hr hlk hS hT dX6_count_113
  · refine lv_tableIn (off := 113) (tgt := 114) hx hb dX6_count_1 (by omega) (by omega) (by rw [c1]; rfl) (by decide) ?_
    refine lv_aload_n hx hb dX6_count_114 rfl (lv_at hl 0 rfl) ?_
    refine gt_HeelDance_now hx hb hts ic_HeelDance hown hK hT g0 (hts _ mw_2_8) dX6_count_115 (fun q115 hq115 => ?_)
    refine gt_Evening_floor hx hb hts ic_Evening hown hK hT hq115 (hts _ mw_1_91) dX6_count_118 (fun q118 hq118 => ?_)
    refine gt_Floor_heels hx hb hts ic_Floor hown hK hT hq118 (hts _ mw_1_48) dX6_count_121 (fun q121 hq121 => ?_)
    refine lv_aload_n hx hb dX6_count_124 rfl (lv_at hl 0 rfl) ?_
    refine gt_HeelDance_now hx hb hts ic_HeelDance hown hK hT g0 (hts _ mw_2_8) dX6_count_125 (fun q125 hq125 => ?_)
    refine gt_Evening_floor hx hb hts ic_Evening hown hK hT hq125 (hts _ mw_1_91) dX6_count_128 (fun q128 hq128 => ?_)
    refine gt_Floor_men hx hb hts ic_Floor hown hK hT hq128 (hts _ mw_1_62) dX6_count_131 (fun x131 i131 e131 g131 => ?_)
    refine cl_Si (rest := []) hC hK hSK (c_X6_sum l z gh q121 (q118) hq121 x131) k_X6_sum mw_3_116 ⟨rfl, rfl, Nat.le_of_ble_eq_true rfl, Nat.le_of_ble_eq_true rfl⟩ hT rfl hl.1 rfl (Nat.le_of_ble_eq_true rfl) dX6_count_134 ⟨Nat.zero_le _, Nat.zero_le _⟩ hS (fun _ h => h) (fun _ _ h => h) (fun r134 H locs hpo hS => ?_)
    have hT := hpo
    exact rt_i hx hb hr hlk hS hT dX6_count_137
  · refine lv_tableIn (off := 137) (tgt := 138) hx hb dX6_count_1 (by omega) (by omega) (by rw [c1]; rfl) (by decide) ?_
    refine lv_aload_n hx hb dX6_count_138 rfl (lv_at hl 0 rfl) ?_
    refine gt_HeelDance_now hx hb hts ic_HeelDance hown hK hT g0 (hts _ mw_2_8) dX6_count_139 (fun q139 hq139 => ?_)
    refine gt_Evening_floor hx hb hts ic_Evening hown hK hT hq139 (hts _ mw_1_91) dX6_count_142 (fun q142 hq142 => ?_)
    refine gt_Floor_heat hx hb hts ic_Floor hown hK hT hq142 (hts _ mw_1_50) dX6_count_145 (fun q145 hq145 => ?_)
    refine lv_aload_n hx hb dX6_count_148 rfl (lv_at hl 0 rfl) ?_
    refine gt_HeelDance_now hx hb hts ic_HeelDance hown hK hT g0 (hts _ mw_2_8) dX6_count_149 (fun q149 hq149 => ?_)
    refine gt_Evening_floor hx hb hts ic_Evening hown hK hT hq149 (hts _ mw_1_91) dX6_count_152 (fun q152 hq152 => ?_)
    refine gt_Floor_men hx hb hts ic_Floor hown hK hT hq152 (hts _ mw_1_62) dX6_count_155 (fun x155 i155 e155 g155 => ?_)
    refine cl_Si (rest := []) hC hK hSK (c_X6_sum l z gh q145 (q142) hq145 x155) k_X6_sum mw_3_116 ⟨rfl, rfl, Nat.le_of_ble_eq_true rfl, Nat.le_of_ble_eq_true rfl⟩ hT rfl hl.1 rfl (Nat.le_of_ble_eq_true rfl) dX6_count_158 ⟨Nat.zero_le _, Nat.zero_le _⟩ hS (fun _ h => h) (fun _ _ h => h) (fun r158 H locs hpo hS => ?_)
    have hT := hpo
    exact rt_i hx hb hr hlk hS hT dX6_count_161
  · refine lv_tableOut (tgt := 162) hx hb dX6_count_1 c1 (by decide) ?_
    refine r_iconst hx hb dX6_count_162 (by decide) (by decide) (fun x162 e162 => ?_)
    exact rt_i hx hb hr hlk hS hT dX6_count_163
