theorem k_X7_at : cBV yX7_at cX7_at 2 (some .int) 1 := ⟨mw_5_40, mw_5_41, mw_1_8, mw_5_42, ⟨by decide, by decide, by decide⟩⟩
set_option maxHeartbeats 4000000 in
set_option maxRecDepth 100000 in
theorem c_X7_at (l : Launch) (z : Zt) (v : Nat → Nat → Int) (h0 o0 : Nat) (g0 : zG z h0 = (17, o0)) (p1 : Int32) : Met l yX7_at (uw yX7_at cX7_at 2 (some .int)) (rmF 6 176) (PcW z [.ref h0, .int p1] (fun H => WX z v H)) (QcI z (fun r H => WX z v H)) 0 0 (zA z) := by
  refine Met.ofW (cc := cX7_at) (maxL := 2) (ret := (some .int)) (by decide) rfl ?_
  intro p e s m args below meth c s₁ B hml hv
  obtain ⟨rfl, hW, hK, hSK⟩ := hv
  have hx := B.exec
  have hb := B.bytes
  have hr := B.returns
  have hts : ∀ w ∈ lw_ok, w.before ([.ref h0, .int p1] : List Value).toArray s = true := fun w hw => atoms_spec (ws := uw yX7_at cX7_at 2 (some .int)) B.pre w (List.mem_cons_of_mem _ hw)
  have hown : s.vm.findClass RX7 = some m.cls := findClass_of_methodNamed B.named
  have hlk := B.notSynchronized
  have hC : CallFix p m c cX7_at 2 s ([.ref h0, .int p1] : List Value).toArray lw_ok RX7 := ⟨hx, hb, hml, hown, hts⟩
  have hS : va_S (zA z) s.heap s.heap [] := va_S.rf
  have hl := lv_entry ([.ref h0, .int p1]) (n := 2) (Nat.le_of_ble_eq_true rfl)
  rw [lg_entry_eq]
  generalize (lg_sl ([.ref h0, .int p1]) ++ List.replicate (2 - (lg_sl ([.ref h0, .int p1])).length) Slot.unset).toArray = ls at hl ⊢
  have hl : lv_has ls 2 [(0, .ref h0), (1, .int p1)] := hl
  show W p l e (rmF 6 176) s m ([.ref h0, .int p1] : List Value).toArray below meth c s.heap [] 0 0 (MQ below (QcI z (fun r H => WX z v H)) ([.ref h0, .int p1] : List Value).toArray s 0 0 (zA z)) (F0 m 0 ls [])
  obtain ⟨gh, hwf, hvis, hT⟩ := hW
  have mx_p1 := i_mx p1
  refine lv_aload_n hx hb dX7_at_0 rfl (lv_at hl 0 rfl) ?_
  refine lv_iload_n hx hb dX7_at_1 rfl (lv_at hl 1 rfl) ?_
  refine cl_Vi (rest := []) hC hK hSK (c_X7_isOne l z gh h0 (o0) g0 p1) k_X7_isOne mw_5_11 ⟨rfl, rfl, Nat.le_of_ble_eq_true rfl, Nat.le_of_ble_eq_true rfl⟩ (rv_Model hK hT g0) hT rfl hl.1 rfl (Nat.le_of_ble_eq_true rfl) dX7_at_2 ⟨Nat.zero_le _, Nat.zero_le _⟩ hS (fun _ h => h) (fun _ _ h => h) (fun r2 H locs hpo hS => ?_)
  obtain ⟨hT, u2_0, u2_1⟩ := hpo
  refine r_if_ne (tgt := 10) hx hb dX7_at_5 (by decide) (fun c5 => ?_) (fun c5 => ?_)
  · refine lv_aload_n hx hb dX7_at_10 rfl (lv_at hl 0 rfl) ?_
    refine cl_Vv (rest := []) hC hK hSK (c_X7_starts l z gh h0 (o0) g0 hwf) k_X7_starts mw_4_229 ⟨rfl, rfl, Nat.le_of_ble_eq_true rfl, Nat.le_of_ble_eq_true rfl⟩ (rv_Model hK hT g0) hT rfl hl.1 rfl (Nat.le_of_ble_eq_true rfl) dX7_at_11 ⟨Nat.zero_le _, Nat.zero_le _⟩ hS (fun _ h => h) (fun _ _ h => h) (fun H locs hpo hS => ?_)
    obtain ⟨gh11, hz11, hst11, hnow, hT⟩ := hpo
    have hwf := wf_ne hz11 hwf
    have hvis := vis_ne hz11 hvis
    have r41_11 := hz11 h0 41 (by decide) (by decide)
    refine lv_aload_n hx hb dX7_at_14 rfl (lv_at hl 0 rfl) ?_
    refine cl_Vv (rest := []) hC hK hSK (c_X7_findRanks l z gh11 h0 (o0) g0 hwf.2.2) k_X7_findRanks mw_5_43 ⟨rfl, rfl, Nat.le_of_ble_eq_true rfl, Nat.le_of_ble_eq_true rfl⟩ (rv_Model hK hT g0) hT rfl hl.1 rfl (Nat.le_of_ble_eq_true rfl) dX7_at_15 ⟨Nat.zero_le _, Nat.zero_le _⟩ hS (fun _ h => h) (fun _ _ h => h) (fun H locs hpo hS => ?_)
    obtain ⟨gh15, hz15, hT, u15_0, u15_1⟩ := hpo
    have hst15 := hz15.2
    have hz15 := eqv_eq hz15.1
    have hwf := wf_of hz15 hwf
    have hvis := vis_of hz15 hvis
    have hnow := nowOK_of hz15 hnow
    have r41_15 := hz15 h0 41 rfl
    refine lv_aload_n hx hb dX7_at_18 rfl (lv_at hl 0 rfl) ?_
    refine gt_Model_byRank hx hb hts ic_Model hown hK hT g0 (hts _ mw_4_87) dX7_at_19 (fun q19 hq19 => ?_)
    refine lv_iload_n hx hb dX7_at_22 rfl (lv_at hl 1 rfl) ?_
    refine al_45 hx hb hK hT hq19 (by omega) (by omega) dX7_at_23 (fun x23 i23 e23 => ?_)
    have n23 := ix_nat (i := p1) (by omega)
    unfold p45 at e23
    exact rt_i hx hb hr hlk hS ⟨_, hwf, hvis, hT⟩ dX7_at_24
  · refine r_iconst hx hb dX7_at_8 (by decide) (by decide) (fun x8 e8 => ?_)
    exact rt_i hx hb hr hlk hS ⟨_, hwf, hvis, hT⟩ dX7_at_9
theorem k_X7_dance : cBV yX7_dance cX7_dance 2 (some .int) 1 := ⟨mw_5_85, mw_5_86, mw_1_8, mw_5_87, ⟨by decide, by decide, by decide⟩⟩
set_option maxHeartbeats 4000000 in
set_option maxRecDepth 100000 in
theorem c_X7_dance (l : Launch) (z : Zt) (v : Nat → Nat → Int) (h0 o0 : Nat) (g0 : zG z h0 = (17, o0)) (p1 : Int32) : Met l yX7_dance (uw yX7_dance cX7_dance 2 (some .int)) (rmF 8 222) (PcW z [.ref h0, .int p1] (fun H => WX z v H)) (QcI z (fun r H => WX z v H)) 0 0 (zA z) := by
  refine Met.ofW (cc := cX7_dance) (maxL := 2) (ret := (some .int)) (by decide) rfl ?_
  intro p e s m args below meth c s₁ B hml hv
  obtain ⟨rfl, hW, hK, hSK⟩ := hv
  have hx := B.exec
  have hb := B.bytes
  have hr := B.returns
  have hts : ∀ w ∈ lw_ok, w.before ([.ref h0, .int p1] : List Value).toArray s = true := fun w hw => atoms_spec (ws := uw yX7_dance cX7_dance 2 (some .int)) B.pre w (List.mem_cons_of_mem _ hw)
  have hown : s.vm.findClass RX7 = some m.cls := findClass_of_methodNamed B.named
  have hlk := B.notSynchronized
  have hC : CallFix p m c cX7_dance 2 s ([.ref h0, .int p1] : List Value).toArray lw_ok RX7 := ⟨hx, hb, hml, hown, hts⟩
  have hS : va_S (zA z) s.heap s.heap [] := va_S.rf
  have hl := lv_entry ([.ref h0, .int p1]) (n := 2) (Nat.le_of_ble_eq_true rfl)
  rw [lg_entry_eq]
  generalize (lg_sl ([.ref h0, .int p1]) ++ List.replicate (2 - (lg_sl ([.ref h0, .int p1])).length) Slot.unset).toArray = ls at hl ⊢
  have hl : lv_has ls 2 [(0, .ref h0), (1, .int p1)] := hl
  show W p l e (rmF 8 222) s m ([.ref h0, .int p1] : List Value).toArray below meth c s.heap [] 0 0 (MQ below (QcI z (fun r H => WX z v H)) ([.ref h0, .int p1] : List Value).toArray s 0 0 (zA z)) (F0 m 0 ls [])
  obtain ⟨gh, hwf, hvis, hT⟩ := hW
  have mx_p1 := i_mx p1
  refine lv_iload_n hx hb dX7_dance_0 rfl (lv_at hl 1 rfl) ?_
  refine cl_Si (rest := []) hC hK hSK (c_X7_isFigure l z gh p1) k_X7_isFigure mw_5_77 ⟨rfl, rfl, Nat.le_of_ble_eq_true rfl, Nat.le_of_ble_eq_true rfl⟩ hT rfl hl.1 rfl (Nat.le_of_ble_eq_true rfl) dX7_dance_1 ⟨Nat.zero_le _, Nat.zero_le _⟩ hS (fun _ h => h) (fun _ _ h => h) (fun r1 H locs hpo hS => ?_)
  obtain ⟨hT, u1_0⟩ := hpo
  refine r_if_ne (tgt := 9) hx hb dX7_dance_4 (by decide) (fun c4 => ?_) (fun c4 => ?_)
  · refine lv_aload_n hx hb dX7_dance_9 rfl (lv_at hl 0 rfl) ?_
    refine gt_Model_men hx hb hts ic_Model hown hK hT g0 (hts _ mw_4_73) dX7_dance_10 (fun x10 i10 e10 g10 => ?_)
    refine r_if_ne (tgt := 19) hx hb dX7_dance_13 (by decide) (fun c13 => ?_) (fun c13 => ?_)
    · refine lv_aload_n hx hb dX7_dance_19 rfl (lv_at hl 0 rfl) ?_
      refine cl_Vv (rest := []) hC hK hSK (c_X7_starts l z gh h0 (o0) g0 hwf) k_X7_starts mw_4_229 ⟨rfl, rfl, Nat.le_of_ble_eq_true rfl, Nat.le_of_ble_eq_true rfl⟩ (rv_Model hK hT g0) hT rfl hl.1 rfl (Nat.le_of_ble_eq_true rfl) dX7_dance_20 ⟨Nat.zero_le _, Nat.zero_le _⟩ hS (fun _ h => h) (fun _ _ h => h) (fun H locs hpo hS => ?_)
      obtain ⟨gh20, hz20, hst20, hnow, hT⟩ := hpo
      have hwf := wf_ne hz20 hwf
      have hvis := vis_ne hz20 hvis
      have r41_20 := hz20 h0 41 (by decide) (by decide)
      refine lv_aload_n hx hb dX7_dance_23 rfl (lv_at hl 0 rfl) ?_
      refine lv_iload_n hx hb dX7_dance_24 rfl (lv_at hl 1 rfl) ?_
      refine cl_Vv (rest := []) hC hK hSK (c_X7_danceOn l z gh20 h0 (o0) g0 p1 hwf.2.2 hnow) k_X7_danceOn mw_5_88 ⟨rfl, rfl, Nat.le_of_ble_eq_true rfl, Nat.le_of_ble_eq_true rfl⟩ (rv_Model hK hT g0) hT rfl hl.1 rfl (Nat.le_of_ble_eq_true rfl) dX7_dance_25 ⟨Nat.zero_le _, Nat.zero_le _⟩ hS (fun _ h => h) (fun _ _ h => h) (fun H locs hpo hS => ?_)
      obtain ⟨gh25, hz25, hT⟩ := hpo
      have hst25 := hz25.2
      have hz25 := eqv_eq hz25.1
      have hwf := wf_of hz25 hwf
      have hvis := vis_of hz25 hvis
      have hnow := nowOK_of hz25 hnow
      have r41_25 := hz25 h0 41 rfl
      refine lv_aload_n hx hb dX7_dance_28 rfl (lv_at hl 0 rfl) ?_
      refine cl_Vv (rest := []) hC hK hSK (c_X7_settles l z gh25 h0 (o0) g0 hnow (hwf.2.1 h0 _ g0)) k_X7_settles mw_5_104 ⟨rfl, rfl, Nat.le_of_ble_eq_true rfl, Nat.le_of_ble_eq_true rfl⟩ (rv_Model hK hT g0) hT rfl hl.1 rfl (Nat.le_of_ble_eq_true rfl) dX7_dance_29 ⟨Nat.zero_le _, Nat.zero_le _⟩ hS (fun _ h => h) (fun _ _ h => h) (fun H locs hpo hS => ?_)
      obtain ⟨gh29, hz29, hT⟩ := hpo
      have hwf := wf_of hz29 hwf
      have hvis := vis_of hz29 hvis
      have hnow := nowOK_of hz29 hnow
      have r41_29 := hz29 h0 41 rfl
      refine lv_aload_n hx hb dX7_dance_32 rfl (lv_at hl 0 rfl) ?_
      refine cl_Vi (rest := []) hC hK hSK (c_X7_round l z gh29 h0 (o0) g0) k_X7_round mw_5_0 ⟨rfl, rfl, Nat.le_of_ble_eq_true rfl, Nat.le_of_ble_eq_true rfl⟩ (rv_Model hK hT g0) hT rfl hl.1 rfl (Nat.le_of_ble_eq_true rfl) dX7_dance_33 ⟨Nat.zero_le _, Nat.zero_le _⟩ hS (fun _ h => h) (fun _ _ h => h) (fun r33 H locs hpo hS => ?_)
      have hT := hpo
      refine cl_Si (rest := []) hC hK hSK (c_X7_bitsOf l z gh29 r33) k_X7_bitsOf mw_4_237 ⟨rfl, rfl, Nat.le_of_ble_eq_true rfl, Nat.le_of_ble_eq_true rfl⟩ hT rfl hl.1 rfl (Nat.le_of_ble_eq_true rfl) dX7_dance_36 ⟨Nat.zero_le _, Nat.zero_le _⟩ hS (fun _ h => h) (fun _ _ h => h) (fun r36 H locs hpo hS => ?_)
      have hT := hpo
      exact rt_i hx hb hr hlk hS ⟨_, hwf, hvis, hT⟩ dX7_dance_39
    · refine r_bipush hx hb dX7_dance_16 rfl (fun x16 e16 => ?_)
      exact rt_i hx hb hr hlk hS ⟨_, hwf, hvis, hT⟩ dX7_dance_18
  · refine r_iconst hx hb dX7_dance_7 (by decide) (by decide) (fun x7 e7 => ?_)
    exact rt_i hx hb hr hlk hS ⟨_, hwf, hvis, hT⟩ dX7_dance_8
set_option maxHeartbeats 4000000 in
set_option maxRecDepth 100000 in
theorem c_dance2 (l : Launch) (z : Zt) (gh : Gh) (h0 o0 : Nat) (g0 : zG z h0 = (17, o0)) (p1 : Int32) (pr0 : wf z gh) : Met l yX7_dance (uw yX7_dance cX7_dance 2 (some .int)) (rmF 8 222) (PcW z [.ref h0, .int p1] (fun H => TY z (zA z) gh H)) (QcI z (fun r H => ∃ gk : Gh, wf z gk ∧ (∀ a k, k ≠ 48 → k ≠ 49 → hid k = false → gk.1 a k = gh.1 a k) ∧ TY z (zA z) gk H)) 0 0 (zA z) := by
  refine Met.ofW (cc := cX7_dance) (maxL := 2) (ret := (some .int)) (by decide) rfl ?_
  intro p e s m args below meth c s₁ B hml hv
  obtain ⟨rfl, hW, hK, hSK⟩ := hv
  have hx := B.exec
  have hb := B.bytes
  have hr := B.returns
  have hts : ∀ w ∈ lw_ok, w.before ([.ref h0, .int p1] : List Value).toArray s = true := fun w hw => atoms_spec (ws := uw yX7_dance cX7_dance 2 (some .int)) B.pre w (List.mem_cons_of_mem _ hw)
  have hown : s.vm.findClass RX7 = some m.cls := findClass_of_methodNamed B.named
  have hlk := B.notSynchronized
  have hC : CallFix p m c cX7_dance 2 s ([.ref h0, .int p1] : List Value).toArray lw_ok RX7 := ⟨hx, hb, hml, hown, hts⟩
  have hS : va_S (zA z) s.heap s.heap [] := va_S.rf
  have hl := lv_entry ([.ref h0, .int p1]) (n := 2) (Nat.le_of_ble_eq_true rfl)
  rw [lg_entry_eq]
  generalize (lg_sl ([.ref h0, .int p1]) ++ List.replicate (2 - (lg_sl ([.ref h0, .int p1])).length) Slot.unset).toArray = ls at hl ⊢
  have hl : lv_has ls 2 [(0, .ref h0), (1, .int p1)] := hl
  show W p l e (rmF 8 222) s m ([.ref h0, .int p1] : List Value).toArray below meth c s.heap [] 0 0 (MQ below (QcI z (fun r H => ∃ gk : Gh, wf z gk ∧ (∀ a k, k ≠ 48 → k ≠ 49 → hid k = false → gk.1 a k = gh.1 a k) ∧ TY z (zA z) gk H)) ([.ref h0, .int p1] : List Value).toArray s 0 0 (zA z)) (F0 m 0 ls [])
  have hT : TY z (zA z) gh s.heap := hW
  have hwf := pr0
  have hvis : vis z gh gh.1 := fun _ _ _ => rfl
  have mx_p1 := i_mx p1
  refine lv_iload_n hx hb dX7_dance_0 rfl (lv_at hl 1 rfl) ?_
  refine cl_Si (rest := []) hC hK hSK (c_X7_isFigure l z gh p1) k_X7_isFigure mw_5_77 ⟨rfl, rfl, Nat.le_of_ble_eq_true rfl, Nat.le_of_ble_eq_true rfl⟩ hT rfl hl.1 rfl (Nat.le_of_ble_eq_true rfl) dX7_dance_1 ⟨Nat.zero_le _, Nat.zero_le _⟩ hS (fun _ h => h) (fun _ _ h => h) (fun r1 H locs hpo hS => ?_)
  obtain ⟨hT, u1_0⟩ := hpo
  refine r_if_ne (tgt := 9) hx hb dX7_dance_4 (by decide) (fun c4 => ?_) (fun c4 => ?_)
  · refine lv_aload_n hx hb dX7_dance_9 rfl (lv_at hl 0 rfl) ?_
    refine gt_Model_men hx hb hts ic_Model hown hK hT g0 (hts _ mw_4_73) dX7_dance_10 (fun x10 i10 e10 g10 => ?_)
    refine r_if_ne (tgt := 19) hx hb dX7_dance_13 (by decide) (fun c13 => ?_) (fun c13 => ?_)
    · refine lv_aload_n hx hb dX7_dance_19 rfl (lv_at hl 0 rfl) ?_
      refine cl_Vv (rest := []) hC hK hSK (c_X7_starts l z gh h0 (o0) g0 hwf) k_X7_starts mw_4_229 ⟨rfl, rfl, Nat.le_of_ble_eq_true rfl, Nat.le_of_ble_eq_true rfl⟩ (rv_Model hK hT g0) hT rfl hl.1 rfl (Nat.le_of_ble_eq_true rfl) dX7_dance_20 ⟨Nat.zero_le _, Nat.zero_le _⟩ hS (fun _ h => h) (fun _ _ h => h) (fun H locs hpo hS => ?_)
      obtain ⟨gh20, hz20, hst20, hnow, hT⟩ := hpo
      have hwf := wf_ne hz20 hwf
      have hvis := vis_ne hz20 hvis
      have r41_20 := hz20 h0 41 (by decide) (by decide)
      refine lv_aload_n hx hb dX7_dance_23 rfl (lv_at hl 0 rfl) ?_
      refine lv_iload_n hx hb dX7_dance_24 rfl (lv_at hl 1 rfl) ?_
      refine cl_Vv (rest := []) hC hK hSK (c_X7_danceOn l z gh20 h0 (o0) g0 p1 hwf.2.2 hnow) k_X7_danceOn mw_5_88 ⟨rfl, rfl, Nat.le_of_ble_eq_true rfl, Nat.le_of_ble_eq_true rfl⟩ (rv_Model hK hT g0) hT rfl hl.1 rfl (Nat.le_of_ble_eq_true rfl) dX7_dance_25 ⟨Nat.zero_le _, Nat.zero_le _⟩ hS (fun _ h => h) (fun _ _ h => h) (fun H locs hpo hS => ?_)
      obtain ⟨gh25, hz25, hT⟩ := hpo
      have hst25 := hz25.2
      have hz25 := eqv_eq hz25.1
      have hwf := wf_of hz25 hwf
      have hvis := vis_of hz25 hvis
      have hnow := nowOK_of hz25 hnow
      have r41_25 := hz25 h0 41 rfl
      refine lv_aload_n hx hb dX7_dance_28 rfl (lv_at hl 0 rfl) ?_
      refine cl_Vv (rest := []) hC hK hSK (c_X7_settles l z gh25 h0 (o0) g0 hnow (hwf.2.1 h0 _ g0)) k_X7_settles mw_5_104 ⟨rfl, rfl, Nat.le_of_ble_eq_true rfl, Nat.le_of_ble_eq_true rfl⟩ (rv_Model hK hT g0) hT rfl hl.1 rfl (Nat.le_of_ble_eq_true rfl) dX7_dance_29 ⟨Nat.zero_le _, Nat.zero_le _⟩ hS (fun _ h => h) (fun _ _ h => h) (fun H locs hpo hS => ?_)
      obtain ⟨gh29, hz29, hT⟩ := hpo
      have hwf := wf_of hz29 hwf
      have hvis := vis_of hz29 hvis
      have hnow := nowOK_of hz29 hnow
      have r41_29 := hz29 h0 41 rfl
      refine lv_aload_n hx hb dX7_dance_32 rfl (lv_at hl 0 rfl) ?_
      refine cl_Vi (rest := []) hC hK hSK (c_X7_round l z gh29 h0 (o0) g0) k_X7_round mw_5_0 ⟨rfl, rfl, Nat.le_of_ble_eq_true rfl, Nat.le_of_ble_eq_true rfl⟩ (rv_Model hK hT g0) hT rfl hl.1 rfl (Nat.le_of_ble_eq_true rfl) dX7_dance_33 ⟨Nat.zero_le _, Nat.zero_le _⟩ hS (fun _ h => h) (fun _ _ h => h) (fun r33 H locs hpo hS => ?_)
      have hT := hpo
      refine cl_Si (rest := []) hC hK hSK (c_X7_bitsOf l z gh29 r33) k_X7_bitsOf mw_4_237 ⟨rfl, rfl, Nat.le_of_ble_eq_true rfl, Nat.le_of_ble_eq_true rfl⟩ hT rfl hl.1 rfl (Nat.le_of_ble_eq_true rfl) dX7_dance_36 ⟨Nat.zero_le _, Nat.zero_le _⟩ hS (fun _ h => h) (fun _ _ h => h) (fun r36 H locs hpo hS => ?_)
      have hT := hpo
      exact rt_i hx hb hr hlk hS ⟨_, hwf, fun a k h1 h2 h3 => (hz29 a k h3).trans ((hz25 a k h3).trans (hz20 a k h1 h2)), hT⟩ dX7_dance_39
    · refine r_bipush hx hb dX7_dance_16 rfl (fun x16 e16 => ?_)
      exact rt_i hx hb hr hlk hS ⟨_, hwf, fun _ _ _ _ _ => rfl, hT⟩ dX7_dance_18
  · refine r_iconst hx hb dX7_dance_7 (by decide) (by decide) (fun x7 e7 => ?_)
    exact rt_i hx hb hr hlk hS ⟨_, hwf, fun _ _ _ _ _ => rfl, hT⟩ dX7_dance_8
theorem k_X7_runs : cBV yX7_runs cX7_runs 5 (some .int) 1 := ⟨mw_5_109, mw_5_110, mw_1_8, mw_5_111, ⟨by decide, by decide, by decide⟩⟩
set_option maxHeartbeats 4000000 in
set_option maxRecDepth 100000 in
theorem c_X7_runs (l : Launch) (z : Zt) (v : Nat → Nat → Int) (h0 o0 : Nat) (g0 : zG z h0 = (17, o0)) (p1 : Int32) : Met l yX7_runs (uw yX7_runs cX7_runs 5 (some .int)) (rmF 8 222) (PcW z [.ref h0, .int p1] (fun H => WX z v H)) (QcI z (fun r H => WX z v H)) 0 0 (zA z) := by
  refine Met.ofW (cc := cX7_runs) (maxL := 5) (ret := (some .int)) (by decide) rfl ?_
  intro p e s m args below meth c s₁ B hml hv
  obtain ⟨rfl, hW, hK, hSK⟩ := hv
  have hx := B.exec
  have hb := B.bytes
  have hr := B.returns
  have hts : ∀ w ∈ lw_ok, w.before ([.ref h0, .int p1] : List Value).toArray s = true := fun w hw => atoms_spec (ws := uw yX7_runs cX7_runs 5 (some .int)) B.pre w (List.mem_cons_of_mem _ hw)
  have hown : s.vm.findClass RX7 = some m.cls := findClass_of_methodNamed B.named
  have hlk := B.notSynchronized
  have hC : CallFix p m c cX7_runs 5 s ([.ref h0, .int p1] : List Value).toArray lw_ok RX7 := ⟨hx, hb, hml, hown, hts⟩
  have hS : va_S (zA z) s.heap s.heap [] := va_S.rf
  have hl := lv_entry ([.ref h0, .int p1]) (n := 5) (Nat.le_of_ble_eq_true rfl)
  rw [lg_entry_eq]
  generalize (lg_sl ([.ref h0, .int p1]) ++ List.replicate (5 - (lg_sl ([.ref h0, .int p1])).length) Slot.unset).toArray = ls at hl ⊢
  have hl : lv_has ls 5 [(0, .ref h0), (1, .int p1)] := hl
  show W p l e (rmF 8 222) s m ([.ref h0, .int p1] : List Value).toArray below meth c s.heap [] 0 0 (MQ below (QcI z (fun r H => WX z v H)) ([.ref h0, .int p1] : List Value).toArray s 0 0 (zA z)) (F0 m 0 ls [])
  obtain ⟨gh, hwf, hvis, hT⟩ := hW
  have mx_p1 := i_mx p1
  refine lv_iload_n hx hb dX7_runs_0 rfl (lv_at hl 1 rfl) ?_
  refine r_i2l hx hb dX7_runs_1 (fun x1 e1 => ?_)
  refine r_lconst0 hx hb dX7_runs_2 (fun x2 e2 => ?_)
  refine r_ldc2 (4) rfl hx hb hts hown mw_5_112 dX7_runs_3 (fun x3 e3 => ?_)
  refine cl_Si (rest := []) hC hK hSK (c_X7_in l z gh x1 x2 x3) k_X7_in mw_4_154 ⟨rfl, rfl, Nat.le_of_ble_eq_true rfl, Nat.le_of_ble_eq_true rfl⟩ hT rfl hl.1 rfl (Nat.le_of_ble_eq_true rfl) dX7_runs_6 ⟨Nat.zero_le _, Nat.zero_le _⟩ hS (fun _ h => h) (fun _ _ h => h) (fun r6 H locs hpo hS => ?_)
  obtain ⟨hT, u6_0, u6_1⟩ := hpo
  refine r_if_ne (tgt := 14) hx hb dX7_runs_9 (by decide) (fun c9 => ?_) (fun c9 => ?_)
  · refine lv_aload_n hx hb dX7_runs_14 rfl (lv_at hl 0 rfl) ?_
    refine cl_Vv (rest := []) hC hK hSK (c_X7_starts l z gh h0 (o0) g0 hwf) k_X7_starts mw_4_229 ⟨rfl, rfl, Nat.le_of_ble_eq_true rfl, Nat.le_of_ble_eq_true rfl⟩ (rv_Model hK hT g0) hT rfl hl.1 rfl (Nat.le_of_ble_eq_true rfl) dX7_runs_15 ⟨Nat.zero_le _, Nat.zero_le _⟩ hS (fun _ h => h) (fun _ _ h => h) (fun H locs hpo hS => ?_)
    obtain ⟨gh15, hz15, hst15, hnow, hT⟩ := hpo
    have hwf := wf_ne hz15 hwf
    have hvis := vis_ne hz15 hvis
    have r41_15 := hz15 h0 41 (by decide) (by decide)
    refine r_iconst hx hb dX7_runs_18 (by decide) (by decide) (fun x18 e18 => ?_)
    refine lv_istore_n (lv' := [(2, .int x18), (0, .ref h0), (1, .int p1)]) hx hb dX7_runs_19 rfl hl (by decide) rfl (fun ls hl => ?_)
    refine r_bipush hx hb dX7_runs_20 rfl (fun x20 e20 => ?_)
    refine lv_istore_n (lv' := [(3, .int x20), (2, .int x18), (0, .ref h0), (1, .int p1)]) hx hb dX7_runs_22 rfl hl (by decide) rfl (fun ls hl => ?_)
    refine r_iconst hx hb dX7_runs_23 (by decide) (by decide) (fun x23 e23 => ?_)
    refine lv_istore (lv' := [(4, .int x23), (3, .int x20), (2, .int x18), (0, .ref h0), (1, .int p1)]) hx hb dX7_runs_24 hl (by decide) rfl (fun ls hl => ?_)
    have J26 : ∀ (n26 : Nat) (ls : Array Slot) (H : Heap) (locs : List Loc) (y26_2 : Int32) (y26_3 : Int32) (y26_4 : Int32) (gh : Gh), (-4 ≤ y26_3.toInt ∧ y26_3.toInt ≤ 8) → (0 ≤ y26_4.toInt ∧ y26_4.toInt ≤ 8) → (8 - y26_4.toInt) < (n26 : Int) → wf z gh → vis z gh v → nowOK (gh.1 h0) → TY z (zA z) gh H → va_S (zA z) s.heap H locs → lv_has ls 5 [(0, .ref h0), (1, .int p1), (2, .int y26_2), (3, .int y26_3), (4, .int y26_4)] → W p l e (rmF 8 222) s m ([.ref h0, .int p1] : List Value).toArray below meth c H locs 0 0 (MQ below (QcI z (fun r H => WX z v H)) ([.ref h0, .int p1] : List Value).toArray s 0 0 (zA z)) (F0 m 26 ls []) := by
      intro n26
      induction n26 with
      | zero => intro ls H locs y26_2 y26_3 y26_4 gh j26_y26_3 j26_y26_4 mm26 hwf hvis hnow hT hS hl; exfalso; omega
      | succ n26 ih26 =>
        intro ls H locs y26_2 y26_3 y26_4 gh j26_y26_3 j26_y26_4 mm26 hwf hvis hnow hT hS hl
        refine lv_iload hx hb dX7_runs_26 (lv_at hl 4 rfl) ?_
        refine lv_aload_n hx hb dX7_runs_28 rfl (lv_at hl 0 rfl) ?_
        refine gt_Model_now hx hb hts ic_Model hown hK hT g0 (hts _ mw_4_71) dX7_runs_29 (fun q29 hq29 => ?_)
        refine r_bipush hx hb dX7_runs_32 rfl (fun x32 e32 => ?_)
        refine al_41 hx hb hK hT hq29 (by omega) (by omega) dX7_runs_34 (fun x34 i34 e34 => ?_)
        have n34 := ix_nat (i := x32) (by omega)
        have f34 := b59_r31 (p41_e e34) (by omega)
        refine r_icmp_ge (tgt := 87) hx hb dX7_runs_35 (by decide) (fun c35 => ?_) (fun c35 => ?_)
        · refine lv_iload_n hx hb dX7_runs_87 rfl (lv_at hl 1 rfl) ?_
          rcases (show p1.toInt = 0 ∨ p1.toInt = 1 ∨ p1.toInt = 2 ∨ p1.toInt = 3 ∨ (p1.toInt < 0 ∨ 3 < p1.toInt) by omega) with c88 | c88 | c88 | c88 | c88
          · refine lv_tableIn (off := 32) (tgt := 120) hx hb dX7_runs_88 (by omega) (by omega) (by rw [c88]; rfl) (by decide) ?_
            refine lv_aload_n hx hb dX7_runs_120 rfl (lv_at hl 0 rfl) ?_
            refine cl_Vi (rest := []) hC hK hSK (c_X7_round l z gh h0 (o0) g0) k_X7_round mw_5_0 ⟨rfl, rfl, Nat.le_of_ble_eq_true rfl, Nat.le_of_ble_eq_true rfl⟩ (rv_Model hK hT g0) hT rfl hl.1 rfl (Nat.le_of_ble_eq_true rfl) dX7_runs_121 ⟨Nat.zero_le _, Nat.zero_le _⟩ hS (fun _ h => h) (fun _ _ h => h) (fun r121 H locs hpo hS => ?_)
            have hT := hpo
            refine cl_Si (rest := []) hC hK hSK (c_X7_bitsOf l z gh r121) k_X7_bitsOf mw_4_237 ⟨rfl, rfl, Nat.le_of_ble_eq_true rfl, Nat.le_of_ble_eq_true rfl⟩ hT rfl hl.1 rfl (Nat.le_of_ble_eq_true rfl) dX7_runs_124 ⟨Nat.zero_le _, Nat.zero_le _⟩ hS (fun _ h => h) (fun _ _ h => h) (fun r124 H locs hpo hS => ?_)
            have hT := hpo
            exact rt_i hx hb hr hlk hS ⟨_, hwf, hvis, hT⟩ dX7_runs_127
          · refine lv_tableIn (off := 40) (tgt := 128) hx hb dX7_runs_88 (by omega) (by omega) (by rw [c88]; rfl) (by decide) ?_
            refine lv_aload_n hx hb dX7_runs_128 rfl (lv_at hl 0 rfl) ?_
            refine cl_Vi (rest := []) hC hK hSK (c_X7_round l z gh h0 (o0) g0) k_X7_round mw_5_0 ⟨rfl, rfl, Nat.le_of_ble_eq_true rfl, Nat.le_of_ble_eq_true rfl⟩ (rv_Model hK hT g0) hT rfl hl.1 rfl (Nat.le_of_ble_eq_true rfl) dX7_runs_129 ⟨Nat.zero_le _, Nat.zero_le _⟩ hS (fun _ h => h) (fun _ _ h => h) (fun r129 H locs hpo hS => ?_)
            have hT := hpo
            exact rt_i hx hb hr hlk hS ⟨_, hwf, hvis, hT⟩ dX7_runs_132
          · refine lv_tableIn (off := 45) (tgt := 133) hx hb dX7_runs_88 (by omega) (by omega) (by rw [c88]; rfl) (by decide) ?_
            refine lv_iload_n hx hb dX7_runs_133 rfl (lv_at hl 2 rfl) ?_
            exact rt_i hx hb hr hlk hS ⟨_, hwf, hvis, hT⟩ dX7_runs_134
          · refine lv_tableIn (off := 47) (tgt := 135) hx hb dX7_runs_88 (by omega) (by omega) (by rw [c88]; rfl) (by decide) ?_
            refine lv_iload_n hx hb dX7_runs_135 rfl (lv_at hl 3 rfl) ?_
            exact rt_i hx hb hr hlk hS ⟨_, hwf, hvis, hT⟩ dX7_runs_136
          · refine lv_tableOut (tgt := 137) hx hb dX7_runs_88 c88 (by decide) ?_
            refine lv_aload_n hx hb dX7_runs_137 rfl (lv_at hl 0 rfl) ?_
            refine r_iconst hx hb dX7_runs_138 (by decide) (by decide) (fun x138 e138 => ?_)
            refine cl_Vi (rest := []) hC hK hSK (c_X7_allOf l z gh h0 (o0) g0 x138 (by omega) hwf.2.2) k_X7_allOf mw_5_117 ⟨rfl, rfl, Nat.le_of_ble_eq_true rfl, Nat.le_of_ble_eq_true rfl⟩ (rv_Model hK hT g0) hT rfl hl.1 rfl (Nat.le_of_ble_eq_true rfl) dX7_runs_139 ⟨Nat.zero_le _, Nat.zero_le _⟩ hS (fun _ h => h) (fun _ _ h => h) (fun r139 H locs hpo hS => ?_)
            have hT := hpo
            exact rt_i hx hb hr hlk hS ⟨_, hwf, hvis, hT⟩ dX7_runs_142
        · refine lv_aload_n hx hb dX7_runs_38 rfl (lv_at hl 0 rfl) ?_
          refine lv_aload_n hx hb dX7_runs_39 rfl (lv_at hl 0 rfl) ?_
          refine gt_Model_now hx hb hts ic_Model hown hK hT g0 (hts _ mw_4_71) dX7_runs_40 (fun q40 hq40 => ?_)
          refine r_bipush hx hb dX7_runs_43 rfl (fun x43 e43 => ?_)
          refine lv_iload hx hb dX7_runs_45 (lv_at hl 4 rfl) ?_
          refine r_iadd hx hb dX7_runs_47 (by omega) (by omega) (fun x47 e47 => ?_)
          refine al_41 hx hb hK hT hq40 (by omega) (by omega) dX7_runs_48 (fun x48 i48 e48 => ?_)
          have n48 := ix_nat (i := x47) (by omega)
          refine cl_Vv (rest := []) hC hK hSK (c_X7_danceOn l z gh h0 (o0) g0 x48 hwf.2.2 hnow) k_X7_danceOn mw_5_88 ⟨rfl, rfl, Nat.le_of_ble_eq_true rfl, Nat.le_of_ble_eq_true rfl⟩ (rv_Model hK hT g0) hT rfl hl.1 rfl (Nat.le_of_ble_eq_true rfl) dX7_runs_49 ⟨Nat.zero_le _, Nat.zero_le _⟩ hS (fun _ h => h) (fun _ _ h => h) (fun H locs hpo hS => ?_)
          obtain ⟨gh49, hz49, hT⟩ := hpo
          have hst49 := hz49.2
          have hz49 := eqv_eq hz49.1
          have hwf := wf_of hz49 hwf
          have hvis := vis_of hz49 hvis
          have hnow := nowOK_of hz49 hnow
          have r41_49 := hz49 h0 41 rfl
          refine lv_aload_n hx hb dX7_runs_52 rfl (lv_at hl 0 rfl) ?_
          refine cl_Vi (rest := []) hC hK hSK (c_X7_meetings l z gh49 h0 (o0) g0) k_X7_meetings mw_5_113 ⟨rfl, rfl, Nat.le_of_ble_eq_true rfl, Nat.le_of_ble_eq_true rfl⟩ (rv_Model hK hT g0) hT rfl hl.1 rfl (Nat.le_of_ble_eq_true rfl) dX7_runs_53 ⟨Nat.zero_le _, Nat.zero_le _⟩ hS (fun _ h => h) (fun _ _ h => h) (fun r53 H locs hpo hS => ?_)
          have hT := hpo
          have J73 : ∀ (ls : Array Slot) (H : Heap) (locs : List Loc) (t73_0 : Int32) (gh : Gh), (-4 ≤ t73_0.toInt ∧ t73_0.toInt ≤ 8) → (8 - y26_4.toInt) < ((n26 + 1 : Nat) : Int) → wf z gh → vis z gh v → nowOK (gh.1 h0) → TY z (zA z) gh H → va_S (zA z) s.heap H locs → lv_has ls 5 [(0, .ref h0), (1, .int p1), (2, .int y26_2), (3, .int y26_3), (4, .int y26_4)] → W p l e (rmF 8 222) s m ([.ref h0, .int p1] : List Value).toArray below meth c H locs 0 0 (MQ below (QcI z (fun r H => WX z v H)) ([.ref h0, .int p1] : List Value).toArray s 0 0 (zA z)) (F0 m 73 ls [.int t73_0]) := by
            intro ls H locs t73_0 gh j73_t73_0 mf73_26 hwf hvis hnow hT hS hl
            refine lv_istore_n (lv' := [(3, .int t73_0), (0, .ref h0), (1, .int p1), (2, .int y26_2), (4, .int y26_4)]) hx hb dX7_runs_73 rfl hl (by decide) rfl (fun ls hl => ?_)
            refine lv_iload_n hx hb dX7_runs_74 rfl (lv_at hl 3 rfl) ?_
            refine lv_aload_n hx hb dX7_runs_75 rfl (lv_at hl 1 rfl) ?_
            refine cl_Vi (rest := [.int y26_2]) hC hK hSK (c_X7_meetings l z gh h0 (o0) g0) k_X7_meetings mw_5_113 ⟨rfl, rfl, Nat.le_of_ble_eq_true rfl, Nat.le_of_ble_eq_true rfl⟩ (rv_Model hK hT g0) hT rfl hl.1 rfl (Nat.le_of_ble_eq_true rfl) dX7_runs_76 ⟨Nat.zero_le _, Nat.zero_le _⟩ hS (fun _ h => h) (fun _ _ h => h) (fun r76 H locs hpo hS => ?_)
            have hT := hpo
            refine w_iadd hx hb dX7_runs_79 (fun x79 => ?_)
            refine lv_istore_n (lv' := [(2, .int x79), (3, .int t73_0), (0, .ref h0), (1, .int p1), (4, .int y26_4)]) hx hb dX7_runs_80 rfl hl (by decide) rfl (fun ls hl => ?_)
            refine r_iinc (lv' := fun v__ => [(4, .int v__), (2, .int x79), (3, .int t73_0), (0, .ref h0), (1, .int p1)]) hx hb dX7_runs_81 hl (k := 4) rfl (by decide) (fun _ => rfl) ⟨by decide, by decide⟩ (by omega) (by omega) (fun x81 ls e81 hl => ?_)
            refine lv_goto (tgt := 26) hx hb dX7_runs_84 (by decide) ?_
            exact ih26 ls _ _ x79 t73_0 x81 _ (by omega) (by omega) (by omega) hwf hvis hnow hT hS (lv_sub hl [3, 4, 1, 2, 0] rfl)
          have J72 : ∀ (ls : Array Slot) (H : Heap) (locs : List Loc) (gh : Gh), (8 - y26_4.toInt) < ((n26 + 1 : Nat) : Int) → wf z gh → vis z gh v → nowOK (gh.1 h0) → TY z (zA z) gh H → va_S (zA z) s.heap H locs → lv_has ls 5 [(0, .ref h0), (1, .int p1), (2, .int y26_2), (3, .int y26_3), (4, .int y26_4)] → W p l e (rmF 8 222) s m ([.ref h0, .int p1] : List Value).toArray below meth c H locs 0 0 (MQ below (QcI z (fun r H => WX z v H)) ([.ref h0, .int p1] : List Value).toArray s 0 0 (zA z)) (F0 m 72 ls []) := by
            intro ls H locs gh mf72_26 hwf hvis hnow hT hS hl
            refine lv_iload_n hx hb dX7_runs_72 rfl (lv_at hl 3 rfl) ?_
            exact J73 ls _ _ y26_3 _ (by omega) (by omega) hwf hvis hnow hT hS (lv_sub hl [0, 1, 2, 3, 4] rfl)
          refine r_if_le (tgt := 72) hx hb dX7_runs_56 (by decide) (fun c56 => ?_) (fun c56 => ?_)
          · exact J72 ls _ _ _ (by omega) hwf hvis hnow hT hS (lv_sub hl [0, 1, 2, 3, 4] rfl)
          · refine lv_iload_n hx hb dX7_runs_59 rfl (lv_at hl 3 rfl) ?_
            refine r_bipush hx hb dX7_runs_60 rfl (fun x60 e60 => ?_)
            refine r_icmp_ne (tgt := 72) hx hb dX7_runs_62 (by decide) (fun c62 => ?_) (fun c62 => ?_)
            · exact J72 ls _ _ _ (by omega) hwf hvis hnow hT hS (lv_sub hl [0, 1, 2, 3, 4] rfl)
            · refine lv_iload hx hb dX7_runs_65 (lv_at hl 4 rfl) ?_
              refine r_iconst hx hb dX7_runs_67 (by decide) (by decide) (fun x67 e67 => ?_)
              refine r_iadd hx hb dX7_runs_68 (by omega) (by omega) (fun x68 e68 => ?_)
              refine lv_goto (tgt := 73) hx hb dX7_runs_69 (by decide) ?_
              exact J73 ls _ _ x68 _ (by omega) (by omega) hwf hvis hnow hT hS (lv_sub hl [0, 1, 2, 3, 4] rfl)
    exact J26 (((8 - x23.toInt)).toNat + 1) ls _ _ x18 x20 x23 _ (by omega) (by omega) (by omega) hwf hvis hnow hT hS (lv_sub hl [3, 4, 2, 1, 0] rfl)
  · refine r_iconst hx hb dX7_runs_12 (by decide) (by decide) (fun x12 e12 => ?_)
    exact rt_i hx hb hr hlk hS ⟨_, hwf, hvis, hT⟩ dX7_runs_13
theorem k_X7_ahead : cBV yX7_ahead cX7_ahead 4 (some .int) 2 := ⟨mw_5_122, mw_5_123, mw_1_8, mw_5_124, ⟨by decide, by decide, by decide⟩⟩
set_option maxHeartbeats 4000000 in
set_option maxRecDepth 100000 in
theorem c_X7_ahead (l : Launch) (z : Zt) (v : Nat → Nat → Int) (h0 o0 : Nat) (g0 : zG z h0 = (17, o0)) (p1 : Int32) (p2 : Int32) : Met l yX7_ahead (uw yX7_ahead cX7_ahead 4 (some .int)) (rmF 8 222) (PcW z [.ref h0, .int p1, .int p2] (fun H => WX z v H)) (QcI z (fun r H => WX z v H)) 0 0 (zA z) := by
  refine Met.ofW (cc := cX7_ahead) (maxL := 4) (ret := (some .int)) (by decide) rfl ?_
  intro p e s m args below meth c s₁ B hml hv
  obtain ⟨rfl, hW, hK, hSK⟩ := hv
  have hx := B.exec
  have hb := B.bytes
  have hr := B.returns
  have hts : ∀ w ∈ lw_ok, w.before ([.ref h0, .int p1, .int p2] : List Value).toArray s = true := fun w hw => atoms_spec (ws := uw yX7_ahead cX7_ahead 4 (some .int)) B.pre w (List.mem_cons_of_mem _ hw)
  have hown : s.vm.findClass RX7 = some m.cls := findClass_of_methodNamed B.named
  have hlk := B.notSynchronized
  have hC : CallFix p m c cX7_ahead 4 s ([.ref h0, .int p1, .int p2] : List Value).toArray lw_ok RX7 := ⟨hx, hb, hml, hown, hts⟩
  have hS : va_S (zA z) s.heap s.heap [] := va_S.rf
  have hl := lv_entry ([.ref h0, .int p1, .int p2]) (n := 4) (Nat.le_of_ble_eq_true rfl)
  rw [lg_entry_eq]
  generalize (lg_sl ([.ref h0, .int p1, .int p2]) ++ List.replicate (4 - (lg_sl ([.ref h0, .int p1, .int p2])).length) Slot.unset).toArray = ls at hl ⊢
  have hl : lv_has ls 4 [(0, .ref h0), (1, .int p1), (2, .int p2)] := hl
  show W p l e (rmF 8 222) s m ([.ref h0, .int p1, .int p2] : List Value).toArray below meth c s.heap [] 0 0 (MQ below (QcI z (fun r H => WX z v H)) ([.ref h0, .int p1, .int p2] : List Value).toArray s 0 0 (zA z)) (F0 m 0 ls [])
  obtain ⟨gh, hwf, hvis, hT⟩ := hW
  have mx_p1 := i_mx p1
  have mx_p2 := i_mx p2
  refine lv_aload_n hx hb dX7_ahead_0 rfl (lv_at hl 0 rfl) ?_
  refine lv_iload_n hx hb dX7_ahead_1 rfl (lv_at hl 1 rfl) ?_
  refine cl_Vi (rest := []) hC hK hSK (c_X7_isOne l z gh h0 (o0) g0 p1) k_X7_isOne mw_5_11 ⟨rfl, rfl, Nat.le_of_ble_eq_true rfl, Nat.le_of_ble_eq_true rfl⟩ (rv_Model hK hT g0) hT rfl hl.1 rfl (Nat.le_of_ble_eq_true rfl) dX7_ahead_2 ⟨Nat.zero_le _, Nat.zero_le _⟩ hS (fun _ h => h) (fun _ _ h => h) (fun r2 H locs hpo hS => ?_)
  obtain ⟨hT, u2_0, u2_1⟩ := hpo
  refine r_if_eq (tgt := 20) hx hb dX7_ahead_5 (by decide) (fun c5 => ?_) (fun c5 => ?_)
  · refine r_iconst hx hb dX7_ahead_20 (by decide) (by decide) (fun x20 e20 => ?_)
    exact rt_i hx hb hr hlk hS ⟨_, hwf, hvis, hT⟩ dX7_ahead_21
  · refine lv_iload_n hx hb dX7_ahead_8 rfl (lv_at hl 2 rfl) ?_
    refine r_i2l hx hb dX7_ahead_9 (fun x9 e9 => ?_)
    refine r_lconst0 hx hb dX7_ahead_10 (fun x10 e10 => ?_)
    refine r_ldc2 (8) rfl hx hb hts hown mw_5_125 dX7_ahead_11 (fun x11 e11 => ?_)
    refine cl_Si (rest := []) hC hK hSK (c_X7_in l z gh x9 x10 x11) k_X7_in mw_4_154 ⟨rfl, rfl, Nat.le_of_ble_eq_true rfl, Nat.le_of_ble_eq_true rfl⟩ hT rfl hl.1 rfl (Nat.le_of_ble_eq_true rfl) dX7_ahead_14 ⟨Nat.zero_le _, Nat.zero_le _⟩ hS (fun _ h => h) (fun _ _ h => h) (fun r14 H locs hpo hS => ?_)
    obtain ⟨hT, u14_0, u14_1⟩ := hpo
    refine r_if_ne (tgt := 22) hx hb dX7_ahead_17 (by decide) (fun c17 => ?_) (fun c17 => ?_)
    · refine lv_aload_n hx hb dX7_ahead_22 rfl (lv_at hl 0 rfl) ?_
      refine cl_Vv (rest := []) hC hK hSK (c_X7_starts l z gh h0 (o0) g0 hwf) k_X7_starts mw_4_229 ⟨rfl, rfl, Nat.le_of_ble_eq_true rfl, Nat.le_of_ble_eq_true rfl⟩ (rv_Model hK hT g0) hT rfl hl.1 rfl (Nat.le_of_ble_eq_true rfl) dX7_ahead_23 ⟨Nat.zero_le _, Nat.zero_le _⟩ hS (fun _ h => h) (fun _ _ h => h) (fun H locs hpo hS => ?_)
      obtain ⟨gh23, hz23, hst23, hnow, hT⟩ := hpo
      have hwf := wf_ne hz23 hwf
      have hvis := vis_ne hz23 hvis
      have r41_23 := hz23 h0 41 (by decide) (by decide)
      refine r_iconst hx hb dX7_ahead_26 (by decide) (by decide) (fun x26 e26 => ?_)
      refine lv_istore_n (lv' := [(3, .int x26), (0, .ref h0), (1, .int p1), (2, .int p2)]) hx hb dX7_ahead_27 rfl hl (by decide) rfl (fun ls hl => ?_)
      have J28 : ∀ (n28 : Nat) (ls : Array Slot) (H : Heap) (locs : List Loc) (y28_3 : Int32) (gh : Gh), (0 ≤ y28_3.toInt ∧ y28_3.toInt ≤ 8) → (8 - y28_3.toInt) < (n28 : Int) → wf z gh → vis z gh v → nowOK (gh.1 h0) → TY z (zA z) gh H → va_S (zA z) s.heap H locs → lv_has ls 4 [(0, .ref h0), (1, .int p1), (2, .int p2), (3, .int y28_3)] → W p l e (rmF 8 222) s m ([.ref h0, .int p1, .int p2] : List Value).toArray below meth c H locs 0 0 (MQ below (QcI z (fun r H => WX z v H)) ([.ref h0, .int p1, .int p2] : List Value).toArray s 0 0 (zA z)) (F0 m 28 ls []) := by
        intro n28
        induction n28 with
        | zero => intro ls H locs y28_3 gh j28_y28_3 mm28 hwf hvis hnow hT hS hl; exfalso; omega
        | succ n28 ih28 =>
          intro ls H locs y28_3 gh j28_y28_3 mm28 hwf hvis hnow hT hS hl
          refine lv_iload_n hx hb dX7_ahead_28 rfl (lv_at hl 3 rfl) ?_
          refine lv_aload_n hx hb dX7_ahead_29 rfl (lv_at hl 0 rfl) ?_
          refine gt_Model_now hx hb hts ic_Model hown hK hT g0 (hts _ mw_4_71) dX7_ahead_30 (fun q30 hq30 => ?_)
          refine r_bipush hx hb dX7_ahead_33 rfl (fun x33 e33 => ?_)
          refine al_41 hx hb hK hT hq30 (by omega) (by omega) dX7_ahead_35 (fun x35 i35 e35 => ?_)
          have n35 := ix_nat (i := x33) (by omega)
          have f35 := b59_r31 (p41_e e35) (by omega)
          have J63 : ∀ (ls : Array Slot) (H : Heap) (locs : List Loc) (gh : Gh), wf z gh → vis z gh v → nowOK (gh.1 h0) → TY z (zA z) gh H → va_S (zA z) s.heap H locs → lv_has ls 4 [(0, .ref h0), (1, .int p1), (2, .int p2), (3, .int y28_3)] → W p l e (rmF 8 222) s m ([.ref h0, .int p1, .int p2] : List Value).toArray below meth c H locs 0 0 (MQ below (QcI z (fun r H => WX z v H)) ([.ref h0, .int p1, .int p2] : List Value).toArray s 0 0 (zA z)) (F0 m 63 ls []) := by
            intro ls H locs gh hwf hvis hnow hT hS hl
            refine lv_aload_n hx hb dX7_ahead_63 rfl (lv_at hl 0 rfl) ?_
            refine gt_Model_now hx hb hts ic_Model hown hK hT g0 (hts _ mw_4_71) dX7_ahead_64 (fun q64 hq64 => ?_)
            refine r_bipush hx hb dX7_ahead_67 rfl (fun x67 e67 => ?_)
            refine lv_iload_n hx hb dX7_ahead_69 rfl (lv_at hl 1 rfl) ?_
            refine r_iadd hx hb dX7_ahead_70 (by omega) (by omega) (fun x70 e70 => ?_)
            refine al_41 hx hb hK hT hq64 (by omega) (by omega) dX7_ahead_71 (fun x71 i71 e71 => ?_)
            have n71 := ix_nat (i := x70) (by omega)
            have f71 := b59_r20 (p41_e e71) (by omega) (by omega)
            exact rt_i hx hb hr hlk hS ⟨_, hwf, hvis, hT⟩ dX7_ahead_72
          refine r_icmp_ge (tgt := 63) hx hb dX7_ahead_36 (by decide) (fun c36 => ?_) (fun c36 => ?_)
          · exact J63 ls _ _ _ hwf hvis hnow hT hS (lv_sub hl [0, 1, 2, 3] rfl)
          · refine lv_iload_n hx hb dX7_ahead_39 rfl (lv_at hl 3 rfl) ?_
            refine lv_iload_n hx hb dX7_ahead_40 rfl (lv_at hl 2 rfl) ?_
            refine r_icmp_ge (tgt := 63) hx hb dX7_ahead_41 (by decide) (fun c41 => ?_) (fun c41 => ?_)
            · exact J63 ls _ _ _ hwf hvis hnow hT hS (lv_sub hl [0, 1, 2, 3] rfl)
            · refine lv_aload_n hx hb dX7_ahead_44 rfl (lv_at hl 0 rfl) ?_
              refine lv_aload_n hx hb dX7_ahead_45 rfl (lv_at hl 0 rfl) ?_
              refine gt_Model_now hx hb hts ic_Model hown hK hT g0 (hts _ mw_4_71) dX7_ahead_46 (fun q46 hq46 => ?_)
              refine r_bipush hx hb dX7_ahead_49 rfl (fun x49 e49 => ?_)
              refine lv_iload_n hx hb dX7_ahead_51 rfl (lv_at hl 3 rfl) ?_
              refine r_iadd hx hb dX7_ahead_52 (by omega) (by omega) (fun x52 e52 => ?_)
              refine al_41 hx hb hK hT hq46 (by omega) (by omega) dX7_ahead_53 (fun x53 i53 e53 => ?_)
              have n53 := ix_nat (i := x52) (by omega)
              refine cl_Vv (rest := []) hC hK hSK (c_X7_danceOn l z gh h0 (o0) g0 x53 hwf.2.2 hnow) k_X7_danceOn mw_5_88 ⟨rfl, rfl, Nat.le_of_ble_eq_true rfl, Nat.le_of_ble_eq_true rfl⟩ (rv_Model hK hT g0) hT rfl hl.1 rfl (Nat.le_of_ble_eq_true rfl) dX7_ahead_54 ⟨Nat.zero_le _, Nat.zero_le _⟩ hS (fun _ h => h) (fun _ _ h => h) (fun H locs hpo hS => ?_)
              obtain ⟨gh54, hz54, hT⟩ := hpo
              have hst54 := hz54.2
              have hz54 := eqv_eq hz54.1
              have hwf := wf_of hz54 hwf
              have hvis := vis_of hz54 hvis
              have hnow := nowOK_of hz54 hnow
              have r41_54 := hz54 h0 41 rfl
              refine r_iinc (lv' := fun v__ => [(3, .int v__), (0, .ref h0), (1, .int p1), (2, .int p2)]) hx hb dX7_ahead_57 hl (k := 3) rfl (by decide) (fun _ => rfl) ⟨by decide, by decide⟩ (by omega) (by omega) (fun x57 ls e57 hl => ?_)
              refine lv_goto (tgt := 28) hx hb dX7_ahead_60 (by decide) ?_
              exact ih28 ls _ _ x57 _ (by omega) (by omega) hwf hvis hnow hT hS (lv_sub hl [1, 2, 3, 0] rfl)
      exact J28 (((8 - x26.toInt)).toNat + 1) ls _ _ x26 _ (by omega) (by omega) hwf hvis hnow hT hS (lv_sub hl [1, 2, 3, 0] rfl)
    · refine r_iconst hx hb dX7_ahead_20 (by decide) (by decide) (fun x20 e20 => ?_)
      exact rt_i hx hb hr hlk hS ⟨_, hwf, hvis, hT⟩ dX7_ahead_21
theorem k_X7_meets : cBV yX7_meets cX7_meets 4 (some .int) 2 := ⟨mw_5_127, mw_5_128, mw_1_8, mw_5_129, ⟨by decide, by decide, by decide⟩⟩
set_option maxHeartbeats 4000000 in
set_option maxRecDepth 100000 in
theorem c_X7_meets (l : Launch) (z : Zt) (v : Nat → Nat → Int) (h0 o0 : Nat) (g0 : zG z h0 = (17, o0)) (p1 : Int32) (p2 : Int32) : Met l yX7_meets (uw yX7_meets cX7_meets 4 (some .int)) (rmF 8 222) (PcW z [.ref h0, .int p1, .int p2] (fun H => WX z v H)) (QcI z (fun r H => WX z v H)) 0 0 (zA z) := by
  refine Met.ofW (cc := cX7_meets) (maxL := 4) (ret := (some .int)) (by decide) rfl ?_
  intro p e s m args below meth c s₁ B hml hv
  obtain ⟨rfl, hW, hK, hSK⟩ := hv
  have hx := B.exec
  have hb := B.bytes
  have hr := B.returns
  have hts : ∀ w ∈ lw_ok, w.before ([.ref h0, .int p1, .int p2] : List Value).toArray s = true := fun w hw => atoms_spec (ws := uw yX7_meets cX7_meets 4 (some .int)) B.pre w (List.mem_cons_of_mem _ hw)
  have hown : s.vm.findClass RX7 = some m.cls := findClass_of_methodNamed B.named
  have hlk := B.notSynchronized
  have hC : CallFix p m c cX7_meets 4 s ([.ref h0, .int p1, .int p2] : List Value).toArray lw_ok RX7 := ⟨hx, hb, hml, hown, hts⟩
  have hS : va_S (zA z) s.heap s.heap [] := va_S.rf
  have hl := lv_entry ([.ref h0, .int p1, .int p2]) (n := 4) (Nat.le_of_ble_eq_true rfl)
  rw [lg_entry_eq]
  generalize (lg_sl ([.ref h0, .int p1, .int p2]) ++ List.replicate (4 - (lg_sl ([.ref h0, .int p1, .int p2])).length) Slot.unset).toArray = ls at hl ⊢
  have hl : lv_has ls 4 [(0, .ref h0), (1, .int p1), (2, .int p2)] := hl
  show W p l e (rmF 8 222) s m ([.ref h0, .int p1, .int p2] : List Value).toArray below meth c s.heap [] 0 0 (MQ below (QcI z (fun r H => WX z v H)) ([.ref h0, .int p1, .int p2] : List Value).toArray s 0 0 (zA z)) (F0 m 0 ls [])
  obtain ⟨gh, hwf, hvis, hT⟩ := hW
  have mx_p1 := i_mx p1
  have mx_p2 := i_mx p2
  refine lv_aload_n hx hb dX7_meets_0 rfl (lv_at hl 0 rfl) ?_
  refine lv_iload_n hx hb dX7_meets_1 rfl (lv_at hl 1 rfl) ?_
  refine cl_Vi (rest := []) hC hK hSK (c_X7_isOne l z gh h0 (o0) g0 p1) k_X7_isOne mw_5_11 ⟨rfl, rfl, Nat.le_of_ble_eq_true rfl, Nat.le_of_ble_eq_true rfl⟩ (rv_Model hK hT g0) hT rfl hl.1 rfl (Nat.le_of_ble_eq_true rfl) dX7_meets_2 ⟨Nat.zero_le _, Nat.zero_le _⟩ hS (fun _ h => h) (fun _ _ h => h) (fun r2 H locs hpo hS => ?_)
  obtain ⟨hT, u2_0, u2_1⟩ := hpo
  refine r_if_eq (tgt := 16) hx hb dX7_meets_5 (by decide) (fun c5 => ?_) (fun c5 => ?_)
  · refine r_iconst hx hb dX7_meets_16 (by decide) (by decide) (fun x16 e16 => ?_)
    exact rt_i hx hb hr hlk hS ⟨_, hwf, hvis, hT⟩ dX7_meets_17
  · refine lv_aload_n hx hb dX7_meets_8 rfl (lv_at hl 0 rfl) ?_
    refine lv_iload_n hx hb dX7_meets_9 rfl (lv_at hl 2 rfl) ?_
    refine cl_Vi (rest := []) hC hK hSK (c_X7_isOne l z gh h0 (o0) g0 p2) k_X7_isOne mw_5_11 ⟨rfl, rfl, Nat.le_of_ble_eq_true rfl, Nat.le_of_ble_eq_true rfl⟩ (rv_Model hK hT g0) hT rfl hl.1 rfl (Nat.le_of_ble_eq_true rfl) dX7_meets_10 ⟨Nat.zero_le _, Nat.zero_le _⟩ hS (fun _ h => h) (fun _ _ h => h) (fun r10 H locs hpo hS => ?_)
    obtain ⟨hT, u10_0, u10_1⟩ := hpo
    refine r_if_ne (tgt := 18) hx hb dX7_meets_13 (by decide) (fun c13 => ?_) (fun c13 => ?_)
    · refine lv_aload_n hx hb dX7_meets_18 rfl (lv_at hl 0 rfl) ?_
      refine cl_Vv (rest := []) hC hK hSK (c_X7_starts l z gh h0 (o0) g0 hwf) k_X7_starts mw_4_229 ⟨rfl, rfl, Nat.le_of_ble_eq_true rfl, Nat.le_of_ble_eq_true rfl⟩ (rv_Model hK hT g0) hT rfl hl.1 rfl (Nat.le_of_ble_eq_true rfl) dX7_meets_19 ⟨Nat.zero_le _, Nat.zero_le _⟩ hS (fun _ h => h) (fun _ _ h => h) (fun H locs hpo hS => ?_)
      obtain ⟨gh19, hz19, hst19, hnow, hT⟩ := hpo
      have hwf := wf_ne hz19 hwf
      have hvis := vis_ne hz19 hvis
      have r41_19 := hz19 h0 41 (by decide) (by decide)
      refine r_iconst hx hb dX7_meets_22 (by decide) (by decide) (fun x22 e22 => ?_)
      refine lv_istore_n (lv' := [(3, .int x22), (0, .ref h0), (1, .int p1), (2, .int p2)]) hx hb dX7_meets_23 rfl hl (by decide) rfl (fun ls hl => ?_)
      have J24 : ∀ (n24 : Nat) (ls : Array Slot) (H : Heap) (locs : List Loc) (y24_3 : Int32) (gh : Gh), (0 ≤ y24_3.toInt ∧ y24_3.toInt ≤ 9) → (9 - y24_3.toInt) < (n24 : Int) → wf z gh → vis z gh v → nowOK (gh.1 h0) → TY z (zA z) gh H → va_S (zA z) s.heap H locs → lv_has ls 4 [(0, .ref h0), (1, .int p1), (2, .int p2), (3, .int y24_3)] → W p l e (rmF 8 222) s m ([.ref h0, .int p1, .int p2] : List Value).toArray below meth c H locs 0 0 (MQ below (QcI z (fun r H => WX z v H)) ([.ref h0, .int p1, .int p2] : List Value).toArray s 0 0 (zA z)) (F0 m 24 ls []) := by
        intro n24
        induction n24 with
        | zero => intro ls H locs y24_3 gh j24_y24_3 mm24 hwf hvis hnow hT hS hl; exfalso; omega
        | succ n24 ih24 =>
          intro ls H locs y24_3 gh j24_y24_3 mm24 hwf hvis hnow hT hS hl
          refine lv_iload_n hx hb dX7_meets_24 rfl (lv_at hl 3 rfl) ?_
          refine lv_aload_n hx hb dX7_meets_25 rfl (lv_at hl 0 rfl) ?_
          refine gt_Model_now hx hb hts ic_Model hown hK hT g0 (hts _ mw_4_71) dX7_meets_26 (fun q26 hq26 => ?_)
          refine r_bipush hx hb dX7_meets_29 rfl (fun x29 e29 => ?_)
          refine al_41 hx hb hK hT hq26 (by omega) (by omega) dX7_meets_31 (fun x31 i31 e31 => ?_)
          have n31 := ix_nat (i := x29) (by omega)
          have f31 := b59_r31 (p41_e e31) (by omega)
          refine r_icmp_gt (tgt := 80) hx hb dX7_meets_32 (by decide) (fun c32 => ?_) (fun c32 => ?_)
          · refine r_bipush hx hb dX7_meets_80 rfl (fun x80 e80 => ?_)
            exact rt_i hx hb hr hlk hS ⟨_, hwf, hvis, hT⟩ dX7_meets_82
          · refine lv_aload_n hx hb dX7_meets_35 rfl (lv_at hl 0 rfl) ?_
            refine gt_Model_now hx hb hts ic_Model hown hK hT g0 (hts _ mw_4_71) dX7_meets_36 (fun q36 hq36 => ?_)
            refine r_bipush hx hb dX7_meets_39 rfl (fun x39 e39 => ?_)
            refine lv_iload_n hx hb dX7_meets_41 rfl (lv_at hl 1 rfl) ?_
            refine r_iadd hx hb dX7_meets_42 (by omega) (by omega) (fun x42 e42 => ?_)
            refine al_41 hx hb hK hT hq36 (by omega) (by omega) dX7_meets_43 (fun x43 i43 e43 => ?_)
            have n43 := ix_nat (i := x42) (by omega)
            have f43 := b59_r20 (p41_e e43) (by omega) (by omega)
            refine lv_iload_n hx hb dX7_meets_44 rfl (lv_at hl 2 rfl) ?_
            refine r_icmp_ne (tgt := 50) hx hb dX7_meets_45 (by decide) (fun c45 => ?_) (fun c45 => ?_)
            · refine lv_iload_n hx hb dX7_meets_50 rfl (lv_at hl 3 rfl) ?_
              refine lv_aload_n hx hb dX7_meets_51 rfl (lv_at hl 0 rfl) ?_
              refine gt_Model_now hx hb hts ic_Model hown hK hT g0 (hts _ mw_4_71) dX7_meets_52 (fun q52 hq52 => ?_)
              refine r_bipush hx hb dX7_meets_55 rfl (fun x55 e55 => ?_)
              refine al_41 hx hb hK hT hq52 (by omega) (by omega) dX7_meets_57 (fun x57 i57 e57 => ?_)
              have n57 := ix_nat (i := x55) (by omega)
              have f57 := b59_r31 (p41_e e57) (by omega)
              have J74 : ∀ (ls : Array Slot) (H : Heap) (locs : List Loc) (gh : Gh), (9 - y24_3.toInt) < ((n24 + 1 : Nat) : Int) → wf z gh → vis z gh v → nowOK (gh.1 h0) → TY z (zA z) gh H → va_S (zA z) s.heap H locs → lv_has ls 4 [(0, .ref h0), (1, .int p1), (2, .int p2), (3, .int y24_3)] → W p l e (rmF 8 222) s m ([.ref h0, .int p1, .int p2] : List Value).toArray below meth c H locs 0 0 (MQ below (QcI z (fun r H => WX z v H)) ([.ref h0, .int p1, .int p2] : List Value).toArray s 0 0 (zA z)) (F0 m 74 ls []) := by
                intro ls H locs gh mf74_24 hwf hvis hnow hT hS hl
                refine r_iinc (lv' := fun v__ => [(3, .int v__), (0, .ref h0), (1, .int p1), (2, .int p2)]) hx hb dX7_meets_74 hl (k := 3) rfl (by decide) (fun _ => rfl) ⟨by decide, by decide⟩ (by omega) (by omega) (fun x74 ls e74 hl => ?_)
                refine lv_goto (tgt := 24) hx hb dX7_meets_77 (by decide) ?_
                exact ih24 ls _ _ x74 _ (by omega) (by omega) hwf hvis hnow hT hS (lv_sub hl [1, 2, 3, 0] rfl)
              refine r_icmp_ge (tgt := 74) hx hb dX7_meets_58 (by decide) (fun c58 => ?_) (fun c58 => ?_)
              · exact J74 ls _ _ _ (by omega) hwf hvis hnow hT hS (lv_sub hl [0, 1, 2, 3] rfl)
              · refine lv_aload_n hx hb dX7_meets_61 rfl (lv_at hl 0 rfl) ?_
                refine lv_aload_n hx hb dX7_meets_62 rfl (lv_at hl 0 rfl) ?_
                refine gt_Model_now hx hb hts ic_Model hown hK hT g0 (hts _ mw_4_71) dX7_meets_63 (fun q63 hq63 => ?_)
                refine r_bipush hx hb dX7_meets_66 rfl (fun x66 e66 => ?_)
                refine lv_iload_n hx hb dX7_meets_68 rfl (lv_at hl 3 rfl) ?_
                refine r_iadd hx hb dX7_meets_69 (by omega) (by omega) (fun x69 e69 => ?_)
                refine al_41 hx hb hK hT hq63 (by omega) (by omega) dX7_meets_70 (fun x70 i70 e70 => ?_)
                have n70 := ix_nat (i := x69) (by omega)
                refine cl_Vv (rest := []) hC hK hSK (c_X7_danceOn l z gh h0 (o0) g0 x70 hwf.2.2 hnow) k_X7_danceOn mw_5_88 ⟨rfl, rfl, Nat.le_of_ble_eq_true rfl, Nat.le_of_ble_eq_true rfl⟩ (rv_Model hK hT g0) hT rfl hl.1 rfl (Nat.le_of_ble_eq_true rfl) dX7_meets_71 ⟨Nat.zero_le _, Nat.zero_le _⟩ hS (fun _ h => h) (fun _ _ h => h) (fun H locs hpo hS => ?_)
                obtain ⟨gh71, hz71, hT⟩ := hpo
                have hst71 := hz71.2
                have hz71 := eqv_eq hz71.1
                have hwf := wf_of hz71 hwf
                have hvis := vis_of hz71 hvis
                have hnow := nowOK_of hz71 hnow
                have r41_71 := hz71 h0 41 rfl
                exact J74 ls _ _ _ (by omega) hwf hvis hnow hT hS (lv_sub hl [0, 1, 2, 3] rfl)
            · refine lv_iload_n hx hb dX7_meets_48 rfl (lv_at hl 3 rfl) ?_
              exact rt_i hx hb hr hlk hS ⟨_, hwf, hvis, hT⟩ dX7_meets_49
      exact J24 (((9 - x22.toInt)).toNat + 1) ls _ _ x22 _ (by omega) (by omega) hwf hvis hnow hT hS (lv_sub hl [1, 2, 3, 0] rfl)
    · refine r_iconst hx hb dX7_meets_16 (by decide) (by decide) (fun x16 e16 => ?_)
      exact rt_i hx hb hr hlk hS ⟨_, hwf, hvis, hT⟩ dX7_meets_17
theorem k_X7_never : cBV yX7_never cX7_never 4 (some .int) 1 := ⟨mw_5_131, mw_5_132, mw_1_8, mw_5_133, ⟨by decide, by decide, by decide⟩⟩
set_option maxHeartbeats 4000000 in
set_option maxRecDepth 100000 in
theorem c_X7_never (l : Launch) (z : Zt) (v : Nat → Nat → Int) (h0 o0 : Nat) (g0 : zG z h0 = (17, o0)) (p1 : Int32) : Met l yX7_never (uw yX7_never cX7_never 4 (some .int)) (rmF 8 222) (PcW z [.ref h0, .int p1] (fun H => WX z v H)) (QcI z (fun r H => WX z v H)) 0 0 (zA z) := by
  refine Met.ofW (cc := cX7_never) (maxL := 4) (ret := (some .int)) (by decide) rfl ?_
  intro p e s m args below meth c s₁ B hml hv
  obtain ⟨rfl, hW, hK, hSK⟩ := hv
  have hx := B.exec
  have hb := B.bytes
  have hr := B.returns
  have hts : ∀ w ∈ lw_ok, w.before ([.ref h0, .int p1] : List Value).toArray s = true := fun w hw => atoms_spec (ws := uw yX7_never cX7_never 4 (some .int)) B.pre w (List.mem_cons_of_mem _ hw)
  have hown : s.vm.findClass RX7 = some m.cls := findClass_of_methodNamed B.named
  have hlk := B.notSynchronized
  have hC : CallFix p m c cX7_never 4 s ([.ref h0, .int p1] : List Value).toArray lw_ok RX7 := ⟨hx, hb, hml, hown, hts⟩
  have hS : va_S (zA z) s.heap s.heap [] := va_S.rf
  have hl := lv_entry ([.ref h0, .int p1]) (n := 4) (Nat.le_of_ble_eq_true rfl)
  rw [lg_entry_eq]
  generalize (lg_sl ([.ref h0, .int p1]) ++ List.replicate (4 - (lg_sl ([.ref h0, .int p1])).length) Slot.unset).toArray = ls at hl ⊢
  have hl : lv_has ls 4 [(0, .ref h0), (1, .int p1)] := hl
  show W p l e (rmF 8 222) s m ([.ref h0, .int p1] : List Value).toArray below meth c s.heap [] 0 0 (MQ below (QcI z (fun r H => WX z v H)) ([.ref h0, .int p1] : List Value).toArray s 0 0 (zA z)) (F0 m 0 ls [])
  obtain ⟨gh, hwf, hvis, hT⟩ := hW
  have mx_p1 := i_mx p1
  refine lv_aload_n hx hb dX7_never_0 rfl (lv_at hl 0 rfl) ?_
  refine lv_iload_n hx hb dX7_never_1 rfl (lv_at hl 1 rfl) ?_
  refine cl_Vi (rest := []) hC hK hSK (c_X7_isOne l z gh h0 (o0) g0 p1) k_X7_isOne mw_5_11 ⟨rfl, rfl, Nat.le_of_ble_eq_true rfl, Nat.le_of_ble_eq_true rfl⟩ (rv_Model hK hT g0) hT rfl hl.1 rfl (Nat.le_of_ble_eq_true rfl) dX7_never_2 ⟨Nat.zero_le _, Nat.zero_le _⟩ hS (fun _ h => h) (fun _ _ h => h) (fun r2 H locs hpo hS => ?_)
  obtain ⟨hT, u2_0, u2_1⟩ := hpo
  refine r_if_ne (tgt := 10) hx hb dX7_never_5 (by decide) (fun c5 => ?_) (fun c5 => ?_)
  · refine lv_aload_n hx hb dX7_never_10 rfl (lv_at hl 0 rfl) ?_
    refine cl_Vv (rest := []) hC hK hSK (c_X7_starts l z gh h0 (o0) g0 hwf) k_X7_starts mw_4_229 ⟨rfl, rfl, Nat.le_of_ble_eq_true rfl, Nat.le_of_ble_eq_true rfl⟩ (rv_Model hK hT g0) hT rfl hl.1 rfl (Nat.le_of_ble_eq_true rfl) dX7_never_11 ⟨Nat.zero_le _, Nat.zero_le _⟩ hS (fun _ h => h) (fun _ _ h => h) (fun H locs hpo hS => ?_)
    obtain ⟨gh11, hz11, hst11, hnow, hT⟩ := hpo
    have hwf := wf_ne hz11 hwf
    have hvis := vis_ne hz11 hvis
    have r41_11 := hz11 h0 41 (by decide) (by decide)
    refine r_iconst hx hb dX7_never_14 (by decide) (by decide) (fun x14 e14 => ?_)
    refine lv_aload_n hx hb dX7_never_15 rfl (lv_at hl 0 rfl) ?_
    refine gt_Model_now hx hb hts ic_Model hown hK hT g0 (hts _ mw_4_71) dX7_never_16 (fun q16 hq16 => ?_)
    refine r_bipush hx hb dX7_never_19 rfl (fun x19 e19 => ?_)
    refine lv_iload_n hx hb dX7_never_21 rfl (lv_at hl 1 rfl) ?_
    refine r_iadd hx hb dX7_never_22 (by omega) (by omega) (fun x22 e22 => ?_)
    refine al_41 hx hb hK hT hq16 (by omega) (by omega) dX7_never_23 (fun x23 i23 e23 => ?_)
    have n23 := ix_nat (i := x22) (by omega)
    have f23 := b59_r20 (p41_e e23) (by omega) (by omega)
    refine r_shl1 hx hb dX7_never_24 (by omega) (by omega) (by omega) (fun x24 e24 g24 k24 => ?_)
    refine lv_istore_n (lv' := [(2, .int x24), (0, .ref h0), (1, .int p1)]) hx hb dX7_never_25 rfl hl (by decide) rfl (fun ls hl => ?_)
    refine r_iconst hx hb dX7_never_26 (by decide) (by decide) (fun x26 e26 => ?_)
    refine lv_istore_n (lv' := [(3, .int x26), (2, .int x24), (0, .ref h0), (1, .int p1)]) hx hb dX7_never_27 rfl hl (by decide) rfl (fun ls hl => ?_)
    have J28 : ∀ (n28 : Nat) (ls : Array Slot) (H : Heap) (locs : List Loc) (y28_2 : Int32) (y28_3 : Int32) (gh : Gh), (0 ≤ y28_3.toInt ∧ y28_3.toInt ≤ 8) → (8 - y28_3.toInt) < (n28 : Int) → wf z gh → vis z gh v → nowOK (gh.1 h0) → TY z (zA z) gh H → va_S (zA z) s.heap H locs → lv_has ls 4 [(0, .ref h0), (1, .int p1), (2, .int y28_2), (3, .int y28_3)] → W p l e (rmF 8 222) s m ([.ref h0, .int p1] : List Value).toArray below meth c H locs 0 0 (MQ below (QcI z (fun r H => WX z v H)) ([.ref h0, .int p1] : List Value).toArray s 0 0 (zA z)) (F0 m 28 ls []) := by
      intro n28
      induction n28 with
      | zero => intro ls H locs y28_2 y28_3 gh j28_y28_3 mm28 hwf hvis hnow hT hS hl; exfalso; omega
      | succ n28 ih28 =>
        intro ls H locs y28_2 y28_3 gh j28_y28_3 mm28 hwf hvis hnow hT hS hl
        refine lv_iload_n hx hb dX7_never_28 rfl (lv_at hl 3 rfl) ?_
        refine lv_aload_n hx hb dX7_never_29 rfl (lv_at hl 0 rfl) ?_
        refine gt_Model_now hx hb hts ic_Model hown hK hT g0 (hts _ mw_4_71) dX7_never_30 (fun q30 hq30 => ?_)
        refine r_bipush hx hb dX7_never_33 rfl (fun x33 e33 => ?_)
        refine al_41 hx hb hK hT hq30 (by omega) (by omega) dX7_never_35 (fun x35 i35 e35 => ?_)
        have n35 := ix_nat (i := x33) (by omega)
        have f35 := b59_r31 (p41_e e35) (by omega)
        refine r_icmp_ge (tgt := 72) hx hb dX7_never_36 (by decide) (fun c36 => ?_) (fun c36 => ?_)
        · refine r_iconst hx hb dX7_never_72 (by decide) (by decide) (fun x72 e72 => ?_)
          refine lv_aload_n hx hb dX7_never_73 rfl (lv_at hl 0 rfl) ?_
          refine gt_Model_men hx hb hts ic_Model hown hK hT g0 (hts _ mw_4_73) dX7_never_74 (fun x74 i74 e74 g74 => ?_)
          refine r_shl1 hx hb dX7_never_77 (by omega) (by omega) (by omega) (fun x77 e77 g77 k77 => ?_)
          refine r_iconst hx hb dX7_never_78 (by decide) (by decide) (fun x78 e78 => ?_)
          refine r_isub hx hb dX7_never_79 (by omega) (by omega) (fun x79 e79 => ?_)
          refine lv_iload_n hx hb dX7_never_80 rfl (lv_at hl 2 rfl) ?_
          refine r_iconst hx hb dX7_never_81 (by decide) (by decide) (fun x81 e81 => ?_)
          refine w_ixor hx hb dX7_never_82 (fun x82 => ?_)
          refine w_iand hx hb dX7_never_83 (fun x83 => ?_)
          exact rt_i hx hb hr hlk hS ⟨_, hwf, hvis, hT⟩ dX7_never_84
        · refine lv_aload_n hx hb dX7_never_39 rfl (lv_at hl 0 rfl) ?_
          refine lv_aload_n hx hb dX7_never_40 rfl (lv_at hl 0 rfl) ?_
          refine gt_Model_now hx hb hts ic_Model hown hK hT g0 (hts _ mw_4_71) dX7_never_41 (fun q41 hq41 => ?_)
          refine r_bipush hx hb dX7_never_44 rfl (fun x44 e44 => ?_)
          refine lv_iload_n hx hb dX7_never_46 rfl (lv_at hl 3 rfl) ?_
          refine r_iadd hx hb dX7_never_47 (by omega) (by omega) (fun x47 e47 => ?_)
          refine al_41 hx hb hK hT hq41 (by omega) (by omega) dX7_never_48 (fun x48 i48 e48 => ?_)
          have n48 := ix_nat (i := x47) (by omega)
          refine cl_Vv (rest := []) hC hK hSK (c_X7_danceOn l z gh h0 (o0) g0 x48 hwf.2.2 hnow) k_X7_danceOn mw_5_88 ⟨rfl, rfl, Nat.le_of_ble_eq_true rfl, Nat.le_of_ble_eq_true rfl⟩ (rv_Model hK hT g0) hT rfl hl.1 rfl (Nat.le_of_ble_eq_true rfl) dX7_never_49 ⟨Nat.zero_le _, Nat.zero_le _⟩ hS (fun _ h => h) (fun _ _ h => h) (fun H locs hpo hS => ?_)
          obtain ⟨gh49, hz49, hT⟩ := hpo
          have hst49 := hz49.2
          have hz49 := eqv_eq hz49.1
          have hwf := wf_of hz49 hwf
          have hvis := vis_of hz49 hvis
          have hnow := nowOK_of hz49 hnow
          have r41_49 := hz49 h0 41 rfl
          refine lv_iload_n hx hb dX7_never_52 rfl (lv_at hl 2 rfl) ?_
          refine r_iconst hx hb dX7_never_53 (by decide) (by decide) (fun x53 e53 => ?_)
          refine lv_aload_n hx hb dX7_never_54 rfl (lv_at hl 0 rfl) ?_
          refine gt_Model_now hx hb hts ic_Model hown hK hT g0 (hts _ mw_4_71) dX7_never_55 (fun q55 hq55 => ?_)
          refine r_bipush hx hb dX7_never_58 rfl (fun x58 e58 => ?_)
          refine lv_iload_n hx hb dX7_never_60 rfl (lv_at hl 1 rfl) ?_
          refine r_iadd hx hb dX7_never_61 (by omega) (by omega) (fun x61 e61 => ?_)
          refine al_41 hx hb hK hT hq55 (by omega) (by omega) dX7_never_62 (fun x62 i62 e62 => ?_)
          have n62 := ix_nat (i := x61) (by omega)
          have f62 := b59_r20 (p41_e e62) (by omega) (by omega)
          refine r_shl1 hx hb dX7_never_63 (by omega) (by omega) (by omega) (fun x63 e63 g63 k63 => ?_)
          refine w_ior hx hb dX7_never_64 (fun x64 => ?_)
          refine lv_istore_n (lv' := [(2, .int x64), (0, .ref h0), (1, .int p1), (3, .int y28_3)]) hx hb dX7_never_65 rfl hl (by decide) rfl (fun ls hl => ?_)
          refine r_iinc (lv' := fun v__ => [(3, .int v__), (2, .int x64), (0, .ref h0), (1, .int p1)]) hx hb dX7_never_66 hl (k := 3) rfl (by decide) (fun _ => rfl) ⟨by decide, by decide⟩ (by omega) (by omega) (fun x66 ls e66 hl => ?_)
          refine lv_goto (tgt := 28) hx hb dX7_never_69 (by decide) ?_
          exact ih28 ls _ _ x64 x66 _ (by omega) (by omega) hwf hvis hnow hT hS (lv_sub hl [2, 3, 1, 0] rfl)
    exact J28 (((8 - x26.toInt)).toNat + 1) ls _ _ x24 x26 _ (by omega) (by omega) hwf hvis hnow hT hS (lv_sub hl [2, 3, 1, 0] rfl)
  · refine r_iconst hx hb dX7_never_8 (by decide) (by decide) (fun x8 e8 => ?_)
    exact rt_i hx hb hr hlk hS ⟨_, hwf, hvis, hT⟩ dX7_never_9
theorem k_X7_period : cBV yX7_period cX7_period 5 (some .int) 1 := ⟨mw_5_135, mw_5_136, mw_1_8, mw_5_137, ⟨by decide, by decide, by decide⟩⟩
set_option maxHeartbeats 4000000 in
set_option maxRecDepth 100000 in
theorem c_X7_period (l : Launch) (z : Zt) (v : Nat → Nat → Int) (h0 o0 : Nat) (g0 : zG z h0 = (17, o0)) (p1 : Int32) : Met l yX7_period (uw yX7_period cX7_period 5 (some .int)) (rmF 7 198) (PcW z [.ref h0, .int p1] (fun H => WX z v H)) (QcI z (fun r H => WX z v H)) 0 0 (zA z) := by
  refine Met.ofW (cc := cX7_period) (maxL := 5) (ret := (some .int)) (by decide) rfl ?_
  intro p e s m args below meth c s₁ B hml hv
  obtain ⟨rfl, hW, hK, hSK⟩ := hv
  have hx := B.exec
  have hb := B.bytes
  have hr := B.returns
  have hts : ∀ w ∈ lw_ok, w.before ([.ref h0, .int p1] : List Value).toArray s = true := fun w hw => atoms_spec (ws := uw yX7_period cX7_period 5 (some .int)) B.pre w (List.mem_cons_of_mem _ hw)
  have hown : s.vm.findClass RX7 = some m.cls := findClass_of_methodNamed B.named
  have hlk := B.notSynchronized
  have hC : CallFix p m c cX7_period 5 s ([.ref h0, .int p1] : List Value).toArray lw_ok RX7 := ⟨hx, hb, hml, hown, hts⟩
  have hS : va_S (zA z) s.heap s.heap [] := va_S.rf
  have hl := lv_entry ([.ref h0, .int p1]) (n := 5) (Nat.le_of_ble_eq_true rfl)
  rw [lg_entry_eq]
  generalize (lg_sl ([.ref h0, .int p1]) ++ List.replicate (5 - (lg_sl ([.ref h0, .int p1])).length) Slot.unset).toArray = ls at hl ⊢
  have hl : lv_has ls 5 [(0, .ref h0), (1, .int p1)] := hl
  show W p l e (rmF 7 198) s m ([.ref h0, .int p1] : List Value).toArray below meth c s.heap [] 0 0 (MQ below (QcI z (fun r H => WX z v H)) ([.ref h0, .int p1] : List Value).toArray s 0 0 (zA z)) (F0 m 0 ls [])
  obtain ⟨gh, hwf, hvis, hT⟩ := hW
  have mx_p1 := i_mx p1
  refine lv_iload_n hx hb dX7_period_0 rfl (lv_at hl 1 rfl) ?_
  refine cl_Si (rest := []) hC hK hSK (c_X7_isFigure l z gh p1) k_X7_isFigure mw_5_77 ⟨rfl, rfl, Nat.le_of_ble_eq_true rfl, Nat.le_of_ble_eq_true rfl⟩ hT rfl hl.1 rfl (Nat.le_of_ble_eq_true rfl) dX7_period_1 ⟨Nat.zero_le _, Nat.zero_le _⟩ hS (fun _ h => h) (fun _ _ h => h) (fun r1 H locs hpo hS => ?_)
  obtain ⟨hT, u1_0⟩ := hpo
  refine r_if_ne (tgt := 9) hx hb dX7_period_4 (by decide) (fun c4 => ?_) (fun c4 => ?_)
  · refine lv_aload_n hx hb dX7_period_9 rfl (lv_at hl 0 rfl) ?_
    refine cl_Vv (rest := []) hC hK hSK (c_X7_starts l z gh h0 (o0) g0 hwf) k_X7_starts mw_4_229 ⟨rfl, rfl, Nat.le_of_ble_eq_true rfl, Nat.le_of_ble_eq_true rfl⟩ (rv_Model hK hT g0) hT rfl hl.1 rfl (Nat.le_of_ble_eq_true rfl) dX7_period_10 ⟨Nat.zero_le _, Nat.zero_le _⟩ hS (fun _ h => h) (fun _ _ h => h) (fun H locs hpo hS => ?_)
    obtain ⟨gh10, hz10, hst10, hnow, hT⟩ := hpo
    have hwf := wf_ne hz10 hwf
    have hvis := vis_ne hz10 hvis
    have r41_10 := hz10 h0 41 (by decide) (by decide)
    refine r_iconst hx hb dX7_period_13 (by decide) (by decide) (fun x13 e13 => ?_)
    refine lv_istore_n (lv' := [(2, .int x13), (0, .ref h0), (1, .int p1)]) hx hb dX7_period_14 rfl hl (by decide) rfl (fun ls hl => ?_)
    have J15 : ∀ (n15 : Nat) (ls : Array Slot) (H : Heap) (locs : List Loc) (y15_2 : Int32) (gh : Gh), (1 ≤ y15_2.toInt ∧ y15_2.toInt ≤ 61) → (61 - y15_2.toInt) < (n15 : Int) → wf z gh → vis z gh v → nowOK (gh.1 h0) → TY z (zA z) gh H → va_S (zA z) s.heap H locs → lv_has ls 5 [(0, .ref h0), (1, .int p1), (2, .int y15_2)] → W p l e (rmF 7 198) s m ([.ref h0, .int p1] : List Value).toArray below meth c H locs 0 0 (MQ below (QcI z (fun r H => WX z v H)) ([.ref h0, .int p1] : List Value).toArray s 0 0 (zA z)) (F0 m 15 ls []) := by
      intro n15
      induction n15 with
      | zero => intro ls H locs y15_2 gh j15_y15_2 mm15 hwf hvis hnow hT hS hl; exfalso; omega
      | succ n15 ih15 =>
        intro ls H locs y15_2 gh j15_y15_2 mm15 hwf hvis hnow hT hS hl
        refine lv_iload_n hx hb dX7_period_15 rfl (lv_at hl 2 rfl) ?_
        refine r_bipush hx hb dX7_period_16 rfl (fun x16 e16 => ?_)
        refine r_icmp_gt (tgt := 98) hx hb dX7_period_18 (by decide) (fun c18 => ?_) (fun c18 => ?_)
        · refine r_bipush hx hb dX7_period_98 rfl (fun x98 e98 => ?_)
          exact rt_i hx hb hr hlk hS ⟨_, hwf, hvis, hT⟩ dX7_period_100
        · refine lv_aload_n hx hb dX7_period_21 rfl (lv_at hl 0 rfl) ?_
          refine gt_Model_men hx hb hts ic_Model hown hK hT g0 (hts _ mw_4_73) dX7_period_22 (fun x22 i22 e22 g22 => ?_)
          refine r_if_le (tgt := 98) hx hb dX7_period_25 (by decide) (fun c25 => ?_) (fun c25 => ?_)
          · refine r_bipush hx hb dX7_period_98 rfl (fun x98 e98 => ?_)
            exact rt_i hx hb hr hlk hS ⟨_, hwf, hvis, hT⟩ dX7_period_100
          · refine lv_aload_n hx hb dX7_period_28 rfl (lv_at hl 0 rfl) ?_
            refine lv_iload_n hx hb dX7_period_29 rfl (lv_at hl 1 rfl) ?_
            refine cl_Vv (rest := []) hC hK hSK (c_X7_changes l z gh h0 (o0) g0 p1 hwf.2.2 hnow) k_X7_changes mw_5_92 ⟨rfl, rfl, Nat.le_of_ble_eq_true rfl, Nat.le_of_ble_eq_true rfl⟩ (rv_Model hK hT g0) hT rfl hl.1 rfl (Nat.le_of_ble_eq_true rfl) dX7_period_30 ⟨Nat.zero_le _, Nat.zero_le _⟩ hS (fun _ h => h) (fun _ _ h => h) (fun H locs hpo hS => ?_)
            obtain ⟨gh30, hz30, hT⟩ := hpo
            have hst30 := hz30.2
            have hz30 := eqv_eq hz30.1
            have hwf := wf_of hz30 hwf
            have hvis := vis_of hz30 hvis
            have hnow := nowOK_of hz30 hnow
            have r41_30 := hz30 h0 41 rfl
            refine r_iconst hx hb dX7_period_33 (by decide) (by decide) (fun x33 e33 => ?_)
            refine lv_istore_n (lv' := [(3, .int x33), (0, .ref h0), (1, .int p1), (2, .int y15_2)]) hx hb dX7_period_34 rfl hl (by decide) rfl (fun ls hl => ?_)
            refine r_iconst hx hb dX7_period_35 (by decide) (by decide) (fun x35 e35 => ?_)
            refine lv_istore (lv' := [(4, .int x35), (3, .int x33), (0, .ref h0), (1, .int p1), (2, .int y15_2)]) hx hb dX7_period_36 hl (by decide) rfl (fun ls hl => ?_)
            have J38 : ∀ (n38 : Nat) (ls : Array Slot) (H : Heap) (locs : List Loc) (y38_3 : Int32) (y38_4 : Int32) (gh : Gh), (0 ≤ y38_3.toInt ∧ y38_3.toInt ≤ 1) → (0 ≤ y38_4.toInt ∧ y38_4.toInt ≤ 5) → (61 - y15_2.toInt) < ((n15 + 1 : Nat) : Int) → (5 - y38_4.toInt) < (n38 : Int) → wf z gh → vis z gh v → nowOK (gh.1 h0) → TY z (zA z) gh H → va_S (zA z) s.heap H locs → lv_has ls 5 [(0, .ref h0), (1, .int p1), (2, .int y15_2), (3, .int y38_3), (4, .int y38_4)] → W p l e (rmF 7 198) s m ([.ref h0, .int p1] : List Value).toArray below meth c H locs 0 0 (MQ below (QcI z (fun r H => WX z v H)) ([.ref h0, .int p1] : List Value).toArray s 0 0 (zA z)) (F0 m 38 ls []) := by
              intro n38
              induction n38 with
              | zero => intro ls H locs y38_3 y38_4 gh j38_y38_3 j38_y38_4 mf38_15 mm38 hwf hvis hnow hT hS hl; exfalso; omega
              | succ n38 ih38 =>
                intro ls H locs y38_3 y38_4 gh j38_y38_3 j38_y38_4 mf38_15 mm38 hwf hvis hnow hT hS hl
                refine lv_iload hx hb dX7_period_38 (lv_at hl 4 rfl) ?_
                refine lv_aload_n hx hb dX7_period_40 rfl (lv_at hl 0 rfl) ?_
                refine gt_Model_men hx hb hts ic_Model hown hK hT g0 (hts _ mw_4_73) dX7_period_41 (fun x41 i41 e41 g41 => ?_)
                refine r_icmp_ge (tgt := 86) hx hb dX7_period_44 (by decide) (fun c44 => ?_) (fun c44 => ?_)
                · refine lv_iload_n hx hb dX7_period_86 rfl (lv_at hl 3 rfl) ?_
                  refine r_if_eq (tgt := 92) hx hb dX7_period_87 (by decide) (fun c87 => ?_) (fun c87 => ?_)
                  · refine r_iinc (lv' := fun v__ => [(2, .int v__), (0, .ref h0), (1, .int p1), (3, .int y38_3), (4, .int y38_4)]) hx hb dX7_period_92 hl (k := 2) rfl (by decide) (fun _ => rfl) ⟨by decide, by decide⟩ (by omega) (by omega) (fun x92 ls e92 hl => ?_)
                    refine lv_goto (tgt := 15) hx hb dX7_period_95 (by decide) ?_
                    exact ih15 ls _ _ x92 _ (by omega) (by omega) hwf hvis hnow hT hS (lv_sub hl [1, 2, 0] rfl)
                  · refine lv_iload_n hx hb dX7_period_90 rfl (lv_at hl 2 rfl) ?_
                    exact rt_i hx hb hr hlk hS ⟨_, hwf, hvis, hT⟩ dX7_period_91
                · refine lv_iload_n hx hb dX7_period_47 rfl (lv_at hl 3 rfl) ?_
                  have J79 : ∀ (ls : Array Slot) (H : Heap) (locs : List Loc) (t79_0 : Int32) (gh : Gh), (0 ≤ t79_0.toInt ∧ t79_0.toInt ≤ 1) → (61 - y15_2.toInt) < ((n15 + 1 : Nat) : Int) → (5 - y38_4.toInt) < ((n38 + 1 : Nat) : Int) → wf z gh → vis z gh v → nowOK (gh.1 h0) → TY z (zA z) gh H → va_S (zA z) s.heap H locs → lv_has ls 5 [(0, .ref h0), (1, .int p1), (2, .int y15_2), (3, .int y38_3), (4, .int y38_4)] → W p l e (rmF 7 198) s m ([.ref h0, .int p1] : List Value).toArray below meth c H locs 0 0 (MQ below (QcI z (fun r H => WX z v H)) ([.ref h0, .int p1] : List Value).toArray s 0 0 (zA z)) (F0 m 79 ls [.int t79_0]) := by
                    intro ls H locs t79_0 gh j79_t79_0 mf79_15 mf79_38 hwf hvis hnow hT hS hl
                    refine lv_istore_n (lv' := [(3, .int t79_0), (0, .ref h0), (1, .int p1), (2, .int y15_2), (4, .int y38_4)]) hx hb dX7_period_79 rfl hl (by decide) rfl (fun ls hl => ?_)
                    refine r_iinc (lv' := fun v__ => [(4, .int v__), (3, .int t79_0), (0, .ref h0), (1, .int p1), (2, .int y15_2)]) hx hb dX7_period_80 hl (k := 4) rfl (by decide) (fun _ => rfl) ⟨by decide, by decide⟩ (by omega) (by omega) (fun x80 ls e80 hl => ?_)
                    refine lv_goto (tgt := 38) hx hb dX7_period_83 (by decide) ?_
                    exact ih38 ls _ _ t79_0 x80 _ (by omega) (by omega) (by omega) (by omega) hwf hvis hnow hT hS (lv_sub hl [2, 3, 4, 1, 0] rfl)
                  have J78 : ∀ (ls : Array Slot) (H : Heap) (locs : List Loc) (gh : Gh), (61 - y15_2.toInt) < ((n15 + 1 : Nat) : Int) → (5 - y38_4.toInt) < ((n38 + 1 : Nat) : Int) → wf z gh → vis z gh v → nowOK (gh.1 h0) → TY z (zA z) gh H → va_S (zA z) s.heap H locs → lv_has ls 5 [(0, .ref h0), (1, .int p1), (2, .int y15_2), (3, .int y38_3), (4, .int y38_4)] → W p l e (rmF 7 198) s m ([.ref h0, .int p1] : List Value).toArray below meth c H locs 0 0 (MQ below (QcI z (fun r H => WX z v H)) ([.ref h0, .int p1] : List Value).toArray s 0 0 (zA z)) (F0 m 78 ls []) := by
                    intro ls H locs gh mf78_15 mf78_38 hwf hvis hnow hT hS hl
                    refine r_iconst hx hb dX7_period_78 (by decide) (by decide) (fun x78 e78 => ?_)
                    exact J79 ls _ _ x78 _ (by omega) (by omega) (by omega) hwf hvis hnow hT hS (lv_sub hl [0, 1, 2, 3, 4] rfl)
                  refine r_if_eq (tgt := 78) hx hb dX7_period_48 (by decide) (fun c48 => ?_) (fun c48 => ?_)
                  · exact J78 ls _ _ _ (by omega) (by omega) hwf hvis hnow hT hS (lv_sub hl [0, 1, 2, 3, 4] rfl)
                  · refine lv_aload_n hx hb dX7_period_51 rfl (lv_at hl 0 rfl) ?_
                    refine gt_Model_now hx hb hts ic_Model hown hK hT g0 (hts _ mw_4_71) dX7_period_52 (fun q52 hq52 => ?_)
                    refine r_bipush hx hb dX7_period_55 rfl (fun x55 e55 => ?_)
                    refine lv_iload hx hb dX7_period_57 (lv_at hl 4 rfl) ?_
                    refine r_iadd hx hb dX7_period_59 (by omega) (by omega) (fun x59 e59 => ?_)
                    refine al_41 hx hb hK hT hq52 (by omega) (by omega) dX7_period_60 (fun x60 i60 e60 => ?_)
                    have n60 := ix_nat (i := x59) (by omega)
                    have f60 := b59_r20 (p41_e e60) (by omega) (by omega)
                    refine lv_aload_n hx hb dX7_period_61 rfl (lv_at hl 0 rfl) ?_
                    refine gt_Model_st hx hb hts ic_Model hown hK hT g0 (hts _ mw_4_70) dX7_period_62 (fun q62 hq62 => ?_)
                    refine r_bipush hx hb dX7_period_65 rfl (fun x65 e65 => ?_)
                    refine lv_iload hx hb dX7_period_67 (lv_at hl 4 rfl) ?_
                    refine r_iadd hx hb dX7_period_69 (by omega) (by omega) (fun x69 e69 => ?_)
                    refine al_40 hx hb hK hT hq62 (by omega) (by omega) dX7_period_70 (fun x70 i70 e70 => ?_)
                    have n70 := ix_nat (i := x69) (by omega)
                    have f70 := b59_r20 (p40_e e70 (by omega)) (by omega) (by omega)
                    refine r_icmp_ne (tgt := 78) hx hb dX7_period_71 (by decide) (fun c71 => ?_) (fun c71 => ?_)
                    · exact J78 ls _ _ _ (by omega) (by omega) hwf hvis hnow hT hS (lv_sub hl [0, 1, 2, 3, 4] rfl)
                    · refine r_iconst hx hb dX7_period_74 (by decide) (by decide) (fun x74 e74 => ?_)
                      refine lv_goto (tgt := 79) hx hb dX7_period_75 (by decide) ?_
                      exact J79 ls _ _ x74 _ (by omega) (by omega) (by omega) hwf hvis hnow hT hS (lv_sub hl [0, 1, 2, 3, 4] rfl)
            exact J38 (((5 - x35.toInt)).toNat + 1) ls _ _ x33 x35 _ (by omega) (by omega) (by omega) (by omega) hwf hvis hnow hT hS (lv_sub hl [2, 3, 4, 1, 0] rfl)
    exact J15 (((61 - x13.toInt)).toNat + 1) ls _ _ x13 _ (by omega) (by omega) hwf hvis hnow hT hS (lv_sub hl [1, 2, 0] rfl)
  · refine r_iconst hx hb dX7_period_7 (by decide) (by decide) (fun x7 e7 => ?_)
    exact rt_i hx hb hr hlk hS ⟨_, hwf, hvis, hT⟩ dX7_period_8
