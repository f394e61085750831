theorem k_X6_feed : cBV yX6_feed cX6_feed 2 (some .int) 1 := ⟨mw_2_36, mw_2_37, mw_1_1, mw_2_38, ⟨by decide, by decide, by decide⟩⟩
set_option maxHeartbeats 4000000 in
set_option maxRecDepth 100000 in
theorem c_X6_feed (l : Launch) (z : Zt) (v : Nat → Nat → Int) (tl : Int) (h0 o0 : Nat) (g0 : zG z h0 = (16, o0)) (p1 : Int32) (pr0 : ∀ q, zG z q = (14, h0) → v q 30 = tl) : Met l yX6_feed (uw yX6_feed cX6_feed 2 (some .int)) (rmF 1 64) (PcW z [.ref h0, .int p1] (fun H => WX z v H)) (QcI z (fun r H => ∃ t2 : Int, ftr tl p1.toInt r.toInt t2 ∧ WX z (vT z v h0 t2) H)) 0 0 (zA z) := by
  refine Met.ofW (cc := cX6_feed) (maxL := 2) (ret := (some .int)) (by decide) rfl ?_
  intro p e s m args below meth c s₁ B hml hv
  obtain ⟨rfl, hW, hK, hSK⟩ := hv
  have hx := B.exec
  have hb := B.bytes
  have hr := B.returns
  have hts : ∀ w ∈ lw_ok, w.before ([.ref h0, .int p1] : List Value).toArray s = true := fun w hw => atoms_spec (ws := uw yX6_feed cX6_feed 2 (some .int)) B.pre w (List.mem_cons_of_mem _ hw)
  have hown : s.vm.findClass RX6 = some m.cls := findClass_of_methodNamed B.named
  have hlk := B.notSynchronized
  have hC : CallFix p m c cX6_feed 2 s ([.ref h0, .int p1] : List Value).toArray lw_ok RX6 := ⟨hx, hb, hml, hown, hts⟩
  have hS : va_S (zA z) s.heap s.heap [] := va_S.rf
  have hl := lv_entry ([.ref h0, .int p1]) (n := 2) (Nat.le_of_ble_eq_true rfl)
  rw [lg_entry_eq]
  generalize (lg_sl ([.ref h0, .int p1]) ++ List.replicate (2 - (lg_sl ([.ref h0, .int p1])).length) Slot.unset).toArray = ls at hl ⊢
  have hl : lv_has ls 2 [(0, .ref h0), (1, .int p1)] := hl
  show W p l e (rmF 1 64) s m ([.ref h0, .int p1] : List Value).toArray below meth c s.heap [] 0 0 (MQ below (QcI z (fun r H => ∃ t2 : Int, ftr tl p1.toInt r.toInt t2 ∧ WX z (vT z v h0 t2) H)) ([.ref h0, .int p1] : List Value).toArray s 0 0 (zA z)) (F0 m 0 ls [])
  obtain ⟨gh, hwf, hvis, hT⟩ := hW
  have mx_p1 := i_mx p1
  refine lv_iload_n hx hb dX6_feed_0 rfl (lv_at hl 1 rfl) ?_
  refine r_if_lt (tgt := 10) hx hb dX6_feed_1 (by decide) (fun c1 => ?_) (fun c1 => ?_)
  · refine r_iconst hx hb dX6_feed_10 (by decide) (by decide) (fun x10 e10 => ?_)
    exact rt_i hx hb hr hlk hS ⟨tl, by unfold ftr; omega, _, hwf, vis_t0 hvis pr0, hT⟩ dX6_feed_11
  · refine lv_iload_n hx hb dX6_feed_4 rfl (lv_at hl 1 rfl) ?_
    refine r_bipush hx hb dX6_feed_5 rfl (fun x5 e5 => ?_)
    refine r_icmp_le (tgt := 12) hx hb dX6_feed_7 (by decide) (fun c7 => ?_) (fun c7 => ?_)
    · refine lv_aload_n hx hb dX6_feed_12 rfl (lv_at hl 0 rfl) ?_
      refine gt_HeelDance_tape hx hb hts ic_HeelDance hown hK hT g0 (hts _ mw_2_7) dX6_feed_13 (fun q13 hq13 => ?_)
      refine gt_Tape_length hx hb hts ic_Tape hown hK hT hq13 (hts _ mw_1_133) dX6_feed_16 (fun x16 i16 e16 g16 => ?_)
      have tl16 := (hvis q13 30 (by rw [hq13]; rfl)).trans (pr0 q13 hq13)
      refine r_sipush hx hb dX6_feed_19 rfl (fun x19 e19 => ?_)
      refine r_icmp_lt (tgt := 28) hx hb dX6_feed_22 (by decide) (fun c22 => ?_) (fun c22 => ?_)
      · refine lv_aload_n hx hb dX6_feed_28 rfl (lv_at hl 0 rfl) ?_
        refine gt_HeelDance_tape hx hb hts ic_HeelDance hown hK hT g0 (hts _ mw_2_7) dX6_feed_29 (fun q29 hq29 => ?_)
        refine gt_Tape_bytes hx hb hts ic_Tape hown hK hT hq29 (hts _ mw_1_130) dX6_feed_32 (fun q32 hq32 => ?_)
        refine lv_aload_n hx hb dX6_feed_35 rfl (lv_at hl 0 rfl) ?_
        refine gt_HeelDance_tape hx hb hts ic_HeelDance hown hK hT g0 (hts _ mw_2_7) dX6_feed_36 (fun q36 hq36 => ?_)
        refine gt_Tape_length hx hb hts ic_Tape hown hK hT hq36 (hts _ mw_1_133) dX6_feed_39 (fun x39 i39 e39 g39 => ?_)
        have tl39 := (hvis q36 30 (by rw [hq36]; rfl)).trans (pr0 q36 hq36)
        refine lv_iload_n hx hb dX6_feed_42 rfl (lv_at hl 1 rfl) ?_
        refine as_30 hx hb hK hT hS hq32 (by omega) (by omega) ⟨by omega, by omega⟩ dX6_feed_43 (fun H locs hT hS => ?_)
        obtain ⟨gh43, w43, hq43, hwf, hvis, hT⟩ : ∃ g : Gh, g.2 = (gc gh q32 (upd (gh.2 q32) x39.toNatClampNeg p1)).2 ∧ g.1 = gh.1 ∧ wf z g ∧ vis z g v ∧ TY z (zA z) g H := ⟨_, rfl, rfl, wf_of (eqv_gc (eqv_rf _)) hwf, vis_of (eqv_gc (eqv_rf _)) hvis, hT⟩
        refine lv_aload_n hx hb dX6_feed_44 rfl (lv_at hl 0 rfl) ?_
        refine gt_HeelDance_tape hx hb hts ic_HeelDance hown hK hT g0 (hts _ mw_2_7) dX6_feed_45 (fun q45 hq45 => ?_)
        refine lv_dup hx hb dX6_feed_48 rfl ?_
        refine gt_Tape_length hx hb hts ic_Tape hown hK hT hq45 (hts _ mw_1_133) dX6_feed_49 (fun x49 i49 e49 g49 => ?_)
        have tl49 := (hvis q45 30 (by rw [hq45]; rfl)).trans (pr0 q45 hq45)
        refine r_iconst hx hb dX6_feed_52 (by decide) (by decide) (fun x52 e52 => ?_)
        refine r_iadd hx hb dX6_feed_53 (by omega) (by omega) (fun x53 e53 => ?_)
        refine pt_Tape_length hx hb hts ic_Tape hown hK hT hS hq45 (hts _ mw_1_133) (by omega) (by omega) dX6_feed_54 (fun H locs hT hS => ?_)
        obtain ⟨gh54, w54, hwf, hvis2, hT⟩ : ∃ g : Gh, g.1 q45 30 = x53.toInt ∧ wf z g ∧ vis z g (vT z v h0 x53.toInt) ∧ TY z (zA z) g H := ⟨_, gs_at _ _ _ _, wf_gs rfl hwf, vis_t1 hvis hq45 hwf.2.2, hT⟩
        refine lv_aload_n hx hb dX6_feed_57 rfl (lv_at hl 0 rfl) ?_
        refine gt_HeelDance_tape hx hb hts ic_HeelDance hown hK hT g0 (hts _ mw_2_7) dX6_feed_58 (fun q58 hq58 => ?_)
        refine gt_Tape_length hx hb hts ic_Tape hown hK hT hq58 (hts _ mw_1_133) dX6_feed_61 (fun x61 i61 e61 g61 => ?_)
        have e61 := zu_at hwf.2.2 rfl hq58 hq45
        rw [e61] at i61
        exact rt_i hx hb hr hlk hS ⟨x53.toInt, by unfold ftr; omega, _, hwf, hvis2, hT⟩ dX6_feed_64
      · refine r_bipush hx hb dX6_feed_25 rfl (fun x25 e25 => ?_)
        exact rt_i hx hb hr hlk hS ⟨tl, by unfold ftr; omega, _, hwf, vis_t0 hvis pr0, hT⟩ dX6_feed_27
    · refine r_iconst hx hb dX6_feed_10 (by decide) (by decide) (fun x10 e10 => ?_)
      exact rt_i hx hb hr hlk hS ⟨tl, by unfold ftr; omega, _, hwf, vis_t0 hvis pr0, hT⟩ dX6_feed_11
theorem k_X6_end : cBV yX6_end cX6_end 3 (some .int) 1 := ⟨mw_2_40, mw_2_41, mw_1_1, mw_2_42, ⟨by decide, by decide, by decide⟩⟩
set_option maxHeartbeats 4000000 in
set_option maxRecDepth 100000 in
theorem c_X6_end (l : Launch) (z : Zt) (v : Nat → Nat → Int) (tl : Int) (h0 o0 : Nat) (g0 : zG z h0 = (16, o0)) (p1 : Int32) (pr0 : ∀ q, zG z q = (14, h0) → v q 30 = tl) : Met l yX6_end (uw yX6_end cX6_end 3 (some .int)) (rmF 1 64) (PcW z [.ref h0, .int p1] (fun H => WX z v H)) (QcI z (fun r H => ∃ t2 : Int, etr tl p1.toInt r.toInt t2 ∧ WX z (vT z v h0 t2) H)) 0 0 (zA z) := by
  refine Met.ofW (cc := cX6_end) (maxL := 3) (ret := (some .int)) (by decide) rfl ?_
  intro p e s m args below meth c s₁ B hml hv
  obtain ⟨rfl, hW, hK, hSK⟩ := hv
  have hx := B.exec
  have hb := B.bytes
  have hr := B.returns
  have hts : ∀ w ∈ lw_ok, w.before ([.ref h0, .int p1] : List Value).toArray s = true := fun w hw => atoms_spec (ws := uw yX6_end cX6_end 3 (some .int)) B.pre w (List.mem_cons_of_mem _ hw)
  have hown : s.vm.findClass RX6 = some m.cls := findClass_of_methodNamed B.named
  have hlk := B.notSynchronized
  have hC : CallFix p m c cX6_end 3 s ([.ref h0, .int p1] : List Value).toArray lw_ok RX6 := ⟨hx, hb, hml, hown, hts⟩
  have hS : va_S (zA z) s.heap s.heap [] := va_S.rf
  have hl := lv_entry ([.ref h0, .int p1]) (n := 3) (Nat.le_of_ble_eq_true rfl)
  rw [lg_entry_eq]
  generalize (lg_sl ([.ref h0, .int p1]) ++ List.replicate (3 - (lg_sl ([.ref h0, .int p1])).length) Slot.unset).toArray = ls at hl ⊢
  have hl : lv_has ls 3 [(0, .ref h0), (1, .int p1)] := hl
  show W p l e (rmF 1 64) s m ([.ref h0, .int p1] : List Value).toArray below meth c s.heap [] 0 0 (MQ below (QcI z (fun r H => ∃ t2 : Int, etr tl p1.toInt r.toInt t2 ∧ WX z (vT z v h0 t2) H)) ([.ref h0, .int p1] : List Value).toArray s 0 0 (zA z)) (F0 m 0 ls [])
  obtain ⟨gh, hwf, hvis, hT⟩ := hW
  have mx_p1 := i_mx p1
  refine lv_iload_n hx hb dX6_end_0 rfl (lv_at hl 1 rfl) ?_
  refine r_if_lt (tgt := 15) hx hb dX6_end_1 (by decide) (fun c1 => ?_) (fun c1 => ?_)
  · refine r_iconst hx hb dX6_end_15 (by decide) (by decide) (fun x15 e15 => ?_)
    exact rt_i hx hb hr hlk hS ⟨tl, by unfold etr; omega, _, hwf, vis_t0 hvis pr0, hT⟩ dX6_end_16
  · refine lv_iload_n hx hb dX6_end_4 rfl (lv_at hl 1 rfl) ?_
    refine lv_aload_n hx hb dX6_end_5 rfl (lv_at hl 0 rfl) ?_
    refine gt_HeelDance_tape hx hb hts ic_HeelDance hown hK hT g0 (hts _ mw_2_7) dX6_end_6 (fun q6 hq6 => ?_)
    refine gt_Tape_length hx hb hts ic_Tape hown hK hT hq6 (hts _ mw_1_133) dX6_end_9 (fun x9 i9 e9 g9 => ?_)
    have tl9 := (hvis q6 30 (by rw [hq6]; rfl)).trans (pr0 q6 hq6)
    refine r_icmp_le (tgt := 17) hx hb dX6_end_12 (by decide) (fun c12 => ?_) (fun c12 => ?_)
    · refine lv_aload_n hx hb dX6_end_17 rfl (lv_at hl 0 rfl) ?_
      refine gt_HeelDance_tape hx hb hts ic_HeelDance hown hK hT g0 (hts _ mw_2_7) dX6_end_18 (fun q18 hq18 => ?_)
      refine gt_Tape_length hx hb hts ic_Tape hown hK hT hq18 (hts _ mw_1_133) dX6_end_21 (fun x21 i21 e21 g21 => ?_)
      have tl21 := (hvis q18 30 (by rw [hq18]; rfl)).trans (pr0 q18 hq18)
      refine lv_istore_n (lv' := [(2, .int x21), (0, .ref h0), (1, .int p1)]) hx hb dX6_end_24 rfl hl (by decide) rfl (fun ls hl => ?_)
      refine lv_aload_n hx hb dX6_end_25 rfl (lv_at hl 1 rfl) ?_
      refine gt_HeelDance_tape hx hb hts ic_HeelDance hown hK hT g0 (hts _ mw_2_7) dX6_end_26 (fun q26 hq26 => ?_)
      refine lv_iload_n hx hb dX6_end_29 rfl (lv_at hl 2 rfl) ?_
      refine pt_Tape_length hx hb hts ic_Tape hown hK hT hS hq26 (hts _ mw_1_133) (by omega) (by omega) dX6_end_30 (fun H locs hT hS => ?_)
      obtain ⟨gh30, w30, hwf, hvis2, hT⟩ : ∃ g : Gh, g.1 q26 30 = p1.toInt ∧ wf z g ∧ vis z g (vT z v h0 p1.toInt) ∧ TY z (zA z) g H := ⟨_, gs_at _ _ _ _, wf_gs rfl hwf, vis_t1 hvis hq26 hwf.2.2, hT⟩
      refine lv_iload_n hx hb dX6_end_33 rfl (lv_at hl 0 rfl) ?_
      exact rt_i hx hb hr hlk hS ⟨p1.toInt, by unfold etr; omega, _, hwf, hvis2, hT⟩ dX6_end_34
    · refine r_iconst hx hb dX6_end_15 (by decide) (by decide) (fun x15 e15 => ?_)
      exact rt_i hx hb hr hlk hS ⟨tl, by unfold etr; omega, _, hwf, vis_t0 hvis pr0, hT⟩ dX6_end_16
theorem k_X6_text : cBV yX6_text cX6_text 3 (some .int) 0 := ⟨mw_2_44, mw_2_45, mw_1_1, mw_2_46, ⟨by decide, by decide, by decide⟩⟩
set_option maxHeartbeats 4000000 in
set_option maxRecDepth 100000 in
theorem c_X6_text (l : Launch) (z : Zt) (v : Nat → Nat → Int) (h0 o0 : Nat) (g0 : zG z h0 = (16, o0)) : Met l yX6_text (uw yX6_text cX6_text 3 (some .int)) (rmF 10 345) (PcW z [.ref h0] (fun H => WX z v H)) (QcI z (fun r H => WX z (vT z v h0 0) H)) 0 0 (zA z) := by
  refine Met.ofW (cc := cX6_text) (maxL := 3) (ret := (some .int)) (by decide) rfl ?_
  intro p e s m args below meth c s₁ B hml hv
  obtain ⟨rfl, hW, hK, hSK⟩ := hv
  have hx := B.exec
  have hb := B.bytes
  have hr := B.returns
  have hts : ∀ w ∈ lw_ok, w.before ([.ref h0] : List Value).toArray s = true := fun w hw => atoms_spec (ws := uw yX6_text cX6_text 3 (some .int)) B.pre w (List.mem_cons_of_mem _ hw)
  have hown : s.vm.findClass RX6 = some m.cls := findClass_of_methodNamed B.named
  have hlk := B.notSynchronized
  have hC : CallFix p m c cX6_text 3 s ([.ref h0] : List Value).toArray lw_ok RX6 := ⟨hx, hb, hml, hown, hts⟩
  have hS : va_S (zA z) s.heap s.heap [] := va_S.rf
  have hl := lv_entry ([.ref h0]) (n := 3) (Nat.le_of_ble_eq_true rfl)
  rw [lg_entry_eq]
  generalize (lg_sl ([.ref h0]) ++ List.replicate (3 - (lg_sl ([.ref h0])).length) Slot.unset).toArray = ls at hl ⊢
  have hl : lv_has ls 3 [(0, .ref h0)] := hl
  show W p l e (rmF 10 345) s m ([.ref h0] : List Value).toArray below meth c s.heap [] 0 0 (MQ below (QcI z (fun r H => WX z (vT z v h0 0) H)) ([.ref h0] : List Value).toArray s 0 0 (zA z)) (F0 m 0 ls [])
  obtain ⟨gh, hwf, hvis, hT⟩ := hW
  refine lv_aload_n hx hb dX6_text_0 rfl (lv_at hl 0 rfl) ?_
  refine gt_HeelDance_tape hx hb hts ic_HeelDance hown hK hT g0 (hts _ mw_2_7) dX6_text_1 (fun q1 hq1 => ?_)
  refine cl_Vi (rest := []) hC hK hSK (c_X4_wholeText l z v q1 (h0) hq1) k_X4_wholeText mw_2_47 ⟨rfl, rfl, Nat.le_of_ble_eq_true rfl, Nat.le_of_ble_eq_true rfl⟩ (rv_Tape hK hT hq1) ⟨_, hwf, hvis, hT⟩ rfl hl.1 rfl (Nat.le_of_ble_eq_true rfl) dX6_text_4 ⟨Nat.zero_le _, Nat.zero_le _⟩ hS (fun _ h => h) (fun _ _ h => h) (fun r4 H locs hpo hS => ?_)
  obtain ⟨gh4, hwf, hvis, hT⟩ := hpo
  refine lv_istore_n (lv' := [(1, .int r4), (0, .ref h0)]) hx hb dX6_text_7 rfl hl (by decide) rfl (fun ls hl => ?_)
  refine lv_aload_n hx hb dX6_text_8 rfl (lv_at hl 1 rfl) ?_
  refine lv_aload_n hx hb dX6_text_9 rfl (lv_at hl 1 rfl) ?_
  refine gt_HeelDance_tape hx hb hts ic_HeelDance hown hK hT g0 (hts _ mw_2_7) dX6_text_10 (fun q10 hq10 => ?_)
  refine gt_Tape_faultFound hx hb hts ic_Tape hown hK hT hq10 (hts _ mw_1_136) dX6_text_13 (fun x13 => ?_)
  refine pt_HeelDance_latestFault hx hb hts ic_HeelDance hown hK hT hS g0 (hts _ mw_2_14) dX6_text_16 (fun H locs hT hS => ?_)
  refine lv_aload_n hx hb dX6_text_19 rfl (lv_at hl 1 rfl) ?_
  refine gt_HeelDance_tape hx hb hts ic_HeelDance hown hK hT g0 (hts _ mw_2_7) dX6_text_20 (fun q20 hq20 => ?_)
  refine r_iconst hx hb dX6_text_23 (by decide) (by decide) (fun x23 e23 => ?_)
  refine pt_Tape_length hx hb hts ic_Tape hown hK hT hS hq20 (hts _ mw_1_133) (by omega) (by omega) dX6_text_24 (fun H locs hT hS => ?_)
  obtain ⟨v2, hv2⟩ : ∃ v2, v2 = vT z v h0 0 := ⟨_, rfl⟩
  obtain ⟨gh24, w24, hwf, hvis, hT⟩ : ∃ g : Gh, g.1 q20 30 = x23.toInt ∧ wf z g ∧ vis z g v2 ∧ TY z (zA z) g H := ⟨_, gs_at _ _ _ _, wf_gs rfl hwf, (by have h9 := vis_t1 (x := x23.toInt) hvis hq20 hwf.2.2; rw [e23] at h9; rw [hv2, e23]; exact h9), hT⟩
  refine lv_aload_n hx hb dX6_text_27 rfl (lv_at hl 1 rfl) ?_
  refine gt_HeelDance_latestFault hx hb hts ic_HeelDance hown hK hT g0 (hts _ mw_2_14) dX6_text_28 (fun x28 => ?_)
  refine r_if_eq (tgt := 45) hx hb dX6_text_31 (by decide) (fun c31 => ?_) (fun c31 => ?_)
  · refine lv_aload_n hx hb dX6_text_45 rfl (lv_at hl 1 rfl) ?_
    refine gt_HeelDance_now hx hb hts ic_HeelDance hown hK hT g0 (hts _ mw_2_8) dX6_text_46 (fun q46 hq46 => ?_)
    refine lv_aload_n hx hb dX6_text_49 rfl (lv_at hl 1 rfl) ?_
    refine gt_HeelDance_tape hx hb hts ic_HeelDance hown hK hT g0 (hts _ mw_2_7) dX6_text_50 (fun q50 hq50 => ?_)
    refine gt_Tape_draft hx hb hts ic_Tape hown hK hT hq50 (hts _ mw_1_132) dX6_text_53 (fun q53 hq53 => ?_)
    refine cl_Vv (rest := []) hC hK hSK (c_X0_copyFrom l z v2 q46 (1) hq46 q53 (2) hq53 (by omega)) k_X0_copyFrom mw_2_196 ⟨rfl, rfl, Nat.le_of_ble_eq_true rfl, Nat.le_of_ble_eq_true rfl⟩ (rv_Evening hK hT hq46) ⟨_, hwf, hvis, hT⟩ rfl hl.1 rfl (Nat.le_of_ble_eq_true rfl) dX6_text_56 ⟨Nat.zero_le _, Nat.zero_le _⟩ hS (fun _ h => h) (fun _ _ h => h) (fun H locs hpo hS => ?_)
    obtain ⟨gh56, hwf, hvis, hT⟩ := hpo
    refine r_iconst hx hb dX6_text_59 (by decide) (by decide) (fun x59 e59 => ?_)
    refine lv_istore_n (lv' := [(2, .int x59), (1, .int r4), (0, .ref h0)]) hx hb dX6_text_60 rfl hl (by decide) rfl (fun ls hl => ?_)
    have J61 : ∀ (n61 : Nat) (ls : Array Slot) (H : Heap) (locs : List Loc) (y61_2 : Int32) (gh : Gh), (0 ≤ y61_2.toInt ∧ y61_2.toInt ≤ 2) → (2 - y61_2.toInt) < (n61 : Int) → wf z gh → vis z gh v2 → TY z (zA z) gh H → va_S (zA z) s.heap H locs → lv_has ls 3 [(0, .ref h0), (1, .int r4), (2, .int y61_2)] → W p l e (rmF 10 345) s m ([.ref h0] : List Value).toArray below meth c H locs 0 0 (MQ below (QcI z (fun r H => WX z (vT z v h0 0) H)) ([.ref h0] : List Value).toArray s 0 0 (zA z)) (F0 m 61 ls []) := by
      intro n61
      induction n61 with
      | zero => intro ls H locs y61_2 gh j61_y61_2 mm61 hwf hvis hT hS hl; exfalso; omega
      | succ n61 ih61 =>
        intro ls H locs y61_2 gh j61_y61_2 mm61 hwf hvis hT hS hl
        refine lv_iload_n hx hb dX6_text_61 rfl (lv_at hl 2 rfl) ?_
        refine r_iconst hx hb dX6_text_62 (by decide) (by decide) (fun x62 e62 => ?_)
        refine r_icmp_ge (tgt := 79) hx hb dX6_text_63 (by decide) (fun c63 => ?_) (fun c63 => ?_)
        · refine lv_iload_n hx hb dX6_text_79 rfl (lv_at hl 1 rfl) ?_
          exact rt_i hx hb hr hlk hS ⟨_, hwf, by rw [← hv2]; exact hvis, hT⟩ dX6_text_80
        · refine lv_aload_n hx hb dX6_text_66 rfl (lv_at hl 0 rfl) ?_
          refine gt_HeelDance_kept hx hb hts ic_HeelDance hown hK hT g0 (hts _ mw_2_10) dX6_text_67 (fun q67 hq67 => ?_)
          refine lv_iload_n hx hb dX6_text_70 rfl (lv_at hl 2 rfl) ?_
          refine r_iconst hx hb dX6_text_71 (by decide) (by decide) (fun x71 e71 => ?_)
          refine as_33 hx hb hK hT hS hq67 (by omega) (by omega) (by omega) (by omega) (by have n0 := ix_nat (i := y61_2) (by omega); unfold p33; omega) dX6_text_72 (fun H locs hT hS => ?_)
          refine r_iinc (lv' := fun v__ => [(2, .int v__), (0, .ref h0), (1, .int r4)]) hx hb dX6_text_73 hl (k := 2) rfl (by decide) (fun _ => rfl) ⟨by decide, by decide⟩ (by omega) (by omega) (fun x73 ls e73 hl => ?_)
          refine lv_goto (tgt := 61) hx hb dX6_text_76 (by decide) ?_
          exact ih61 ls _ _ x73 _ (by omega) (by omega) hwf hvis hT hS (lv_sub hl [1, 2, 0] rfl)
    exact J61 (((2 - x59.toInt)).toNat + 1) ls _ _ x59 _ (by omega) (by omega) hwf hvis hT hS (lv_sub hl [2, 1, 0] rfl)
  · refine r_bipush hx hb dX6_text_34 rfl (fun x34 e34 => ?_)
    refine lv_aload_n hx hb dX6_text_36 rfl (lv_at hl 1 rfl) ?_
    refine gt_HeelDance_tape hx hb hts ic_HeelDance hown hK hT g0 (hts _ mw_2_7) dX6_text_37 (fun q37 hq37 => ?_)
    refine gt_Tape_place hx hb hts ic_Tape hown hK hT hq37 (hts _ mw_1_138) dX6_text_40 (fun x40 => ?_)
    refine w_isub hx hb dX6_text_43 (fun x43 => ?_)
    exact rt_i hx hb hr hlk hS ⟨_, hwf, by rw [← hv2]; exact hvis, hT⟩ dX6_text_44
theorem k_X3_renew : cBV yX3_renew cX3_renew 3 none 2 := ⟨mw_4_24, mw_4_25, mw_1_7, mw_4_26, ⟨by decide, by decide, by decide⟩⟩
set_option maxHeartbeats 4000000 in
set_option maxRecDepth 100000 in
theorem c_X3_renew (l : Launch) (z : Zt) (v : Nat → Nat → Int) (h0 o0 : Nat) (g0 : zG z h0 = (13, o0)) (p1 : Int32) (p2 : Int32) (bp1 : 0 ≤ p1.toInt ∧ p1.toInt ≤ 2) (bp2 : 0 ≤ p2.toInt ∧ p2.toInt ≤ 40) : Met l yX3_renew (uw yX3_renew cX3_renew 3 none) (rmF 2 87) (PcW z [.ref h0, .int p1, .int p2] (fun H => WX z v H)) (QcV z (fun H => WX z (vSa v h0 p1.toInt p2.toInt) H)) 0 0 (zA z) := by
  refine Met.ofW (cc := cX3_renew) (maxL := 3) (ret := none) (by decide) rfl ?_
  intro p e s m args below meth c s₁ B hml hv
  obtain ⟨rfl, hW, hK, hSK⟩ := hv
  have hx := B.exec
  have hb := B.bytes
  have hr := B.returns
  have hts : ∀ w ∈ lw_ok, w.before ([.ref h0, .int p1, .int p2] : List Value).toArray s = true := fun w hw => atoms_spec (ws := uw yX3_renew cX3_renew 3 none) B.pre w (List.mem_cons_of_mem _ hw)
  have hown : s.vm.findClass RX3 = some m.cls := findClass_of_methodNamed B.named
  have hlk := B.notSynchronized
  have hC : CallFix p m c cX3_renew 3 s ([.ref h0, .int p1, .int p2] : List Value).toArray lw_ok RX3 := ⟨hx, hb, hml, hown, hts⟩
  have hS : va_S (zA z) s.heap s.heap [] := va_S.rf
  have hl := lv_entry ([.ref h0, .int p1, .int p2]) (n := 3) (Nat.le_of_ble_eq_true rfl)
  rw [lg_entry_eq]
  generalize (lg_sl ([.ref h0, .int p1, .int p2]) ++ List.replicate (3 - (lg_sl ([.ref h0, .int p1, .int p2])).length) Slot.unset).toArray = ls at hl ⊢
  have hl : lv_has ls 3 [(0, .ref h0), (1, .int p1), (2, .int p2)] := hl
  show W p l e (rmF 2 87) s m ([.ref h0, .int p1, .int p2] : List Value).toArray below meth c s.heap [] 0 0 (MQ below (QcV z (fun H => WX z (vSa v h0 p1.toInt p2.toInt) H)) ([.ref h0, .int p1, .int p2] : List Value).toArray s 0 0 (zA z)) (F0 m 0 ls [])
  obtain ⟨gh, hwf, hvis, hT⟩ := hW
  refine lv_aload_n hx hb dX3_renew_0 rfl (lv_at hl 0 rfl) ?_
  refine lv_iload_n hx hb dX3_renew_1 rfl (lv_at hl 1 rfl) ?_
  refine pt_Sheet_lane hx hb hts ic_Sheet hown hK hT hS g0 (hts _ mw_1_236) (by omega) (by omega) dX3_renew_2 (fun H locs hT hS => ?_)
  obtain ⟨gh2, eg2, hwf, hT⟩ : ∃ g : Gh, g = gs gh h0 34 p1.toInt ∧ wf z g ∧ TY z (zA z) g H := ⟨_, rfl, wf_gs rfl hwf, hT⟩
  refine lv_aload_n hx hb dX3_renew_5 rfl (lv_at hl 0 rfl) ?_
  refine r_iconst hx hb dX3_renew_6 (by decide) (by decide) (fun x6 e6 => ?_)
  refine lv_iload_n hx hb dX3_renew_7 rfl (lv_at hl 2 rfl) ?_
  refine r_bipush hx hb dX3_renew_8 rfl (fun x8 e8 => ?_)
  refine r_min hx hb (hml.trans hl.1.symm) hts hown mw_4_27 (Nat.le_of_ble_eq_true rfl) (Nat.le_of_ble_eq_true rfl) ⟨Nat.zero_le _, Nat.zero_le _⟩ dX3_renew_10 (fun x10 e10 g10 k10 => ?_)
  refine r_max hx hb (hml.trans hl.1.symm) hts hown mw_4_28 (Nat.le_of_ble_eq_true rfl) (Nat.le_of_ble_eq_true rfl) ⟨Nat.zero_le _, Nat.zero_le _⟩ dX3_renew_13 (fun x13 e13 g13 k13 => ?_)
  refine pt_Sheet_length hx hb hts ic_Sheet hown hK hT hS g0 (hts _ mw_1_238) (by omega) (by omega) dX3_renew_16 (fun H locs hT hS => ?_)
  obtain ⟨gh16, hwf, hvis, hT⟩ : ∃ g : Gh, wf z g ∧ vis z g (vSa v h0 p1.toInt p2.toInt) ∧ TY z (zA z) g H := ⟨_, wf_gs rfl hwf, (by rw [eg2, show x13.toInt = p2.toInt by omega]; exact vis_s hvis), hT⟩
  refine lv_aload_n hx hb dX3_renew_19 rfl (lv_at hl 0 rfl) ?_
  refine gt_Sheet_cells hx hb hts ic_Sheet hown hK hT g0 (hts _ mw_1_234) dX3_renew_20 (fun q20 hq20 => ?_)
  refine r_iconst hx hb dX3_renew_23 (by decide) (by decide) (fun x23 e23 => ?_)
  refine cl_Sv (rest := []) hC hK hSK (c_fill23 l z gh16 q20 (h0) hq20 x23) k_J7_fill_53178 mw_4_31 ⟨rfl, rfl, Nat.le_of_ble_eq_true rfl, Nat.le_of_ble_eq_true rfl⟩ hT rfl hl.1 rfl (Nat.le_of_ble_eq_true rfl) dX3_renew_24 ⟨Nat.zero_le _, Nat.zero_le _⟩ hS (fun _ h => h) (fun _ _ h => h) (fun H locs hpo hS => ?_)
  have hT := hpo
  exact rt_v hx hb hr hlk hS ⟨_, hwf, hvis, hT⟩ dX3_renew_27
theorem k_X6_sheet : cBV yX6_sheet cX6_sheet 4 (some .int) 3 := ⟨mw_4_14, mw_4_15, mw_1_1, mw_4_16, ⟨by decide, by decide, by decide⟩⟩
set_option maxHeartbeats 4000000 in
set_option maxRecDepth 100000 in
theorem c_X6_sheet (l : Launch) (z : Zt) (v : Nat → Nat → Int) (h0 o0 : Nat) (g0 : zG z h0 = (16, o0)) (p1 : Int32) (p2 : Int32) (p3 : Int32) : Met l yX6_sheet (uw yX6_sheet cX6_sheet 4 (some .int)) (rmF 3 109) (PcW z [.ref h0, .int p1, .int p2, .int p3] (fun H => WX z v H)) (QcI z (fun r H => ∃ v2, shr p1.toInt p2.toInt p3.toInt r.toInt ∧ ((r.toInt = 1 ∧ ∃ q, zG z q = (13, p1.toNatClampNeg) ∧ v2 = vSa v q p2.toInt p3.toInt) ∨ (r.toInt ≠ 1 ∧ v2 = v)) ∧ WX z v2 H)) 0 0 (zA z) := by
  refine Met.ofW (cc := cX6_sheet) (maxL := 4) (ret := (some .int)) (by decide) rfl ?_
  intro p e s m args below meth c s₁ B hml hv
  obtain ⟨rfl, hW, hK, hSK⟩ := hv
  have hx := B.exec
  have hb := B.bytes
  have hr := B.returns
  have hts : ∀ w ∈ lw_ok, w.before ([.ref h0, .int p1, .int p2, .int p3] : List Value).toArray s = true := fun w hw => atoms_spec (ws := uw yX6_sheet cX6_sheet 4 (some .int)) B.pre w (List.mem_cons_of_mem _ hw)
  have hown : s.vm.findClass RX6 = some m.cls := findClass_of_methodNamed B.named
  have hlk := B.notSynchronized
  have hC : CallFix p m c cX6_sheet 4 s ([.ref h0, .int p1, .int p2, .int p3] : List Value).toArray lw_ok RX6 := ⟨hx, hb, hml, hown, hts⟩
  have hS : va_S (zA z) s.heap s.heap [] := va_S.rf
  have hl := lv_entry ([.ref h0, .int p1, .int p2, .int p3]) (n := 4) (Nat.le_of_ble_eq_true rfl)
  rw [lg_entry_eq]
  generalize (lg_sl ([.ref h0, .int p1, .int p2, .int p3]) ++ List.replicate (4 - (lg_sl ([.ref h0, .int p1, .int p2, .int p3])).length) Slot.unset).toArray = ls at hl ⊢
  have hl : lv_has ls 4 [(0, .ref h0), (1, .int p1), (2, .int p2), (3, .int p3)] := hl
  show W p l e (rmF 3 109) s m ([.ref h0, .int p1, .int p2, .int p3] : List Value).toArray below meth c s.heap [] 0 0 (MQ below (QcI z (fun r H => ∃ v2, shr p1.toInt p2.toInt p3.toInt r.toInt ∧ ((r.toInt = 1 ∧ ∃ q, zG z q = (13, p1.toNatClampNeg) ∧ v2 = vSa v q p2.toInt p3.toInt) ∨ (r.toInt ≠ 1 ∧ v2 = v)) ∧ WX z v2 H)) ([.ref h0, .int p1, .int p2, .int p3] : List Value).toArray s 0 0 (zA z)) (F0 m 0 ls [])
  obtain ⟨gh, hwf, hvis, hT⟩ := hW
  have mx_p1 := i_mx p1
  have mx_p2 := i_mx p2
  have mx_p3 := i_mx p3
  refine lv_iload_n hx hb dX6_sheet_0 rfl (lv_at hl 1 rfl) ?_
  refine cl_Si (rest := []) hC hK hSK (c_X6_isNoSheet l z gh p1) k_X6_isNoSheet mw_4_17 ⟨rfl, rfl, Nat.le_of_ble_eq_true rfl, Nat.le_of_ble_eq_true rfl⟩ hT rfl hl.1 rfl (Nat.le_of_ble_eq_true rfl) dX6_sheet_1 ⟨Nat.zero_le _, Nat.zero_le _⟩ hS (fun _ h => h) (fun _ _ h => h) (fun r1 H locs hpo hS => ?_)
  obtain ⟨hT, u1_0, u1_1, u1_2⟩ := hpo
  refine r_if_ne (tgt := 20) hx hb dX6_sheet_4 (by decide) (fun c4 => ?_) (fun c4 => ?_)
  · refine r_iconst hx hb dX6_sheet_20 (by decide) (by decide) (fun x20 e20 => ?_)
    exact rt_i hx hb hr hlk hS ⟨v, by unfold shr; omega, Or.inr ⟨by omega, rfl⟩, _, hwf, hvis, hT⟩ dX6_sheet_21
  · refine lv_iload_n hx hb dX6_sheet_7 rfl (lv_at hl 2 rfl) ?_
    refine cl_Si (rest := []) hC hK hSK (c_X6_isNoLane l z gh p2) k_X6_isNoLane mw_4_20 ⟨rfl, rfl, Nat.le_of_ble_eq_true rfl, Nat.le_of_ble_eq_true rfl⟩ hT rfl hl.1 rfl (Nat.le_of_ble_eq_true rfl) dX6_sheet_8 ⟨Nat.zero_le _, Nat.zero_le _⟩ hS (fun _ h => h) (fun _ _ h => h) (fun r8 H locs hpo hS => ?_)
    obtain ⟨hT, u8_0, u8_1, u8_2⟩ := hpo
    refine r_if_ne (tgt := 20) hx hb dX6_sheet_11 (by decide) (fun c11 => ?_) (fun c11 => ?_)
    · refine r_iconst hx hb dX6_sheet_20 (by decide) (by decide) (fun x20 e20 => ?_)
      exact rt_i hx hb hr hlk hS ⟨v, by unfold shr; omega, Or.inr ⟨by omega, rfl⟩, _, hwf, hvis, hT⟩ dX6_sheet_21
    · refine lv_iload_n hx hb dX6_sheet_14 rfl (lv_at hl 3 rfl) ?_
      refine r_bipush hx hb dX6_sheet_15 rfl (fun x15 e15 => ?_)
      refine r_icmp_le (tgt := 22) hx hb dX6_sheet_17 (by decide) (fun c17 => ?_) (fun c17 => ?_)
      · refine lv_iload_n hx hb dX6_sheet_22 rfl (lv_at hl 3 rfl) ?_
        refine r_if_ge (tgt := 29) hx hb dX6_sheet_23 (by decide) (fun c23 => ?_) (fun c23 => ?_)
        · refine lv_aload_n hx hb dX6_sheet_29 rfl (lv_at hl 0 rfl) ?_
          refine gt_HeelDance_sheets hx hb hts ic_HeelDance hown hK hT g0 (hts _ mw_2_13) dX6_sheet_30 (fun q30 hq30 => ?_)
          refine lv_iload_n hx hb dX6_sheet_33 rfl (lv_at hl 1 rfl) ?_
          refine al_37 hx hb hK hT hq30 (by omega) (by omega) dX6_sheet_34 (fun q34 hq34 => ?_)
          refine lv_iload_n hx hb dX6_sheet_35 rfl (lv_at hl 2 rfl) ?_
          refine lv_iload_n hx hb dX6_sheet_36 rfl (lv_at hl 3 rfl) ?_
          refine cl_Vv (rest := []) hC hK hSK (c_X3_renew l z v q34 (p1.toNatClampNeg) hq34 p2 p3 (by omega) (by omega)) k_X3_renew mw_4_23 ⟨rfl, rfl, Nat.le_of_ble_eq_true rfl, Nat.le_of_ble_eq_true rfl⟩ (rv_Sheet hK hT hq34) ⟨_, hwf, hvis, hT⟩ rfl hl.1 rfl (Nat.le_of_ble_eq_true rfl) dX6_sheet_37 ⟨Nat.zero_le _, Nat.zero_le _⟩ hS (fun _ h => h) (fun _ _ h => h) (fun H locs hpo hS => ?_)
          obtain ⟨gh37, hwf, hvis2, hT⟩ := hpo
          refine r_iconst hx hb dX6_sheet_40 (by decide) (by decide) (fun x40 e40 => ?_)
          exact rt_i hx hb hr hlk hS ⟨_, by unfold shr; omega, Or.inl ⟨by omega, q34, hq34, rfl⟩, _, hwf, hvis2, hT⟩ dX6_sheet_41
        · refine r_bipush hx hb dX6_sheet_26 rfl (fun x26 e26 => ?_)
          exact rt_i hx hb hr hlk hS ⟨v, by unfold shr; omega, Or.inr ⟨by omega, rfl⟩, _, hwf, hvis, hT⟩ dX6_sheet_28
      · refine r_iconst hx hb dX6_sheet_20 (by decide) (by decide) (fun x20 e20 => ?_)
        exact rt_i hx hb hr hlk hS ⟨v, by unfold shr; omega, Or.inr ⟨by omega, rfl⟩, _, hwf, hvis, hT⟩ dX6_sheet_21
theorem k_X6_lay : cBV yX6_lay cX6_lay 5 (some .int) 3 := ⟨mw_4_33, mw_4_34, mw_1_1, mw_4_35, ⟨by decide, by decide, by decide⟩⟩
set_option maxHeartbeats 4000000 in
set_option maxRecDepth 100000 in
theorem c_X6_lay (l : Launch) (z : Zt) (gh : Gh) (h0 o0 : Nat) (g0 : zG z h0 = (16, o0)) (p1 : Int32) (p2 : Int32) (p3 : Int32) (pr0 : zu z) : Met l yX6_lay (uw yX6_lay cX6_lay 5 (some .int)) (rmF 2 87) (PcW z [.ref h0, .int p1, .int p2, .int p3] (fun H => TY z (zA z) gh H)) (QcI z (fun r H => TY z (zA z) gh H ∧ ((∀ q, zG z q = (13, p1.toNatClampNeg) → lyr p1.toInt p2.toInt (gh.1 q 34) (gh.1 q 35) r.toInt)))) 0 0 (zA z) := by
  refine Met.ofW (cc := cX6_lay) (maxL := 5) (ret := (some .int)) (by decide) rfl ?_
  intro p e s m args below meth c s₁ B hml hv
  obtain ⟨rfl, hW, hK, hSK⟩ := hv
  have hx := B.exec
  have hb := B.bytes
  have hr := B.returns
  have hts : ∀ w ∈ lw_ok, w.before ([.ref h0, .int p1, .int p2, .int p3] : List Value).toArray s = true := fun w hw => atoms_spec (ws := uw yX6_lay cX6_lay 5 (some .int)) B.pre w (List.mem_cons_of_mem _ hw)
  have hown : s.vm.findClass RX6 = some m.cls := findClass_of_methodNamed B.named
  have hlk := B.notSynchronized
  have hC : CallFix p m c cX6_lay 5 s ([.ref h0, .int p1, .int p2, .int p3] : List Value).toArray lw_ok RX6 := ⟨hx, hb, hml, hown, hts⟩
  have hS : va_S (zA z) s.heap s.heap [] := va_S.rf
  have hl := lv_entry ([.ref h0, .int p1, .int p2, .int p3]) (n := 5) (Nat.le_of_ble_eq_true rfl)
  rw [lg_entry_eq]
  generalize (lg_sl ([.ref h0, .int p1, .int p2, .int p3]) ++ List.replicate (5 - (lg_sl ([.ref h0, .int p1, .int p2, .int p3])).length) Slot.unset).toArray = ls at hl ⊢
  have hl : lv_has ls 5 [(0, .ref h0), (1, .int p1), (2, .int p2), (3, .int p3)] := hl
  show W p l e (rmF 2 87) s m ([.ref h0, .int p1, .int p2, .int p3] : List Value).toArray below meth c s.heap [] 0 0 (MQ below (QcI z (fun r H => TY z (zA z) gh H ∧ ((∀ q, zG z q = (13, p1.toNatClampNeg) → lyr p1.toInt p2.toInt (gh.1 q 34) (gh.1 q 35) r.toInt)))) ([.ref h0, .int p1, .int p2, .int p3] : List Value).toArray s 0 0 (zA z)) (F0 m 0 ls [])
  have hT : TY z (zA z) gh s.heap := hW
  have mx_p1 := i_mx p1
  have mx_p2 := i_mx p2
  have mx_p3 := i_mx p3
  refine lv_iload_n hx hb dX6_lay_0 rfl (lv_at hl 1 rfl) ?_
  refine cl_Si (rest := []) hC hK hSK (c_X6_isNoSheet l z gh p1) k_X6_isNoSheet mw_4_17 ⟨rfl, rfl, Nat.le_of_ble_eq_true rfl, Nat.le_of_ble_eq_true rfl⟩ hT rfl hl.1 rfl (Nat.le_of_ble_eq_true rfl) dX6_lay_1 ⟨Nat.zero_le _, Nat.zero_le _⟩ hS (fun _ h => h) (fun _ _ h => h) (fun r1 H locs hpo hS => ?_)
  obtain ⟨hT, u1_0, u1_1, u1_2⟩ := hpo
  refine r_if_eq (tgt := 9) hx hb dX6_lay_4 (by decide) (fun c4 => ?_) (fun c4 => ?_)
  · refine lv_aload_n hx hb dX6_lay_9 rfl (lv_at hl 0 rfl) ?_
    refine gt_HeelDance_sheets hx hb hts ic_HeelDance hown hK hT g0 (hts _ mw_2_13) dX6_lay_10 (fun q10 hq10 => ?_)
    refine lv_iload_n hx hb dX6_lay_13 rfl (lv_at hl 1 rfl) ?_
    refine al_37 hx hb hK hT hq10 (by omega) (by omega) dX6_lay_14 (fun q14 hq14 => ?_)
    refine lv_aload_n hx hb dX6_lay_15 rfl (lv_at hl 0 rfl) ?_
    refine gt_HeelDance_sheets hx hb hts ic_HeelDance hown hK hT g0 (hts _ mw_2_13) dX6_lay_16 (fun q16 hq16 => ?_)
    refine lv_iload_n hx hb dX6_lay_19 rfl (lv_at hl 1 rfl) ?_
    refine al_37 hx hb hK hT hq16 (by omega) (by omega) dX6_lay_20 (fun q20 hq20 => ?_)
    refine gt_Sheet_lane hx hb hts ic_Sheet hown hK hT hq20 (hts _ mw_1_237) dX6_lay_21 (fun x21 i21 e21 g21 => ?_)
    refine lv_iload_n hx hb dX6_lay_24 rfl (lv_at hl 2 rfl) ?_
    refine r_i2l hx hb dX6_lay_25 (fun x25 e25 => ?_)
    refine cl_Vi (rest := []) hC hK hSK (c_X3_faultAt l z gh q14 (p1.toNatClampNeg) hq14 x21 x25) k_X3_faultAt mw_4_36 ⟨rfl, rfl, Nat.le_of_ble_eq_true rfl, Nat.le_of_ble_eq_true rfl⟩ (rv_Sheet hK hT hq14) hT rfl hl.1 rfl (Nat.le_of_ble_eq_true rfl) dX6_lay_26 ⟨Nat.zero_le _, Nat.zero_le _⟩ hS (fun _ h => h) (fun _ _ h => h) (fun r26 H locs hpo hS => ?_)
    obtain ⟨hT, u26_0, u26_1, u26_2, u26_3⟩ := hpo
    have e26 := zu_at pr0 rfl hq20 hq14
    rw [e26] at i21
    have b26 := ty_sh hT hq14
    refine lv_istore (lv' := [(4, .int r26), (0, .ref h0), (1, .int p1), (2, .int p2), (3, .int p3)]) hx hb dX6_lay_29 hl (by decide) rfl (fun ls hl => ?_)
    refine lv_iload hx hb dX6_lay_31 (lv_at hl 0 rfl) ?_
    refine r_if_eq (tgt := 42) hx hb dX6_lay_33 (by decide) (fun c33 => ?_) (fun c33 => ?_)
    · refine lv_aload_n hx hb dX6_lay_42 rfl (lv_at hl 1 rfl) ?_
      refine gt_HeelDance_sheets hx hb hts ic_HeelDance hown hK hT g0 (hts _ mw_2_13) dX6_lay_43 (fun q43 hq43 => ?_)
      refine lv_iload_n hx hb dX6_lay_46 rfl (lv_at hl 2 rfl) ?_
      refine al_37 hx hb hK hT hq43 (by omega) (by omega) dX6_lay_47 (fun q47 hq47 => ?_)
      refine lv_iload_n hx hb dX6_lay_48 rfl (lv_at hl 3 rfl) ?_
      refine lv_iload_n hx hb dX6_lay_49 rfl (lv_at hl 4 rfl) ?_
      refine cl_Vv (rest := []) hC hK hSK (c_X3_put l z gh q47 (p1.toNatClampNeg) hq47 p2 p3 (by omega)) k_X3_put mw_4_40 ⟨rfl, rfl, Nat.le_of_ble_eq_true rfl, Nat.le_of_ble_eq_true rfl⟩ (rv_Sheet hK hT hq47) hT rfl hl.1 rfl (Nat.le_of_ble_eq_true rfl) dX6_lay_50 ⟨Nat.zero_le _, Nat.zero_le _⟩ hS (fun _ h => h) (fun _ _ h => h) (fun H locs hpo hS => ?_)
      have hT := hpo
      refine r_iconst hx hb dX6_lay_53 (by decide) (by decide) (fun x53 e53 => ?_)
      exact rt_i hx hb hr hlk hS ⟨hT, fun q9 h9 => by
      first
        | (unfold lyr; omega)
        | (have e9 := zu_at pr0 rfl h9 hq14; rw [e9]; unfold lyr; omega)⟩ dX6_lay_54
    · refine r_bipush hx hb dX6_lay_36 rfl (fun x36 e36 => ?_)
      refine lv_iload hx hb dX6_lay_38 (lv_at hl 0 rfl) ?_
      refine r_isub hx hb dX6_lay_40 (by omega) (by omega) (fun x40 e40 => ?_)
      exact rt_i hx hb hr hlk hS ⟨hT, fun q9 h9 => by
      first
        | (unfold lyr; omega)
        | (have e9 := zu_at pr0 rfl h9 hq14; rw [e9]; unfold lyr; omega)⟩ dX6_lay_41
  · refine r_iconst hx hb dX6_lay_7 (by decide) (by decide) (fun x7 e7 => ?_)
    exact rt_i hx hb hr hlk hS ⟨hT, fun q9 h9 => by
      first
        | (unfold lyr; omega)
        | (have e9 := zu_at pr0 rfl h9 hq14; rw [e9]; unfold lyr; omega)⟩ dX6_lay_8
theorem k_X6_swap : cBV yX6_swap cX6_swap 5 (some .int) 2 := ⟨mw_3_31, mw_3_32, mw_1_1, mw_3_33, ⟨by decide, by decide, by decide⟩⟩
set_option maxHeartbeats 4000000 in
set_option maxRecDepth 100000 in
theorem c_X6_swap (l : Launch) (z : Zt) (v : Nat → Nat → Int) (h0 o0 : Nat) (g0 : zG z h0 = (16, o0)) (p1 : Int32) (p2 : Int32) : Met l yX6_swap (uw yX6_swap cX6_swap 5 (some .int)) (rmF 2 85) (PcW z [.ref h0, .int p1, .int p2] (fun H => WX z v H)) (QcI z (fun r H => WX z v H)) 0 0 (zA z) := by
  refine Met.ofW (cc := cX6_swap) (maxL := 5) (ret := (some .int)) (by decide) rfl ?_
  intro p e s m args below meth c s₁ B hml hv
  obtain ⟨rfl, hW, hK, hSK⟩ := hv
  have hx := B.exec
  have hb := B.bytes
  have hr := B.returns
  have hts : ∀ w ∈ lw_ok, w.before ([.ref h0, .int p1, .int p2] : List Value).toArray s = true := fun w hw => atoms_spec (ws := uw yX6_swap cX6_swap 5 (some .int)) B.pre w (List.mem_cons_of_mem _ hw)
  have hown : s.vm.findClass RX6 = some m.cls := findClass_of_methodNamed B.named
  have hlk := B.notSynchronized
  have hC : CallFix p m c cX6_swap 5 s ([.ref h0, .int p1, .int p2] : List Value).toArray lw_ok RX6 := ⟨hx, hb, hml, hown, hts⟩
  have hS : va_S (zA z) s.heap s.heap [] := va_S.rf
  have hl := lv_entry ([.ref h0, .int p1, .int p2]) (n := 5) (Nat.le_of_ble_eq_true rfl)
  rw [lg_entry_eq]
  generalize (lg_sl ([.ref h0, .int p1, .int p2]) ++ List.replicate (5 - (lg_sl ([.ref h0, .int p1, .int p2])).length) Slot.unset).toArray = ls at hl ⊢
  have hl : lv_has ls 5 [(0, .ref h0), (1, .int p1), (2, .int p2)] := hl
  show W p l e (rmF 2 85) s m ([.ref h0, .int p1, .int p2] : List Value).toArray below meth c s.heap [] 0 0 (MQ below (QcI z (fun r H => WX z v H)) ([.ref h0, .int p1, .int p2] : List Value).toArray s 0 0 (zA z)) (F0 m 0 ls [])
  obtain ⟨gh, hwf, hvis, hT⟩ := hW
  have mx_p1 := i_mx p1
  have mx_p2 := i_mx p2
  refine lv_aload_n hx hb dX6_swap_0 rfl (lv_at hl 0 rfl) ?_
  refine lv_iload_n hx hb dX6_swap_1 rfl (lv_at hl 1 rfl) ?_
  refine cl_Vi (rest := []) hC hK hSK (c_isNobody2 l z gh h0 (o0) g0 p1 hwf.2.2) k_X6_isNobody mw_2_225 ⟨rfl, rfl, Nat.le_of_ble_eq_true rfl, Nat.le_of_ble_eq_true rfl⟩ (rv_HeelDance hK hT g0) hT rfl hl.1 rfl (Nat.le_of_ble_eq_true rfl) dX6_swap_2 ⟨Nat.zero_le _, Nat.zero_le _⟩ hS (fun _ h => h) (fun _ _ h => h) (fun r2 H locs hpo hS => ?_)
  obtain ⟨hT, u2_0, u2_1, u2_2⟩ := hpo
  refine r_if_ne (tgt := 21) hx hb dX6_swap_5 (by decide) (fun c5 => ?_) (fun c5 => ?_)
  · refine r_iconst hx hb dX6_swap_21 (by decide) (by decide) (fun x21 e21 => ?_)
    exact rt_i hx hb hr hlk hS ⟨_, hwf, hvis, hT⟩ dX6_swap_22
  · refine lv_aload_n hx hb dX6_swap_8 rfl (lv_at hl 0 rfl) ?_
    refine lv_iload_n hx hb dX6_swap_9 rfl (lv_at hl 2 rfl) ?_
    refine cl_Vi (rest := []) hC hK hSK (c_isNobody2 l z gh h0 (o0) g0 p2 hwf.2.2) k_X6_isNobody mw_2_225 ⟨rfl, rfl, Nat.le_of_ble_eq_true rfl, Nat.le_of_ble_eq_true rfl⟩ (rv_HeelDance hK hT g0) hT rfl hl.1 rfl (Nat.le_of_ble_eq_true rfl) dX6_swap_10 ⟨Nat.zero_le _, Nat.zero_le _⟩ hS (fun _ h => h) (fun _ _ h => h) (fun r10 H locs hpo hS => ?_)
    obtain ⟨hT, u10_0, u10_1, u10_2⟩ := hpo
    refine r_if_ne (tgt := 21) hx hb dX6_swap_13 (by decide) (fun c13 => ?_) (fun c13 => ?_)
    · refine r_iconst hx hb dX6_swap_21 (by decide) (by decide) (fun x21 e21 => ?_)
      exact rt_i hx hb hr hlk hS ⟨_, hwf, hvis, hT⟩ dX6_swap_22
    · refine lv_iload_n hx hb dX6_swap_16 rfl (lv_at hl 1 rfl) ?_
      refine lv_iload_n hx hb dX6_swap_17 rfl (lv_at hl 2 rfl) ?_
      refine r_icmp_ne (tgt := 23) hx hb dX6_swap_18 (by decide) (fun c18 => ?_) (fun c18 => ?_)
      · refine lv_aload_n hx hb dX6_swap_23 rfl (lv_at hl 0 rfl) ?_
        refine gt_HeelDance_now hx hb hts ic_HeelDance hown hK hT g0 (hts _ mw_2_8) dX6_swap_24 (fun q24 hq24 => ?_)
        refine gt_Evening_floor hx hb hts ic_Evening hown hK hT hq24 (hts _ mw_1_91) dX6_swap_27 (fun q27 hq27 => ?_)
        have k1 := u2_1 q27 hq27 (by omega)
        have k2 := u10_1 q27 hq27 (by omega)
        obtain ⟨wa, wb, wc, wd⟩ := hwf.1 q27 _ hq27
        refine gt_Floor_partner hx hb hts ic_Floor hown hK hT hq27 (hts _ mw_1_54) dX6_swap_30 (fun q30 hq30 => ?_)
        refine lv_astore_n (lv' := [(3, .ref q30), (0, .ref h0), (1, .int p1), (2, .int p2)]) hx hb dX6_swap_33 rfl hl (by decide) rfl (fun ls hl => ?_)
        refine lv_aload_n hx hb dX6_swap_34 rfl (lv_at hl 0 rfl) ?_
        refine lv_iload_n hx hb dX6_swap_35 rfl (lv_at hl 2 rfl) ?_
        refine al_27 hx hb hK hT hq30 (by omega) (by omega) dX6_swap_36 (fun x36 e36 => ?_)
        have n36 := ix_nat (i := p1) (by omega)
        unfold p27 at e36
        refine lv_istore (lv' := [(4, .int x36), (3, .ref q30), (0, .ref h0), (1, .int p1), (2, .int p2)]) hx hb dX6_swap_37 hl (by decide) rfl (fun ls hl => ?_)
        refine lv_aload_n hx hb dX6_swap_39 rfl (lv_at hl 1 rfl) ?_
        refine lv_iload_n hx hb dX6_swap_40 rfl (lv_at hl 3 rfl) ?_
        refine lv_aload_n hx hb dX6_swap_41 rfl (lv_at hl 1 rfl) ?_
        refine lv_iload_n hx hb dX6_swap_42 rfl (lv_at hl 4 rfl) ?_
        refine al_27 hx hb hK hT hq30 (by omega) (by omega) dX6_swap_43 (fun x43 e43 => ?_)
        have n43 := ix_nat (i := p2) (by omega)
        unfold p27 at e43
        refine as_27 hx hb hK hT hS hq30 (by omega) (by omega) (by have n0 := ix_nat (i := p1) (by omega); unfold p27; omega) dX6_swap_44 (fun H locs hT hS => ?_)
        refine lv_aload_n hx hb dX6_swap_45 rfl (lv_at hl 1 rfl) ?_
        refine lv_iload_n hx hb dX6_swap_46 rfl (lv_at hl 4 rfl) ?_
        refine lv_iload hx hb dX6_swap_47 (lv_at hl 0 rfl) ?_
        refine as_27 hx hb hK hT hS hq30 (by omega) (by omega) (by have n0 := ix_nat (i := p2) (by omega); unfold p27; omega) dX6_swap_49 (fun H locs hT hS => ?_)
        refine lv_aload_n hx hb dX6_swap_50 rfl (lv_at hl 1 rfl) ?_
        refine lv_iload_n hx hb dX6_swap_51 rfl (lv_at hl 3 rfl) ?_
        refine al_27 hx hb hK hT hq30 (by omega) (by omega) dX6_swap_52 (fun x52 e52 => ?_)
        have n52 := ix_nat (i := p1) (by omega)
        unfold p27 at e52
        exact rt_i hx hb hr hlk hS ⟨_, hwf, hvis, hT⟩ dX6_swap_53
      · refine r_iconst hx hb dX6_swap_21 (by decide) (by decide) (fun x21 e21 => ?_)
        exact rt_i hx hb hr hlk hS ⟨_, hwf, hvis, hT⟩ dX6_swap_22
