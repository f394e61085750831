theorem k_X7_feed : cBV yX7_feed cX7_feed 2 (some .int) 1 := ⟨mw_4_150, mw_4_151, mw_1_8, mw_4_152, ⟨by decide, by decide, by decide⟩⟩
set_option maxHeartbeats 4000000 in
set_option maxRecDepth 100000 in
theorem c_X7_feed (l : Launch) (z : Zt) (v : Nat → Nat → Int) (tl : Int) (h0 o0 : Nat) (g0 : zG z h0 = (17, o0)) (p1 : Int32) (pr0 : v h0 40 = tl) : Met l yX7_feed (uw yX7_feed cX7_feed 2 (some .int)) (rmF 2 89) (PcW z [.ref h0, .int p1] (fun H => WX z v H)) (QcI z (fun r H => ∃ t2 : Int, ftr tl p1.toInt r.toInt t2 ∧ WX z (vM v h0 t2) H)) 0 0 (zA z) := by
  refine Met.ofW (cc := cX7_feed) (maxL := 2) (ret := (some .int)) (by decide) rfl ?_
  intro p e s m args below meth c s₁ B hml hv
  obtain ⟨rfl, hW, hK, hSK⟩ := hv
  have hx := B.exec
  have hb := B.bytes
  have hr := B.returns
  have hts : ∀ w ∈ lw_ok, w.before ([.ref h0, .int p1] : List Value).toArray s = true := fun w hw => atoms_spec (ws := uw yX7_feed cX7_feed 2 (some .int)) B.pre w (List.mem_cons_of_mem _ hw)
  have hown : s.vm.findClass RX7 = some m.cls := findClass_of_methodNamed B.named
  have hlk := B.notSynchronized
  have hC : CallFix p m c cX7_feed 2 s ([.ref h0, .int p1] : List Value).toArray lw_ok RX7 := ⟨hx, hb, hml, hown, hts⟩
  have hS : va_S (zA z) s.heap s.heap [] := va_S.rf
  have hl := lv_entry ([.ref h0, .int p1]) (n := 2) (Nat.le_of_ble_eq_true rfl)
  rw [lg_entry_eq]
  generalize (lg_sl ([.ref h0, .int p1]) ++ List.replicate (2 - (lg_sl ([.ref h0, .int p1])).length) Slot.unset).toArray = ls at hl ⊢
  have hl : lv_has ls 2 [(0, .ref h0), (1, .int p1)] := hl
  show W p l e (rmF 2 89) s m ([.ref h0, .int p1] : List Value).toArray below meth c s.heap [] 0 0 (MQ below (QcI z (fun r H => ∃ t2 : Int, ftr tl p1.toInt r.toInt t2 ∧ WX z (vM v h0 t2) H)) ([.ref h0, .int p1] : List Value).toArray s 0 0 (zA z)) (F0 m 0 ls [])
  obtain ⟨gh, hwf, hvis, hT⟩ := hW
  have tl0 := (hvis h0 40 (by rw [g0]; rfl)).trans pr0
  have mx_p1 := i_mx p1
  refine lv_iload_n hx hb dX7_feed_0 rfl (lv_at hl 1 rfl) ?_
  refine r_i2l hx hb dX7_feed_1 (fun x1 e1 => ?_)
  refine r_lconst0 hx hb dX7_feed_2 (fun x2 e2 => ?_)
  refine r_ldc2 (127) rfl hx hb hts hown mw_4_153 dX7_feed_3 (fun x3 e3 => ?_)
  refine cl_Si (rest := []) hC hK hSK (c_X7_in l z gh x1 x2 x3) k_X7_in mw_4_154 ⟨rfl, rfl, Nat.le_of_ble_eq_true rfl, Nat.le_of_ble_eq_true rfl⟩ hT rfl hl.1 rfl (Nat.le_of_ble_eq_true rfl) dX7_feed_6 ⟨Nat.zero_le _, Nat.zero_le _⟩ hS (fun _ h => h) (fun _ _ h => h) (fun r6 H locs hpo hS => ?_)
  obtain ⟨hT, u6_0, u6_1⟩ := hpo
  refine r_if_ne (tgt := 14) hx hb dX7_feed_9 (by decide) (fun c9 => ?_) (fun c9 => ?_)
  · refine lv_aload_n hx hb dX7_feed_14 rfl (lv_at hl 0 rfl) ?_
    refine gt_Model_taped hx hb hts ic_Model hown hK hT g0 (hts _ mw_4_80) dX7_feed_15 (fun x15 i15 e15 g15 => ?_)
    refine r_sipush hx hb dX7_feed_18 rfl (fun x18 e18 => ?_)
    refine r_icmp_ne (tgt := 27) hx hb dX7_feed_21 (by decide) (fun c21 => ?_) (fun c21 => ?_)
    · refine lv_aload_n hx hb dX7_feed_27 rfl (lv_at hl 0 rfl) ?_
      refine gt_Model_tape hx hb hts ic_Model hown hK hT g0 (hts _ mw_4_79) dX7_feed_28 (fun q28 hq28 => ?_)
      refine lv_aload_n hx hb dX7_feed_31 rfl (lv_at hl 0 rfl) ?_
      refine gt_Model_taped hx hb hts ic_Model hown hK hT g0 (hts _ mw_4_80) dX7_feed_32 (fun x32 i32 e32 g32 => ?_)
      refine lv_iload_n hx hb dX7_feed_35 rfl (lv_at hl 1 rfl) ?_
      refine as_44 hx hb hK hT hS hq28 (by omega) (by omega) ⟨by omega, by omega⟩ dX7_feed_36 (fun H locs hT hS => ?_)
      obtain ⟨gh36, w36, hq36, hwf, hvis, hT⟩ : ∃ g : Gh, g.2 = (gc gh q28 (upd (gh.2 q28) x32.toNatClampNeg p1)).2 ∧ g.1 = gh.1 ∧ wf z g ∧ vis z g v ∧ TY z (zA z) g H := ⟨_, rfl, rfl, wf_of (eqv_gc (eqv_rf _)) hwf, vis_of (eqv_gc (eqv_rf _)) hvis, hT⟩
      have tl36 := (hvis h0 40 (by rw [g0]; rfl)).trans pr0
      refine lv_aload_n hx hb dX7_feed_37 rfl (lv_at hl 0 rfl) ?_
      refine lv_dup hx hb dX7_feed_38 rfl ?_
      refine gt_Model_taped hx hb hts ic_Model hown hK hT g0 (hts _ mw_4_80) dX7_feed_39 (fun x39 i39 e39 g39 => ?_)
      refine r_iconst hx hb dX7_feed_42 (by decide) (by decide) (fun x42 e42 => ?_)
      refine r_iadd hx hb dX7_feed_43 (by omega) (by omega) (fun x43 e43 => ?_)
      refine pt_Model_taped hx hb hts ic_Model hown hK hT hS g0 (hts _ mw_4_80) (by omega) (by omega) dX7_feed_44 (fun H locs hT hS => ?_)
      obtain ⟨gh44, w44, hwf, hvis2, hT⟩ : ∃ g : Gh, g.1 h0 40 = x43.toInt ∧ wf z g ∧ vis z g (vM v h0 x43.toInt) ∧ TY z (zA z) g H := ⟨_, gs_at _ _ _ _, wf_gs rfl hwf, vis_m1 hvis, hT⟩
      refine lv_aload_n hx hb dX7_feed_47 rfl (lv_at hl 0 rfl) ?_
      refine gt_Model_taped hx hb hts ic_Model hown hK hT g0 (hts _ mw_4_80) dX7_feed_48 (fun x48 i48 e48 g48 => ?_)
      exact rt_i hx hb hr hlk hS ⟨x43.toInt, by unfold ftr; omega, _, hwf, hvis2, hT⟩ dX7_feed_51
    · refine r_bipush hx hb dX7_feed_24 rfl (fun x24 e24 => ?_)
      exact rt_i hx hb hr hlk hS ⟨tl, by unfold ftr; omega, _, hwf, vis_m0 hvis pr0, hT⟩ dX7_feed_26
  · refine r_iconst hx hb dX7_feed_12 (by decide) (by decide) (fun x12 e12 => ?_)
    exact rt_i hx hb hr hlk hS ⟨tl, by unfold ftr; omega, _, hwf, vis_m0 hvis pr0, hT⟩ dX7_feed_13
theorem k_X7_end : cBV yX7_end cX7_end 3 (some .int) 1 := ⟨mw_4_158, mw_4_159, mw_1_8, mw_4_160, ⟨by decide, by decide, by decide⟩⟩
set_option maxHeartbeats 4000000 in
set_option maxRecDepth 100000 in
theorem c_X7_end (l : Launch) (z : Zt) (v : Nat → Nat → Int) (tl : Int) (h0 o0 : Nat) (g0 : zG z h0 = (17, o0)) (p1 : Int32) (pr0 : v h0 40 = tl) : Met l yX7_end (uw yX7_end cX7_end 3 (some .int)) (rmF 2 89) (PcW z [.ref h0, .int p1] (fun H => WX z v H)) (QcI z (fun r H => ∃ t2 : Int, etr tl p1.toInt r.toInt t2 ∧ WX z (vM v h0 t2) H)) 0 0 (zA z) := by
  refine Met.ofW (cc := cX7_end) (maxL := 3) (ret := (some .int)) (by decide) rfl ?_
  intro p e s m args below meth c s₁ B hml hv
  obtain ⟨rfl, hW, hK, hSK⟩ := hv
  have hx := B.exec
  have hb := B.bytes
  have hr := B.returns
  have hts : ∀ w ∈ lw_ok, w.before ([.ref h0, .int p1] : List Value).toArray s = true := fun w hw => atoms_spec (ws := uw yX7_end cX7_end 3 (some .int)) B.pre w (List.mem_cons_of_mem _ hw)
  have hown : s.vm.findClass RX7 = some m.cls := findClass_of_methodNamed B.named
  have hlk := B.notSynchronized
  have hC : CallFix p m c cX7_end 3 s ([.ref h0, .int p1] : List Value).toArray lw_ok RX7 := ⟨hx, hb, hml, hown, hts⟩
  have hS : va_S (zA z) s.heap s.heap [] := va_S.rf
  have hl := lv_entry ([.ref h0, .int p1]) (n := 3) (Nat.le_of_ble_eq_true rfl)
  rw [lg_entry_eq]
  generalize (lg_sl ([.ref h0, .int p1]) ++ List.replicate (3 - (lg_sl ([.ref h0, .int p1])).length) Slot.unset).toArray = ls at hl ⊢
  have hl : lv_has ls 3 [(0, .ref h0), (1, .int p1)] := hl
  show W p l e (rmF 2 89) s m ([.ref h0, .int p1] : List Value).toArray below meth c s.heap [] 0 0 (MQ below (QcI z (fun r H => ∃ t2 : Int, etr tl p1.toInt r.toInt t2 ∧ WX z (vM v h0 t2) H)) ([.ref h0, .int p1] : List Value).toArray s 0 0 (zA z)) (F0 m 0 ls [])
  obtain ⟨gh, hwf, hvis, hT⟩ := hW
  have tl0 := (hvis h0 40 (by rw [g0]; rfl)).trans pr0
  have mx_p1 := i_mx p1
  refine lv_iload_n hx hb dX7_end_0 rfl (lv_at hl 1 rfl) ?_
  refine r_i2l hx hb dX7_end_1 (fun x1 e1 => ?_)
  refine r_lconst0 hx hb dX7_end_2 (fun x2 e2 => ?_)
  refine lv_aload_n hx hb dX7_end_3 rfl (lv_at hl 0 rfl) ?_
  refine gt_Model_taped hx hb hts ic_Model hown hK hT g0 (hts _ mw_4_80) dX7_end_4 (fun x4 i4 e4 g4 => ?_)
  refine r_i2l hx hb dX7_end_7 (fun x7 e7 => ?_)
  refine cl_Si (rest := []) hC hK hSK (c_X7_in l z gh x1 x2 x7) k_X7_in mw_4_154 ⟨rfl, rfl, Nat.le_of_ble_eq_true rfl, Nat.le_of_ble_eq_true rfl⟩ hT rfl hl.1 rfl (Nat.le_of_ble_eq_true rfl) dX7_end_8 ⟨Nat.zero_le _, Nat.zero_le _⟩ hS (fun _ h => h) (fun _ _ h => h) (fun r8 H locs hpo hS => ?_)
  obtain ⟨hT, u8_0, u8_1⟩ := hpo
  refine r_if_ne (tgt := 16) hx hb dX7_end_11 (by decide) (fun c11 => ?_) (fun c11 => ?_)
  · refine lv_aload_n hx hb dX7_end_16 rfl (lv_at hl 0 rfl) ?_
    refine gt_Model_taped hx hb hts ic_Model hown hK hT g0 (hts _ mw_4_80) dX7_end_17 (fun x17 i17 e17 g17 => ?_)
    refine lv_istore_n (lv' := [(2, .int x17), (0, .ref h0), (1, .int p1)]) hx hb dX7_end_20 rfl hl (by decide) rfl (fun ls hl => ?_)
    refine lv_aload_n hx hb dX7_end_21 rfl (lv_at hl 1 rfl) ?_
    refine lv_iload_n hx hb dX7_end_22 rfl (lv_at hl 2 rfl) ?_
    refine pt_Model_taped hx hb hts ic_Model hown hK hT hS g0 (hts _ mw_4_80) (by omega) (by omega) dX7_end_23 (fun H locs hT hS => ?_)
    obtain ⟨gh23, w23, hwf, hvis2, hT⟩ : ∃ g : Gh, g.1 h0 40 = p1.toInt ∧ wf z g ∧ vis z g (vM v h0 p1.toInt) ∧ TY z (zA z) g H := ⟨_, gs_at _ _ _ _, wf_gs rfl hwf, vis_m1 hvis, hT⟩
    refine lv_iload_n hx hb dX7_end_26 rfl (lv_at hl 0 rfl) ?_
    exact rt_i hx hb hr hlk hS ⟨p1.toInt, by unfold etr; omega, _, hwf, hvis2, hT⟩ dX7_end_27
  · refine r_iconst hx hb dX7_end_14 (by decide) (by decide) (fun x14 e14 => ?_)
    exact rt_i hx hb hr hlk hS ⟨tl, by unfold etr; omega, _, hwf, vis_m0 hvis pr0, hT⟩ dX7_end_15
theorem k_X7_needs : cBV yX7_needs cX7_needs 3 none 2 := ⟨mw_4_179, ms_2_0, mw_1_8, mw_4_180, ⟨by decide, by decide, by decide⟩⟩
set_option maxHeartbeats 4000000 in
set_option maxRecDepth 100000 in
theorem c_X7_needs (l : Launch) (z : Zt) (gh : Gh) (h0 o0 : Nat) (g0 : zG z h0 = (17, o0)) (p1 : Int32) (p2 : Int32) (bp1 : 0 ≤ p1.toInt ∧ p1.toInt ≤ 1) (bp2 : 1 ≤ p2.toInt ∧ p2.toInt ≤ 6) : Met l yX7_needs (uw yX7_needs cX7_needs 3 none) (rmF 1 64) (PcW z [.ref h0, .int p1, .int p2] (fun H => TY z (zA z) gh H)) (QcV z (fun H => ∃ gk : Gh, eqv gk gh ∧ TY z (zA z) gk H ∧ (p1.toInt = 0 → gh.1 h0 54 = 0 → gk.1 h0 54 = p2.toInt) ∧ ((p1.toInt ≠ 0 ∨ gh.1 h0 54 ≠ 0) → gk.1 h0 54 = gh.1 h0 54) ∧ (gk.1 h0 52 = gh.1 h0 52) ∧ (gk.1 h0 53 = gh.1 h0 53) ∧ (gk.1 h0 55 = gh.1 h0 55) ∧ (gk.1 h0 56 = gh.1 h0 56) ∧ (gk.2 = gh.2))) 0 0 (zA z) := by
  refine Met.ofW (cc := cX7_needs) (maxL := 3) (ret := none) (by decide) rfl ?_
  intro p e s m args below meth c s₁ B hml hv
  obtain ⟨rfl, hW, hK, hSK⟩ := hv
  have hx := B.exec
  have hb := B.bytes
  have hr := B.returns
  have hts : ∀ w ∈ lw_ok, w.before ([.ref h0, .int p1, .int p2] : List Value).toArray s = true := fun w hw => atoms_spec (ws := uw yX7_needs cX7_needs 3 none) B.pre w (List.mem_cons_of_mem _ hw)
  have hown : s.vm.findClass RX7 = some m.cls := findClass_of_methodNamed B.named
  have hlk := B.notSynchronized
  have hC : CallFix p m c cX7_needs 3 s ([.ref h0, .int p1, .int p2] : List Value).toArray lw_ok RX7 := ⟨hx, hb, hml, hown, hts⟩
  have hS : va_S (zA z) s.heap s.heap [] := va_S.rf
  have hl := lv_entry ([.ref h0, .int p1, .int p2]) (n := 3) (Nat.le_of_ble_eq_true rfl)
  rw [lg_entry_eq]
  generalize (lg_sl ([.ref h0, .int p1, .int p2]) ++ List.replicate (3 - (lg_sl ([.ref h0, .int p1, .int p2])).length) Slot.unset).toArray = ls at hl ⊢
  have hl : lv_has ls 3 [(0, .ref h0), (1, .int p1), (2, .int p2)] := hl
  show W p l e (rmF 1 64) s m ([.ref h0, .int p1, .int p2] : List Value).toArray below meth c s.heap [] 0 0 (MQ below (QcV z (fun H => ∃ gk : Gh, eqv gk gh ∧ TY z (zA z) gk H ∧ (p1.toInt = 0 → gh.1 h0 54 = 0 → gk.1 h0 54 = p2.toInt) ∧ ((p1.toInt ≠ 0 ∨ gh.1 h0 54 ≠ 0) → gk.1 h0 54 = gh.1 h0 54) ∧ (gk.1 h0 52 = gh.1 h0 52) ∧ (gk.1 h0 53 = gh.1 h0 53) ∧ (gk.1 h0 55 = gh.1 h0 55) ∧ (gk.1 h0 56 = gh.1 h0 56) ∧ (gk.2 = gh.2))) ([.ref h0, .int p1, .int p2] : List Value).toArray s 0 0 (zA z)) (F0 m 0 ls [])
  have hT : TY z (zA z) gh s.heap := hW
  have hg1 : eqv gh gh := eqv_rf gh
  refine lv_iload_n hx hb dX7_needs_0 rfl (lv_at hl 1 rfl) ?_
  refine r_if_ne (tgt := 24) hx hb dX7_needs_1 (by decide) (fun c1 => ?_) (fun c1 => ?_)
  · exact rt_v hx hb hr hlk hS ⟨_, hg1, hT, by omega, by omega, by omega, by omega, by omega, by omega, by first | rfl | exact y13⟩ dX7_needs_24
  · refine lv_aload_n hx hb dX7_needs_4 rfl (lv_at hl 0 rfl) ?_
    refine gt_Model_fault hx hb hts ic_Model hown hK hT g0 (hts _ mw_4_85) dX7_needs_5 (fun x5 i5 e5 g5 => ?_)
    refine r_if_ne (tgt := 24) hx hb dX7_needs_8 (by decide) (fun c8 => ?_) (fun c8 => ?_)
    · exact rt_v hx hb hr hlk hS ⟨_, hg1, hT, by omega, by omega, by omega, by omega, by omega, by omega, by first | rfl | exact y13⟩ dX7_needs_24
    · refine lv_aload_n hx hb dX7_needs_11 rfl (lv_at hl 0 rfl) ?_
      refine lv_iload_n hx hb dX7_needs_12 rfl (lv_at hl 2 rfl) ?_
      refine pt_Model_fault hx hb hts ic_Model hown hK hT hS g0 (hts _ mw_4_85) (by omega) (by omega) dX7_needs_13 (fun H locs hT hS => ?_)
      obtain ⟨gk13, w13, hq13, y13, hg1, hT⟩ : ∃ g : Gh, g.1 h0 54 = p2.toInt ∧ (∀ b k, k ≠ 54 → g.1 b k = gh.1 b k) ∧ g.2 = gh.2 ∧ eqv g gh ∧ TY z (zA z) g H := ⟨_, gs_at _ _ _ _, fun b k hk => gs_nk _ _ _ _ hk, rfl, eqv_gs rfl hg1, hT⟩
      have t13_40 := hq13 h0 40 (by decide)
      have t13_52 := hq13 h0 52 (by decide)
      have t13_53 := hq13 h0 53 (by decide)
      have t13_55 := hq13 h0 55 (by decide)
      have t13_56 := hq13 h0 56 (by decide)
      refine lv_aload_n hx hb dX7_needs_16 rfl (lv_at hl 0 rfl) ?_
      refine lv_aload_n hx hb dX7_needs_17 rfl (lv_at hl 0 rfl) ?_
      refine gt_Model_from hx hb hts ic_Model hown hK hT g0 (hts _ mw_4_82) dX7_needs_18 (fun x18 e18 g18 => ?_)
      refine pt_Model_wrongAt hx hb hts ic_Model hown hK hT hS g0 (hts _ mw_4_86) dX7_needs_21 (fun H locs hT hS => ?_)
      exact rt_v hx hb hr hlk hS ⟨_, hg1, hT, by omega, by omega, by omega, by omega, by omega, by omega, by first | rfl | exact y13⟩ dX7_needs_24
theorem k_X7_byteAt : cBV yX7_byteAt cX7_byteAt 2 (some .int) 1 := ⟨mw_4_171, ms_1_15, mw_1_8, mw_4_172, ⟨by decide, by decide, by decide⟩⟩
set_option maxHeartbeats 4000000 in
set_option maxRecDepth 100000 in
theorem c_X7_byteAt (l : Launch) (z : Zt) (gh : Gh) (h0 o0 : Nat) (g0 : zG z h0 = (17, o0)) (p1 : Int32) (bp1 : 0 ≤ p1.toInt ∧ p1.toInt ≤ 200) (pr0 : zu z) : Met l yX7_byteAt (uw yX7_byteAt cX7_byteAt 2 (some .int)) (rmF 1 64) (PcW z [.ref h0, .int p1] (fun H => TY z (zA z) gh H)) (QcI z (fun r H => TY z (zA z) gh H ∧ (-1 ≤ r.toInt ∧ r.toInt ≤ 127) ∧ (r.toInt ≠ -1 → p1.toInt < gh.1 h0 40) ∧ (p1.toInt < gh.1 h0 40 → ∀ q, zG z q = (44, h0) → r = gh.2 q p1.toNatClampNeg) ∧ (p1.toInt < gh.1 h0 40 → 0 ≤ r.toInt))) 0 0 (zA z) := by
  refine Met.ofW (cc := cX7_byteAt) (maxL := 2) (ret := (some .int)) (by decide) rfl ?_
  intro p e s m args below meth c s₁ B hml hv
  obtain ⟨rfl, hW, hK, hSK⟩ := hv
  have hx := B.exec
  have hb := B.bytes
  have hr := B.returns
  have hts : ∀ w ∈ lw_ok, w.before ([.ref h0, .int p1] : List Value).toArray s = true := fun w hw => atoms_spec (ws := uw yX7_byteAt cX7_byteAt 2 (some .int)) B.pre w (List.mem_cons_of_mem _ hw)
  have hown : s.vm.findClass RX7 = some m.cls := findClass_of_methodNamed B.named
  have hlk := B.notSynchronized
  have hC : CallFix p m c cX7_byteAt 2 s ([.ref h0, .int p1] : List Value).toArray lw_ok RX7 := ⟨hx, hb, hml, hown, hts⟩
  have hS : va_S (zA z) s.heap s.heap [] := va_S.rf
  have hl := lv_entry ([.ref h0, .int p1]) (n := 2) (Nat.le_of_ble_eq_true rfl)
  rw [lg_entry_eq]
  generalize (lg_sl ([.ref h0, .int p1]) ++ List.replicate (2 - (lg_sl ([.ref h0, .int p1])).length) Slot.unset).toArray = ls at hl ⊢
  have hl : lv_has ls 2 [(0, .ref h0), (1, .int p1)] := hl
  show W p l e (rmF 1 64) s m ([.ref h0, .int p1] : List Value).toArray below meth c s.heap [] 0 0 (MQ below (QcI z (fun r H => TY z (zA z) gh H ∧ (-1 ≤ r.toInt ∧ r.toInt ≤ 127) ∧ (r.toInt ≠ -1 → p1.toInt < gh.1 h0 40) ∧ (p1.toInt < gh.1 h0 40 → ∀ q, zG z q = (44, h0) → r = gh.2 q p1.toNatClampNeg) ∧ (p1.toInt < gh.1 h0 40 → 0 ≤ r.toInt))) ([.ref h0, .int p1] : List Value).toArray s 0 0 (zA z)) (F0 m 0 ls [])
  have hT : TY z (zA z) gh s.heap := hW
  refine lv_iload_n hx hb dX7_byteAt_0 rfl (lv_at hl 1 rfl) ?_
  refine lv_aload_n hx hb dX7_byteAt_1 rfl (lv_at hl 0 rfl) ?_
  refine gt_Model_taped hx hb hts ic_Model hown hK hT g0 (hts _ mw_4_80) dX7_byteAt_2 (fun x2 i2 e2 g2 => ?_)
  refine r_icmp_ge (tgt := 17) hx hb dX7_byteAt_5 (by decide) (fun c5 => ?_) (fun c5 => ?_)
  · refine r_iconst hx hb dX7_byteAt_17 (by decide) (by decide) (fun x17 e17 => ?_)
    exact rt_i hx hb hr hlk hS ⟨hT, by omega, by omega, by
      intro h1 q9 h9
      first
        | (exfalso; omega)
        | (rw [zu_at pr0 rfl h9 hq9]; exact i13), by omega⟩ dX7_byteAt_18
  · refine lv_aload_n hx hb dX7_byteAt_8 rfl (lv_at hl 0 rfl) ?_
    refine gt_Model_tape hx hb hts ic_Model hown hK hT g0 (hts _ mw_4_79) dX7_byteAt_9 (fun q9 hq9 => ?_)
    refine lv_iload_n hx hb dX7_byteAt_12 rfl (lv_at hl 1 rfl) ?_
    refine al_44 hx hb hK hT hq9 (by omega) (by omega) dX7_byteAt_13 (fun x13 i13 e13 => ?_)
    have n13 := ix_nat (i := p1) (by omega)
    unfold p44 at e13
    refine lv_goto (tgt := 18) hx hb dX7_byteAt_14 (by decide) ?_
    exact rt_i hx hb hr hlk hS ⟨hT, by omega, by omega, by
      intro h1 q9 h9
      first
        | (exfalso; omega)
        | (rw [zu_at pr0 rfl h9 hq9]; exact i13), by omega⟩ dX7_byteAt_18
theorem k_X7_is : cBV yX7_is cX7_is 4 (some .boolean) 3 := ⟨mw_4_191, ms_2_3, mw_1_8, mw_4_192, ⟨by decide, by decide, by decide⟩⟩
set_option maxHeartbeats 4000000 in
set_option maxRecDepth 100000 in
theorem c_X7_is (l : Launch) (z : Zt) (gh : Gh) (h0 o0 : Nat) (g0 : zG z h0 = (17, o0)) (p1 : Int32) (p2 : Int32) (p3 : Int32) (pr0 : zu z) : Met l yX7_is (uw yX7_is cX7_is 4 (some .boolean)) (rmF 2 85) (PcW z [.ref h0, .int p1, .int p2, .int p3] (fun H => TY z (zA z) gh H)) (QcI z (fun r H => TY z (zA z) gh H ∧ (0 ≤ r.toInt ∧ r.toInt ≤ 1))) 0 0 (zA z) := by
  refine Met.ofW (cc := cX7_is) (maxL := 4) (ret := (some .boolean)) (by decide) rfl ?_
  intro p e s m args below meth c s₁ B hml hv
  obtain ⟨rfl, hW, hK, hSK⟩ := hv
  have hx := B.exec
  have hb := B.bytes
  have hr := B.returns
  have hts : ∀ w ∈ lw_ok, w.before ([.ref h0, .int p1, .int p2, .int p3] : List Value).toArray s = true := fun w hw => atoms_spec (ws := uw yX7_is cX7_is 4 (some .boolean)) B.pre w (List.mem_cons_of_mem _ hw)
  have hown : s.vm.findClass RX7 = some m.cls := findClass_of_methodNamed B.named
  have hlk := B.notSynchronized
  have hC : CallFix p m c cX7_is 4 s ([.ref h0, .int p1, .int p2, .int p3] : List Value).toArray lw_ok RX7 := ⟨hx, hb, hml, hown, hts⟩
  have hS : va_S (zA z) s.heap s.heap [] := va_S.rf
  have hl := lv_entry ([.ref h0, .int p1, .int p2, .int p3]) (n := 4) (Nat.le_of_ble_eq_true rfl)
  rw [lg_entry_eq]
  generalize (lg_sl ([.ref h0, .int p1, .int p2, .int p3]) ++ List.replicate (4 - (lg_sl ([.ref h0, .int p1, .int p2, .int p3])).length) Slot.unset).toArray = ls at hl ⊢
  have hl : lv_has ls 4 [(0, .ref h0), (1, .int p1), (2, .int p2), (3, .int p3)] := hl
  show W p l e (rmF 2 85) s m ([.ref h0, .int p1, .int p2, .int p3] : List Value).toArray below meth c s.heap [] 0 0 (MQ below (QcI z (fun r H => TY z (zA z) gh H ∧ (0 ≤ r.toInt ∧ r.toInt ≤ 1))) ([.ref h0, .int p1, .int p2, .int p3] : List Value).toArray s 0 0 (zA z)) (F0 m 0 ls [])
  have hT : TY z (zA z) gh s.heap := hW
  have mx_p1 := i_mx p1
  have mx_p2 := i_mx p2
  have mx_p3 := i_mx p3
  refine lv_aload_n hx hb dX7_is_0 rfl (lv_at hl 0 rfl) ?_
  refine gt_Model_pos hx hb hts ic_Model hown hK hT g0 (hts _ mw_4_81) dX7_is_1 (fun x1 i1 e1 g1 => ?_)
  refine lv_aload_n hx hb dX7_is_4 rfl (lv_at hl 0 rfl) ?_
  refine gt_Model_from hx hb hts ic_Model hown hK hT g0 (hts _ mw_4_82) dX7_is_5 (fun x5 e5 g5 => ?_)
  refine r_isub hx hb dX7_is_8 (by omega) (by omega) (fun x8 e8 => ?_)
  refine lv_iload_n hx hb dX7_is_9 rfl (lv_at hl 1 rfl) ?_
  have J43 : ∀ (ls : Array Slot) (H : Heap) (locs : List Loc), TY z (zA z) gh H → va_S (zA z) s.heap H locs → lv_has ls 4 [(0, .ref h0), (1, .int p1), (2, .int p2), (3, .int p3)] → W p l e (rmF 2 85) s m ([.ref h0, .int p1, .int p2, .int p3] : List Value).toArray below meth c H locs 0 0 (MQ below (QcI z (fun r H => TY z (zA z) gh H ∧ (0 ≤ r.toInt ∧ r.toInt ≤ 1))) ([.ref h0, .int p1, .int p2, .int p3] : List Value).toArray s 0 0 (zA z)) (F0 m 43 ls []) := by
    intro ls H locs hT hS hl
    refine r_iconst hx hb dX7_is_43 (by decide) (by decide) (fun x43 e43 => ?_)
    exact rt_z hx hb hr hlk hS (by omega) (by omega) ⟨hT, by omega⟩ dX7_is_44
  refine r_icmp_ne (tgt := 43) hx hb dX7_is_10 (by decide) (fun c10 => ?_) (fun c10 => ?_)
  · exact J43 ls _ _ hT hS (lv_sub hl [0, 1, 2, 3] rfl)
  · refine lv_aload_n hx hb dX7_is_13 rfl (lv_at hl 0 rfl) ?_
    refine lv_aload_n hx hb dX7_is_14 rfl (lv_at hl 0 rfl) ?_
    refine gt_Model_from hx hb hts ic_Model hown hK hT g0 (hts _ mw_4_82) dX7_is_15 (fun x15 e15 g15 => ?_)
    refine cl_Vi (rest := []) hC hK hSK (c_X7_byteAt l z gh h0 (o0) g0 x15 (by omega) pr0) k_X7_byteAt mw_4_169 ⟨rfl, rfl, Nat.le_of_ble_eq_true rfl, Nat.le_of_ble_eq_true rfl⟩ (rv_Model hK hT g0) hT rfl hl.1 rfl (Nat.le_of_ble_eq_true rfl) dX7_is_18 ⟨Nat.zero_le _, Nat.zero_le _⟩ hS (fun _ h => h) (fun _ _ h => h) (fun r18 H locs hpo hS => ?_)
    obtain ⟨hT, u18_0, u18_1, u18_2, u18_3⟩ := hpo
    refine lv_iload_n hx hb dX7_is_21 rfl (lv_at hl 2 rfl) ?_
    refine r_icmp_ne (tgt := 43) hx hb dX7_is_22 (by decide) (fun c22 => ?_) (fun c22 => ?_)
    · exact J43 ls _ _ hT hS (lv_sub hl [0, 1, 2, 3] rfl)
    · refine lv_aload_n hx hb dX7_is_25 rfl (lv_at hl 0 rfl) ?_
      refine lv_aload_n hx hb dX7_is_26 rfl (lv_at hl 0 rfl) ?_
      refine gt_Model_from hx hb hts ic_Model hown hK hT g0 (hts _ mw_4_82) dX7_is_27 (fun x27 e27 g27 => ?_)
      refine r_iconst hx hb dX7_is_30 (by decide) (by decide) (fun x30 e30 => ?_)
      refine r_iadd hx hb dX7_is_31 (by omega) (by omega) (fun x31 e31 => ?_)
      refine cl_Vi (rest := []) hC hK hSK (c_X7_byteAt l z gh h0 (o0) g0 x31 (by omega) pr0) k_X7_byteAt mw_4_169 ⟨rfl, rfl, Nat.le_of_ble_eq_true rfl, Nat.le_of_ble_eq_true rfl⟩ (rv_Model hK hT g0) hT rfl hl.1 rfl (Nat.le_of_ble_eq_true rfl) dX7_is_32 ⟨Nat.zero_le _, Nat.zero_le _⟩ hS (fun _ h => h) (fun _ _ h => h) (fun r32 H locs hpo hS => ?_)
      obtain ⟨hT, u32_0, u32_1, u32_2, u32_3⟩ := hpo
      refine lv_iload_n hx hb dX7_is_35 rfl (lv_at hl 3 rfl) ?_
      refine r_icmp_ne (tgt := 43) hx hb dX7_is_36 (by decide) (fun c36 => ?_) (fun c36 => ?_)
      · exact J43 ls _ _ hT hS (lv_sub hl [0, 1, 2, 3] rfl)
      · refine r_iconst hx hb dX7_is_39 (by decide) (by decide) (fun x39 e39 => ?_)
        refine lv_goto (tgt := 44) hx hb dX7_is_40 (by decide) ?_
        exact rt_z hx hb hr hlk hS (by omega) (by omega) ⟨hT, by omega⟩ dX7_is_44
theorem k_X7_ends : cBV yX7_ends cX7_ends 6 (some .boolean) 5 := ⟨mw_4_195, ms_2_4, mw_1_8, mw_4_196, ⟨by decide, by decide, by decide⟩⟩
set_option maxHeartbeats 4000000 in
set_option maxRecDepth 100000 in
theorem c_X7_ends (l : Launch) (z : Zt) (gh : Gh) (h0 o0 : Nat) (g0 : zG z h0 = (17, o0)) (p1 : Int32) (p2 : Int32) (p3 : Int32) (p4 : Int32) (p5 : Int32) (pr0 : zu z) : Met l yX7_ends (uw yX7_ends cX7_ends 6 (some .boolean)) (rmF 2 85) (PcW z [.ref h0, .int p1, .int p2, .int p3, .int p4, .int p5] (fun H => TY z (zA z) gh H)) (QcI z (fun r H => TY z (zA z) gh H ∧ (0 ≤ r.toInt ∧ r.toInt ≤ 1))) 0 0 (zA z) := by
  refine Met.ofW (cc := cX7_ends) (maxL := 6) (ret := (some .boolean)) (by decide) rfl ?_
  intro p e s m args below meth c s₁ B hml hv
  obtain ⟨rfl, hW, hK, hSK⟩ := hv
  have hx := B.exec
  have hb := B.bytes
  have hr := B.returns
  have hts : ∀ w ∈ lw_ok, w.before ([.ref h0, .int p1, .int p2, .int p3, .int p4, .int p5] : List Value).toArray s = true := fun w hw => atoms_spec (ws := uw yX7_ends cX7_ends 6 (some .boolean)) B.pre w (List.mem_cons_of_mem _ hw)
  have hown : s.vm.findClass RX7 = some m.cls := findClass_of_methodNamed B.named
  have hlk := B.notSynchronized
  have hC : CallFix p m c cX7_ends 6 s ([.ref h0, .int p1, .int p2, .int p3, .int p4, .int p5] : List Value).toArray lw_ok RX7 := ⟨hx, hb, hml, hown, hts⟩
  have hS : va_S (zA z) s.heap s.heap [] := va_S.rf
  have hl := lv_entry ([.ref h0, .int p1, .int p2, .int p3, .int p4, .int p5]) (n := 6) (Nat.le_of_ble_eq_true rfl)
  rw [lg_entry_eq]
  generalize (lg_sl ([.ref h0, .int p1, .int p2, .int p3, .int p4, .int p5]) ++ List.replicate (6 - (lg_sl ([.ref h0, .int p1, .int p2, .int p3, .int p4, .int p5])).length) Slot.unset).toArray = ls at hl ⊢
  have hl : lv_has ls 6 [(0, .ref h0), (1, .int p1), (2, .int p2), (3, .int p3), (4, .int p4), (5, .int p5)] := hl
  show W p l e (rmF 2 85) s m ([.ref h0, .int p1, .int p2, .int p3, .int p4, .int p5] : List Value).toArray below meth c s.heap [] 0 0 (MQ below (QcI z (fun r H => TY z (zA z) gh H ∧ (0 ≤ r.toInt ∧ r.toInt ≤ 1))) ([.ref h0, .int p1, .int p2, .int p3, .int p4, .int p5] : List Value).toArray s 0 0 (zA z)) (F0 m 0 ls [])
  have hT : TY z (zA z) gh s.heap := hW
  have mx_p1 := i_mx p1
  have mx_p2 := i_mx p2
  have mx_p3 := i_mx p3
  have mx_p4 := i_mx p4
  have mx_p5 := i_mx p5
  refine lv_aload_n hx hb dX7_ends_0 rfl (lv_at hl 0 rfl) ?_
  refine lv_aload_n hx hb dX7_ends_1 rfl (lv_at hl 0 rfl) ?_
  refine gt_Model_from hx hb hts ic_Model hown hK hT g0 (hts _ mw_4_82) dX7_ends_2 (fun x2 e2 g2 => ?_)
  refine r_iconst hx hb dX7_ends_5 (by decide) (by decide) (fun x5 e5 => ?_)
  refine r_iadd hx hb dX7_ends_6 (by omega) (by omega) (fun x6 e6 => ?_)
  refine cl_Vi (rest := []) hC hK hSK (c_X7_byteAt l z gh h0 (o0) g0 x6 (by omega) pr0) k_X7_byteAt mw_4_169 ⟨rfl, rfl, Nat.le_of_ble_eq_true rfl, Nat.le_of_ble_eq_true rfl⟩ (rv_Model hK hT g0) hT rfl hl.1 rfl (Nat.le_of_ble_eq_true rfl) dX7_ends_7 ⟨Nat.zero_le _, Nat.zero_le _⟩ hS (fun _ h => h) (fun _ _ h => h) (fun r7 H locs hpo hS => ?_)
  obtain ⟨hT, u7_0, u7_1, u7_2, u7_3⟩ := hpo
  refine lv_iload_n hx hb dX7_ends_10 rfl (lv_at hl 1 rfl) ?_
  have J95 : ∀ (ls : Array Slot) (H : Heap) (locs : List Loc), TY z (zA z) gh H → va_S (zA z) s.heap H locs → lv_has ls 6 [(0, .ref h0), (1, .int p1), (2, .int p2), (3, .int p3), (4, .int p4), (5, .int p5)] → W p l e (rmF 2 85) s m ([.ref h0, .int p1, .int p2, .int p3, .int p4, .int p5] : List Value).toArray below meth c H locs 0 0 (MQ below (QcI z (fun r H => TY z (zA z) gh H ∧ (0 ≤ r.toInt ∧ r.toInt ≤ 1))) ([.ref h0, .int p1, .int p2, .int p3, .int p4, .int p5] : List Value).toArray s 0 0 (zA z)) (F0 m 95 ls []) := by
    intro ls H locs hT hS hl
    refine r_iconst hx hb dX7_ends_95 (by decide) (by decide) (fun x95 e95 => ?_)
    exact rt_z hx hb hr hlk hS (by omega) (by omega) ⟨hT, by omega⟩ dX7_ends_96
  refine r_icmp_ne (tgt := 95) hx hb dX7_ends_11 (by decide) (fun c11 => ?_) (fun c11 => ?_)
  · exact J95 ls _ _ hT hS (lv_sub hl [0, 1, 2, 3, 4, 5] rfl)
  · refine lv_iload_n hx hb dX7_ends_14 rfl (lv_at hl 2 rfl) ?_
    have J32 : ∀ (ls : Array Slot) (H : Heap) (locs : List Loc), (-1 ≤ p2.toInt ∧ p2.toInt ≤ 127) → TY z (zA z) gh H → va_S (zA z) s.heap H locs → lv_has ls 6 [(0, .ref h0), (1, .int p1), (2, .int p2), (3, .int p3), (4, .int p4), (5, .int p5)] → W p l e (rmF 2 85) s m ([.ref h0, .int p1, .int p2, .int p3, .int p4, .int p5] : List Value).toArray below meth c H locs 0 0 (MQ below (QcI z (fun r H => TY z (zA z) gh H ∧ (0 ≤ r.toInt ∧ r.toInt ≤ 1))) ([.ref h0, .int p1, .int p2, .int p3, .int p4, .int p5] : List Value).toArray s 0 0 (zA z)) (F0 m 32 ls []) := by
      intro ls H locs j32_p2 hT hS hl
      refine lv_iload_n hx hb dX7_ends_32 rfl (lv_at hl 3 rfl) ?_
      have J50 : ∀ (ls : Array Slot) (H : Heap) (locs : List Loc), (-1 ≤ p3.toInt ∧ p3.toInt ≤ 127) → TY z (zA z) gh H → va_S (zA z) s.heap H locs → lv_has ls 6 [(0, .ref h0), (1, .int p1), (2, .int p2), (3, .int p3), (4, .int p4), (5, .int p5)] → W p l e (rmF 2 85) s m ([.ref h0, .int p1, .int p2, .int p3, .int p4, .int p5] : List Value).toArray below meth c H locs 0 0 (MQ below (QcI z (fun r H => TY z (zA z) gh H ∧ (0 ≤ r.toInt ∧ r.toInt ≤ 1))) ([.ref h0, .int p1, .int p2, .int p3, .int p4, .int p5] : List Value).toArray s 0 0 (zA z)) (F0 m 50 ls []) := by
        intro ls H locs j50_p3 hT hS hl
        refine lv_iload hx hb dX7_ends_50 (lv_at hl 4 rfl) ?_
        have J70 : ∀ (ls : Array Slot) (H : Heap) (locs : List Loc), (-1 ≤ p4.toInt ∧ p4.toInt ≤ 127) → TY z (zA z) gh H → va_S (zA z) s.heap H locs → lv_has ls 6 [(0, .ref h0), (1, .int p1), (2, .int p2), (3, .int p3), (4, .int p4), (5, .int p5)] → W p l e (rmF 2 85) s m ([.ref h0, .int p1, .int p2, .int p3, .int p4, .int p5] : List Value).toArray below meth c H locs 0 0 (MQ below (QcI z (fun r H => TY z (zA z) gh H ∧ (0 ≤ r.toInt ∧ r.toInt ≤ 1))) ([.ref h0, .int p1, .int p2, .int p3, .int p4, .int p5] : List Value).toArray s 0 0 (zA z)) (F0 m 70 ls []) := by
          intro ls H locs j70_p4 hT hS hl
          refine lv_iload hx hb dX7_ends_70 (lv_at hl 5 rfl) ?_
          have J91 : ∀ (ls : Array Slot) (H : Heap) (locs : List Loc), (-1 ≤ p5.toInt ∧ p5.toInt ≤ 127) → TY z (zA z) gh H → va_S (zA z) s.heap H locs → lv_has ls 6 [(0, .ref h0), (1, .int p1), (2, .int p2), (3, .int p3), (4, .int p4), (5, .int p5)] → W p l e (rmF 2 85) s m ([.ref h0, .int p1, .int p2, .int p3, .int p4, .int p5] : List Value).toArray below meth c H locs 0 0 (MQ below (QcI z (fun r H => TY z (zA z) gh H ∧ (0 ≤ r.toInt ∧ r.toInt ≤ 1))) ([.ref h0, .int p1, .int p2, .int p3, .int p4, .int p5] : List Value).toArray s 0 0 (zA z)) (F0 m 91 ls []) := by
            intro ls H locs j91_p5 hT hS hl
            refine r_iconst hx hb dX7_ends_91 (by decide) (by decide) (fun x91 e91 => ?_)
            refine lv_goto (tgt := 96) hx hb dX7_ends_92 (by decide) ?_
            exact rt_z hx hb hr hlk hS (by omega) (by omega) ⟨hT, by omega⟩ dX7_ends_96
          refine r_if_eq (tgt := 91) hx hb dX7_ends_72 (by decide) (fun c72 => ?_) (fun c72 => ?_)
          · exact J91 ls _ _ (by omega) hT hS (lv_sub hl [0, 1, 2, 3, 4, 5] rfl)
          · refine lv_aload_n hx hb dX7_ends_75 rfl (lv_at hl 0 rfl) ?_
            refine lv_aload_n hx hb dX7_ends_76 rfl (lv_at hl 0 rfl) ?_
            refine gt_Model_from hx hb hts ic_Model hown hK hT g0 (hts _ mw_4_82) dX7_ends_77 (fun x77 e77 g77 => ?_)
            refine r_bipush hx hb dX7_ends_80 rfl (fun x80 e80 => ?_)
            refine r_iadd hx hb dX7_ends_82 (by omega) (by omega) (fun x82 e82 => ?_)
            refine cl_Vi (rest := []) hC hK hSK (c_X7_byteAt l z gh h0 (o0) g0 x82 (by omega) pr0) k_X7_byteAt mw_4_169 ⟨rfl, rfl, Nat.le_of_ble_eq_true rfl, Nat.le_of_ble_eq_true rfl⟩ (rv_Model hK hT g0) hT rfl hl.1 rfl (Nat.le_of_ble_eq_true rfl) dX7_ends_83 ⟨Nat.zero_le _, Nat.zero_le _⟩ hS (fun _ h => h) (fun _ _ h => h) (fun r83 H locs hpo hS => ?_)
            obtain ⟨hT, u83_0, u83_1, u83_2, u83_3⟩ := hpo
            refine lv_iload hx hb dX7_ends_86 (lv_at hl 5 rfl) ?_
            refine r_icmp_ne (tgt := 95) hx hb dX7_ends_88 (by decide) (fun c88 => ?_) (fun c88 => ?_)
            · exact J95 ls _ _ hT hS (lv_sub hl [0, 1, 2, 3, 4, 5] rfl)
            · exact J91 ls _ _ (by omega) hT hS (lv_sub hl [0, 1, 2, 3, 4, 5] rfl)
        refine r_if_eq (tgt := 70) hx hb dX7_ends_52 (by decide) (fun c52 => ?_) (fun c52 => ?_)
        · exact J70 ls _ _ (by omega) hT hS (lv_sub hl [0, 1, 2, 3, 4, 5] rfl)
        · refine lv_aload_n hx hb dX7_ends_55 rfl (lv_at hl 0 rfl) ?_
          refine lv_aload_n hx hb dX7_ends_56 rfl (lv_at hl 0 rfl) ?_
          refine gt_Model_from hx hb hts ic_Model hown hK hT g0 (hts _ mw_4_82) dX7_ends_57 (fun x57 e57 g57 => ?_)
          refine r_iconst hx hb dX7_ends_60 (by decide) (by decide) (fun x60 e60 => ?_)
          refine r_iadd hx hb dX7_ends_61 (by omega) (by omega) (fun x61 e61 => ?_)
          refine cl_Vi (rest := []) hC hK hSK (c_X7_byteAt l z gh h0 (o0) g0 x61 (by omega) pr0) k_X7_byteAt mw_4_169 ⟨rfl, rfl, Nat.le_of_ble_eq_true rfl, Nat.le_of_ble_eq_true rfl⟩ (rv_Model hK hT g0) hT rfl hl.1 rfl (Nat.le_of_ble_eq_true rfl) dX7_ends_62 ⟨Nat.zero_le _, Nat.zero_le _⟩ hS (fun _ h => h) (fun _ _ h => h) (fun r62 H locs hpo hS => ?_)
          obtain ⟨hT, u62_0, u62_1, u62_2, u62_3⟩ := hpo
          refine lv_iload hx hb dX7_ends_65 (lv_at hl 4 rfl) ?_
          refine r_icmp_ne (tgt := 95) hx hb dX7_ends_67 (by decide) (fun c67 => ?_) (fun c67 => ?_)
          · exact J95 ls _ _ hT hS (lv_sub hl [0, 1, 2, 3, 4, 5] rfl)
          · exact J70 ls _ _ (by omega) hT hS (lv_sub hl [0, 1, 2, 3, 4, 5] rfl)
      refine r_if_eq (tgt := 50) hx hb dX7_ends_33 (by decide) (fun c33 => ?_) (fun c33 => ?_)
      · exact J50 ls _ _ (by omega) hT hS (lv_sub hl [0, 1, 2, 3, 4, 5] rfl)
      · refine lv_aload_n hx hb dX7_ends_36 rfl (lv_at hl 0 rfl) ?_
        refine lv_aload_n hx hb dX7_ends_37 rfl (lv_at hl 0 rfl) ?_
        refine gt_Model_from hx hb hts ic_Model hown hK hT g0 (hts _ mw_4_82) dX7_ends_38 (fun x38 e38 g38 => ?_)
        refine r_iconst hx hb dX7_ends_41 (by decide) (by decide) (fun x41 e41 => ?_)
        refine r_iadd hx hb dX7_ends_42 (by omega) (by omega) (fun x42 e42 => ?_)
        refine cl_Vi (rest := []) hC hK hSK (c_X7_byteAt l z gh h0 (o0) g0 x42 (by omega) pr0) k_X7_byteAt mw_4_169 ⟨rfl, rfl, Nat.le_of_ble_eq_true rfl, Nat.le_of_ble_eq_true rfl⟩ (rv_Model hK hT g0) hT rfl hl.1 rfl (Nat.le_of_ble_eq_true rfl) dX7_ends_43 ⟨Nat.zero_le _, Nat.zero_le _⟩ hS (fun _ h => h) (fun _ _ h => h) (fun r43 H locs hpo hS => ?_)
        obtain ⟨hT, u43_0, u43_1, u43_2, u43_3⟩ := hpo
        refine lv_iload_n hx hb dX7_ends_46 rfl (lv_at hl 3 rfl) ?_
        refine r_icmp_ne (tgt := 95) hx hb dX7_ends_47 (by decide) (fun c47 => ?_) (fun c47 => ?_)
        · exact J95 ls _ _ hT hS (lv_sub hl [0, 1, 2, 3, 4, 5] rfl)
        · exact J50 ls _ _ (by omega) hT hS (lv_sub hl [0, 1, 2, 3, 4, 5] rfl)
    refine r_if_eq (tgt := 32) hx hb dX7_ends_15 (by decide) (fun c15 => ?_) (fun c15 => ?_)
    · exact J32 ls _ _ (by omega) hT hS (lv_sub hl [0, 1, 2, 3, 4, 5] rfl)
    · refine lv_aload_n hx hb dX7_ends_18 rfl (lv_at hl 0 rfl) ?_
      refine lv_aload_n hx hb dX7_ends_19 rfl (lv_at hl 0 rfl) ?_
      refine gt_Model_from hx hb hts ic_Model hown hK hT g0 (hts _ mw_4_82) dX7_ends_20 (fun x20 e20 g20 => ?_)
      refine r_iconst hx hb dX7_ends_23 (by decide) (by decide) (fun x23 e23 => ?_)
      refine r_iadd hx hb dX7_ends_24 (by omega) (by omega) (fun x24 e24 => ?_)
      refine cl_Vi (rest := []) hC hK hSK (c_X7_byteAt l z gh h0 (o0) g0 x24 (by omega) pr0) k_X7_byteAt mw_4_169 ⟨rfl, rfl, Nat.le_of_ble_eq_true rfl, Nat.le_of_ble_eq_true rfl⟩ (rv_Model hK hT g0) hT rfl hl.1 rfl (Nat.le_of_ble_eq_true rfl) dX7_ends_25 ⟨Nat.zero_le _, Nat.zero_le _⟩ hS (fun _ h => h) (fun _ _ h => h) (fun r25 H locs hpo hS => ?_)
      obtain ⟨hT, u25_0, u25_1, u25_2, u25_3⟩ := hpo
      refine lv_iload_n hx hb dX7_ends_28 rfl (lv_at hl 2 rfl) ?_
      refine r_icmp_ne (tgt := 95) hx hb dX7_ends_29 (by decide) (fun c29 => ?_) (fun c29 => ?_)
      · exact J95 ls _ _ hT hS (lv_sub hl [0, 1, 2, 3, 4, 5] rfl)
      · exact J32 ls _ _ (by omega) hT hS (lv_sub hl [0, 1, 2, 3, 4, 5] rfl)
theorem k_X7_lineNow : cBV yX7_lineNow cX7_lineNow 1 (some .int) 0 := ⟨mw_4_187, ms_2_2, mw_1_8, mw_4_188, ⟨by decide, by decide, by decide⟩⟩
set_option maxHeartbeats 4000000 in
set_option maxRecDepth 100000 in
theorem c_X7_lineNow (l : Launch) (z : Zt) (gh : Gh) (h0 o0 : Nat) (g0 : zG z h0 = (17, o0)) (pr0 : zu z) : Met l yX7_lineNow (uw yX7_lineNow cX7_lineNow 1 (some .int)) (rmF 3 110) (PcW z [.ref h0] (fun H => TY z (zA z) gh H)) (QcI z (fun r H => TY z (zA z) gh H ∧ (-4 ≤ r.toInt ∧ r.toInt ≤ 5) ∧ (0 ≤ r.toInt ∨ r.toInt = -4))) 0 0 (zA z) := by
  refine Met.ofW (cc := cX7_lineNow) (maxL := 1) (ret := (some .int)) (by decide) rfl ?_
  intro p e s m args below meth c s₁ B hml hv
  obtain ⟨rfl, hW, hK, hSK⟩ := hv
  have hx := B.exec
  have hb := B.bytes
  have hr := B.returns
  have hts : ∀ w ∈ lw_ok, w.before ([.ref h0] : List Value).toArray s = true := fun w hw => atoms_spec (ws := uw yX7_lineNow cX7_lineNow 1 (some .int)) B.pre w (List.mem_cons_of_mem _ hw)
  have hown : s.vm.findClass RX7 = some m.cls := findClass_of_methodNamed B.named
  have hlk := B.notSynchronized
  have hC : CallFix p m c cX7_lineNow 1 s ([.ref h0] : List Value).toArray lw_ok RX7 := ⟨hx, hb, hml, hown, hts⟩
  have hS : va_S (zA z) s.heap s.heap [] := va_S.rf
  have hl := lv_entry ([.ref h0]) (n := 1) (Nat.le_of_ble_eq_true rfl)
  rw [lg_entry_eq]
  generalize (lg_sl ([.ref h0]) ++ List.replicate (1 - (lg_sl ([.ref h0])).length) Slot.unset).toArray = ls at hl ⊢
  have hl : lv_has ls 1 [(0, .ref h0)] := hl
  show W p l e (rmF 3 110) s m ([.ref h0] : List Value).toArray below meth c s.heap [] 0 0 (MQ below (QcI z (fun r H => TY z (zA z) gh H ∧ (-4 ≤ r.toInt ∧ r.toInt ≤ 5) ∧ (0 ≤ r.toInt ∨ r.toInt = -4))) ([.ref h0] : List Value).toArray s 0 0 (zA z)) (F0 m 0 ls [])
  have hT : TY z (zA z) gh s.heap := hW
  refine lv_aload_n hx hb dX7_lineNow_0 rfl (lv_at hl 0 rfl) ?_
  refine r_iconst hx hb dX7_lineNow_1 (by decide) (by decide) (fun x1 e1 => ?_)
  refine r_bipush hx hb dX7_lineNow_2 rfl (fun x2 e2 => ?_)
  refine r_bipush hx hb dX7_lineNow_4 rfl (fun x4 e4 => ?_)
  refine cl_Vi (rest := []) hC hK hSK (c_X7_is l z gh h0 (o0) g0 x1 x2 x4 pr0) k_X7_is mw_4_189 ⟨rfl, rfl, Nat.le_of_ble_eq_true rfl, Nat.le_of_ble_eq_true rfl⟩ (rv_Model hK hT g0) hT rfl hl.1 rfl (Nat.le_of_ble_eq_true rfl) dX7_lineNow_6 ⟨Nat.zero_le _, Nat.zero_le _⟩ hS (fun _ h => h) (fun _ _ h => h) (fun r6 H locs hpo hS => ?_)
  obtain ⟨hT, u6_0⟩ := hpo
  have J29 : ∀ (ls : Array Slot) (H : Heap) (locs : List Loc), TY z (zA z) gh H → va_S (zA z) s.heap H locs → lv_has ls 1 [(0, .ref h0)] → W p l e (rmF 3 110) s m ([.ref h0] : List Value).toArray below meth c H locs 0 0 (MQ below (QcI z (fun r H => TY z (zA z) gh H ∧ (-4 ≤ r.toInt ∧ r.toInt ≤ 5) ∧ (0 ≤ r.toInt ∨ r.toInt = -4))) ([.ref h0] : List Value).toArray s 0 0 (zA z)) (F0 m 29 ls []) := by
    intro ls H locs hT hS hl
    refine lv_aload_n hx hb dX7_lineNow_29 rfl (lv_at hl 0 rfl) ?_
    refine r_bipush hx hb dX7_lineNow_30 rfl (fun x30 e30 => ?_)
    refine r_bipush hx hb dX7_lineNow_32 rfl (fun x32 e32 => ?_)
    refine r_bipush hx hb dX7_lineNow_34 rfl (fun x34 e34 => ?_)
    refine cl_Vi (rest := []) hC hK hSK (c_X7_is l z gh h0 (o0) g0 x30 x32 x34 pr0) k_X7_is mw_4_189 ⟨rfl, rfl, Nat.le_of_ble_eq_true rfl, Nat.le_of_ble_eq_true rfl⟩ (rv_Model hK hT g0) hT rfl hl.1 rfl (Nat.le_of_ble_eq_true rfl) dX7_lineNow_36 ⟨Nat.zero_le _, Nat.zero_le _⟩ hS (fun _ h => h) (fun _ _ h => h) (fun r36 H locs hpo hS => ?_)
    obtain ⟨hT, u36_0⟩ := hpo
    have J60 : ∀ (ls : Array Slot) (H : Heap) (locs : List Loc), TY z (zA z) gh H → va_S (zA z) s.heap H locs → lv_has ls 1 [(0, .ref h0)] → W p l e (rmF 3 110) s m ([.ref h0] : List Value).toArray below meth c H locs 0 0 (MQ below (QcI z (fun r H => TY z (zA z) gh H ∧ (-4 ≤ r.toInt ∧ r.toInt ≤ 5) ∧ (0 ≤ r.toInt ∨ r.toInt = -4))) ([.ref h0] : List Value).toArray s 0 0 (zA z)) (F0 m 60 ls []) := by
      intro ls H locs hT hS hl
      refine lv_aload_n hx hb dX7_lineNow_60 rfl (lv_at hl 0 rfl) ?_
      refine r_iconst hx hb dX7_lineNow_61 (by decide) (by decide) (fun x61 e61 => ?_)
      refine r_bipush hx hb dX7_lineNow_62 rfl (fun x62 e62 => ?_)
      refine r_bipush hx hb dX7_lineNow_64 rfl (fun x64 e64 => ?_)
      refine cl_Vi (rest := []) hC hK hSK (c_X7_is l z gh h0 (o0) g0 x61 x62 x64 pr0) k_X7_is mw_4_189 ⟨rfl, rfl, Nat.le_of_ble_eq_true rfl, Nat.le_of_ble_eq_true rfl⟩ (rv_Model hK hT g0) hT rfl hl.1 rfl (Nat.le_of_ble_eq_true rfl) dX7_lineNow_66 ⟨Nat.zero_le _, Nat.zero_le _⟩ hS (fun _ h => h) (fun _ _ h => h) (fun r66 H locs hpo hS => ?_)
      obtain ⟨hT, u66_0⟩ := hpo
      have J88 : ∀ (ls : Array Slot) (H : Heap) (locs : List Loc), TY z (zA z) gh H → va_S (zA z) s.heap H locs → lv_has ls 1 [(0, .ref h0)] → W p l e (rmF 3 110) s m ([.ref h0] : List Value).toArray below meth c H locs 0 0 (MQ below (QcI z (fun r H => TY z (zA z) gh H ∧ (-4 ≤ r.toInt ∧ r.toInt ≤ 5) ∧ (0 ≤ r.toInt ∨ r.toInt = -4))) ([.ref h0] : List Value).toArray s 0 0 (zA z)) (F0 m 88 ls []) := by
        intro ls H locs hT hS hl
        refine lv_aload_n hx hb dX7_lineNow_88 rfl (lv_at hl 0 rfl) ?_
        refine r_bipush hx hb dX7_lineNow_89 rfl (fun x89 e89 => ?_)
        refine r_bipush hx hb dX7_lineNow_91 rfl (fun x91 e91 => ?_)
        refine r_bipush hx hb dX7_lineNow_93 rfl (fun x93 e93 => ?_)
        refine cl_Vi (rest := []) hC hK hSK (c_X7_is l z gh h0 (o0) g0 x89 x91 x93 pr0) k_X7_is mw_4_189 ⟨rfl, rfl, Nat.le_of_ble_eq_true rfl, Nat.le_of_ble_eq_true rfl⟩ (rv_Model hK hT g0) hT rfl hl.1 rfl (Nat.le_of_ble_eq_true rfl) dX7_lineNow_95 ⟨Nat.zero_le _, Nat.zero_le _⟩ hS (fun _ h => h) (fun _ _ h => h) (fun r95 H locs hpo hS => ?_)
        obtain ⟨hT, u95_0⟩ := hpo
        have J119 : ∀ (ls : Array Slot) (H : Heap) (locs : List Loc), TY z (zA z) gh H → va_S (zA z) s.heap H locs → lv_has ls 1 [(0, .ref h0)] → W p l e (rmF 3 110) s m ([.ref h0] : List Value).toArray below meth c H locs 0 0 (MQ below (QcI z (fun r H => TY z (zA z) gh H ∧ (-4 ≤ r.toInt ∧ r.toInt ≤ 5) ∧ (0 ≤ r.toInt ∨ r.toInt = -4))) ([.ref h0] : List Value).toArray s 0 0 (zA z)) (F0 m 119 ls []) := by
          intro ls H locs hT hS hl
          refine lv_aload_n hx hb dX7_lineNow_119 rfl (lv_at hl 0 rfl) ?_
          refine r_bipush hx hb dX7_lineNow_120 rfl (fun x120 e120 => ?_)
          refine r_bipush hx hb dX7_lineNow_122 rfl (fun x122 e122 => ?_)
          refine r_bipush hx hb dX7_lineNow_124 rfl (fun x124 e124 => ?_)
          refine cl_Vi (rest := []) hC hK hSK (c_X7_is l z gh h0 (o0) g0 x120 x122 x124 pr0) k_X7_is mw_4_189 ⟨rfl, rfl, Nat.le_of_ble_eq_true rfl, Nat.le_of_ble_eq_true rfl⟩ (rv_Model hK hT g0) hT rfl hl.1 rfl (Nat.le_of_ble_eq_true rfl) dX7_lineNow_126 ⟨Nat.zero_le _, Nat.zero_le _⟩ hS (fun _ h => h) (fun _ _ h => h) (fun r126 H locs hpo hS => ?_)
          obtain ⟨hT, u126_0⟩ := hpo
          have J153 : ∀ (ls : Array Slot) (H : Heap) (locs : List Loc), TY z (zA z) gh H → va_S (zA z) s.heap H locs → lv_has ls 1 [(0, .ref h0)] → W p l e (rmF 3 110) s m ([.ref h0] : List Value).toArray below meth c H locs 0 0 (MQ below (QcI z (fun r H => TY z (zA z) gh H ∧ (-4 ≤ r.toInt ∧ r.toInt ≤ 5) ∧ (0 ≤ r.toInt ∨ r.toInt = -4))) ([.ref h0] : List Value).toArray s 0 0 (zA z)) (F0 m 153 ls []) := by
            intro ls H locs hT hS hl
            refine lv_aload_n hx hb dX7_lineNow_153 rfl (lv_at hl 0 rfl) ?_
            refine r_bipush hx hb dX7_lineNow_154 rfl (fun x154 e154 => ?_)
            refine r_bipush hx hb dX7_lineNow_156 rfl (fun x156 e156 => ?_)
            refine r_bipush hx hb dX7_lineNow_158 rfl (fun x158 e158 => ?_)
            refine cl_Vi (rest := []) hC hK hSK (c_X7_is l z gh h0 (o0) g0 x154 x156 x158 pr0) k_X7_is mw_4_189 ⟨rfl, rfl, Nat.le_of_ble_eq_true rfl, Nat.le_of_ble_eq_true rfl⟩ (rv_Model hK hT g0) hT rfl hl.1 rfl (Nat.le_of_ble_eq_true rfl) dX7_lineNow_160 ⟨Nat.zero_le _, Nat.zero_le _⟩ hS (fun _ h => h) (fun _ _ h => h) (fun r160 H locs hpo hS => ?_)
            obtain ⟨hT, u160_0⟩ := hpo
            have J187 : ∀ (ls : Array Slot) (H : Heap) (locs : List Loc), TY z (zA z) gh H → va_S (zA z) s.heap H locs → lv_has ls 1 [(0, .ref h0)] → W p l e (rmF 3 110) s m ([.ref h0] : List Value).toArray below meth c H locs 0 0 (MQ below (QcI z (fun r H => TY z (zA z) gh H ∧ (-4 ≤ r.toInt ∧ r.toInt ≤ 5) ∧ (0 ≤ r.toInt ∨ r.toInt = -4))) ([.ref h0] : List Value).toArray s 0 0 (zA z)) (F0 m 187 ls []) := by
              intro ls H locs hT hS hl
              refine r_bipush hx hb dX7_lineNow_187 rfl (fun x187 e187 => ?_)
              exact rt_i hx hb hr hlk hS ⟨hT, by omega, by omega⟩ dX7_lineNow_189
            refine r_if_eq (tgt := 187) hx hb dX7_lineNow_163 (by decide) (fun c163 => ?_) (fun c163 => ?_)
            · exact J187 ls _ _ hT hS (lv_sub hl [0] rfl)
            · refine lv_aload_n hx hb dX7_lineNow_166 rfl (lv_at hl 0 rfl) ?_
              refine r_bipush hx hb dX7_lineNow_167 rfl (fun x167 e167 => ?_)
              refine r_bipush hx hb dX7_lineNow_169 rfl (fun x169 e169 => ?_)
              refine r_bipush hx hb dX7_lineNow_171 rfl (fun x171 e171 => ?_)
              refine r_bipush hx hb dX7_lineNow_173 rfl (fun x173 e173 => ?_)
              refine r_bipush hx hb dX7_lineNow_175 rfl (fun x175 e175 => ?_)
              refine cl_Vi (rest := []) hC hK hSK (c_X7_ends l z gh h0 (o0) g0 x167 x169 x171 x173 x175 pr0) k_X7_ends mw_4_193 ⟨rfl, rfl, Nat.le_of_ble_eq_true rfl, Nat.le_of_ble_eq_true rfl⟩ (rv_Model hK hT g0) hT rfl hl.1 rfl (Nat.le_of_ble_eq_true rfl) dX7_lineNow_177 ⟨Nat.zero_le _, Nat.zero_le _⟩ hS (fun _ h => h) (fun _ _ h => h) (fun r177 H locs hpo hS => ?_)
              obtain ⟨hT, u177_0⟩ := hpo
              refine r_if_eq (tgt := 187) hx hb dX7_lineNow_180 (by decide) (fun c180 => ?_) (fun c180 => ?_)
              · exact J187 ls _ _ hT hS (lv_sub hl [0] rfl)
              · refine r_iconst hx hb dX7_lineNow_183 (by decide) (by decide) (fun x183 e183 => ?_)
                refine lv_goto (tgt := 189) hx hb dX7_lineNow_184 (by decide) ?_
                exact rt_i hx hb hr hlk hS ⟨hT, by omega, by omega⟩ dX7_lineNow_189
          refine r_if_eq (tgt := 153) hx hb dX7_lineNow_129 (by decide) (fun c129 => ?_) (fun c129 => ?_)
          · exact J153 ls _ _ hT hS (lv_sub hl [0] rfl)
          · refine lv_aload_n hx hb dX7_lineNow_132 rfl (lv_at hl 0 rfl) ?_
            refine r_bipush hx hb dX7_lineNow_133 rfl (fun x133 e133 => ?_)
            refine r_bipush hx hb dX7_lineNow_135 rfl (fun x135 e135 => ?_)
            refine r_bipush hx hb dX7_lineNow_137 rfl (fun x137 e137 => ?_)
            refine r_bipush hx hb dX7_lineNow_139 rfl (fun x139 e139 => ?_)
            refine r_bipush hx hb dX7_lineNow_141 rfl (fun x141 e141 => ?_)
            refine cl_Vi (rest := []) hC hK hSK (c_X7_ends l z gh h0 (o0) g0 x133 x135 x137 x139 x141 pr0) k_X7_ends mw_4_193 ⟨rfl, rfl, Nat.le_of_ble_eq_true rfl, Nat.le_of_ble_eq_true rfl⟩ (rv_Model hK hT g0) hT rfl hl.1 rfl (Nat.le_of_ble_eq_true rfl) dX7_lineNow_143 ⟨Nat.zero_le _, Nat.zero_le _⟩ hS (fun _ h => h) (fun _ _ h => h) (fun r143 H locs hpo hS => ?_)
            obtain ⟨hT, u143_0⟩ := hpo
            refine r_if_eq (tgt := 153) hx hb dX7_lineNow_146 (by decide) (fun c146 => ?_) (fun c146 => ?_)
            · exact J153 ls _ _ hT hS (lv_sub hl [0] rfl)
            · refine r_iconst hx hb dX7_lineNow_149 (by decide) (by decide) (fun x149 e149 => ?_)
              refine lv_goto (tgt := 189) hx hb dX7_lineNow_150 (by decide) ?_
              exact rt_i hx hb hr hlk hS ⟨hT, by omega, by omega⟩ dX7_lineNow_189
        refine r_if_eq (tgt := 119) hx hb dX7_lineNow_98 (by decide) (fun c98 => ?_) (fun c98 => ?_)
        · exact J119 ls _ _ hT hS (lv_sub hl [0] rfl)
        · refine lv_aload_n hx hb dX7_lineNow_101 rfl (lv_at hl 0 rfl) ?_
          refine r_bipush hx hb dX7_lineNow_102 rfl (fun x102 e102 => ?_)
          refine r_bipush hx hb dX7_lineNow_104 rfl (fun x104 e104 => ?_)
          refine r_bipush hx hb dX7_lineNow_106 rfl (fun x106 e106 => ?_)
          refine r_bipush hx hb dX7_lineNow_108 rfl (fun x108 e108 => ?_)
          refine r_iconst hx hb dX7_lineNow_110 (by decide) (by decide) (fun x110 e110 => ?_)
          refine cl_Vi (rest := []) hC hK hSK (c_X7_ends l z gh h0 (o0) g0 x102 x104 x106 x108 x110 pr0) k_X7_ends mw_4_193 ⟨rfl, rfl, Nat.le_of_ble_eq_true rfl, Nat.le_of_ble_eq_true rfl⟩ (rv_Model hK hT g0) hT rfl hl.1 rfl (Nat.le_of_ble_eq_true rfl) dX7_lineNow_111 ⟨Nat.zero_le _, Nat.zero_le _⟩ hS (fun _ h => h) (fun _ _ h => h) (fun r111 H locs hpo hS => ?_)
          obtain ⟨hT, u111_0⟩ := hpo
          refine r_if_eq (tgt := 119) hx hb dX7_lineNow_114 (by decide) (fun c114 => ?_) (fun c114 => ?_)
          · exact J119 ls _ _ hT hS (lv_sub hl [0] rfl)
          · refine r_iconst hx hb dX7_lineNow_117 (by decide) (by decide) (fun x117 e117 => ?_)
            exact rt_i hx hb hr hlk hS ⟨hT, by omega, by omega⟩ dX7_lineNow_118
      refine r_if_eq (tgt := 88) hx hb dX7_lineNow_69 (by decide) (fun c69 => ?_) (fun c69 => ?_)
      · exact J88 ls _ _ hT hS (lv_sub hl [0] rfl)
      · refine lv_aload_n hx hb dX7_lineNow_72 rfl (lv_at hl 0 rfl) ?_
        refine r_bipush hx hb dX7_lineNow_73 rfl (fun x73 e73 => ?_)
        refine r_bipush hx hb dX7_lineNow_75 rfl (fun x75 e75 => ?_)
        refine r_iconst hx hb dX7_lineNow_77 (by decide) (by decide) (fun x77 e77 => ?_)
        refine r_iconst hx hb dX7_lineNow_78 (by decide) (by decide) (fun x78 e78 => ?_)
        refine r_iconst hx hb dX7_lineNow_79 (by decide) (by decide) (fun x79 e79 => ?_)
        refine cl_Vi (rest := []) hC hK hSK (c_X7_ends l z gh h0 (o0) g0 x73 x75 x77 x78 x79 pr0) k_X7_ends mw_4_193 ⟨rfl, rfl, Nat.le_of_ble_eq_true rfl, Nat.le_of_ble_eq_true rfl⟩ (rv_Model hK hT g0) hT rfl hl.1 rfl (Nat.le_of_ble_eq_true rfl) dX7_lineNow_80 ⟨Nat.zero_le _, Nat.zero_le _⟩ hS (fun _ h => h) (fun _ _ h => h) (fun r80 H locs hpo hS => ?_)
        obtain ⟨hT, u80_0⟩ := hpo
        refine r_if_eq (tgt := 88) hx hb dX7_lineNow_83 (by decide) (fun c83 => ?_) (fun c83 => ?_)
        · exact J88 ls _ _ hT hS (lv_sub hl [0] rfl)
        · refine r_iconst hx hb dX7_lineNow_86 (by decide) (by decide) (fun x86 e86 => ?_)
          exact rt_i hx hb hr hlk hS ⟨hT, by omega, by omega⟩ dX7_lineNow_87
    refine r_if_eq (tgt := 60) hx hb dX7_lineNow_39 (by decide) (fun c39 => ?_) (fun c39 => ?_)
    · exact J60 ls _ _ hT hS (lv_sub hl [0] rfl)
    · refine lv_aload_n hx hb dX7_lineNow_42 rfl (lv_at hl 0 rfl) ?_
      refine r_bipush hx hb dX7_lineNow_43 rfl (fun x43 e43 => ?_)
      refine r_bipush hx hb dX7_lineNow_45 rfl (fun x45 e45 => ?_)
      refine r_bipush hx hb dX7_lineNow_47 rfl (fun x47 e47 => ?_)
      refine r_bipush hx hb dX7_lineNow_49 rfl (fun x49 e49 => ?_)
      refine r_iconst hx hb dX7_lineNow_51 (by decide) (by decide) (fun x51 e51 => ?_)
      refine cl_Vi (rest := []) hC hK hSK (c_X7_ends l z gh h0 (o0) g0 x43 x45 x47 x49 x51 pr0) k_X7_ends mw_4_193 ⟨rfl, rfl, Nat.le_of_ble_eq_true rfl, Nat.le_of_ble_eq_true rfl⟩ (rv_Model hK hT g0) hT rfl hl.1 rfl (Nat.le_of_ble_eq_true rfl) dX7_lineNow_52 ⟨Nat.zero_le _, Nat.zero_le _⟩ hS (fun _ h => h) (fun _ _ h => h) (fun r52 H locs hpo hS => ?_)
      obtain ⟨hT, u52_0⟩ := hpo
      refine r_if_eq (tgt := 60) hx hb dX7_lineNow_55 (by decide) (fun c55 => ?_) (fun c55 => ?_)
      · exact J60 ls _ _ hT hS (lv_sub hl [0] rfl)
      · refine r_iconst hx hb dX7_lineNow_58 (by decide) (by decide) (fun x58 e58 => ?_)
        exact rt_i hx hb hr hlk hS ⟨hT, by omega, by omega⟩ dX7_lineNow_59
  refine r_if_eq (tgt := 29) hx hb dX7_lineNow_9 (by decide) (fun c9 => ?_) (fun c9 => ?_)
  · exact J29 ls _ _ hT hS (lv_sub hl [0] rfl)
  · refine lv_aload_n hx hb dX7_lineNow_12 rfl (lv_at hl 0 rfl) ?_
    refine r_bipush hx hb dX7_lineNow_13 rfl (fun x13 e13 => ?_)
    refine r_bipush hx hb dX7_lineNow_15 rfl (fun x15 e15 => ?_)
    refine r_bipush hx hb dX7_lineNow_17 rfl (fun x17 e17 => ?_)
    refine r_iconst hx hb dX7_lineNow_19 (by decide) (by decide) (fun x19 e19 => ?_)
    refine r_iconst hx hb dX7_lineNow_20 (by decide) (by decide) (fun x20 e20 => ?_)
    refine cl_Vi (rest := []) hC hK hSK (c_X7_ends l z gh h0 (o0) g0 x13 x15 x17 x19 x20 pr0) k_X7_ends mw_4_193 ⟨rfl, rfl, Nat.le_of_ble_eq_true rfl, Nat.le_of_ble_eq_true rfl⟩ (rv_Model hK hT g0) hT rfl hl.1 rfl (Nat.le_of_ble_eq_true rfl) dX7_lineNow_21 ⟨Nat.zero_le _, Nat.zero_le _⟩ hS (fun _ h => h) (fun _ _ h => h) (fun r21 H locs hpo hS => ?_)
    obtain ⟨hT, u21_0⟩ := hpo
    refine r_if_eq (tgt := 29) hx hb dX7_lineNow_24 (by decide) (fun c24 => ?_) (fun c24 => ?_)
    · exact J29 ls _ _ hT hS (lv_sub hl [0] rfl)
    · refine r_iconst hx hb dX7_lineNow_27 (by decide) (by decide) (fun x27 e27 => ?_)
      exact rt_i hx hb hr hlk hS ⟨hT, by omega, by omega⟩ dX7_lineNow_28
theorem k_X7_figureNow : cBV yX7_figureNow cX7_figureNow 1 (some .int) 0 := ⟨mw_4_215, ms_2_9, mw_1_8, mw_4_216, ⟨by decide, by decide, by decide⟩⟩
set_option maxHeartbeats 4000000 in
set_option maxRecDepth 100000 in
theorem c_X7_figureNow (l : Launch) (z : Zt) (gh : Gh) (h0 o0 : Nat) (g0 : zG z h0 = (17, o0)) (pr0 : zu z) : Met l yX7_figureNow (uw yX7_figureNow cX7_figureNow 1 (some .int)) (rmF 3 110) (PcW z [.ref h0] (fun H => TY z (zA z) gh H)) (QcI z (fun r H => TY z (zA z) gh H ∧ (-4 ≤ r.toInt ∧ r.toInt ≤ 3))) 0 0 (zA z) := by
  refine Met.ofW (cc := cX7_figureNow) (maxL := 1) (ret := (some .int)) (by decide) rfl ?_
  intro p e s m args below meth c s₁ B hml hv
  obtain ⟨rfl, hW, hK, hSK⟩ := hv
  have hx := B.exec
  have hb := B.bytes
  have hr := B.returns
  have hts : ∀ w ∈ lw_ok, w.before ([.ref h0] : List Value).toArray s = true := fun w hw => atoms_spec (ws := uw yX7_figureNow cX7_figureNow 1 (some .int)) B.pre w (List.mem_cons_of_mem _ hw)
  have hown : s.vm.findClass RX7 = some m.cls := findClass_of_methodNamed B.named
  have hlk := B.notSynchronized
  have hC : CallFix p m c cX7_figureNow 1 s ([.ref h0] : List Value).toArray lw_ok RX7 := ⟨hx, hb, hml, hown, hts⟩
  have hS : va_S (zA z) s.heap s.heap [] := va_S.rf
  have hl := lv_entry ([.ref h0]) (n := 1) (Nat.le_of_ble_eq_true rfl)
  rw [lg_entry_eq]
  generalize (lg_sl ([.ref h0]) ++ List.replicate (1 - (lg_sl ([.ref h0])).length) Slot.unset).toArray = ls at hl ⊢
  have hl : lv_has ls 1 [(0, .ref h0)] := hl
  show W p l e (rmF 3 110) s m ([.ref h0] : List Value).toArray below meth c s.heap [] 0 0 (MQ below (QcI z (fun r H => TY z (zA z) gh H ∧ (-4 ≤ r.toInt ∧ r.toInt ≤ 3))) ([.ref h0] : List Value).toArray s 0 0 (zA z)) (F0 m 0 ls [])
  have hT : TY z (zA z) gh s.heap := hW
  refine lv_aload_n hx hb dX7_figureNow_0 rfl (lv_at hl 0 rfl) ?_
  refine r_iconst hx hb dX7_figureNow_1 (by decide) (by decide) (fun x1 e1 => ?_)
  refine r_bipush hx hb dX7_figureNow_2 rfl (fun x2 e2 => ?_)
  refine r_bipush hx hb dX7_figureNow_4 rfl (fun x4 e4 => ?_)
  refine cl_Vi (rest := []) hC hK hSK (c_X7_is l z gh h0 (o0) g0 x1 x2 x4 pr0) k_X7_is mw_4_189 ⟨rfl, rfl, Nat.le_of_ble_eq_true rfl, Nat.le_of_ble_eq_true rfl⟩ (rv_Model hK hT g0) hT rfl hl.1 rfl (Nat.le_of_ble_eq_true rfl) dX7_figureNow_6 ⟨Nat.zero_le _, Nat.zero_le _⟩ hS (fun _ h => h) (fun _ _ h => h) (fun r6 H locs hpo hS => ?_)
  obtain ⟨hT, u6_0⟩ := hpo
  refine r_if_eq (tgt := 14) hx hb dX7_figureNow_9 (by decide) (fun c9 => ?_) (fun c9 => ?_)
  · refine lv_aload_n hx hb dX7_figureNow_14 rfl (lv_at hl 0 rfl) ?_
    refine r_iconst hx hb dX7_figureNow_15 (by decide) (by decide) (fun x15 e15 => ?_)
    refine r_bipush hx hb dX7_figureNow_16 rfl (fun x16 e16 => ?_)
    refine r_bipush hx hb dX7_figureNow_18 rfl (fun x18 e18 => ?_)
    refine cl_Vi (rest := []) hC hK hSK (c_X7_is l z gh h0 (o0) g0 x15 x16 x18 pr0) k_X7_is mw_4_189 ⟨rfl, rfl, Nat.le_of_ble_eq_true rfl, Nat.le_of_ble_eq_true rfl⟩ (rv_Model hK hT g0) hT rfl hl.1 rfl (Nat.le_of_ble_eq_true rfl) dX7_figureNow_20 ⟨Nat.zero_le _, Nat.zero_le _⟩ hS (fun _ h => h) (fun _ _ h => h) (fun r20 H locs hpo hS => ?_)
    obtain ⟨hT, u20_0⟩ := hpo
    have J42 : ∀ (ls : Array Slot) (H : Heap) (locs : List Loc), TY z (zA z) gh H → va_S (zA z) s.heap H locs → lv_has ls 1 [(0, .ref h0)] → W p l e (rmF 3 110) s m ([.ref h0] : List Value).toArray below meth c H locs 0 0 (MQ below (QcI z (fun r H => TY z (zA z) gh H ∧ (-4 ≤ r.toInt ∧ r.toInt ≤ 3))) ([.ref h0] : List Value).toArray s 0 0 (zA z)) (F0 m 42 ls []) := by
      intro ls H locs hT hS hl
      refine lv_aload_n hx hb dX7_figureNow_42 rfl (lv_at hl 0 rfl) ?_
      refine r_iconst hx hb dX7_figureNow_43 (by decide) (by decide) (fun x43 e43 => ?_)
      refine r_bipush hx hb dX7_figureNow_44 rfl (fun x44 e44 => ?_)
      refine r_bipush hx hb dX7_figureNow_46 rfl (fun x46 e46 => ?_)
      refine cl_Vi (rest := []) hC hK hSK (c_X7_is l z gh h0 (o0) g0 x43 x44 x46 pr0) k_X7_is mw_4_189 ⟨rfl, rfl, Nat.le_of_ble_eq_true rfl, Nat.le_of_ble_eq_true rfl⟩ (rv_Model hK hT g0) hT rfl hl.1 rfl (Nat.le_of_ble_eq_true rfl) dX7_figureNow_48 ⟨Nat.zero_le _, Nat.zero_le _⟩ hS (fun _ h => h) (fun _ _ h => h) (fun r48 H locs hpo hS => ?_)
      obtain ⟨hT, u48_0⟩ := hpo
      have J73 : ∀ (ls : Array Slot) (H : Heap) (locs : List Loc), TY z (zA z) gh H → va_S (zA z) s.heap H locs → lv_has ls 1 [(0, .ref h0)] → W p l e (rmF 3 110) s m ([.ref h0] : List Value).toArray below meth c H locs 0 0 (MQ below (QcI z (fun r H => TY z (zA z) gh H ∧ (-4 ≤ r.toInt ∧ r.toInt ≤ 3))) ([.ref h0] : List Value).toArray s 0 0 (zA z)) (F0 m 73 ls []) := by
        intro ls H locs hT hS hl
        refine lv_aload_n hx hb dX7_figureNow_73 rfl (lv_at hl 0 rfl) ?_
        refine r_bipush hx hb dX7_figureNow_74 rfl (fun x74 e74 => ?_)
        refine r_bipush hx hb dX7_figureNow_76 rfl (fun x76 e76 => ?_)
        refine r_bipush hx hb dX7_figureNow_78 rfl (fun x78 e78 => ?_)
        refine cl_Vi (rest := []) hC hK hSK (c_X7_is l z gh h0 (o0) g0 x74 x76 x78 pr0) k_X7_is mw_4_189 ⟨rfl, rfl, Nat.le_of_ble_eq_true rfl, Nat.le_of_ble_eq_true rfl⟩ (rv_Model hK hT g0) hT rfl hl.1 rfl (Nat.le_of_ble_eq_true rfl) dX7_figureNow_80 ⟨Nat.zero_le _, Nat.zero_le _⟩ hS (fun _ h => h) (fun _ _ h => h) (fun r80 H locs hpo hS => ?_)
        obtain ⟨hT, u80_0⟩ := hpo
        have J106 : ∀ (ls : Array Slot) (H : Heap) (locs : List Loc), TY z (zA z) gh H → va_S (zA z) s.heap H locs → lv_has ls 1 [(0, .ref h0)] → W p l e (rmF 3 110) s m ([.ref h0] : List Value).toArray below meth c H locs 0 0 (MQ below (QcI z (fun r H => TY z (zA z) gh H ∧ (-4 ≤ r.toInt ∧ r.toInt ≤ 3))) ([.ref h0] : List Value).toArray s 0 0 (zA z)) (F0 m 106 ls []) := by
          intro ls H locs hT hS hl
          refine r_bipush hx hb dX7_figureNow_106 rfl (fun x106 e106 => ?_)
          exact rt_i hx hb hr hlk hS ⟨hT, by omega⟩ dX7_figureNow_108
        refine r_if_eq (tgt := 106) hx hb dX7_figureNow_83 (by decide) (fun c83 => ?_) (fun c83 => ?_)
        · exact J106 ls _ _ hT hS (lv_sub hl [0] rfl)
        · refine lv_aload_n hx hb dX7_figureNow_86 rfl (lv_at hl 0 rfl) ?_
          refine r_bipush hx hb dX7_figureNow_87 rfl (fun x87 e87 => ?_)
          refine r_bipush hx hb dX7_figureNow_89 rfl (fun x89 e89 => ?_)
          refine r_bipush hx hb dX7_figureNow_91 rfl (fun x91 e91 => ?_)
          refine r_bipush hx hb dX7_figureNow_93 rfl (fun x93 e93 => ?_)
          refine r_iconst hx hb dX7_figureNow_95 (by decide) (by decide) (fun x95 e95 => ?_)
          refine cl_Vi (rest := []) hC hK hSK (c_X7_ends l z gh h0 (o0) g0 x87 x89 x91 x93 x95 pr0) k_X7_ends mw_4_193 ⟨rfl, rfl, Nat.le_of_ble_eq_true rfl, Nat.le_of_ble_eq_true rfl⟩ (rv_Model hK hT g0) hT rfl hl.1 rfl (Nat.le_of_ble_eq_true rfl) dX7_figureNow_96 ⟨Nat.zero_le _, Nat.zero_le _⟩ hS (fun _ h => h) (fun _ _ h => h) (fun r96 H locs hpo hS => ?_)
          obtain ⟨hT, u96_0⟩ := hpo
          refine r_if_eq (tgt := 106) hx hb dX7_figureNow_99 (by decide) (fun c99 => ?_) (fun c99 => ?_)
          · exact J106 ls _ _ hT hS (lv_sub hl [0] rfl)
          · refine r_iconst hx hb dX7_figureNow_102 (by decide) (by decide) (fun x102 e102 => ?_)
            refine lv_goto (tgt := 108) hx hb dX7_figureNow_103 (by decide) ?_
            exact rt_i hx hb hr hlk hS ⟨hT, by omega⟩ dX7_figureNow_108
      refine r_if_eq (tgt := 73) hx hb dX7_figureNow_51 (by decide) (fun c51 => ?_) (fun c51 => ?_)
      · exact J73 ls _ _ hT hS (lv_sub hl [0] rfl)
      · refine lv_aload_n hx hb dX7_figureNow_54 rfl (lv_at hl 0 rfl) ?_
        refine r_bipush hx hb dX7_figureNow_55 rfl (fun x55 e55 => ?_)
        refine r_bipush hx hb dX7_figureNow_57 rfl (fun x57 e57 => ?_)
        refine r_bipush hx hb dX7_figureNow_59 rfl (fun x59 e59 => ?_)
        refine r_iconst hx hb dX7_figureNow_61 (by decide) (by decide) (fun x61 e61 => ?_)
        refine r_iconst hx hb dX7_figureNow_62 (by decide) (by decide) (fun x62 e62 => ?_)
        refine cl_Vi (rest := []) hC hK hSK (c_X7_ends l z gh h0 (o0) g0 x55 x57 x59 x61 x62 pr0) k_X7_ends mw_4_193 ⟨rfl, rfl, Nat.le_of_ble_eq_true rfl, Nat.le_of_ble_eq_true rfl⟩ (rv_Model hK hT g0) hT rfl hl.1 rfl (Nat.le_of_ble_eq_true rfl) dX7_figureNow_63 ⟨Nat.zero_le _, Nat.zero_le _⟩ hS (fun _ h => h) (fun _ _ h => h) (fun r63 H locs hpo hS => ?_)
        obtain ⟨hT, u63_0⟩ := hpo
        refine r_if_eq (tgt := 73) hx hb dX7_figureNow_66 (by decide) (fun c66 => ?_) (fun c66 => ?_)
        · exact J73 ls _ _ hT hS (lv_sub hl [0] rfl)
        · refine r_iconst hx hb dX7_figureNow_69 (by decide) (by decide) (fun x69 e69 => ?_)
          refine lv_goto (tgt := 108) hx hb dX7_figureNow_70 (by decide) ?_
          exact rt_i hx hb hr hlk hS ⟨hT, by omega⟩ dX7_figureNow_108
    refine r_if_eq (tgt := 42) hx hb dX7_figureNow_23 (by decide) (fun c23 => ?_) (fun c23 => ?_)
    · exact J42 ls _ _ hT hS (lv_sub hl [0] rfl)
    · refine lv_aload_n hx hb dX7_figureNow_26 rfl (lv_at hl 0 rfl) ?_
      refine r_bipush hx hb dX7_figureNow_27 rfl (fun x27 e27 => ?_)
      refine r_bipush hx hb dX7_figureNow_29 rfl (fun x29 e29 => ?_)
      refine r_iconst hx hb dX7_figureNow_31 (by decide) (by decide) (fun x31 e31 => ?_)
      refine r_iconst hx hb dX7_figureNow_32 (by decide) (by decide) (fun x32 e32 => ?_)
      refine r_iconst hx hb dX7_figureNow_33 (by decide) (by decide) (fun x33 e33 => ?_)
      refine cl_Vi (rest := []) hC hK hSK (c_X7_ends l z gh h0 (o0) g0 x27 x29 x31 x32 x33 pr0) k_X7_ends mw_4_193 ⟨rfl, rfl, Nat.le_of_ble_eq_true rfl, Nat.le_of_ble_eq_true rfl⟩ (rv_Model hK hT g0) hT rfl hl.1 rfl (Nat.le_of_ble_eq_true rfl) dX7_figureNow_34 ⟨Nat.zero_le _, Nat.zero_le _⟩ hS (fun _ h => h) (fun _ _ h => h) (fun r34 H locs hpo hS => ?_)
      obtain ⟨hT, u34_0⟩ := hpo
      refine r_if_eq (tgt := 42) hx hb dX7_figureNow_37 (by decide) (fun c37 => ?_) (fun c37 => ?_)
      · exact J42 ls _ _ hT hS (lv_sub hl [0] rfl)
      · refine r_iconst hx hb dX7_figureNow_40 (by decide) (by decide) (fun x40 e40 => ?_)
        exact rt_i hx hb hr hlk hS ⟨hT, by omega⟩ dX7_figureNow_41
  · refine r_iconst hx hb dX7_figureNow_12 (by decide) (by decide) (fun x12 e12 => ?_)
    exact rt_i hx hb hr hlk hS ⟨hT, by omega⟩ dX7_figureNow_13
theorem k_X7_next : cBV yX7_next cX7_next 2 none 0 := ⟨mw_4_167, ms_1_14, mw_1_8, mw_4_168, ⟨by decide, by decide, by decide⟩⟩
set_option maxHeartbeats 4000000 in
set_option maxRecDepth 100000 in
theorem c_X7_next (l : Launch) (z : Zt) (gh : Gh) (h0 o0 : Nat) (g0 : zG z h0 = (17, o0)) (pr0 : zu z) : Met l yX7_next (uw yX7_next cX7_next 2 none) (rmF 2 89) (PcW z [.ref h0] (fun H => TY z (zA z) gh H)) (QcV z (fun H => ∃ gk : Gh, eqv gk gh ∧ TY z (zA z) gk H ∧ (gh.1 h0 52 ≤ gk.1 h0 52) ∧ (gh.1 h0 54 = 0 → gk.1 h0 53 ≠ 0 → gh.1 h0 52 < gk.1 h0 52) ∧ (gk.1 h0 55 = gh.1 h0 55) ∧ (gh.1 h0 54 ≠ 0 → gk.1 h0 54 = gh.1 h0 54) ∧ (gh.1 h0 54 ≠ 0 → gk.1 h0 52 = gh.1 h0 52 ∧ gk.1 h0 53 = gh.1 h0 53))) 0 0 (zA z) := by
  refine Met.ofW (cc := cX7_next) (maxL := 2) (ret := none) (by decide) rfl ?_
  intro p e s m args below meth c s₁ B hml hv
  obtain ⟨rfl, hW, hK, hSK⟩ := hv
  have hx := B.exec
  have hb := B.bytes
  have hr := B.returns
  have hts : ∀ w ∈ lw_ok, w.before ([.ref h0] : List Value).toArray s = true := fun w hw => atoms_spec (ws := uw yX7_next cX7_next 2 none) B.pre w (List.mem_cons_of_mem _ hw)
  have hown : s.vm.findClass RX7 = some m.cls := findClass_of_methodNamed B.named
  have hlk := B.notSynchronized
  have hC : CallFix p m c cX7_next 2 s ([.ref h0] : List Value).toArray lw_ok RX7 := ⟨hx, hb, hml, hown, hts⟩
  have hS : va_S (zA z) s.heap s.heap [] := va_S.rf
  have hl := lv_entry ([.ref h0]) (n := 2) (Nat.le_of_ble_eq_true rfl)
  rw [lg_entry_eq]
  generalize (lg_sl ([.ref h0]) ++ List.replicate (2 - (lg_sl ([.ref h0])).length) Slot.unset).toArray = ls at hl ⊢
  have hl : lv_has ls 2 [(0, .ref h0)] := hl
  show W p l e (rmF 2 89) s m ([.ref h0] : List Value).toArray below meth c s.heap [] 0 0 (MQ below (QcV z (fun H => ∃ gk : Gh, eqv gk gh ∧ TY z (zA z) gk H ∧ (gh.1 h0 52 ≤ gk.1 h0 52) ∧ (gh.1 h0 54 = 0 → gk.1 h0 53 ≠ 0 → gh.1 h0 52 < gk.1 h0 52) ∧ (gk.1 h0 55 = gh.1 h0 55) ∧ (gh.1 h0 54 ≠ 0 → gk.1 h0 54 = gh.1 h0 54) ∧ (gh.1 h0 54 ≠ 0 → gk.1 h0 52 = gh.1 h0 52 ∧ gk.1 h0 53 = gh.1 h0 53))) ([.ref h0] : List Value).toArray s 0 0 (zA z)) (F0 m 0 ls [])
  have hT : TY z (zA z) gh s.heap := hW
  have hg1 : eqv gh gh := eqv_rf gh
  have hMr := ty_mr hT g0
  refine lv_aload_n hx hb dX7_next_0 rfl (lv_at hl 0 rfl) ?_
  refine gt_Model_fault hx hb hts ic_Model hown hK hT g0 (hts _ mw_4_85) dX7_next_1 (fun x1 i1 e1 g1 => ?_)
  have J8 : ∀ (n8 : Nat) (ls : Array Slot) (H : Heap) (locs : List Loc) (gk : Gh), (gh.1 h0 52 ≤ gk.1 h0 52 ∧ gk.1 h0 52 ≤ 160) → (gk.1 h0 55 = gh.1 h0 55) → (gh.1 h0 54 = 0 ∧ gk.1 h0 54 = 0) → (0 ≤ gk.1 h0 52) → (160 - gk.1 h0 52) < (n8 : Int) → eqv gk gh → TY z (zA z) gk H → va_S (zA z) s.heap H locs → lv_has ls 2 [(0, .ref h0)] → W p l e (rmF 2 89) s m ([.ref h0] : List Value).toArray below meth c H locs 0 0 (MQ below (QcV z (fun H => ∃ gk : Gh, eqv gk gh ∧ TY z (zA z) gk H ∧ (gh.1 h0 52 ≤ gk.1 h0 52) ∧ (gh.1 h0 54 = 0 → gk.1 h0 53 ≠ 0 → gh.1 h0 52 < gk.1 h0 52) ∧ (gk.1 h0 55 = gh.1 h0 55) ∧ (gh.1 h0 54 ≠ 0 → gk.1 h0 54 = gh.1 h0 54) ∧ (gh.1 h0 54 ≠ 0 → gk.1 h0 52 = gh.1 h0 52 ∧ gk.1 h0 53 = gh.1 h0 53))) ([.ref h0] : List Value).toArray s 0 0 (zA z)) (F0 m 8 ls []) := by
    intro n8
    induction n8 with
    | zero => intro ls H locs gk ex8_0 ex8_1 ex8_2 ex8_3 mm8 hg1 hT hS hl; exfalso; omega
    | succ n8 ih8 =>
      intro ls H locs gk ex8_0 ex8_1 ex8_2 ex8_3 mm8 hg1 hT hS hl
      have m40 := hg1 h0 40 rfl
      refine lv_aload_n hx hb dX7_next_8 rfl (lv_at hl 0 rfl) ?_
      refine lv_aload_n hx hb dX7_next_9 rfl (lv_at hl 0 rfl) ?_
      refine gt_Model_pos hx hb hts ic_Model hown hK hT g0 (hts _ mw_4_81) dX7_next_10 (fun x10 i10 e10 g10 => ?_)
      refine cl_Vi (rest := []) hC hK hSK (c_X7_byteAt l z gk h0 (o0) g0 x10 (by omega) pr0) k_X7_byteAt mw_4_169 ⟨rfl, rfl, Nat.le_of_ble_eq_true rfl, Nat.le_of_ble_eq_true rfl⟩ (rv_Model hK hT g0) hT rfl hl.1 rfl (Nat.le_of_ble_eq_true rfl) dX7_next_13 ⟨Nat.zero_le _, Nat.zero_le _⟩ hS (fun _ h => h) (fun _ _ h => h) (fun r13 H locs hpo hS => ?_)
      obtain ⟨hT, u13_0, u13_1, u13_2, u13_3⟩ := hpo
      refine r_bipush hx hb dX7_next_16 rfl (fun x16 e16 => ?_)
      refine r_icmp_ne (tgt := 34) hx hb dX7_next_18 (by decide) (fun c18 => ?_) (fun c18 => ?_)
      · refine lv_aload_n hx hb dX7_next_34 rfl (lv_at hl 0 rfl) ?_
        refine lv_aload_n hx hb dX7_next_35 rfl (lv_at hl 0 rfl) ?_
        refine gt_Model_pos hx hb hts ic_Model hown hK hT g0 (hts _ mw_4_81) dX7_next_36 (fun x36 i36 e36 g36 => ?_)
        refine pt_Model_from hx hb hts ic_Model hown hK hT hS g0 (hts _ mw_4_82) (by omega) (by omega) dX7_next_39 (fun H locs hT hS => ?_)
        refine lv_aload_n hx hb dX7_next_42 rfl (lv_at hl 0 rfl) ?_
        refine lv_aload_n hx hb dX7_next_43 rfl (lv_at hl 0 rfl) ?_
        refine gt_Model_pos hx hb hts ic_Model hown hK hT g0 (hts _ mw_4_81) dX7_next_44 (fun x44 i44 e44 g44 => ?_)
        refine cl_Vi (rest := []) hC hK hSK (c_X7_byteAt l z gk h0 (o0) g0 x44 (by omega) pr0) k_X7_byteAt mw_4_169 ⟨rfl, rfl, Nat.le_of_ble_eq_true rfl, Nat.le_of_ble_eq_true rfl⟩ (rv_Model hK hT g0) hT rfl hl.1 rfl (Nat.le_of_ble_eq_true rfl) dX7_next_47 ⟨Nat.zero_le _, Nat.zero_le _⟩ hS (fun _ h => h) (fun _ _ h => h) (fun r47 H locs hpo hS => ?_)
        obtain ⟨hT, u47_0, u47_1, u47_2, u47_3⟩ := hpo
        refine lv_istore_n (lv' := [(1, .int r47), (0, .ref h0)]) hx hb dX7_next_50 rfl hl (by decide) rfl (fun ls hl => ?_)
        refine lv_iload_n hx hb dX7_next_51 rfl (lv_at hl 0 rfl) ?_
        refine r_if_ge (tgt := 63) hx hb dX7_next_52 (by decide) (fun c52 => ?_) (fun c52 => ?_)
        · refine lv_iload_n hx hb dX7_next_63 rfl (lv_at hl 0 rfl) ?_
          refine r_i2l hx hb dX7_next_64 (fun x64 e64 => ?_)
          refine r_ldc2 (97) rfl hx hb hts hown mw_4_173 dX7_next_65 (fun x65 e65 => ?_)
          refine r_ldc2 (122) rfl hx hb hts hown mw_4_174 dX7_next_68 (fun x68 e68 => ?_)
          refine cl_Si (rest := []) hC hK hSK (c_X7_in l z gk x64 x65 x68) k_X7_in mw_4_154 ⟨rfl, rfl, Nat.le_of_ble_eq_true rfl, Nat.le_of_ble_eq_true rfl⟩ hT rfl hl.1 rfl (Nat.le_of_ble_eq_true rfl) dX7_next_71 ⟨Nat.zero_le _, Nat.zero_le _⟩ hS (fun _ h => h) (fun _ _ h => h) (fun r71 H locs hpo hS => ?_)
          obtain ⟨hT, u71_0, u71_1⟩ := hpo
          refine r_if_eq (tgt := 116) hx hb dX7_next_74 (by decide) (fun c74 => ?_) (fun c74 => ?_)
          · refine lv_iload_n hx hb dX7_next_116 rfl (lv_at hl 0 rfl) ?_
            refine r_i2l hx hb dX7_next_117 (fun x117 e117 => ?_)
            refine r_ldc2 (48) rfl hx hb hts hown mw_4_175 dX7_next_118 (fun x118 e118 => ?_)
            refine r_ldc2 (57) rfl hx hb hts hown mw_4_176 dX7_next_121 (fun x121 e121 => ?_)
            refine cl_Si (rest := []) hC hK hSK (c_X7_in l z gk x117 x118 x121) k_X7_in mw_4_154 ⟨rfl, rfl, Nat.le_of_ble_eq_true rfl, Nat.le_of_ble_eq_true rfl⟩ hT rfl hl.1 rfl (Nat.le_of_ble_eq_true rfl) dX7_next_124 ⟨Nat.zero_le _, Nat.zero_le _⟩ hS (fun _ h => h) (fun _ _ h => h) (fun r124 H locs hpo hS => ?_)
            obtain ⟨hT, u124_0, u124_1⟩ := hpo
            refine r_if_eq (tgt := 243) hx hb dX7_next_127 (by decide) (fun c127 => ?_) (fun c127 => ?_)
            · refine lv_aload_n hx hb dX7_next_243 rfl (lv_at hl 1 rfl) ?_
              refine r_iconst hx hb dX7_next_244 (by decide) (by decide) (fun x244 e244 => ?_)
              refine pt_Model_sort hx hb hts ic_Model hown hK hT hS g0 (hts _ mw_4_83) (by omega) (by omega) dX7_next_245 (fun H locs hT hS => ?_)
              obtain ⟨gk245, w245, hq245, y245, hg1, hT⟩ : ∃ g : Gh, g.1 h0 53 = x244.toInt ∧ (∀ b k, k ≠ 53 → g.1 b k = gk.1 b k) ∧ g.2 = gk.2 ∧ eqv g gh ∧ TY z (zA z) g H := ⟨_, gs_at _ _ _ _, fun b k hk => gs_nk _ _ _ _ hk, rfl, eqv_gs rfl hg1, hT⟩
              have t245_40 := hq245 h0 40 (by decide)
              have t245_52 := hq245 h0 52 (by decide)
              have t245_54 := hq245 h0 54 (by decide)
              have t245_55 := hq245 h0 55 (by decide)
              have t245_56 := hq245 h0 56 (by decide)
              refine lv_aload_n hx hb dX7_next_248 rfl (lv_at hl 1 rfl) ?_
              refine lv_iload_n hx hb dX7_next_249 rfl (lv_at hl 0 rfl) ?_
              refine r_bipush hx hb dX7_next_250 rfl (fun x250 e250 => ?_)
              refine r_icmp_ne (tgt := 259) hx hb dX7_next_252 (by decide) (fun c252 => ?_) (fun c252 => ?_)
              · refine r_iconst hx hb dX7_next_259 (by decide) (by decide) (fun x259 e259 => ?_)
                refine r_iconst hx hb dX7_next_260 (by decide) (by decide) (fun x260 e260 => ?_)
                refine cl_Vv (rest := []) hC hK hSK (c_X7_needs l z gk245 h0 (o0) g0 x259 x260 (by omega) (by omega)) k_X7_needs mw_4_177 ⟨rfl, rfl, Nat.le_of_ble_eq_true rfl, Nat.le_of_ble_eq_true rfl⟩ (rv_Model hK hT g0) hT rfl hl.1 rfl (Nat.le_of_ble_eq_true rfl) dX7_next_261 ⟨Nat.zero_le _, Nat.zero_le _⟩ hS (fun _ h => h) (fun _ _ h => h) (fun H locs hpo hS => ?_)
                obtain ⟨gk261, hz261, hT, u261_0, u261_1, u261_2, u261_3, u261_4, u261_5, u261_6⟩ := hpo
                have hg1 := eqv_tr hz261 hg1
                have tz261_40 := hz261 h0 40 rfl
                refine lv_aload_n hx hb dX7_next_264 rfl (lv_at hl 1 rfl) ?_
                refine lv_dup hx hb dX7_next_265 rfl ?_
                refine gt_Model_pos hx hb hts ic_Model hown hK hT g0 (hts _ mw_4_81) dX7_next_266 (fun x266 i266 e266 g266 => ?_)
                refine r_iconst hx hb dX7_next_269 (by decide) (by decide) (fun x269 e269 => ?_)
                refine r_iadd hx hb dX7_next_270 (by omega) (by omega) (fun x270 e270 => ?_)
                refine pt_Model_pos hx hb hts ic_Model hown hK hT hS g0 (hts _ mw_4_81) (by omega) (by omega) dX7_next_271 (fun H locs hT hS => ?_)
                obtain ⟨gk271, w271, hq271, y271, hg1, hT⟩ : ∃ g : Gh, g.1 h0 52 = x270.toInt ∧ (∀ b k, k ≠ 52 → g.1 b k = gk261.1 b k) ∧ g.2 = gk261.2 ∧ eqv g gh ∧ TY z (zA z) g H := ⟨_, gs_at _ _ _ _, fun b k hk => gs_nk _ _ _ _ hk, rfl, eqv_gs rfl hg1, hT⟩
                have t271_40 := hq271 h0 40 (by decide)
                have t271_53 := hq271 h0 53 (by decide)
                have t271_54 := hq271 h0 54 (by decide)
                have t271_55 := hq271 h0 55 (by decide)
                have t271_56 := hq271 h0 56 (by decide)
                exact rt_v hx hb hr hlk hS ⟨_, hg1, hT, by omega, by omega, by omega, by omega, by omega⟩ dX7_next_274
              · refine r_iconst hx hb dX7_next_255 (by decide) (by decide) (fun x255 e255 => ?_)
                refine lv_goto (tgt := 260) hx hb dX7_next_256 (by decide) ?_
                refine r_iconst hx hb dX7_next_260 (by decide) (by decide) (fun x260 e260 => ?_)
                refine cl_Vv (rest := []) hC hK hSK (c_X7_needs l z gk245 h0 (o0) g0 x255 x260 (by omega) (by omega)) k_X7_needs mw_4_177 ⟨rfl, rfl, Nat.le_of_ble_eq_true rfl, Nat.le_of_ble_eq_true rfl⟩ (rv_Model hK hT g0) hT rfl hl.1 rfl (Nat.le_of_ble_eq_true rfl) dX7_next_261 ⟨Nat.zero_le _, Nat.zero_le _⟩ hS (fun _ h => h) (fun _ _ h => h) (fun H locs hpo hS => ?_)
                obtain ⟨gk261, hz261, hT, u261_0, u261_1, u261_2, u261_3, u261_4, u261_5, u261_6⟩ := hpo
                have hg1 := eqv_tr hz261 hg1
                have tz261_40 := hz261 h0 40 rfl
                refine lv_aload_n hx hb dX7_next_264 rfl (lv_at hl 1 rfl) ?_
                refine lv_dup hx hb dX7_next_265 rfl ?_
                refine gt_Model_pos hx hb hts ic_Model hown hK hT g0 (hts _ mw_4_81) dX7_next_266 (fun x266 i266 e266 g266 => ?_)
                refine r_iconst hx hb dX7_next_269 (by decide) (by decide) (fun x269 e269 => ?_)
                refine r_iadd hx hb dX7_next_270 (by omega) (by omega) (fun x270 e270 => ?_)
                refine pt_Model_pos hx hb hts ic_Model hown hK hT hS g0 (hts _ mw_4_81) (by omega) (by omega) dX7_next_271 (fun H locs hT hS => ?_)
                obtain ⟨gk271, w271, hq271, y271, hg1, hT⟩ : ∃ g : Gh, g.1 h0 52 = x270.toInt ∧ (∀ b k, k ≠ 52 → g.1 b k = gk261.1 b k) ∧ g.2 = gk261.2 ∧ eqv g gh ∧ TY z (zA z) g H := ⟨_, gs_at _ _ _ _, fun b k hk => gs_nk _ _ _ _ hk, rfl, eqv_gs rfl hg1, hT⟩
                have t271_40 := hq271 h0 40 (by decide)
                have t271_53 := hq271 h0 53 (by decide)
                have t271_54 := hq271 h0 54 (by decide)
                have t271_55 := hq271 h0 55 (by decide)
                have t271_56 := hq271 h0 56 (by decide)
                exact rt_v hx hb hr hlk hS ⟨_, hg1, hT, by omega, by omega, by omega, by omega, by omega⟩ dX7_next_274
            · refine lv_aload_n hx hb dX7_next_130 rfl (lv_at hl 1 rfl) ?_
              refine r_iconst hx hb dX7_next_131 (by decide) (by decide) (fun x131 e131 => ?_)
              refine pt_Model_sort hx hb hts ic_Model hown hK hT hS g0 (hts _ mw_4_83) (by omega) (by omega) dX7_next_132 (fun H locs hT hS => ?_)
              obtain ⟨gk132, w132, hq132, y132, hg1, hT⟩ : ∃ g : Gh, g.1 h0 53 = x131.toInt ∧ (∀ b k, k ≠ 53 → g.1 b k = gk.1 b k) ∧ g.2 = gk.2 ∧ eqv g gh ∧ TY z (zA z) g H := ⟨_, gs_at _ _ _ _, fun b k hk => gs_nk _ _ _ _ hk, rfl, eqv_gs rfl hg1, hT⟩
              have t132_40 := hq132 h0 40 (by decide)
              have t132_52 := hq132 h0 52 (by decide)
              have t132_54 := hq132 h0 54 (by decide)
              have t132_55 := hq132 h0 55 (by decide)
              have t132_56 := hq132 h0 56 (by decide)
              refine lv_aload_n hx hb dX7_next_135 rfl (lv_at hl 1 rfl) ?_
              refine r_iconst hx hb dX7_next_136 (by decide) (by decide) (fun x136 e136 => ?_)
              have mx137 := i_mx x136
              refine pt_Model_value hx hb hts ic_Model hown hK hT hS g0 (hts _ mw_4_84) (by omega) (by omega) dX7_next_137 (fun H locs hT hS => ?_)
              obtain ⟨gk137, w137, hq137, y137, hg1, hT⟩ : ∃ g : Gh, g.1 h0 56 = x136.toInt ∧ (∀ b k, k ≠ 56 → g.1 b k = gk132.1 b k) ∧ g.2 = gk132.2 ∧ eqv g gh ∧ TY z (zA z) g H := ⟨_, gs_at _ _ _ _, fun b k hk => gs_nk _ _ _ _ hk, rfl, eqv_gs rfl hg1, hT⟩
              have t137_40 := hq137 h0 40 (by decide)
              have t137_52 := hq137 h0 52 (by decide)
              have t137_53 := hq137 h0 53 (by decide)
              have t137_54 := hq137 h0 54 (by decide)
              have t137_55 := hq137 h0 55 (by decide)
              have J140 : ∀ (n140 : Nat) (ls : Array Slot) (H : Heap) (locs : List Loc) (gk : Gh), (gh.1 h0 52 ≤ gk.1 h0 52 ∧ gk.1 h0 52 ≤ 160) → (gk.1 h0 55 = gh.1 h0 55) → (gh.1 h0 54 = 0 ∧ gk.1 h0 54 = 0) → (0 ≤ gk.1 h0 52) → (gk.1 h0 53 = 2) → (gh.1 h0 52 < gk.1 h0 52 ∨ (gk.1 h0 52 < gh.1 h0 40 ∧ ∀ q, zG z q = (44, h0) → 48 ≤ (gk.2 q (gk.1 h0 52).toNat).toInt ∧ (gk.2 q (gk.1 h0 52).toNat).toInt ≤ 57)) → (160 - gk.1 h0 52) < (n140 : Int) → eqv gk gh → TY z (zA z) gk H → va_S (zA z) s.heap H locs → lv_has ls 2 [(0, .ref h0), (1, .int r47)] → W p l e (rmF 2 89) s m ([.ref h0] : List Value).toArray below meth c H locs 0 0 (MQ below (QcV z (fun H => ∃ gk : Gh, eqv gk gh ∧ TY z (zA z) gk H ∧ (gh.1 h0 52 ≤ gk.1 h0 52) ∧ (gh.1 h0 54 = 0 → gk.1 h0 53 ≠ 0 → gh.1 h0 52 < gk.1 h0 52) ∧ (gk.1 h0 55 = gh.1 h0 55) ∧ (gh.1 h0 54 ≠ 0 → gk.1 h0 54 = gh.1 h0 54) ∧ (gh.1 h0 54 ≠ 0 → gk.1 h0 52 = gh.1 h0 52 ∧ gk.1 h0 53 = gh.1 h0 53))) ([.ref h0] : List Value).toArray s 0 0 (zA z)) (F0 m 140 ls []) := by
                intro n140
                induction n140 with
                | zero => intro ls H locs gk ex140_0 ex140_1 ex140_2 ex140_3 ex140_4 ex140_5 mm140 hg1 hT hS hl; exfalso; omega
                | succ n140 ih140 =>
                  intro ls H locs gk ex140_0 ex140_1 ex140_2 ex140_3 ex140_4 ex140_5 mm140 hg1 hT hS hl
                  have m40 := hg1 h0 40 rfl
                  refine lv_aload_n hx hb dX7_next_140 rfl (lv_at hl 0 rfl) ?_
                  refine lv_aload_n hx hb dX7_next_141 rfl (lv_at hl 0 rfl) ?_
                  refine gt_Model_pos hx hb hts ic_Model hown hK hT g0 (hts _ mw_4_81) dX7_next_142 (fun x142 i142 e142 g142 => ?_)
                  refine cl_Vi (rest := []) hC hK hSK (c_X7_byteAt l z gk h0 (o0) g0 x142 (by omega) pr0) k_X7_byteAt mw_4_169 ⟨rfl, rfl, Nat.le_of_ble_eq_true rfl, Nat.le_of_ble_eq_true rfl⟩ (rv_Model hK hT g0) hT rfl hl.1 rfl (Nat.le_of_ble_eq_true rfl) dX7_next_145 ⟨Nat.zero_le _, Nat.zero_le _⟩ hS (fun _ h => h) (fun _ _ h => h) (fun r145 H locs hpo hS => ?_)
                  obtain ⟨hT, u145_0, u145_1, u145_2, u145_3⟩ := hpo
                  have k145 : gh.1 h0 52 < gk.1 h0 52 ∨ (48 ≤ r145.toInt ∧ r145.toInt ≤ 57) := by rcases ex140_5 with k9 | ⟨k1, k2⟩; exact Or.inl k9; right; obtain ⟨q9, h9⟩ := (ty_mr hT g0).2.2.2.2.2; have a1 := u145_2 (by omega) q9 h9; have a2 := k2 q9 h9; have n9 := ix_nat (i := x142) (by omega); rw [show (gk.1 h0 52).toNat = x142.toNatClampNeg by omega, ← a1] at a2; exact a2
                  refine r_i2l hx hb dX7_next_148 (fun x148 e148 => ?_)
                  refine r_ldc2 (48) rfl hx hb hts hown mw_4_175 dX7_next_149 (fun x149 e149 => ?_)
                  refine r_ldc2 (57) rfl hx hb hts hown mw_4_176 dX7_next_152 (fun x152 e152 => ?_)
                  refine cl_Si (rest := []) hC hK hSK (c_X7_in l z gk x148 x149 x152) k_X7_in mw_4_154 ⟨rfl, rfl, Nat.le_of_ble_eq_true rfl, Nat.le_of_ble_eq_true rfl⟩ hT rfl hl.1 rfl (Nat.le_of_ble_eq_true rfl) dX7_next_155 ⟨Nat.zero_le _, Nat.zero_le _⟩ hS (fun _ h => h) (fun _ _ h => h) (fun r155 H locs hpo hS => ?_)
                  obtain ⟨hT, u155_0, u155_1⟩ := hpo
                  refine r_if_eq (tgt := 217) hx hb dX7_next_158 (by decide) (fun c158 => ?_) (fun c158 => ?_)
                  · refine lv_aload_n hx hb dX7_next_217 rfl (lv_at hl 0 rfl) ?_
                    refine lv_aload_n hx hb dX7_next_218 rfl (lv_at hl 0 rfl) ?_
                    refine gt_Model_pos hx hb hts ic_Model hown hK hT g0 (hts _ mw_4_81) dX7_next_219 (fun x219 i219 e219 g219 => ?_)
                    refine lv_aload_n hx hb dX7_next_222 rfl (lv_at hl 0 rfl) ?_
                    refine gt_Model_from hx hb hts ic_Model hown hK hT g0 (hts _ mw_4_82) dX7_next_223 (fun x223 e223 g223 => ?_)
                    refine r_isub hx hb dX7_next_226 (by omega) (by omega) (fun x226 e226 => ?_)
                    refine r_iconst hx hb dX7_next_227 (by decide) (by decide) (fun x227 e227 => ?_)
                    refine r_icmp_gt (tgt := 235) hx hb dX7_next_228 (by decide) (fun c228 => ?_) (fun c228 => ?_)
                    · refine r_iconst hx hb dX7_next_235 (by decide) (by decide) (fun x235 e235 => ?_)
                      refine r_iconst hx hb dX7_next_236 (by decide) (by decide) (fun x236 e236 => ?_)
                      refine cl_Vv (rest := []) hC hK hSK (c_X7_needs l z gk h0 (o0) g0 x235 x236 (by omega) (by omega)) k_X7_needs mw_4_177 ⟨rfl, rfl, Nat.le_of_ble_eq_true rfl, Nat.le_of_ble_eq_true rfl⟩ (rv_Model hK hT g0) hT rfl hl.1 rfl (Nat.le_of_ble_eq_true rfl) dX7_next_237 ⟨Nat.zero_le _, Nat.zero_le _⟩ hS (fun _ h => h) (fun _ _ h => h) (fun H locs hpo hS => ?_)
                      obtain ⟨gk237, hz237, hT, u237_0, u237_1, u237_2, u237_3, u237_4, u237_5, u237_6⟩ := hpo
                      have hg1 := eqv_tr hz237 hg1
                      have tz237_40 := hz237 h0 40 rfl
                      refine lv_goto (tgt := 274) hx hb dX7_next_240 (by decide) ?_
                      exact rt_v hx hb hr hlk hS ⟨_, hg1, hT, by omega, by omega, by omega, by omega, by omega⟩ dX7_next_274
                    · refine r_iconst hx hb dX7_next_231 (by decide) (by decide) (fun x231 e231 => ?_)
                      refine lv_goto (tgt := 236) hx hb dX7_next_232 (by decide) ?_
                      refine r_iconst hx hb dX7_next_236 (by decide) (by decide) (fun x236 e236 => ?_)
                      refine cl_Vv (rest := []) hC hK hSK (c_X7_needs l z gk h0 (o0) g0 x231 x236 (by omega) (by omega)) k_X7_needs mw_4_177 ⟨rfl, rfl, Nat.le_of_ble_eq_true rfl, Nat.le_of_ble_eq_true rfl⟩ (rv_Model hK hT g0) hT rfl hl.1 rfl (Nat.le_of_ble_eq_true rfl) dX7_next_237 ⟨Nat.zero_le _, Nat.zero_le _⟩ hS (fun _ h => h) (fun _ _ h => h) (fun H locs hpo hS => ?_)
                      obtain ⟨gk237, hz237, hT, u237_0, u237_1, u237_2, u237_3, u237_4, u237_5, u237_6⟩ := hpo
                      have hg1 := eqv_tr hz237 hg1
                      have tz237_40 := hz237 h0 40 rfl
                      refine lv_goto (tgt := 274) hx hb dX7_next_240 (by decide) ?_
                      exact rt_v hx hb hr hlk hS ⟨_, hg1, hT, by omega, by omega, by omega, by omega, by omega⟩ dX7_next_274
                  · refine lv_aload_n hx hb dX7_next_161 rfl (lv_at hl 0 rfl) ?_
                    refine lv_aload_n hx hb dX7_next_162 rfl (lv_at hl 0 rfl) ?_
                    refine gt_Model_pos hx hb hts ic_Model hown hK hT g0 (hts _ mw_4_81) dX7_next_163 (fun x163 i163 e163 g163 => ?_)
                    refine lv_aload_n hx hb dX7_next_166 rfl (lv_at hl 0 rfl) ?_
                    refine gt_Model_from hx hb hts ic_Model hown hK hT g0 (hts _ mw_4_82) dX7_next_167 (fun x167 e167 g167 => ?_)
                    refine r_isub hx hb dX7_next_170 (by omega) (by omega) (fun x170 e170 => ?_)
                    refine r_iconst hx hb dX7_next_171 (by decide) (by decide) (fun x171 e171 => ?_)
                    have J201 : ∀ (ls : Array Slot) (H : Heap) (locs : List Loc) (t201_1 : Int32) (gk : Gh), (gh.1 h0 52 ≤ gk.1 h0 52 ∧ gk.1 h0 52 ≤ 160) → (gk.1 h0 55 = gh.1 h0 55) → (gh.1 h0 54 = 0 ∧ gk.1 h0 54 = 0) → (0 ≤ gk.1 h0 52) → (gk.1 h0 53 = 2) → (gk.1 h0 52 = x142.toInt) → (160 - gk.1 h0 52) < ((n140 + 1 : Nat) : Int) → eqv gk gh → TY z (zA z) gk H → va_S (zA z) s.heap H locs → lv_has ls 2 [(0, .ref h0), (1, .int r47)] → W p l e (rmF 2 89) s m ([.ref h0] : List Value).toArray below meth c H locs 0 0 (MQ below (QcV z (fun H => ∃ gk : Gh, eqv gk gh ∧ TY z (zA z) gk H ∧ (gh.1 h0 52 ≤ gk.1 h0 52) ∧ (gh.1 h0 54 = 0 → gk.1 h0 53 ≠ 0 → gh.1 h0 52 < gk.1 h0 52) ∧ (gk.1 h0 55 = gh.1 h0 55) ∧ (gh.1 h0 54 ≠ 0 → gk.1 h0 54 = gh.1 h0 54) ∧ (gh.1 h0 54 ≠ 0 → gk.1 h0 52 = gh.1 h0 52 ∧ gk.1 h0 53 = gh.1 h0 53))) ([.ref h0] : List Value).toArray s 0 0 (zA z)) (F0 m 201 ls [.int t201_1, .ref h0]) := by
                      intro ls H locs t201_1 gk ex201_0 ex201_1 ex201_2 ex201_3 ex201_4 ex201_5 mf201_140 hg1 hT hS hl
                      have m40 := hg1 h0 40 rfl
                      have mx201 := i_mx t201_1
                      refine pt_Model_value hx hb hts ic_Model hown hK hT hS g0 (hts _ mw_4_84) (by omega) (by omega) dX7_next_201 (fun H locs hT hS => ?_)
                      obtain ⟨gk201, w201, hq201, y201, hg1, hT⟩ : ∃ g : Gh, g.1 h0 56 = t201_1.toInt ∧ (∀ b k, k ≠ 56 → g.1 b k = gk.1 b k) ∧ g.2 = gk.2 ∧ eqv g gh ∧ TY z (zA z) g H := ⟨_, gs_at _ _ _ _, fun b k hk => gs_nk _ _ _ _ hk, rfl, eqv_gs rfl hg1, hT⟩
                      have t201_40 := hq201 h0 40 (by decide)
                      have t201_52 := hq201 h0 52 (by decide)
                      have t201_53 := hq201 h0 53 (by decide)
                      have t201_54 := hq201 h0 54 (by decide)
                      have t201_55 := hq201 h0 55 (by decide)
                      refine lv_aload_n hx hb dX7_next_204 rfl (lv_at hl 0 rfl) ?_
                      refine lv_dup hx hb dX7_next_205 rfl ?_
                      refine gt_Model_pos hx hb hts ic_Model hown hK hT g0 (hts _ mw_4_81) dX7_next_206 (fun x206 i206 e206 g206 => ?_)
                      refine r_iconst hx hb dX7_next_209 (by decide) (by decide) (fun x209 e209 => ?_)
                      refine r_iadd hx hb dX7_next_210 (by omega) (by omega) (fun x210 e210 => ?_)
                      refine pt_Model_pos hx hb hts ic_Model hown hK hT hS g0 (hts _ mw_4_81) (by omega) (by omega) dX7_next_211 (fun H locs hT hS => ?_)
                      obtain ⟨gk211, w211, hq211, y211, hg1, hT⟩ : ∃ g : Gh, g.1 h0 52 = x210.toInt ∧ (∀ b k, k ≠ 52 → g.1 b k = gk201.1 b k) ∧ g.2 = gk201.2 ∧ eqv g gh ∧ TY z (zA z) g H := ⟨_, gs_at _ _ _ _, fun b k hk => gs_nk _ _ _ _ hk, rfl, eqv_gs rfl hg1, hT⟩
                      have t211_40 := hq211 h0 40 (by decide)
                      have t211_53 := hq211 h0 53 (by decide)
                      have t211_54 := hq211 h0 54 (by decide)
                      have t211_55 := hq211 h0 55 (by decide)
                      have t211_56 := hq211 h0 56 (by decide)
                      refine lv_goto (tgt := 140) hx hb dX7_next_214 (by decide) ?_
                      exact ih140 ls _ _ _ (by omega) (by omega) (by omega) (by omega) (by omega) (by left; omega) (by omega) hg1 hT hS (lv_sub hl [0, 1] rfl)
                    refine r_icmp_ge (tgt := 197) hx hb dX7_next_172 (by decide) (fun c172 => ?_) (fun c172 => ?_)
                    · refine lv_aload_n hx hb dX7_next_197 rfl (lv_at hl 0 rfl) ?_
                      refine gt_Model_value hx hb hts ic_Model hown hK hT g0 (hts _ mw_4_84) dX7_next_198 (fun x198 i198 e198 g198 => ?_)
                      exact J201 ls _ _ x198 _ (by omega) (by omega) (by omega) (by omega) (by omega) (by omega) (by omega) hg1 hT hS (lv_sub hl [0, 1] rfl)
                    · refine r_bipush hx hb dX7_next_175 rfl (fun x175 e175 => ?_)
                      refine lv_aload_n hx hb dX7_next_177 rfl (lv_at hl 0 rfl) ?_
                      refine gt_Model_value hx hb hts ic_Model hown hK hT g0 (hts _ mw_4_84) dX7_next_178 (fun x178 i178 e178 g178 => ?_)
                      refine w_imul hx hb dX7_next_181 (fun x181 => ?_)
                      refine lv_aload_n hx hb dX7_next_182 rfl (lv_at hl 0 rfl) ?_
                      refine lv_aload_n hx hb dX7_next_183 rfl (lv_at hl 0 rfl) ?_
                      refine gt_Model_pos hx hb hts ic_Model hown hK hT g0 (hts _ mw_4_81) dX7_next_184 (fun x184 i184 e184 g184 => ?_)
                      refine cl_Vi (rest := [.int x181, .ref h0]) hC hK hSK (c_X7_byteAt l z gk h0 (o0) g0 x184 (by omega) pr0) k_X7_byteAt mw_4_169 ⟨rfl, rfl, Nat.le_of_ble_eq_true rfl, Nat.le_of_ble_eq_true rfl⟩ (rv_Model hK hT g0) hT rfl hl.1 rfl (Nat.le_of_ble_eq_true rfl) dX7_next_187 ⟨Nat.zero_le _, Nat.zero_le _⟩ hS (fun _ h => h) (fun _ _ h => h) (fun r187 H locs hpo hS => ?_)
                      obtain ⟨hT, u187_0, u187_1, u187_2, u187_3⟩ := hpo
                      refine w_iadd hx hb dX7_next_190 (fun x190 => ?_)
                      refine r_bipush hx hb dX7_next_191 rfl (fun x191 e191 => ?_)
                      refine w_isub hx hb dX7_next_193 (fun x193 => ?_)
                      refine lv_goto (tgt := 201) hx hb dX7_next_194 (by decide) ?_
                      exact J201 ls _ _ x193 _ (by omega) (by omega) (by omega) (by omega) (by omega) (by omega) (by omega) hg1 hT hS (lv_sub hl [0, 1] rfl)
              exact J140 (((160 - gk137.1 h0 52)).toNat + 1) ls _ _ _ (by omega) (by omega) (by omega) (by omega) (by omega) (by right; refine ⟨by omega, fun q9 h9 => ?_⟩; have a1 := u47_2 (by omega) q9 h9; have n9 := ix_nat (i := x44) (by omega); rw [show (gk137.1 h0 52).toNat = x44.toNatClampNeg by omega, y137, y132, ← a1]; omega) (by omega) hg1 hT hS (lv_sub hl [1, 0] rfl)
          · refine lv_aload_n hx hb dX7_next_77 rfl (lv_at hl 1 rfl) ?_
            refine r_iconst hx hb dX7_next_78 (by decide) (by decide) (fun x78 e78 => ?_)
            refine pt_Model_sort hx hb hts ic_Model hown hK hT hS g0 (hts _ mw_4_83) (by omega) (by omega) dX7_next_79 (fun H locs hT hS => ?_)
            obtain ⟨gk79, w79, hq79, y79, hg1, hT⟩ : ∃ g : Gh, g.1 h0 53 = x78.toInt ∧ (∀ b k, k ≠ 53 → g.1 b k = gk.1 b k) ∧ g.2 = gk.2 ∧ eqv g gh ∧ TY z (zA z) g H := ⟨_, gs_at _ _ _ _, fun b k hk => gs_nk _ _ _ _ hk, rfl, eqv_gs rfl hg1, hT⟩
            have t79_40 := hq79 h0 40 (by decide)
            have t79_52 := hq79 h0 52 (by decide)
            have t79_54 := hq79 h0 54 (by decide)
            have t79_55 := hq79 h0 55 (by decide)
            have t79_56 := hq79 h0 56 (by decide)
            have J82 : ∀ (n82 : Nat) (ls : Array Slot) (H : Heap) (locs : List Loc) (gk : Gh), (gh.1 h0 52 ≤ gk.1 h0 52 ∧ gk.1 h0 52 ≤ 160) → (gk.1 h0 55 = gh.1 h0 55) → (gh.1 h0 54 = 0 ∧ gk.1 h0 54 = 0) → (0 ≤ gk.1 h0 52) → (gk.1 h0 53 = 1) → (gh.1 h0 52 < gk.1 h0 52 ∨ (gk.1 h0 52 < gh.1 h0 40 ∧ ∀ q, zG z q = (44, h0) → 97 ≤ (gk.2 q (gk.1 h0 52).toNat).toInt ∧ (gk.2 q (gk.1 h0 52).toNat).toInt ≤ 122)) → (160 - gk.1 h0 52) < (n82 : Int) → eqv gk gh → TY z (zA z) gk H → va_S (zA z) s.heap H locs → lv_has ls 2 [(0, .ref h0), (1, .int r47)] → W p l e (rmF 2 89) s m ([.ref h0] : List Value).toArray below meth c H locs 0 0 (MQ below (QcV z (fun H => ∃ gk : Gh, eqv gk gh ∧ TY z (zA z) gk H ∧ (gh.1 h0 52 ≤ gk.1 h0 52) ∧ (gh.1 h0 54 = 0 → gk.1 h0 53 ≠ 0 → gh.1 h0 52 < gk.1 h0 52) ∧ (gk.1 h0 55 = gh.1 h0 55) ∧ (gh.1 h0 54 ≠ 0 → gk.1 h0 54 = gh.1 h0 54) ∧ (gh.1 h0 54 ≠ 0 → gk.1 h0 52 = gh.1 h0 52 ∧ gk.1 h0 53 = gh.1 h0 53))) ([.ref h0] : List Value).toArray s 0 0 (zA z)) (F0 m 82 ls []) := by
              intro n82
              induction n82 with
              | zero => intro ls H locs gk ex82_0 ex82_1 ex82_2 ex82_3 ex82_4 ex82_5 mm82 hg1 hT hS hl; exfalso; omega
              | succ n82 ih82 =>
                intro ls H locs gk ex82_0 ex82_1 ex82_2 ex82_3 ex82_4 ex82_5 mm82 hg1 hT hS hl
                have m40 := hg1 h0 40 rfl
                refine lv_aload_n hx hb dX7_next_82 rfl (lv_at hl 0 rfl) ?_
                refine lv_aload_n hx hb dX7_next_83 rfl (lv_at hl 0 rfl) ?_
                refine gt_Model_pos hx hb hts ic_Model hown hK hT g0 (hts _ mw_4_81) dX7_next_84 (fun x84 i84 e84 g84 => ?_)
                refine cl_Vi (rest := []) hC hK hSK (c_X7_byteAt l z gk h0 (o0) g0 x84 (by omega) pr0) k_X7_byteAt mw_4_169 ⟨rfl, rfl, Nat.le_of_ble_eq_true rfl, Nat.le_of_ble_eq_true rfl⟩ (rv_Model hK hT g0) hT rfl hl.1 rfl (Nat.le_of_ble_eq_true rfl) dX7_next_87 ⟨Nat.zero_le _, Nat.zero_le _⟩ hS (fun _ h => h) (fun _ _ h => h) (fun r87 H locs hpo hS => ?_)
                obtain ⟨hT, u87_0, u87_1, u87_2, u87_3⟩ := hpo
                have k87 : gh.1 h0 52 < gk.1 h0 52 ∨ (97 ≤ r87.toInt ∧ r87.toInt ≤ 122) := by rcases ex82_5 with k9 | ⟨k1, k2⟩; exact Or.inl k9; right; obtain ⟨q9, h9⟩ := (ty_mr hT g0).2.2.2.2.2; have a1 := u87_2 (by omega) q9 h9; have a2 := k2 q9 h9; have n9 := ix_nat (i := x84) (by omega); rw [show (gk.1 h0 52).toNat = x84.toNatClampNeg by omega, ← a1] at a2; exact a2
                refine r_i2l hx hb dX7_next_90 (fun x90 e90 => ?_)
                refine r_ldc2 (97) rfl hx hb hts hown mw_4_173 dX7_next_91 (fun x91 e91 => ?_)
                refine r_ldc2 (122) rfl hx hb hts hown mw_4_174 dX7_next_94 (fun x94 e94 => ?_)
                refine cl_Si (rest := []) hC hK hSK (c_X7_in l z gk x90 x91 x94) k_X7_in mw_4_154 ⟨rfl, rfl, Nat.le_of_ble_eq_true rfl, Nat.le_of_ble_eq_true rfl⟩ hT rfl hl.1 rfl (Nat.le_of_ble_eq_true rfl) dX7_next_97 ⟨Nat.zero_le _, Nat.zero_le _⟩ hS (fun _ h => h) (fun _ _ h => h) (fun r97 H locs hpo hS => ?_)
                obtain ⟨hT, u97_0, u97_1⟩ := hpo
                refine r_if_eq (tgt := 274) hx hb dX7_next_100 (by decide) (fun c100 => ?_) (fun c100 => ?_)
                · exact rt_v hx hb hr hlk hS ⟨_, hg1, hT, by omega, by omega, by omega, by omega, by omega⟩ dX7_next_274
                · refine lv_aload_n hx hb dX7_next_103 rfl (lv_at hl 0 rfl) ?_
                  refine lv_dup hx hb dX7_next_104 rfl ?_
                  refine gt_Model_pos hx hb hts ic_Model hown hK hT g0 (hts _ mw_4_81) dX7_next_105 (fun x105 i105 e105 g105 => ?_)
                  refine r_iconst hx hb dX7_next_108 (by decide) (by decide) (fun x108 e108 => ?_)
                  refine r_iadd hx hb dX7_next_109 (by omega) (by omega) (fun x109 e109 => ?_)
                  refine pt_Model_pos hx hb hts ic_Model hown hK hT hS g0 (hts _ mw_4_81) (by omega) (by omega) dX7_next_110 (fun H locs hT hS => ?_)
                  obtain ⟨gk110, w110, hq110, y110, hg1, hT⟩ : ∃ g : Gh, g.1 h0 52 = x109.toInt ∧ (∀ b k, k ≠ 52 → g.1 b k = gk.1 b k) ∧ g.2 = gk.2 ∧ eqv g gh ∧ TY z (zA z) g H := ⟨_, gs_at _ _ _ _, fun b k hk => gs_nk _ _ _ _ hk, rfl, eqv_gs rfl hg1, hT⟩
                  have t110_40 := hq110 h0 40 (by decide)
                  have t110_53 := hq110 h0 53 (by decide)
                  have t110_54 := hq110 h0 54 (by decide)
                  have t110_55 := hq110 h0 55 (by decide)
                  have t110_56 := hq110 h0 56 (by decide)
                  refine lv_goto (tgt := 82) hx hb dX7_next_113 (by decide) ?_
                  exact ih82 ls _ _ _ (by omega) (by omega) (by omega) (by omega) (by omega) (by left; omega) (by omega) hg1 hT hS (lv_sub hl [0, 1] rfl)
            exact J82 (((160 - gk79.1 h0 52)).toNat + 1) ls _ _ _ (by omega) (by omega) (by omega) (by omega) (by omega) (by right; refine ⟨by omega, fun q9 h9 => ?_⟩; have a1 := u47_2 (by omega) q9 h9; have n9 := ix_nat (i := x44) (by omega); rw [show (gk79.1 h0 52).toNat = x44.toNatClampNeg by omega, y79, ← a1]; omega) (by omega) hg1 hT hS (lv_sub hl [1, 0] rfl)
        · refine lv_aload_n hx hb dX7_next_55 rfl (lv_at hl 1 rfl) ?_
          refine r_iconst hx hb dX7_next_56 (by decide) (by decide) (fun x56 e56 => ?_)
          refine pt_Model_sort hx hb hts ic_Model hown hK hT hS g0 (hts _ mw_4_83) (by omega) (by omega) dX7_next_57 (fun H locs hT hS => ?_)
          obtain ⟨gk57, w57, hq57, y57, hg1, hT⟩ : ∃ g : Gh, g.1 h0 53 = x56.toInt ∧ (∀ b k, k ≠ 53 → g.1 b k = gk.1 b k) ∧ g.2 = gk.2 ∧ eqv g gh ∧ TY z (zA z) g H := ⟨_, gs_at _ _ _ _, fun b k hk => gs_nk _ _ _ _ hk, rfl, eqv_gs rfl hg1, hT⟩
          have t57_40 := hq57 h0 40 (by decide)
          have t57_52 := hq57 h0 52 (by decide)
          have t57_54 := hq57 h0 54 (by decide)
          have t57_55 := hq57 h0 55 (by decide)
          have t57_56 := hq57 h0 56 (by decide)
          refine lv_goto (tgt := 274) hx hb dX7_next_60 (by decide) ?_
          exact rt_v hx hb hr hlk hS ⟨_, hg1, hT, by omega, by omega, by omega, by omega, by omega⟩ dX7_next_274
      · refine lv_aload_n hx hb dX7_next_21 rfl (lv_at hl 0 rfl) ?_
        refine lv_dup hx hb dX7_next_22 rfl ?_
        refine gt_Model_pos hx hb hts ic_Model hown hK hT g0 (hts _ mw_4_81) dX7_next_23 (fun x23 i23 e23 g23 => ?_)
        refine r_iconst hx hb dX7_next_26 (by decide) (by decide) (fun x26 e26 => ?_)
        refine r_iadd hx hb dX7_next_27 (by omega) (by omega) (fun x27 e27 => ?_)
        refine pt_Model_pos hx hb hts ic_Model hown hK hT hS g0 (hts _ mw_4_81) (by omega) (by omega) dX7_next_28 (fun H locs hT hS => ?_)
        obtain ⟨gk28, w28, hq28, y28, hg1, hT⟩ : ∃ g : Gh, g.1 h0 52 = x27.toInt ∧ (∀ b k, k ≠ 52 → g.1 b k = gk.1 b k) ∧ g.2 = gk.2 ∧ eqv g gh ∧ TY z (zA z) g H := ⟨_, gs_at _ _ _ _, fun b k hk => gs_nk _ _ _ _ hk, rfl, eqv_gs rfl hg1, hT⟩
        have t28_40 := hq28 h0 40 (by decide)
        have t28_53 := hq28 h0 53 (by decide)
        have t28_54 := hq28 h0 54 (by decide)
        have t28_55 := hq28 h0 55 (by decide)
        have t28_56 := hq28 h0 56 (by decide)
        refine lv_goto (tgt := 8) hx hb dX7_next_31 (by decide) ?_
        exact ih8 ls _ _ _ (by omega) (by omega) (by omega) (by omega) (by omega) hg1 hT hS (lv_sub hl [0] rfl)
  refine r_if_le (tgt := 8) hx hb dX7_next_4 (by decide) (fun c4 => ?_) (fun c4 => ?_)
  · exact J8 (((160 - gh.1 h0 52)).toNat + 1) ls _ _ _ (by omega) (by omega) (by omega) (by omega) (by omega) hg1 hT hS (lv_sub hl [0] rfl)
  · exact rt_v hx hb hr hlk hS ⟨_, hg1, hT, by omega, by omega, by omega, by omega, by omega⟩ dX7_next_7
theorem k_X7_looked : cBV yX7_looked cX7_looked 3 (some .int) 2 := ⟨mw_4_207, ms_2_7, mw_1_8, mw_4_208, ⟨by decide, by decide, by decide⟩⟩
set_option maxHeartbeats 4000000 in
set_option maxRecDepth 100000 in
theorem c_X7_looked (l : Launch) (z : Zt) (gh : Gh) (h0 o0 : Nat) (g0 : zG z h0 = (17, o0)) (p1 : Int32) (p2 : Int32) (bp1 : 0 ≤ p1.toInt ∧ p1.toInt ≤ 0) (bp2 : 4 ≤ p2.toInt ∧ p2.toInt ≤ 9) (pr0 : zu z) : Met l yX7_looked (uw yX7_looked cX7_looked 3 (some .int)) (rmF 2 89) (PcW z [.ref h0, .int p1, .int p2] (fun H => TY z (zA z) gh H)) (QcI z (fun r H => ∃ gk : Gh, eqv gk gh ∧ TY z (zA z) gk H ∧ (0 ≤ r.toInt ∧ r.toInt ≤ p2.toInt) ∧ (gk.1 h0 52 = gh.1 h0 52) ∧ (gk.1 h0 53 = gh.1 h0 53) ∧ (gk.1 h0 55 = gh.1 h0 55) ∧ (gk.1 h0 54 = 0 → gh.1 h0 54 = 0))) 0 0 (zA z) := by
  refine Met.ofW (cc := cX7_looked) (maxL := 3) (ret := (some .int)) (by decide) rfl ?_
  intro p e s m args below meth c s₁ B hml hv
  obtain ⟨rfl, hW, hK, hSK⟩ := hv
  have hx := B.exec
  have hb := B.bytes
  have hr := B.returns
  have hts : ∀ w ∈ lw_ok, w.before ([.ref h0, .int p1, .int p2] : List Value).toArray s = true := fun w hw => atoms_spec (ws := uw yX7_looked cX7_looked 3 (some .int)) B.pre w (List.mem_cons_of_mem _ hw)
  have hown : s.vm.findClass RX7 = some m.cls := findClass_of_methodNamed B.named
  have hlk := B.notSynchronized
  have hC : CallFix p m c cX7_looked 3 s ([.ref h0, .int p1, .int p2] : List Value).toArray lw_ok RX7 := ⟨hx, hb, hml, hown, hts⟩
  have hS : va_S (zA z) s.heap s.heap [] := va_S.rf
  have hl := lv_entry ([.ref h0, .int p1, .int p2]) (n := 3) (Nat.le_of_ble_eq_true rfl)
  rw [lg_entry_eq]
  generalize (lg_sl ([.ref h0, .int p1, .int p2]) ++ List.replicate (3 - (lg_sl ([.ref h0, .int p1, .int p2])).length) Slot.unset).toArray = ls at hl ⊢
  have hl : lv_has ls 3 [(0, .ref h0), (1, .int p1), (2, .int p2)] := hl
  show W p l e (rmF 2 89) s m ([.ref h0, .int p1, .int p2] : List Value).toArray below meth c s.heap [] 0 0 (MQ below (QcI z (fun r H => ∃ gk : Gh, eqv gk gh ∧ TY z (zA z) gk H ∧ (0 ≤ r.toInt ∧ r.toInt ≤ p2.toInt) ∧ (gk.1 h0 52 = gh.1 h0 52) ∧ (gk.1 h0 53 = gh.1 h0 53) ∧ (gk.1 h0 55 = gh.1 h0 55) ∧ (gk.1 h0 54 = 0 → gh.1 h0 54 = 0))) ([.ref h0, .int p1, .int p2] : List Value).toArray s 0 0 (zA z)) (F0 m 0 ls [])
  have hT : TY z (zA z) gh s.heap := hW
  have hg1 : eqv gh gh := eqv_rf gh
  refine lv_aload_n hx hb dX7_looked_0 rfl (lv_at hl 0 rfl) ?_
  refine gt_Model_fault hx hb hts ic_Model hown hK hT g0 (hts _ mw_4_85) dX7_looked_1 (fun x1 i1 e1 g1 => ?_)
  have J25 : ∀ (ls : Array Slot) (H : Heap) (locs : List Loc) (gk : Gh), (gk.1 h0 52 = gh.1 h0 52 ∧ gk.1 h0 53 = gh.1 h0 53 ∧ gk.1 h0 55 = gh.1 h0 55 ∧ gk.1 h0 56 = gh.1 h0 56) → (gk.1 h0 54 = 0 → gh.1 h0 54 = 0) → eqv gk gh → TY z (zA z) gk H → va_S (zA z) s.heap H locs → lv_has ls 3 [(0, .ref h0), (1, .int p1), (2, .int p2)] → W p l e (rmF 2 89) s m ([.ref h0, .int p1, .int p2] : List Value).toArray below meth c H locs 0 0 (MQ below (QcI z (fun r H => ∃ gk : Gh, eqv gk gh ∧ TY z (zA z) gk H ∧ (0 ≤ r.toInt ∧ r.toInt ≤ p2.toInt) ∧ (gk.1 h0 52 = gh.1 h0 52) ∧ (gk.1 h0 53 = gh.1 h0 53) ∧ (gk.1 h0 55 = gh.1 h0 55) ∧ (gk.1 h0 54 = 0 → gh.1 h0 54 = 0))) ([.ref h0, .int p1, .int p2] : List Value).toArray s 0 0 (zA z)) (F0 m 25 ls []) := by
    intro ls H locs gk ex25_0 ex25_1 hg1 hT hS hl
    refine lv_aload_n hx hb dX7_looked_25 rfl (lv_at hl 0 rfl) ?_
    refine gt_Model_fault hx hb hts ic_Model hown hK hT g0 (hts _ mw_4_85) dX7_looked_26 (fun x26 i26 e26 g26 => ?_)
    have J49 : ∀ (ls : Array Slot) (H : Heap) (locs : List Loc) (gk : Gh), (gk.1 h0 52 = gh.1 h0 52 ∧ gk.1 h0 53 = gh.1 h0 53 ∧ gk.1 h0 55 = gh.1 h0 55 ∧ gk.1 h0 56 = gh.1 h0 56) → (gk.1 h0 54 = 0 → gh.1 h0 54 = 0) → (gk.1 h0 54 = 0 → 0 ≤ gh.1 h0 56 ∧ gh.1 h0 56 ≤ p2.toInt) → eqv gk gh → TY z (zA z) gk H → va_S (zA z) s.heap H locs → lv_has ls 3 [(0, .ref h0), (1, .int p1), (2, .int p2)] → W p l e (rmF 2 89) s m ([.ref h0, .int p1, .int p2] : List Value).toArray below meth c H locs 0 0 (MQ below (QcI z (fun r H => ∃ gk : Gh, eqv gk gh ∧ TY z (zA z) gk H ∧ (0 ≤ r.toInt ∧ r.toInt ≤ p2.toInt) ∧ (gk.1 h0 52 = gh.1 h0 52) ∧ (gk.1 h0 53 = gh.1 h0 53) ∧ (gk.1 h0 55 = gh.1 h0 55) ∧ (gk.1 h0 54 = 0 → gh.1 h0 54 = 0))) ([.ref h0, .int p1, .int p2] : List Value).toArray s 0 0 (zA z)) (F0 m 49 ls []) := by
      intro ls H locs gk ex49_0 ex49_1 ex49_2 hg1 hT hS hl
      refine lv_aload_n hx hb dX7_looked_49 rfl (lv_at hl 0 rfl) ?_
      refine gt_Model_fault hx hb hts ic_Model hown hK hT g0 (hts _ mw_4_85) dX7_looked_50 (fun x50 i50 e50 g50 => ?_)
      refine r_if_ne (tgt := 63) hx hb dX7_looked_53 (by decide) (fun c53 => ?_) (fun c53 => ?_)
      · refine r_iconst hx hb dX7_looked_63 (by decide) (by decide) (fun x63 e63 => ?_)
        exact rt_i hx hb hr hlk hS ⟨_, hg1, hT, by omega, by omega, by omega, by omega, by omega⟩ dX7_looked_64
      · refine lv_aload_n hx hb dX7_looked_56 rfl (lv_at hl 0 rfl) ?_
        refine gt_Model_value hx hb hts ic_Model hown hK hT g0 (hts _ mw_4_84) dX7_looked_57 (fun x57 i57 e57 g57 => ?_)
        refine lv_goto (tgt := 64) hx hb dX7_looked_60 (by decide) ?_
        exact rt_i hx hb hr hlk hS ⟨_, hg1, hT, by omega, by omega, by omega, by omega, by omega⟩ dX7_looked_64
    refine r_if_ne (tgt := 49) hx hb dX7_looked_29 (by decide) (fun c29 => ?_) (fun c29 => ?_)
    · exact J49 ls _ _ _ (by omega) (by omega) (by omega) hg1 hT hS (lv_sub hl [0, 1, 2] rfl)
    · refine lv_aload_n hx hb dX7_looked_32 rfl (lv_at hl 0 rfl) ?_
      refine lv_aload_n hx hb dX7_looked_33 rfl (lv_at hl 0 rfl) ?_
      refine gt_Model_value hx hb hts ic_Model hown hK hT g0 (hts _ mw_4_84) dX7_looked_34 (fun x34 i34 e34 g34 => ?_)
      refine r_i2l hx hb dX7_looked_37 (fun x37 e37 => ?_)
      refine lv_iload_n hx hb dX7_looked_38 rfl (lv_at hl 1 rfl) ?_
      refine r_i2l hx hb dX7_looked_39 (fun x39 e39 => ?_)
      refine lv_iload_n hx hb dX7_looked_40 rfl (lv_at hl 2 rfl) ?_
      refine r_i2l hx hb dX7_looked_41 (fun x41 e41 => ?_)
      refine cl_Si (rest := [.ref h0]) hC hK hSK (c_X7_in l z gk x37 x39 x41) k_X7_in mw_4_154 ⟨rfl, rfl, Nat.le_of_ble_eq_true rfl, Nat.le_of_ble_eq_true rfl⟩ hT rfl hl.1 rfl (Nat.le_of_ble_eq_true rfl) dX7_looked_42 ⟨Nat.zero_le _, Nat.zero_le _⟩ hS (fun _ h => h) (fun _ _ h => h) (fun r42 H locs hpo hS => ?_)
      obtain ⟨hT, u42_0, u42_1⟩ := hpo
      refine r_iconst hx hb dX7_looked_45 (by decide) (by decide) (fun x45 e45 => ?_)
      refine cl_Vv (rest := []) hC hK hSK (c_X7_needs l z gk h0 (o0) g0 r42 x45 (by omega) (by omega)) k_X7_needs mw_4_177 ⟨rfl, rfl, Nat.le_of_ble_eq_true rfl, Nat.le_of_ble_eq_true rfl⟩ (rv_Model hK hT g0) hT rfl hl.1 rfl (Nat.le_of_ble_eq_true rfl) dX7_looked_46 ⟨Nat.zero_le _, Nat.zero_le _⟩ hS (fun _ h => h) (fun _ _ h => h) (fun H locs hpo hS => ?_)
      obtain ⟨gk46, hz46, hT, u46_0, u46_1, u46_2, u46_3, u46_4, u46_5, u46_6⟩ := hpo
      have hg1 := eqv_tr hz46 hg1
      have tz46_40 := hz46 h0 40 rfl
      exact J49 ls _ _ _ (by omega) (by omega) (by omega) hg1 hT hS (lv_sub hl [0, 1, 2] rfl)
  refine r_if_ne (tgt := 25) hx hb dX7_looked_4 (by decide) (fun c4 => ?_) (fun c4 => ?_)
  · exact J25 ls _ _ _ (by omega) (by omega) hg1 hT hS (lv_sub hl [0, 1, 2] rfl)
  · refine lv_aload_n hx hb dX7_looked_7 rfl (lv_at hl 0 rfl) ?_
    refine lv_aload_n hx hb dX7_looked_8 rfl (lv_at hl 0 rfl) ?_
    refine gt_Model_sort hx hb hts ic_Model hown hK hT g0 (hts _ mw_4_83) dX7_looked_9 (fun x9 i9 e9 g9 => ?_)
    refine r_iconst hx hb dX7_looked_12 (by decide) (by decide) (fun x12 e12 => ?_)
    refine r_icmp_ne (tgt := 20) hx hb dX7_looked_13 (by decide) (fun c13 => ?_) (fun c13 => ?_)
    · refine r_iconst hx hb dX7_looked_20 (by decide) (by decide) (fun x20 e20 => ?_)
      refine r_iconst hx hb dX7_looked_21 (by decide) (by decide) (fun x21 e21 => ?_)
      refine cl_Vv (rest := []) hC hK hSK (c_X7_needs l z gh h0 (o0) g0 x20 x21 (by omega) (by omega)) k_X7_needs mw_4_177 ⟨rfl, rfl, Nat.le_of_ble_eq_true rfl, Nat.le_of_ble_eq_true rfl⟩ (rv_Model hK hT g0) hT rfl hl.1 rfl (Nat.le_of_ble_eq_true rfl) dX7_looked_22 ⟨Nat.zero_le _, Nat.zero_le _⟩ hS (fun _ h => h) (fun _ _ h => h) (fun H locs hpo hS => ?_)
      obtain ⟨gk22, hz22, hT, u22_0, u22_1, u22_2, u22_3, u22_4, u22_5, u22_6⟩ := hpo
      have hg1 := eqv_tr hz22 hg1
      have tz22_40 := hz22 h0 40 rfl
      exact J25 ls _ _ _ (by omega) (by omega) hg1 hT hS (lv_sub hl [0, 1, 2] rfl)
    · refine r_iconst hx hb dX7_looked_16 (by decide) (by decide) (fun x16 e16 => ?_)
      refine lv_goto (tgt := 21) hx hb dX7_looked_17 (by decide) ?_
      refine r_iconst hx hb dX7_looked_21 (by decide) (by decide) (fun x21 e21 => ?_)
      refine cl_Vv (rest := []) hC hK hSK (c_X7_needs l z gh h0 (o0) g0 x16 x21 (by omega) (by omega)) k_X7_needs mw_4_177 ⟨rfl, rfl, Nat.le_of_ble_eq_true rfl, Nat.le_of_ble_eq_true rfl⟩ (rv_Model hK hT g0) hT rfl hl.1 rfl (Nat.le_of_ble_eq_true rfl) dX7_looked_22 ⟨Nat.zero_le _, Nat.zero_le _⟩ hS (fun _ h => h) (fun _ _ h => h) (fun H locs hpo hS => ?_)
      obtain ⟨gk22, hz22, hT, u22_0, u22_1, u22_2, u22_3, u22_4, u22_5, u22_6⟩ := hpo
      have hg1 := eqv_tr hz22 hg1
      have tz22_40 := hz22 h0 40 rfl
      exact J25 ls _ _ _ (by omega) (by omega) hg1 hT hS (lv_sub hl [0, 1, 2] rfl)
theorem k_X7_readNumber : cBV yX7_readNumber cX7_readNumber 4 (some .int) 2 := ⟨mw_4_203, ms_2_6, mw_1_8, mw_4_204, ⟨by decide, by decide, by decide⟩⟩
set_option maxHeartbeats 4000000 in
set_option maxRecDepth 100000 in
theorem c_X7_readNumber (l : Launch) (z : Zt) (gh : Gh) (h0 o0 : Nat) (g0 : zG z h0 = (17, o0)) (p1 : Int32) (p2 : Int32) (bp1 : 0 ≤ p1.toInt ∧ p1.toInt ≤ 0) (bp2 : 4 ≤ p2.toInt ∧ p2.toInt ≤ 9) (pr0 : zu z) : Met l yX7_readNumber (uw yX7_readNumber cX7_readNumber 4 (some .int)) (rmF 3 111) (PcW z [.ref h0, .int p1, .int p2] (fun H => TY z (zA z) gh H)) (QcI z (fun r H => ∃ gk : Gh, eqv gk gh ∧ TY z (zA z) gk H ∧ (0 ≤ r.toInt ∧ r.toInt ≤ p2.toInt) ∧ (gk.1 h0 55 = gh.1 h0 55) ∧ (gh.1 h0 52 ≤ gk.1 h0 52) ∧ (gk.1 h0 54 = 0 → gk.1 h0 53 ≠ 0 → gh.1 h0 52 < gk.1 h0 52) ∧ (gh.1 h0 54 ≠ 0 → gk.1 h0 54 ≠ 0))) 0 0 (zA z) := by
  refine Met.ofW (cc := cX7_readNumber) (maxL := 4) (ret := (some .int)) (by decide) rfl ?_
  intro p e s m args below meth c s₁ B hml hv
  obtain ⟨rfl, hW, hK, hSK⟩ := hv
  have hx := B.exec
  have hb := B.bytes
  have hr := B.returns
  have hts : ∀ w ∈ lw_ok, w.before ([.ref h0, .int p1, .int p2] : List Value).toArray s = true := fun w hw => atoms_spec (ws := uw yX7_readNumber cX7_readNumber 4 (some .int)) B.pre w (List.mem_cons_of_mem _ hw)
  have hown : s.vm.findClass RX7 = some m.cls := findClass_of_methodNamed B.named
  have hlk := B.notSynchronized
  have hC : CallFix p m c cX7_readNumber 4 s ([.ref h0, .int p1, .int p2] : List Value).toArray lw_ok RX7 := ⟨hx, hb, hml, hown, hts⟩
  have hS : va_S (zA z) s.heap s.heap [] := va_S.rf
  have hl := lv_entry ([.ref h0, .int p1, .int p2]) (n := 4) (Nat.le_of_ble_eq_true rfl)
  rw [lg_entry_eq]
  generalize (lg_sl ([.ref h0, .int p1, .int p2]) ++ List.replicate (4 - (lg_sl ([.ref h0, .int p1, .int p2])).length) Slot.unset).toArray = ls at hl ⊢
  have hl : lv_has ls 4 [(0, .ref h0), (1, .int p1), (2, .int p2)] := hl
  show W p l e (rmF 3 111) s m ([.ref h0, .int p1, .int p2] : List Value).toArray below meth c s.heap [] 0 0 (MQ below (QcI z (fun r H => ∃ gk : Gh, eqv gk gh ∧ TY z (zA z) gk H ∧ (0 ≤ r.toInt ∧ r.toInt ≤ p2.toInt) ∧ (gk.1 h0 55 = gh.1 h0 55) ∧ (gh.1 h0 52 ≤ gk.1 h0 52) ∧ (gk.1 h0 54 = 0 → gk.1 h0 53 ≠ 0 → gh.1 h0 52 < gk.1 h0 52) ∧ (gh.1 h0 54 ≠ 0 → gk.1 h0 54 ≠ 0))) ([.ref h0, .int p1, .int p2] : List Value).toArray s 0 0 (zA z)) (F0 m 0 ls [])
  have hT : TY z (zA z) gh s.heap := hW
  have hg1 : eqv gh gh := eqv_rf gh
  refine lv_aload_n hx hb dX7_readNumber_0 rfl (lv_at hl 0 rfl) ?_
  refine lv_iload_n hx hb dX7_readNumber_1 rfl (lv_at hl 1 rfl) ?_
  refine lv_iload_n hx hb dX7_readNumber_2 rfl (lv_at hl 2 rfl) ?_
  refine cl_Vi (rest := []) hC hK hSK (c_X7_looked l z gh h0 (o0) g0 p1 p2 (by omega) (by omega) pr0) k_X7_looked mw_4_205 ⟨rfl, rfl, Nat.le_of_ble_eq_true rfl, Nat.le_of_ble_eq_true rfl⟩ (rv_Model hK hT g0) hT rfl hl.1 rfl (Nat.le_of_ble_eq_true rfl) dX7_readNumber_3 ⟨Nat.zero_le _, Nat.zero_le _⟩ hS (fun _ h => h) (fun _ _ h => h) (fun r3 H locs hpo hS => ?_)
  obtain ⟨gk3, hz3, hT, u3_0, u3_1, u3_2, u3_3, u3_4⟩ := hpo
  have hg1 := eqv_tr hz3 hg1
  have tz3_40 := hz3 h0 40 rfl
  refine lv_istore_n (lv' := [(3, .int r3), (0, .ref h0), (1, .int p1), (2, .int p2)]) hx hb dX7_readNumber_6 rfl hl (by decide) rfl (fun ls hl => ?_)
  refine lv_aload_n hx hb dX7_readNumber_7 rfl (lv_at hl 1 rfl) ?_
  refine cl_Vv (rest := []) hC hK hSK (c_X7_next l z gk3 h0 (o0) g0 pr0) k_X7_next mw_4_165 ⟨rfl, rfl, Nat.le_of_ble_eq_true rfl, Nat.le_of_ble_eq_true rfl⟩ (rv_Model hK hT g0) hT rfl hl.1 rfl (Nat.le_of_ble_eq_true rfl) dX7_readNumber_8 ⟨Nat.zero_le _, Nat.zero_le _⟩ hS (fun _ h => h) (fun _ _ h => h) (fun H locs hpo hS => ?_)
  obtain ⟨gk8, hz8, hT, u8_0, u8_1, u8_2, u8_3, u8_4⟩ := hpo
  have hg1 := eqv_tr hz8 hg1
  have tz8_40 := hz8 h0 40 rfl
  refine lv_iload_n hx hb dX7_readNumber_11 rfl (lv_at hl 0 rfl) ?_
  exact rt_i hx hb hr hlk hS ⟨_, hg1, hT, by omega, by omega, by omega, by omega, by omega⟩ dX7_readNumber_12
theorem k_X7_readMan : cBV yX7_readMan cX7_readMan 3 none 1 := ⟨mw_4_219, ms_2_10, mw_1_8, mw_4_220, ⟨by decide, by decide, by decide⟩⟩
set_option maxHeartbeats 4000000 in
set_option maxRecDepth 100000 in
theorem c_X7_readMan (l : Launch) (z : Zt) (gh : Gh) (h0 o0 : Nat) (g0 : zG z h0 = (17, o0)) (p1 : Int32) (bp1 : 0 ≤ p1.toInt ∧ p1.toInt ≤ 3) (pr0 : zu z) (pr1 : gh.1 h0 55 ≤ 4) : Met l yX7_readMan (uw yX7_readMan cX7_readMan 3 none) (rmF 4 134) (PcW z [.ref h0, .int p1] (fun H => TY z (zA z) gh H)) (QcV z (fun H => ∃ gk : Gh, eqv gk gh ∧ TY z (zA z) gk H ∧ (gh.1 h0 52 ≤ gk.1 h0 52) ∧ (gk.1 h0 54 = 0 → gk.1 h0 53 ≠ 0 → gh.1 h0 52 < gk.1 h0 52) ∧ (gh.1 h0 54 ≠ 0 → gk.1 h0 54 ≠ 0))) 0 0 (zA z) := by
  refine Met.ofW (cc := cX7_readMan) (maxL := 3) (ret := none) (by decide) rfl ?_
  intro p e s m args below meth c s₁ B hml hv
  obtain ⟨rfl, hW, hK, hSK⟩ := hv
  have hx := B.exec
  have hb := B.bytes
  have hr := B.returns
  have hts : ∀ w ∈ lw_ok, w.before ([.ref h0, .int p1] : List Value).toArray s = true := fun w hw => atoms_spec (ws := uw yX7_readMan cX7_readMan 3 none) B.pre w (List.mem_cons_of_mem _ hw)
  have hown : s.vm.findClass RX7 = some m.cls := findClass_of_methodNamed B.named
  have hlk := B.notSynchronized
  have hC : CallFix p m c cX7_readMan 3 s ([.ref h0, .int p1] : List Value).toArray lw_ok RX7 := ⟨hx, hb, hml, hown, hts⟩
  have hS : va_S (zA z) s.heap s.heap [] := va_S.rf
  have hl := lv_entry ([.ref h0, .int p1]) (n := 3) (Nat.le_of_ble_eq_true rfl)
  rw [lg_entry_eq]
  generalize (lg_sl ([.ref h0, .int p1]) ++ List.replicate (3 - (lg_sl ([.ref h0, .int p1])).length) Slot.unset).toArray = ls at hl ⊢
  have hl : lv_has ls 3 [(0, .ref h0), (1, .int p1)] := hl
  show W p l e (rmF 4 134) s m ([.ref h0, .int p1] : List Value).toArray below meth c s.heap [] 0 0 (MQ below (QcV z (fun H => ∃ gk : Gh, eqv gk gh ∧ TY z (zA z) gk H ∧ (gh.1 h0 52 ≤ gk.1 h0 52) ∧ (gk.1 h0 54 = 0 → gk.1 h0 53 ≠ 0 → gh.1 h0 52 < gk.1 h0 52) ∧ (gh.1 h0 54 ≠ 0 → gk.1 h0 54 ≠ 0))) ([.ref h0, .int p1] : List Value).toArray s 0 0 (zA z)) (F0 m 0 ls [])
  have hT : TY z (zA z) gh s.heap := hW
  have hg1 : eqv gh gh := eqv_rf gh
  refine r_iconst hx hb dX7_readMan_0 (by decide) (by decide) (fun x0 e0 => ?_)
  refine lv_aload_n hx hb dX7_readMan_1 rfl (lv_at hl 0 rfl) ?_
  refine gt_Model_dMen hx hb hts ic_Model hown hK hT g0 (hts _ mw_4_75) dX7_readMan_2 (fun x2 i2 e2 g2 => ?_)
  refine r_imulL (4) (by omega) hx hb dX7_readMan_5 (by omega) (by omega) (fun x5 e5 => ?_)
  refine lv_istore_n (lv' := [(2, .int x5), (0, .ref h0), (1, .int p1)]) hx hb dX7_readMan_6 rfl hl (by decide) rfl (fun ls hl => ?_)
  refine lv_aload_n hx hb dX7_readMan_7 rfl (lv_at hl 1 rfl) ?_
  refine gt_Model_draft hx hb hts ic_Model hown hK hT g0 (hts _ mw_4_74) dX7_readMan_8 (fun q8 hq8 => ?_)
  refine lv_iload_n hx hb dX7_readMan_11 rfl (lv_at hl 0 rfl) ?_
  refine r_iconst hx hb dX7_readMan_12 (by decide) (by decide) (fun x12 e12 => ?_)
  refine r_iadd hx hb dX7_readMan_13 (by omega) (by omega) (fun x13 e13 => ?_)
  refine lv_iload_n hx hb dX7_readMan_14 rfl (lv_at hl 2 rfl) ?_
  refine as_43 hx hb hK hT hS hq8 (by omega) (by omega) (by have n0 := ix_nat (i := x13) (by omega); exact d59_m19 (by omega) ⟨by omega, by omega⟩) dX7_readMan_15 (fun H locs hT hS => ?_)
  obtain ⟨gk15, w15, hq15, hg1, hT⟩ : ∃ g : Gh, g.2 = (gc gh q8 (upd (gh.2 q8) x13.toNatClampNeg p1)).2 ∧ g.1 = gh.1 ∧ eqv g gh ∧ TY z (zA z) g H := ⟨_, rfl, rfl, eqv_gc hg1, hT⟩
  have t15_40 := congrFun (congrFun hq15 h0) 40
  have t15_52 := congrFun (congrFun hq15 h0) 52
  have t15_53 := congrFun (congrFun hq15 h0) 53
  have t15_54 := congrFun (congrFun hq15 h0) 54
  have t15_55 := congrFun (congrFun hq15 h0) 55
  have t15_56 := congrFun (congrFun hq15 h0) 56
  refine lv_aload_n hx hb dX7_readMan_16 rfl (lv_at hl 1 rfl) ?_
  refine gt_Model_draft hx hb hts ic_Model hown hK hT g0 (hts _ mw_4_74) dX7_readMan_17 (fun q17 hq17 => ?_)
  refine lv_iload_n hx hb dX7_readMan_20 rfl (lv_at hl 0 rfl) ?_
  refine r_iconst hx hb dX7_readMan_21 (by decide) (by decide) (fun x21 e21 => ?_)
  refine r_iadd hx hb dX7_readMan_22 (by omega) (by omega) (fun x22 e22 => ?_)
  refine lv_aload_n hx hb dX7_readMan_23 rfl (lv_at hl 1 rfl) ?_
  refine r_iconst hx hb dX7_readMan_24 (by decide) (by decide) (fun x24 e24 => ?_)
  refine r_bipush hx hb dX7_readMan_25 rfl (fun x25 e25 => ?_)
  refine cl_Vi (rest := [.int x22, .ref q17]) hC hK hSK (c_X7_readNumber l z gk15 h0 (o0) g0 x24 x25 (by omega) (by omega) pr0) k_X7_readNumber mw_4_201 ⟨rfl, rfl, Nat.le_of_ble_eq_true rfl, Nat.le_of_ble_eq_true rfl⟩ (rv_Model hK hT g0) hT rfl hl.1 rfl (Nat.le_of_ble_eq_true rfl) dX7_readMan_27 ⟨Nat.zero_le _, Nat.zero_le _⟩ hS (fun _ h => h) (fun _ _ h => h) (fun r27 H locs hpo hS => ?_)
  obtain ⟨gk27, hz27, hT, u27_0, u27_1, u27_2, u27_3, u27_4⟩ := hpo
  have hg1 := eqv_tr hz27 hg1
  have tz27_40 := hz27 h0 40 rfl
  refine as_43 hx hb hK hT hS hq17 (by omega) (by omega) (by have n0 := ix_nat (i := x22) (by omega); exact d59_m19 (by omega) ⟨by omega, by omega⟩) dX7_readMan_30 (fun H locs hT hS => ?_)
  obtain ⟨gk30, w30, hq30, hg1, hT⟩ : ∃ g : Gh, g.2 = (gc gk27 q17 (upd (gk27.2 q17) x22.toNatClampNeg r27)).2 ∧ g.1 = gk27.1 ∧ eqv g gh ∧ TY z (zA z) g H := ⟨_, rfl, rfl, eqv_gc hg1, hT⟩
  have t30_40 := congrFun (congrFun hq30 h0) 40
  have t30_52 := congrFun (congrFun hq30 h0) 52
  have t30_53 := congrFun (congrFun hq30 h0) 53
  have t30_54 := congrFun (congrFun hq30 h0) 54
  have t30_55 := congrFun (congrFun hq30 h0) 55
  have t30_56 := congrFun (congrFun hq30 h0) 56
  refine lv_aload_n hx hb dX7_readMan_31 rfl (lv_at hl 1 rfl) ?_
  refine gt_Model_draft hx hb hts ic_Model hown hK hT g0 (hts _ mw_4_74) dX7_readMan_32 (fun q32 hq32 => ?_)
  refine lv_iload_n hx hb dX7_readMan_35 rfl (lv_at hl 0 rfl) ?_
  refine r_iconst hx hb dX7_readMan_36 (by decide) (by decide) (fun x36 e36 => ?_)
  refine r_iadd hx hb dX7_readMan_37 (by omega) (by omega) (fun x37 e37 => ?_)
  refine lv_aload_n hx hb dX7_readMan_38 rfl (lv_at hl 1 rfl) ?_
  refine r_iconst hx hb dX7_readMan_39 (by decide) (by decide) (fun x39 e39 => ?_)
  refine r_bipush hx hb dX7_readMan_40 rfl (fun x40 e40 => ?_)
  refine cl_Vi (rest := [.int x37, .ref q32]) hC hK hSK (c_X7_readNumber l z gk30 h0 (o0) g0 x39 x40 (by omega) (by omega) pr0) k_X7_readNumber mw_4_201 ⟨rfl, rfl, Nat.le_of_ble_eq_true rfl, Nat.le_of_ble_eq_true rfl⟩ (rv_Model hK hT g0) hT rfl hl.1 rfl (Nat.le_of_ble_eq_true rfl) dX7_readMan_42 ⟨Nat.zero_le _, Nat.zero_le _⟩ hS (fun _ h => h) (fun _ _ h => h) (fun r42 H locs hpo hS => ?_)
  obtain ⟨gk42, hz42, hT, u42_0, u42_1, u42_2, u42_3, u42_4⟩ := hpo
  have hg1 := eqv_tr hz42 hg1
  have tz42_40 := hz42 h0 40 rfl
  refine as_43 hx hb hK hT hS hq32 (by omega) (by omega) (by have n0 := ix_nat (i := x37) (by omega); exact d59_m19 (by omega) ⟨by omega, by omega⟩) dX7_readMan_45 (fun H locs hT hS => ?_)
  obtain ⟨gk45, w45, hq45, hg1, hT⟩ : ∃ g : Gh, g.2 = (gc gk42 q32 (upd (gk42.2 q32) x37.toNatClampNeg r42)).2 ∧ g.1 = gk42.1 ∧ eqv g gh ∧ TY z (zA z) g H := ⟨_, rfl, rfl, eqv_gc hg1, hT⟩
  have t45_40 := congrFun (congrFun hq45 h0) 40
  have t45_52 := congrFun (congrFun hq45 h0) 52
  have t45_53 := congrFun (congrFun hq45 h0) 53
  have t45_54 := congrFun (congrFun hq45 h0) 54
  have t45_55 := congrFun (congrFun hq45 h0) 55
  have t45_56 := congrFun (congrFun hq45 h0) 56
  refine lv_aload_n hx hb dX7_readMan_46 rfl (lv_at hl 1 rfl) ?_
  refine lv_dup hx hb dX7_readMan_47 rfl ?_
  refine gt_Model_dMen hx hb hts ic_Model hown hK hT g0 (hts _ mw_4_75) dX7_readMan_48 (fun x48 i48 e48 g48 => ?_)
  refine r_iconst hx hb dX7_readMan_51 (by decide) (by decide) (fun x51 e51 => ?_)
  refine r_iadd hx hb dX7_readMan_52 (by omega) (by omega) (fun x52 e52 => ?_)
  refine pt_Model_dMen hx hb hts ic_Model hown hK hT hS g0 (hts _ mw_4_75) (by omega) (by omega) dX7_readMan_53 (fun H locs hT hS => ?_)
  obtain ⟨gk53, w53, hq53, y53, hg1, hT⟩ : ∃ g : Gh, g.1 h0 55 = x52.toInt ∧ (∀ b k, k ≠ 55 → g.1 b k = gk45.1 b k) ∧ g.2 = gk45.2 ∧ eqv g gh ∧ TY z (zA z) g H := ⟨_, gs_at _ _ _ _, fun b k hk => gs_nk _ _ _ _ hk, rfl, eqv_gs rfl hg1, hT⟩
  have t53_40 := hq53 h0 40 (by decide)
  have t53_52 := hq53 h0 52 (by decide)
  have t53_53 := hq53 h0 53 (by decide)
  have t53_54 := hq53 h0 54 (by decide)
  have t53_56 := hq53 h0 56 (by decide)
  exact rt_v hx hb hr hlk hS ⟨_, hg1, hT, by omega, by omega, by omega⟩ dX7_readMan_56
theorem k_X7_readCousins : cBV yX7_readCousins cX7_readCousins 3 none 0 := ⟨mw_4_199, ms_2_5, mw_1_8, mw_4_200, ⟨by decide, by decide, by decide⟩⟩
set_option maxHeartbeats 4000000 in
set_option maxRecDepth 100000 in
theorem c_X7_readCousins (l : Launch) (z : Zt) (gh : Gh) (h0 o0 : Nat) (g0 : zG z h0 = (17, o0)) (pr0 : zu z) : Met l yX7_readCousins (uw yX7_readCousins cX7_readCousins 3 none) (rmF 4 134) (PcW z [.ref h0] (fun H => TY z (zA z) gh H)) (QcV z (fun H => ∃ gk : Gh, eqv gk gh ∧ TY z (zA z) gk H ∧ (gh.1 h0 52 ≤ gk.1 h0 52) ∧ (gk.1 h0 54 = 0 → gk.1 h0 53 ≠ 0 → gh.1 h0 52 < gk.1 h0 52) ∧ (gh.1 h0 54 ≠ 0 → gk.1 h0 54 ≠ 0))) 0 0 (zA z) := by
  refine Met.ofW (cc := cX7_readCousins) (maxL := 3) (ret := none) (by decide) rfl ?_
  intro p e s m args below meth c s₁ B hml hv
  obtain ⟨rfl, hW, hK, hSK⟩ := hv
  have hx := B.exec
  have hb := B.bytes
  have hr := B.returns
  have hts : ∀ w ∈ lw_ok, w.before ([.ref h0] : List Value).toArray s = true := fun w hw => atoms_spec (ws := uw yX7_readCousins cX7_readCousins 3 none) B.pre w (List.mem_cons_of_mem _ hw)
  have hown : s.vm.findClass RX7 = some m.cls := findClass_of_methodNamed B.named
  have hlk := B.notSynchronized
  have hC : CallFix p m c cX7_readCousins 3 s ([.ref h0] : List Value).toArray lw_ok RX7 := ⟨hx, hb, hml, hown, hts⟩
  have hS : va_S (zA z) s.heap s.heap [] := va_S.rf
  have hl := lv_entry ([.ref h0]) (n := 3) (Nat.le_of_ble_eq_true rfl)
  rw [lg_entry_eq]
  generalize (lg_sl ([.ref h0]) ++ List.replicate (3 - (lg_sl ([.ref h0])).length) Slot.unset).toArray = ls at hl ⊢
  have hl : lv_has ls 3 [(0, .ref h0)] := hl
  show W p l e (rmF 4 134) s m ([.ref h0] : List Value).toArray below meth c s.heap [] 0 0 (MQ below (QcV z (fun H => ∃ gk : Gh, eqv gk gh ∧ TY z (zA z) gk H ∧ (gh.1 h0 52 ≤ gk.1 h0 52) ∧ (gk.1 h0 54 = 0 → gk.1 h0 53 ≠ 0 → gh.1 h0 52 < gk.1 h0 52) ∧ (gh.1 h0 54 ≠ 0 → gk.1 h0 54 ≠ 0))) ([.ref h0] : List Value).toArray s 0 0 (zA z)) (F0 m 0 ls [])
  have hT : TY z (zA z) gh s.heap := hW
  have hg1 : eqv gh gh := eqv_rf gh
  refine lv_aload_n hx hb dX7_readCousins_0 rfl (lv_at hl 0 rfl) ?_
  refine r_iconst hx hb dX7_readCousins_1 (by decide) (by decide) (fun x1 e1 => ?_)
  refine r_iconst hx hb dX7_readCousins_2 (by decide) (by decide) (fun x2 e2 => ?_)
  refine cl_Vi (rest := []) hC hK hSK (c_X7_readNumber l z gh h0 (o0) g0 x1 x2 (by omega) (by omega) pr0) k_X7_readNumber mw_4_201 ⟨rfl, rfl, Nat.le_of_ble_eq_true rfl, Nat.le_of_ble_eq_true rfl⟩ (rv_Model hK hT g0) hT rfl hl.1 rfl (Nat.le_of_ble_eq_true rfl) dX7_readCousins_3 ⟨Nat.zero_le _, Nat.zero_le _⟩ hS (fun _ h => h) (fun _ _ h => h) (fun r3 H locs hpo hS => ?_)
  obtain ⟨gk3, hz3, hT, u3_0, u3_1, u3_2, u3_3, u3_4⟩ := hpo
  have hg1 := eqv_tr hz3 hg1
  have tz3_40 := hz3 h0 40 rfl
  refine lv_istore_n (lv' := [(1, .int r3), (0, .ref h0)]) hx hb dX7_readCousins_6 rfl hl (by decide) rfl (fun ls hl => ?_)
  refine lv_aload_n hx hb dX7_readCousins_7 rfl (lv_at hl 1 rfl) ?_
  refine r_iconst hx hb dX7_readCousins_8 (by decide) (by decide) (fun x8 e8 => ?_)
  refine r_iconst hx hb dX7_readCousins_9 (by decide) (by decide) (fun x9 e9 => ?_)
  refine cl_Vi (rest := []) hC hK hSK (c_X7_looked l z gk3 h0 (o0) g0 x8 x9 (by omega) (by omega) pr0) k_X7_looked mw_4_205 ⟨rfl, rfl, Nat.le_of_ble_eq_true rfl, Nat.le_of_ble_eq_true rfl⟩ (rv_Model hK hT g0) hT rfl hl.1 rfl (Nat.le_of_ble_eq_true rfl) dX7_readCousins_10 ⟨Nat.zero_le _, Nat.zero_le _⟩ hS (fun _ h => h) (fun _ _ h => h) (fun r10 H locs hpo hS => ?_)
  obtain ⟨gk10, hz10, hT, u10_0, u10_1, u10_2, u10_3, u10_4⟩ := hpo
  have hg1 := eqv_tr hz10 hg1
  have tz10_40 := hz10 h0 40 rfl
  refine lv_istore_n (lv' := [(2, .int r10), (1, .int r3), (0, .ref h0)]) hx hb dX7_readCousins_13 rfl hl (by decide) rfl (fun ls hl => ?_)
  refine lv_aload_n hx hb dX7_readCousins_14 rfl (lv_at hl 2 rfl) ?_
  refine gt_Model_fault hx hb hts ic_Model hown hK hT g0 (hts _ mw_4_85) dX7_readCousins_15 (fun x15 i15 e15 g15 => ?_)
  have J112 : ∀ (ls : Array Slot) (H : Heap) (locs : List Loc) (gk : Gh), (gh.1 h0 52 ≤ gk.1 h0 52) → (gh.1 h0 54 ≠ 0 → gk.1 h0 54 ≠ 0) → eqv gk gh → TY z (zA z) gk H → va_S (zA z) s.heap H locs → lv_has ls 3 [(0, .ref h0), (1, .int r3), (2, .int r10)] → W p l e (rmF 4 134) s m ([.ref h0] : List Value).toArray below meth c H locs 0 0 (MQ below (QcV z (fun H => ∃ gk : Gh, eqv gk gh ∧ TY z (zA z) gk H ∧ (gh.1 h0 52 ≤ gk.1 h0 52) ∧ (gk.1 h0 54 = 0 → gk.1 h0 53 ≠ 0 → gh.1 h0 52 < gk.1 h0 52) ∧ (gh.1 h0 54 ≠ 0 → gk.1 h0 54 ≠ 0))) ([.ref h0] : List Value).toArray s 0 0 (zA z)) (F0 m 112 ls []) := by
    intro ls H locs gk ex112_0 ex112_1 hg1 hT hS hl
    refine lv_aload_n hx hb dX7_readCousins_112 rfl (lv_at hl 0 rfl) ?_
    refine cl_Vv (rest := []) hC hK hSK (c_X7_next l z gk h0 (o0) g0 pr0) k_X7_next mw_4_165 ⟨rfl, rfl, Nat.le_of_ble_eq_true rfl, Nat.le_of_ble_eq_true rfl⟩ (rv_Model hK hT g0) hT rfl hl.1 rfl (Nat.le_of_ble_eq_true rfl) dX7_readCousins_113 ⟨Nat.zero_le _, Nat.zero_le _⟩ hS (fun _ h => h) (fun _ _ h => h) (fun H locs hpo hS => ?_)
    obtain ⟨gk113, hz113, hT, u113_0, u113_1, u113_2, u113_3, u113_4⟩ := hpo
    have hg1 := eqv_tr hz113 hg1
    have tz113_40 := hz113 h0 40 rfl
    exact rt_v hx hb hr hlk hS ⟨_, hg1, hT, by omega, by omega, by omega⟩ dX7_readCousins_116
  refine r_if_ne (tgt := 112) hx hb dX7_readCousins_18 (by decide) (fun c18 => ?_) (fun c18 => ?_)
  · exact J112 ls _ _ _ (by omega) (by omega) hg1 hT hS (lv_sub hl [2, 1, 0] rfl)
  · refine lv_aload_n hx hb dX7_readCousins_21 rfl (lv_at hl 2 rfl) ?_
    refine lv_aload_n hx hb dX7_readCousins_22 rfl (lv_at hl 2 rfl) ?_
    refine gt_Model_draft hx hb hts ic_Model hown hK hT g0 (hts _ mw_4_74) dX7_readCousins_23 (fun q23 hq23 => ?_)
    refine r_bipush hx hb dX7_readCousins_26 rfl (fun x26 e26 => ?_)
    refine lv_iload_n hx hb dX7_readCousins_28 rfl (lv_at hl 1 rfl) ?_
    refine r_iadd hx hb dX7_readCousins_29 (by omega) (by omega) (fun x29 e29 => ?_)
    refine al_43 hx hb hK hT hq23 (by omega) (by omega) dX7_readCousins_30 (fun x30 i30 e30 => ?_)
    have n30 := ix_nat (i := x29) (by omega)
    refine lv_iload_n hx hb dX7_readCousins_31 rfl (lv_at hl 0 rfl) ?_
    refine w_ishr hx hb dX7_readCousins_32 (fun x32 => ?_)
    refine r_iconst hx hb dX7_readCousins_33 (by decide) (by decide) (fun x33 e33 => ?_)
    refine w_iand hx hb dX7_readCousins_34 (fun x34 => ?_)
    have J43 : ∀ (ls : Array Slot) (H : Heap) (locs : List Loc) (t43_1 : Int32) (gk : Gh), (0 ≤ t43_1.toInt ∧ t43_1.toInt ≤ 1) → (gh.1 h0 52 ≤ gk.1 h0 52) → (gh.1 h0 54 ≠ 0 → gk.1 h0 54 ≠ 0) → eqv gk gh → TY z (zA z) gk H → va_S (zA z) s.heap H locs → lv_has ls 3 [(0, .ref h0), (1, .int r3), (2, .int r10)] → W p l e (rmF 4 134) s m ([.ref h0] : List Value).toArray below meth c H locs 0 0 (MQ below (QcV z (fun H => ∃ gk : Gh, eqv gk gh ∧ TY z (zA z) gk H ∧ (gh.1 h0 52 ≤ gk.1 h0 52) ∧ (gk.1 h0 54 = 0 → gk.1 h0 53 ≠ 0 → gh.1 h0 52 < gk.1 h0 52) ∧ (gh.1 h0 54 ≠ 0 → gk.1 h0 54 ≠ 0))) ([.ref h0] : List Value).toArray s 0 0 (zA z)) (F0 m 43 ls [.int t43_1, .ref h0]) := by
      intro ls H locs t43_1 gk j43_t43_1 ex43_0 ex43_1 hg1 hT hS hl
      refine r_iconst hx hb dX7_readCousins_43 (by decide) (by decide) (fun x43 e43 => ?_)
      refine cl_Vv (rest := []) hC hK hSK (c_X7_needs l z gk h0 (o0) g0 t43_1 x43 (by omega) (by omega)) k_X7_needs mw_4_177 ⟨rfl, rfl, Nat.le_of_ble_eq_true rfl, Nat.le_of_ble_eq_true rfl⟩ (rv_Model hK hT g0) hT rfl hl.1 rfl (Nat.le_of_ble_eq_true rfl) dX7_readCousins_44 ⟨Nat.zero_le _, Nat.zero_le _⟩ hS (fun _ h => h) (fun _ _ h => h) (fun H locs hpo hS => ?_)
      obtain ⟨gk44, hz44, hT, u44_0, u44_1, u44_2, u44_3, u44_4, u44_5, u44_6⟩ := hpo
      have hg1 := eqv_tr hz44 hg1
      have tz44_40 := hz44 h0 40 rfl
      refine lv_aload_n hx hb dX7_readCousins_47 rfl (lv_at hl 0 rfl) ?_
      refine gt_Model_draft hx hb hts ic_Model hown hK hT g0 (hts _ mw_4_74) dX7_readCousins_48 (fun q48 hq48 => ?_)
      refine r_bipush hx hb dX7_readCousins_51 rfl (fun x51 e51 => ?_)
      refine lv_iload_n hx hb dX7_readCousins_53 rfl (lv_at hl 1 rfl) ?_
      refine r_iadd hx hb dX7_readCousins_54 (by omega) (by omega) (fun x54 e54 => ?_)
      refine lv_dup2_11 hx hb dX7_readCousins_55 rfl rfl ?_
      refine al_43 hx hb hK hT hq48 (by omega) (by omega) dX7_readCousins_56 (fun x56 i56 e56 => ?_)
      have n56 := ix_nat (i := x54) (by omega)
      refine r_iconst hx hb dX7_readCousins_57 (by decide) (by decide) (fun x57 e57 => ?_)
      refine lv_iload_n hx hb dX7_readCousins_58 rfl (lv_at hl 2 rfl) ?_
      refine w_ishl hx hb dX7_readCousins_59 (fun x59 => ?_)
      refine w_ior hx hb dX7_readCousins_60 (fun x60 => ?_)
      refine as_43 hx hb hK hT hS hq48 (by omega) (by omega) (by have n0 := ix_nat (i := x54) (by omega); exact d59_mf (by omega)) dX7_readCousins_61 (fun H locs hT hS => ?_)
      obtain ⟨gk61, w61, hq61, hg1, hT⟩ : ∃ g : Gh, g.2 = (gc gk44 q48 (upd (gk44.2 q48) x54.toNatClampNeg x60)).2 ∧ g.1 = gk44.1 ∧ eqv g gh ∧ TY z (zA z) g H := ⟨_, rfl, rfl, eqv_gc hg1, hT⟩
      have t61_40 := congrFun (congrFun hq61 h0) 40
      have t61_52 := congrFun (congrFun hq61 h0) 52
      have t61_53 := congrFun (congrFun hq61 h0) 53
      have t61_54 := congrFun (congrFun hq61 h0) 54
      have t61_55 := congrFun (congrFun hq61 h0) 55
      have t61_56 := congrFun (congrFun hq61 h0) 56
      refine lv_aload_n hx hb dX7_readCousins_62 rfl (lv_at hl 0 rfl) ?_
      refine lv_dup hx hb dX7_readCousins_63 rfl ?_
      refine gt_Model_dKin hx hb hts ic_Model hown hK hT g0 (hts _ mw_4_76) dX7_readCousins_64 (fun x64 => ?_)
      refine r_iconst hx hb dX7_readCousins_67 (by decide) (by decide) (fun x67 e67 => ?_)
      refine w_iadd hx hb dX7_readCousins_68 (fun x68 => ?_)
      refine pt_Model_dKin hx hb hts ic_Model hown hK hT hS g0 (hts _ mw_4_76) dX7_readCousins_69 (fun H locs hT hS => ?_)
      refine lv_aload_n hx hb dX7_readCousins_72 rfl (lv_at hl 0 rfl) ?_
      refine lv_iload_n hx hb dX7_readCousins_73 rfl (lv_at hl 1 rfl) ?_
      refine lv_aload_n hx hb dX7_readCousins_74 rfl (lv_at hl 0 rfl) ?_
      refine gt_Model_highest hx hb hts ic_Model hown hK hT g0 (hts _ mw_4_78) dX7_readCousins_75 (fun x75 => ?_)
      have J89 : ∀ (ls : Array Slot) (H : Heap) (locs : List Loc) (t89_1 : Int32) (gk : Gh), (gh.1 h0 52 ≤ gk.1 h0 52) → (gh.1 h0 54 ≠ 0 → gk.1 h0 54 ≠ 0) → eqv gk gh → TY z (zA z) gk H → va_S (zA z) s.heap H locs → lv_has ls 3 [(0, .ref h0), (1, .int r3), (2, .int r10)] → W p l e (rmF 4 134) s m ([.ref h0] : List Value).toArray below meth c H locs 0 0 (MQ below (QcV z (fun H => ∃ gk : Gh, eqv gk gh ∧ TY z (zA z) gk H ∧ (gh.1 h0 52 ≤ gk.1 h0 52) ∧ (gk.1 h0 54 = 0 → gk.1 h0 53 ≠ 0 → gh.1 h0 52 < gk.1 h0 52) ∧ (gh.1 h0 54 ≠ 0 → gk.1 h0 54 ≠ 0))) ([.ref h0] : List Value).toArray s 0 0 (zA z)) (F0 m 89 ls [.int t89_1, .ref h0]) := by
        intro ls H locs t89_1 gk ex89_0 ex89_1 hg1 hT hS hl
        refine pt_Model_highest hx hb hts ic_Model hown hK hT hS g0 (hts _ mw_4_78) dX7_readCousins_89 (fun H locs hT hS => ?_)
        refine lv_aload_n hx hb dX7_readCousins_92 rfl (lv_at hl 0 rfl) ?_
        refine lv_iload_n hx hb dX7_readCousins_93 rfl (lv_at hl 2 rfl) ?_
        refine lv_aload_n hx hb dX7_readCousins_94 rfl (lv_at hl 0 rfl) ?_
        refine gt_Model_highest hx hb hts ic_Model hown hK hT g0 (hts _ mw_4_78) dX7_readCousins_95 (fun x95 => ?_)
        have J109 : ∀ (ls : Array Slot) (H : Heap) (locs : List Loc) (t109_1 : Int32) (gk : Gh), (gh.1 h0 52 ≤ gk.1 h0 52) → (gh.1 h0 54 ≠ 0 → gk.1 h0 54 ≠ 0) → eqv gk gh → TY z (zA z) gk H → va_S (zA z) s.heap H locs → lv_has ls 3 [(0, .ref h0), (1, .int r3), (2, .int r10)] → W p l e (rmF 4 134) s m ([.ref h0] : List Value).toArray below meth c H locs 0 0 (MQ below (QcV z (fun H => ∃ gk : Gh, eqv gk gh ∧ TY z (zA z) gk H ∧ (gh.1 h0 52 ≤ gk.1 h0 52) ∧ (gk.1 h0 54 = 0 → gk.1 h0 53 ≠ 0 → gh.1 h0 52 < gk.1 h0 52) ∧ (gh.1 h0 54 ≠ 0 → gk.1 h0 54 ≠ 0))) ([.ref h0] : List Value).toArray s 0 0 (zA z)) (F0 m 109 ls [.int t109_1, .ref h0]) := by
          intro ls H locs t109_1 gk ex109_0 ex109_1 hg1 hT hS hl
          refine pt_Model_highest hx hb hts ic_Model hown hK hT hS g0 (hts _ mw_4_78) dX7_readCousins_109 (fun H locs hT hS => ?_)
          exact J112 ls _ _ _ (by omega) (by omega) hg1 hT hS (lv_sub hl [0, 1, 2] rfl)
        refine r_icmp_le (tgt := 105) hx hb dX7_readCousins_98 (by decide) (fun c98 => ?_) (fun c98 => ?_)
        · refine lv_aload_n hx hb dX7_readCousins_105 rfl (lv_at hl 0 rfl) ?_
          refine gt_Model_highest hx hb hts ic_Model hown hK hT g0 (hts _ mw_4_78) dX7_readCousins_106 (fun x106 => ?_)
          exact J109 ls _ _ x106 _ (by omega) (by omega) hg1 hT hS (lv_sub hl [0, 1, 2] rfl)
        · refine lv_iload_n hx hb dX7_readCousins_101 rfl (lv_at hl 2 rfl) ?_
          refine lv_goto (tgt := 109) hx hb dX7_readCousins_102 (by decide) ?_
          exact J109 ls _ _ r10 _ (by omega) (by omega) hg1 hT hS (lv_sub hl [0, 1, 2] rfl)
      refine r_icmp_le (tgt := 85) hx hb dX7_readCousins_78 (by decide) (fun c78 => ?_) (fun c78 => ?_)
      · refine lv_aload_n hx hb dX7_readCousins_85 rfl (lv_at hl 0 rfl) ?_
        refine gt_Model_highest hx hb hts ic_Model hown hK hT g0 (hts _ mw_4_78) dX7_readCousins_86 (fun x86 => ?_)
        exact J89 ls _ _ x86 _ (by omega) (by omega) hg1 hT hS (lv_sub hl [0, 1, 2] rfl)
      · refine lv_iload_n hx hb dX7_readCousins_81 rfl (lv_at hl 1 rfl) ?_
        refine lv_goto (tgt := 89) hx hb dX7_readCousins_82 (by decide) ?_
        exact J89 ls _ _ r3 _ (by omega) (by omega) hg1 hT hS (lv_sub hl [0, 1, 2] rfl)
    refine r_if_ne (tgt := 42) hx hb dX7_readCousins_35 (by decide) (fun c35 => ?_) (fun c35 => ?_)
    · refine r_iconst hx hb dX7_readCousins_42 (by decide) (by decide) (fun x42 e42 => ?_)
      exact J43 ls _ _ x42 _ (by omega) (by omega) (by omega) hg1 hT hS (lv_sub hl [2, 1, 0] rfl)
    · refine r_iconst hx hb dX7_readCousins_38 (by decide) (by decide) (fun x38 e38 => ?_)
      refine lv_goto (tgt := 43) hx hb dX7_readCousins_39 (by decide) ?_
      exact J43 ls _ _ x38 _ (by omega) (by omega) (by omega) hg1 hT hS (lv_sub hl [2, 1, 0] rfl)
theorem k_X7_readProgram : cBV yX7_readProgram cX7_readProgram 2 none 0 := ⟨mw_4_211, ms_2_8, mw_1_8, mw_4_212, ⟨by decide, by decide, by decide⟩⟩
set_option maxHeartbeats 4000000 in
set_option maxRecDepth 100000 in
theorem c_X7_readProgram (l : Launch) (z : Zt) (gh : Gh) (h0 o0 : Nat) (g0 : zG z h0 = (17, o0)) (pr0 : zu z) : Met l yX7_readProgram (uw yX7_readProgram cX7_readProgram 2 none) (rmF 4 130) (PcW z [.ref h0] (fun H => TY z (zA z) gh H)) (QcV z (fun H => ∃ gk : Gh, eqv gk gh ∧ TY z (zA z) gk H ∧ (gh.1 h0 52 ≤ gk.1 h0 52) ∧ (gh.1 h0 54 ≠ 0 → gk.1 h0 54 ≠ 0) ∧ (gk.1 h0 54 = 0 → gk.1 h0 53 ≠ 0 → (gh.1 h0 53 ≠ 0 ∨ gh.1 h0 52 < gk.1 h0 52)))) 0 0 (zA z) := by
  refine Met.ofW (cc := cX7_readProgram) (maxL := 2) (ret := none) (by decide) rfl ?_
  intro p e s m args below meth c s₁ B hml hv
  obtain ⟨rfl, hW, hK, hSK⟩ := hv
  have hx := B.exec
  have hb := B.bytes
  have hr := B.returns
  have hts : ∀ w ∈ lw_ok, w.before ([.ref h0] : List Value).toArray s = true := fun w hw => atoms_spec (ws := uw yX7_readProgram cX7_readProgram 2 none) B.pre w (List.mem_cons_of_mem _ hw)
  have hown : s.vm.findClass RX7 = some m.cls := findClass_of_methodNamed B.named
  have hlk := B.notSynchronized
  have hC : CallFix p m c cX7_readProgram 2 s ([.ref h0] : List Value).toArray lw_ok RX7 := ⟨hx, hb, hml, hown, hts⟩
  have hS : va_S (zA z) s.heap s.heap [] := va_S.rf
  have hl := lv_entry ([.ref h0]) (n := 2) (Nat.le_of_ble_eq_true rfl)
  rw [lg_entry_eq]
  generalize (lg_sl ([.ref h0]) ++ List.replicate (2 - (lg_sl ([.ref h0])).length) Slot.unset).toArray = ls at hl ⊢
  have hl : lv_has ls 2 [(0, .ref h0)] := hl
  show W p l e (rmF 4 130) s m ([.ref h0] : List Value).toArray below meth c s.heap [] 0 0 (MQ below (QcV z (fun H => ∃ gk : Gh, eqv gk gh ∧ TY z (zA z) gk H ∧ (gh.1 h0 52 ≤ gk.1 h0 52) ∧ (gh.1 h0 54 ≠ 0 → gk.1 h0 54 ≠ 0) ∧ (gk.1 h0 54 = 0 → gk.1 h0 53 ≠ 0 → (gh.1 h0 53 ≠ 0 ∨ gh.1 h0 52 < gk.1 h0 52)))) ([.ref h0] : List Value).toArray s 0 0 (zA z)) (F0 m 0 ls [])
  have hT : TY z (zA z) gh s.heap := hW
  have hg1 : eqv gh gh := eqv_rf gh
  have hMr := ty_mr hT g0
  have J0 : ∀ (n0 : Nat) (ls : Array Slot) (H : Heap) (locs : List Loc) (gk : Gh), (0 ≤ gk.1 h0 52 ∧ gk.1 h0 52 ≤ 160 ∧ 0 ≤ gk.1 h0 53 ∧ gk.1 h0 53 ≤ 3 ∧ 0 ≤ gk.1 h0 54 ∧ gk.1 h0 54 ≤ 6) → (gh.1 h0 52 ≤ gk.1 h0 52) → (gh.1 h0 54 ≠ 0 → gk.1 h0 54 ≠ 0) → (gk.1 h0 54 = 0 → gk.1 h0 53 ≠ 0 → (gh.1 h0 53 ≠ 0 ∨ gh.1 h0 52 < gk.1 h0 52)) → (8 * (160 - gk.1 h0 52) + gk.1 h0 53 - gk.1 h0 54 + 6) < (n0 : Int) → eqv gk gh → TY z (zA z) gk H → va_S (zA z) s.heap H locs → lv_has ls 2 [(0, .ref h0)] → W p l e (rmF 4 130) s m ([.ref h0] : List Value).toArray below meth c H locs 0 0 (MQ below (QcV z (fun H => ∃ gk : Gh, eqv gk gh ∧ TY z (zA z) gk H ∧ (gh.1 h0 52 ≤ gk.1 h0 52) ∧ (gh.1 h0 54 ≠ 0 → gk.1 h0 54 ≠ 0) ∧ (gk.1 h0 54 = 0 → gk.1 h0 53 ≠ 0 → (gh.1 h0 53 ≠ 0 ∨ gh.1 h0 52 < gk.1 h0 52)))) ([.ref h0] : List Value).toArray s 0 0 (zA z)) (F0 m 0 ls []) := by
    intro n0
    induction n0 with
    | zero => intro ls H locs gk ex0_0 ex0_1 ex0_2 ex0_3 mm0 hg1 hT hS hl; exfalso; omega
    | succ n0 ih0 =>
      intro ls H locs gk ex0_0 ex0_1 ex0_2 ex0_3 mm0 hg1 hT hS hl
      refine lv_aload_n hx hb dX7_readProgram_0 rfl (lv_at hl 0 rfl) ?_
      refine gt_Model_fault hx hb hts ic_Model hown hK hT g0 (hts _ mw_4_85) dX7_readProgram_1 (fun x1 i1 e1 g1 => ?_)
      refine r_if_ne (tgt := 99) hx hb dX7_readProgram_4 (by decide) (fun c4 => ?_) (fun c4 => ?_)
      · exact rt_v hx hb hr hlk hS ⟨_, hg1, hT, by omega, by omega, by omega⟩ dX7_readProgram_99
      · refine lv_aload_n hx hb dX7_readProgram_7 rfl (lv_at hl 0 rfl) ?_
        refine gt_Model_sort hx hb hts ic_Model hown hK hT g0 (hts _ mw_4_83) dX7_readProgram_8 (fun x8 i8 e8 g8 => ?_)
        refine r_iconst hx hb dX7_readProgram_11 (by decide) (by decide) (fun x11 e11 => ?_)
        refine r_icmp_ne (tgt := 99) hx hb dX7_readProgram_12 (by decide) (fun c12 => ?_) (fun c12 => ?_)
        · exact rt_v hx hb hr hlk hS ⟨_, hg1, hT, by omega, by omega, by omega⟩ dX7_readProgram_99
        · refine lv_aload_n hx hb dX7_readProgram_15 rfl (lv_at hl 0 rfl) ?_
          refine cl_Vi (rest := []) hC hK hSK (c_X7_figureNow l z gk h0 (o0) g0 pr0) k_X7_figureNow mw_4_213 ⟨rfl, rfl, Nat.le_of_ble_eq_true rfl, Nat.le_of_ble_eq_true rfl⟩ (rv_Model hK hT g0) hT rfl hl.1 rfl (Nat.le_of_ble_eq_true rfl) dX7_readProgram_16 ⟨Nat.zero_le _, Nat.zero_le _⟩ hS (fun _ h => h) (fun _ _ h => h) (fun r16 H locs hpo hS => ?_)
          obtain ⟨hT, u16_0⟩ := hpo
          refine lv_istore_n (lv' := [(1, .int r16), (0, .ref h0)]) hx hb dX7_readProgram_19 rfl hl (by decide) rfl (fun ls hl => ?_)
          refine lv_aload_n hx hb dX7_readProgram_20 rfl (lv_at hl 1 rfl) ?_
          refine lv_aload_n hx hb dX7_readProgram_21 rfl (lv_at hl 1 rfl) ?_
          refine gt_Model_draft hx hb hts ic_Model hown hK hT g0 (hts _ mw_4_74) dX7_readProgram_22 (fun q22 hq22 => ?_)
          refine r_bipush hx hb dX7_readProgram_25 rfl (fun x25 e25 => ?_)
          refine al_43 hx hb hK hT hq22 (by omega) (by omega) dX7_readProgram_27 (fun x27 i27 e27 => ?_)
          have n27 := ix_nat (i := x25) (by omega)
          have f27 := d59_r31 e27 (by omega)
          refine r_bipush hx hb dX7_readProgram_28 rfl (fun x28 e28 => ?_)
          have J38 : ∀ (ls : Array Slot) (H : Heap) (locs : List Loc) (t38_1 : Int32) (gk : Gh), (0 ≤ t38_1.toInt ∧ t38_1.toInt ≤ 1) → (0 ≤ gk.1 h0 52 ∧ gk.1 h0 52 ≤ 160 ∧ 0 ≤ gk.1 h0 53 ∧ gk.1 h0 53 ≤ 3 ∧ 0 ≤ gk.1 h0 54 ∧ gk.1 h0 54 ≤ 6) → (gh.1 h0 52 ≤ gk.1 h0 52) → (gh.1 h0 54 ≠ 0 → gk.1 h0 54 ≠ 0) → (gk.1 h0 54 = 0 → gk.1 h0 53 ≠ 0 → (gh.1 h0 53 ≠ 0 ∨ gh.1 h0 52 < gk.1 h0 52)) → (gk.1 h0 53 = 1 ∧ gk.1 h0 54 = 0) → (8 * (160 - gk.1 h0 52) + 7 < ((n0 + 1 : Nat) : Int)) → (t38_1.toInt ≠ 0 → x27.toInt < 8) → (∀ q, zG z q = (43, h0) → x27 = gk.2 q 31) → (8 * (160 - gk.1 h0 52) + gk.1 h0 53 - gk.1 h0 54 + 6) < ((n0 + 1 : Nat) : Int) → eqv gk gh → TY z (zA z) gk H → va_S (zA z) s.heap H locs → lv_has ls 2 [(0, .ref h0), (1, .int r16)] → W p l e (rmF 4 130) s m ([.ref h0] : List Value).toArray below meth c H locs 0 0 (MQ below (QcV z (fun H => ∃ gk : Gh, eqv gk gh ∧ TY z (zA z) gk H ∧ (gh.1 h0 52 ≤ gk.1 h0 52) ∧ (gh.1 h0 54 ≠ 0 → gk.1 h0 54 ≠ 0) ∧ (gk.1 h0 54 = 0 → gk.1 h0 53 ≠ 0 → (gh.1 h0 53 ≠ 0 ∨ gh.1 h0 52 < gk.1 h0 52)))) ([.ref h0] : List Value).toArray s 0 0 (zA z)) (F0 m 38 ls [.int t38_1, .ref h0]) := by
            intro ls H locs t38_1 gk j38_t38_1 ex38_0 ex38_1 ex38_2 ex38_3 ex38_4 ex38_5 ex38_6 ex38_7 mf38_0 hg1 hT hS hl
            refine r_iconst hx hb dX7_readProgram_38 (by decide) (by decide) (fun x38 e38 => ?_)
            refine cl_Vv (rest := []) hC hK hSK (c_X7_needs l z gk h0 (o0) g0 t38_1 x38 (by omega) (by omega)) k_X7_needs mw_4_177 ⟨rfl, rfl, Nat.le_of_ble_eq_true rfl, Nat.le_of_ble_eq_true rfl⟩ (rv_Model hK hT g0) hT rfl hl.1 rfl (Nat.le_of_ble_eq_true rfl) dX7_readProgram_39 ⟨Nat.zero_le _, Nat.zero_le _⟩ hS (fun _ h => h) (fun _ _ h => h) (fun H locs hpo hS => ?_)
            obtain ⟨gk39, hz39, hT, u39_0, u39_1, u39_2, u39_3, u39_4, u39_5, u39_6⟩ := hpo
            have hg1 := eqv_tr hz39 hg1
            have tz39_40 := hz39 h0 40 rfl
            have tb39 := ty_mr hT g0
            refine lv_aload_n hx hb dX7_readProgram_42 rfl (lv_at hl 0 rfl) ?_
            refine lv_iload_n hx hb dX7_readProgram_43 rfl (lv_at hl 1 rfl) ?_
            refine r_bipush hx hb dX7_readProgram_44 rfl (fun x44 e44 => ?_)
            have J54 : ∀ (ls : Array Slot) (H : Heap) (locs : List Loc) (t54_1 : Int32) (gk : Gh), (0 ≤ t54_1.toInt ∧ t54_1.toInt ≤ 1) → (0 ≤ gk.1 h0 52 ∧ gk.1 h0 52 ≤ 160 ∧ 0 ≤ gk.1 h0 53 ∧ gk.1 h0 53 ≤ 3 ∧ 0 ≤ gk.1 h0 54 ∧ gk.1 h0 54 ≤ 6) → (gh.1 h0 52 ≤ gk.1 h0 52) → (gh.1 h0 54 ≠ 0 → gk.1 h0 54 ≠ 0) → (gk.1 h0 54 = 0 → gk.1 h0 53 ≠ 0 → (gh.1 h0 53 ≠ 0 ∨ gh.1 h0 52 < gk.1 h0 52)) → (gk.1 h0 53 = 1) → (8 * (160 - gk.1 h0 52) + 7 < ((n0 + 1 : Nat) : Int)) → (gk.1 h0 54 = 0 → x27.toInt < 8) → (∀ q, zG z q = (43, h0) → x27 = gk.2 q 31) → (8 * (160 - gk.1 h0 52) + gk.1 h0 53 - gk.1 h0 54 + 6) < ((n0 + 1 : Nat) : Int) → eqv gk gh → TY z (zA z) gk H → va_S (zA z) s.heap H locs → lv_has ls 2 [(0, .ref h0), (1, .int r16)] → W p l e (rmF 4 130) s m ([.ref h0] : List Value).toArray below meth c H locs 0 0 (MQ below (QcV z (fun H => ∃ gk : Gh, eqv gk gh ∧ TY z (zA z) gk H ∧ (gh.1 h0 52 ≤ gk.1 h0 52) ∧ (gh.1 h0 54 ≠ 0 → gk.1 h0 54 ≠ 0) ∧ (gk.1 h0 54 = 0 → gk.1 h0 53 ≠ 0 → (gh.1 h0 53 ≠ 0 ∨ gh.1 h0 52 < gk.1 h0 52)))) ([.ref h0] : List Value).toArray s 0 0 (zA z)) (F0 m 54 ls [.int t54_1, .ref h0]) := by
              intro ls H locs t54_1 gk j54_t54_1 ex54_0 ex54_1 ex54_2 ex54_3 ex54_4 ex54_5 ex54_6 ex54_7 mf54_0 hg1 hT hS hl
              refine r_iconst hx hb dX7_readProgram_54 (by decide) (by decide) (fun x54 e54 => ?_)
              refine cl_Vv (rest := []) hC hK hSK (c_X7_needs l z gk h0 (o0) g0 t54_1 x54 (by omega) (by omega)) k_X7_needs mw_4_177 ⟨rfl, rfl, Nat.le_of_ble_eq_true rfl, Nat.le_of_ble_eq_true rfl⟩ (rv_Model hK hT g0) hT rfl hl.1 rfl (Nat.le_of_ble_eq_true rfl) dX7_readProgram_55 ⟨Nat.zero_le _, Nat.zero_le _⟩ hS (fun _ h => h) (fun _ _ h => h) (fun H locs hpo hS => ?_)
              obtain ⟨gk55, hz55, hT, u55_0, u55_1, u55_2, u55_3, u55_4, u55_5, u55_6⟩ := hpo
              have hg1 := eqv_tr hz55 hg1
              have tz55_40 := hz55 h0 40 rfl
              have tb55 := ty_mr hT g0
              refine lv_aload_n hx hb dX7_readProgram_58 rfl (lv_at hl 0 rfl) ?_
              refine gt_Model_fault hx hb hts ic_Model hown hK hT g0 (hts _ mw_4_85) dX7_readProgram_59 (fun x59 i59 e59 g59 => ?_)
              have J92 : ∀ (ls : Array Slot) (H : Heap) (locs : List Loc) (gk : Gh), (0 ≤ gk.1 h0 52 ∧ gk.1 h0 52 ≤ 160 ∧ 0 ≤ gk.1 h0 53 ∧ gk.1 h0 53 ≤ 3 ∧ 0 ≤ gk.1 h0 54 ∧ gk.1 h0 54 ≤ 6) → (gh.1 h0 52 ≤ gk.1 h0 52) → (gh.1 h0 54 ≠ 0 → gk.1 h0 54 ≠ 0) → (gk.1 h0 54 = 0 → gk.1 h0 53 ≠ 0 → (gh.1 h0 53 ≠ 0 ∨ gh.1 h0 52 < gk.1 h0 52)) → (gk.1 h0 53 = 1) → (8 * (160 - gk.1 h0 52) + 7 < ((n0 + 1 : Nat) : Int)) → (8 * (160 - gk.1 h0 52) + gk.1 h0 53 - gk.1 h0 54 + 6) < ((n0 + 1 : Nat) : Int) → eqv gk gh → TY z (zA z) gk H → va_S (zA z) s.heap H locs → lv_has ls 2 [(0, .ref h0), (1, .int r16)] → W p l e (rmF 4 130) s m ([.ref h0] : List Value).toArray below meth c H locs 0 0 (MQ below (QcV z (fun H => ∃ gk : Gh, eqv gk gh ∧ TY z (zA z) gk H ∧ (gh.1 h0 52 ≤ gk.1 h0 52) ∧ (gh.1 h0 54 ≠ 0 → gk.1 h0 54 ≠ 0) ∧ (gk.1 h0 54 = 0 → gk.1 h0 53 ≠ 0 → (gh.1 h0 53 ≠ 0 ∨ gh.1 h0 52 < gk.1 h0 52)))) ([.ref h0] : List Value).toArray s 0 0 (zA z)) (F0 m 92 ls []) := by
                intro ls H locs gk ex92_0 ex92_1 ex92_2 ex92_3 ex92_4 ex92_5 mf92_0 hg1 hT hS hl
                refine lv_aload_n hx hb dX7_readProgram_92 rfl (lv_at hl 0 rfl) ?_
                refine cl_Vv (rest := []) hC hK hSK (c_X7_next l z gk h0 (o0) g0 pr0) k_X7_next mw_4_165 ⟨rfl, rfl, Nat.le_of_ble_eq_true rfl, Nat.le_of_ble_eq_true rfl⟩ (rv_Model hK hT g0) hT rfl hl.1 rfl (Nat.le_of_ble_eq_true rfl) dX7_readProgram_93 ⟨Nat.zero_le _, Nat.zero_le _⟩ hS (fun _ h => h) (fun _ _ h => h) (fun H locs hpo hS => ?_)
                obtain ⟨gk93, hz93, hT, u93_0, u93_1, u93_2, u93_3, u93_4⟩ := hpo
                have hg1 := eqv_tr hz93 hg1
                have tz93_40 := hz93 h0 40 rfl
                have tb93 := ty_mr hT g0
                refine lv_goto (tgt := 0) hx hb dX7_readProgram_96 (by decide) ?_
                exact ih0 ls _ _ _ (by omega) (by omega) (by omega) (by omega) (by omega) hg1 hT hS (lv_sub hl [0] rfl)
              refine r_if_ne (tgt := 92) hx hb dX7_readProgram_62 (by decide) (fun c62 => ?_) (fun c62 => ?_)
              · exact J92 ls _ _ _ (by omega) (by omega) (by omega) (by omega) (by omega) (by omega) (by omega) hg1 hT hS (lv_sub hl [0, 1] rfl)
              · refine lv_aload_n hx hb dX7_readProgram_65 rfl (lv_at hl 0 rfl) ?_
                refine gt_Model_draft hx hb hts ic_Model hown hK hT g0 (hts _ mw_4_74) dX7_readProgram_66 (fun q66 hq66 => ?_)
                refine r_bipush hx hb dX7_readProgram_69 rfl (fun x69 e69 => ?_)
                refine lv_aload_n hx hb dX7_readProgram_71 rfl (lv_at hl 0 rfl) ?_
                refine gt_Model_draft hx hb hts ic_Model hown hK hT g0 (hts _ mw_4_74) dX7_readProgram_72 (fun q72 hq72 => ?_)
                refine r_bipush hx hb dX7_readProgram_75 rfl (fun x75 e75 => ?_)
                refine al_43 hx hb hK hT hq72 (by omega) (by omega) dX7_readProgram_77 (fun x77 i77 e77 => ?_)
                have n77 := ix_nat (i := x75) (by omega)
                have f77 := d59_r31 e77 (by omega)
                have e77 : x77.toInt = x27.toInt := by rw [i77, ex54_7 _ hq72, u55_6, show x75.toNatClampNeg = 31 by omega]
                refine r_iadd hx hb dX7_readProgram_78 (by omega) (by omega) (fun x78 e78 => ?_)
                refine lv_iload_n hx hb dX7_readProgram_79 rfl (lv_at hl 1 rfl) ?_
                refine as_43 hx hb hK hT hS hq66 (by omega) (by omega) (by have n0 := ix_nat (i := x78) (by omega); exact d59_mf (by omega)) dX7_readProgram_80 (fun H locs hT hS => ?_)
                obtain ⟨gk80, w80, hq80, hg1, hT⟩ : ∃ g : Gh, g.2 = (gc gk55 q66 (upd (gk55.2 q66) x78.toNatClampNeg r16)).2 ∧ g.1 = gk55.1 ∧ eqv g gh ∧ TY z (zA z) g H := ⟨_, rfl, rfl, eqv_gc hg1, hT⟩
                have t80_40 := congrFun (congrFun hq80 h0) 40
                have t80_52 := congrFun (congrFun hq80 h0) 52
                have t80_53 := congrFun (congrFun hq80 h0) 53
                have t80_54 := congrFun (congrFun hq80 h0) 54
                have t80_55 := congrFun (congrFun hq80 h0) 55
                have t80_56 := congrFun (congrFun hq80 h0) 56
                refine lv_aload_n hx hb dX7_readProgram_81 rfl (lv_at hl 0 rfl) ?_
                refine gt_Model_draft hx hb hts ic_Model hown hK hT g0 (hts _ mw_4_74) dX7_readProgram_82 (fun q82 hq82 => ?_)
                refine r_bipush hx hb dX7_readProgram_85 rfl (fun x85 e85 => ?_)
                refine lv_dup2_11 hx hb dX7_readProgram_87 rfl rfl ?_
                refine al_43 hx hb hK hT hq82 (by omega) (by omega) dX7_readProgram_88 (fun x88 i88 e88 => ?_)
                have n88 := ix_nat (i := x85) (by omega)
                have f88 := d59_r31 e88 (by omega)
                have e88 : x88.toInt = x77.toInt := by rw [i88, zu_at pr0 rfl hq82 hq66, w80, gc_at, pk_un (by have n9 := ix_nat (i := x78) (by omega); omega), i77, zu_at pr0 rfl hq66 hq72, show x85.toNatClampNeg = x75.toNatClampNeg by omega]
                refine r_iconst hx hb dX7_readProgram_89 (by decide) (by decide) (fun x89 e89 => ?_)
                refine r_iadd hx hb dX7_readProgram_90 (by omega) (by omega) (fun x90 e90 => ?_)
                refine as_43 hx hb hK hT hS hq82 (by omega) (by omega) (by have n0 := ix_nat (i := x85) (by omega); exact d59_m31 (by omega) ⟨by omega, by omega⟩) dX7_readProgram_91 (fun H locs hT hS => ?_)
                obtain ⟨gk91, w91, hq91, hg1, hT⟩ : ∃ g : Gh, g.2 = (gc gk80 q82 (upd (gk80.2 q82) x85.toNatClampNeg x90)).2 ∧ g.1 = gk80.1 ∧ eqv g gh ∧ TY z (zA z) g H := ⟨_, rfl, rfl, eqv_gc hg1, hT⟩
                have t91_40 := congrFun (congrFun hq91 h0) 40
                have t91_52 := congrFun (congrFun hq91 h0) 52
                have t91_53 := congrFun (congrFun hq91 h0) 53
                have t91_54 := congrFun (congrFun hq91 h0) 54
                have t91_55 := congrFun (congrFun hq91 h0) 55
                have t91_56 := congrFun (congrFun hq91 h0) 56
                exact J92 ls _ _ _ (by omega) (by omega) (by omega) (by omega) (by omega) (by omega) (by omega) hg1 hT hS (lv_sub hl [0, 1] rfl)
            refine r_icmp_eq (tgt := 53) hx hb dX7_readProgram_46 (by decide) (fun c46 => ?_) (fun c46 => ?_)
            · refine r_iconst hx hb dX7_readProgram_53 (by decide) (by decide) (fun x53 e53 => ?_)
              exact J54 ls _ _ x53 _ (by omega) (by omega) (by omega) (by omega) (by omega) (by omega) (by omega) (by omega) (by intro q9 h9; rw [u39_6]; exact ex38_7 q9 h9) (by omega) hg1 hT hS (lv_sub hl [0, 1] rfl)
            · refine r_iconst hx hb dX7_readProgram_49 (by decide) (by decide) (fun x49 e49 => ?_)
              refine lv_goto (tgt := 54) hx hb dX7_readProgram_50 (by decide) ?_
              exact J54 ls _ _ x49 _ (by omega) (by omega) (by omega) (by omega) (by omega) (by omega) (by omega) (by omega) (by intro q9 h9; rw [u39_6]; exact ex38_7 q9 h9) (by omega) hg1 hT hS (lv_sub hl [0, 1] rfl)
          refine r_icmp_ge (tgt := 37) hx hb dX7_readProgram_30 (by decide) (fun c30 => ?_) (fun c30 => ?_)
          · refine r_iconst hx hb dX7_readProgram_37 (by decide) (by decide) (fun x37 e37 => ?_)
            exact J38 ls _ _ x37 _ (by omega) (by omega) (by omega) (by omega) (by omega) (by omega) (by omega) (by omega) (by intro q9 h9; rw [zu_at pr0 rfl h9 hq22, show (31 : Nat) = x25.toNatClampNeg by omega]; exact i27) (by omega) hg1 hT hS (lv_sub hl [1, 0] rfl)
          · refine r_iconst hx hb dX7_readProgram_33 (by decide) (by decide) (fun x33 e33 => ?_)
            refine lv_goto (tgt := 38) hx hb dX7_readProgram_34 (by decide) ?_
            exact J38 ls _ _ x33 _ (by omega) (by omega) (by omega) (by omega) (by omega) (by omega) (by omega) (by omega) (by intro q9 h9; rw [zu_at pr0 rfl h9 hq22, show (31 : Nat) = x25.toNatClampNeg by omega]; exact i27) (by omega) hg1 hT hS (lv_sub hl [1, 0] rfl)
  exact J0 (((8 * (160 - gh.1 h0 52) + gh.1 h0 53 - gh.1 h0 54 + 6)).toNat + 1) ls _ _ _ (by omega) (by omega) (by omega) (by omega) (by omega) hg1 hT hS (lv_sub hl [0] rfl)
theorem k_X7_readLine : cBV yX7_readLine cX7_readLine 2 none 0 := ⟨mw_4_183, ms_2_1, mw_1_8, mw_4_184, ⟨by decide, by decide, by decide⟩⟩
set_option maxHeartbeats 4000000 in
set_option maxRecDepth 100000 in
theorem c_X7_readLine (l : Launch) (z : Zt) (gh : Gh) (h0 o0 : Nat) (g0 : zG z h0 = (17, o0)) (pr0 : zu z) (pr1 : gh.1 h0 54 = 0) : Met l yX7_readLine (uw yX7_readLine cX7_readLine 2 none) (rmF 5 156) (PcW z [.ref h0] (fun H => TY z (zA z) gh H)) (QcV z (fun H => ∃ gk : Gh, eqv gk gh ∧ TY z (zA z) gk H ∧ (gh.1 h0 52 ≤ gk.1 h0 52) ∧ (gk.1 h0 54 = 0 → gh.1 h0 52 < gk.1 h0 52))) 0 0 (zA z) := by
  refine Met.ofW (cc := cX7_readLine) (maxL := 2) (ret := none) (by decide) rfl ?_
  intro p e s m args below meth c s₁ B hml hv
  obtain ⟨rfl, hW, hK, hSK⟩ := hv
  have hx := B.exec
  have hb := B.bytes
  have hr := B.returns
  have hts : ∀ w ∈ lw_ok, w.before ([.ref h0] : List Value).toArray s = true := fun w hw => atoms_spec (ws := uw yX7_readLine cX7_readLine 2 none) B.pre w (List.mem_cons_of_mem _ hw)
  have hown : s.vm.findClass RX7 = some m.cls := findClass_of_methodNamed B.named
  have hlk := B.notSynchronized
  have hC : CallFix p m c cX7_readLine 2 s ([.ref h0] : List Value).toArray lw_ok RX7 := ⟨hx, hb, hml, hown, hts⟩
  have hS : va_S (zA z) s.heap s.heap [] := va_S.rf
  have hl := lv_entry ([.ref h0]) (n := 2) (Nat.le_of_ble_eq_true rfl)
  rw [lg_entry_eq]
  generalize (lg_sl ([.ref h0]) ++ List.replicate (2 - (lg_sl ([.ref h0])).length) Slot.unset).toArray = ls at hl ⊢
  have hl : lv_has ls 2 [(0, .ref h0)] := hl
  show W p l e (rmF 5 156) s m ([.ref h0] : List Value).toArray below meth c s.heap [] 0 0 (MQ below (QcV z (fun H => ∃ gk : Gh, eqv gk gh ∧ TY z (zA z) gk H ∧ (gh.1 h0 52 ≤ gk.1 h0 52) ∧ (gk.1 h0 54 = 0 → gh.1 h0 52 < gk.1 h0 52))) ([.ref h0] : List Value).toArray s 0 0 (zA z)) (F0 m 0 ls [])
  have hT : TY z (zA z) gh s.heap := hW
  have hg1 : eqv gh gh := eqv_rf gh
  refine lv_aload_n hx hb dX7_readLine_0 rfl (lv_at hl 0 rfl) ?_
  refine gt_Model_sort hx hb hts ic_Model hown hK hT g0 (hts _ mw_4_83) dX7_readLine_1 (fun x1 i1 e1 g1 => ?_)
  refine r_iconst hx hb dX7_readLine_4 (by decide) (by decide) (fun x4 e4 => ?_)
  have J17 : ∀ (ls : Array Slot) (H : Heap) (locs : List Loc) (t17_0 : Int32) (gk : Gh), (-4 ≤ t17_0.toInt ∧ t17_0.toInt ≤ 5) → (0 ≤ t17_0.toInt ∨ t17_0.toInt = -4) → (gk.1 h0 52 = gh.1 h0 52 ∧ gk.1 h0 55 = gh.1 h0 55 ∧ 0 ≤ gk.1 h0 54) → eqv gk gh → TY z (zA z) gk H → va_S (zA z) s.heap H locs → lv_has ls 2 [(0, .ref h0)] → W p l e (rmF 5 156) s m ([.ref h0] : List Value).toArray below meth c H locs 0 0 (MQ below (QcV z (fun H => ∃ gk : Gh, eqv gk gh ∧ TY z (zA z) gk H ∧ (gh.1 h0 52 ≤ gk.1 h0 52) ∧ (gk.1 h0 54 = 0 → gh.1 h0 52 < gk.1 h0 52))) ([.ref h0] : List Value).toArray s 0 0 (zA z)) (F0 m 17 ls [.int t17_0]) := by
    intro ls H locs t17_0 gk j17_t17_0 ex17_0 ex17_1 hg1 hT hS hl
    refine lv_istore_n (lv' := [(1, .int t17_0), (0, .ref h0)]) hx hb dX7_readLine_17 rfl hl (by decide) rfl (fun ls hl => ?_)
    refine lv_aload_n hx hb dX7_readLine_18 rfl (lv_at hl 1 rfl) ?_
    refine lv_iload_n hx hb dX7_readLine_19 rfl (lv_at hl 0 rfl) ?_
    refine r_bipush hx hb dX7_readLine_20 rfl (fun x20 e20 => ?_)
    have J30 : ∀ (ls : Array Slot) (H : Heap) (locs : List Loc) (t30_1 : Int32) (gk : Gh), (0 ≤ t30_1.toInt ∧ t30_1.toInt ≤ 1) → (gk.1 h0 52 = gh.1 h0 52 ∧ gk.1 h0 55 = gh.1 h0 55 ∧ 0 ≤ gk.1 h0 54) → (t30_1.toInt ≠ 0 → t17_0.toInt ≠ -4) → eqv gk gh → TY z (zA z) gk H → va_S (zA z) s.heap H locs → lv_has ls 2 [(0, .ref h0), (1, .int t17_0)] → W p l e (rmF 5 156) s m ([.ref h0] : List Value).toArray below meth c H locs 0 0 (MQ below (QcV z (fun H => ∃ gk : Gh, eqv gk gh ∧ TY z (zA z) gk H ∧ (gh.1 h0 52 ≤ gk.1 h0 52) ∧ (gk.1 h0 54 = 0 → gh.1 h0 52 < gk.1 h0 52))) ([.ref h0] : List Value).toArray s 0 0 (zA z)) (F0 m 30 ls [.int t30_1, .ref h0]) := by
      intro ls H locs t30_1 gk j30_t30_1 ex30_0 ex30_1 hg1 hT hS hl
      refine r_iconst hx hb dX7_readLine_30 (by decide) (by decide) (fun x30 e30 => ?_)
      refine cl_Vv (rest := []) hC hK hSK (c_X7_needs l z gk h0 (o0) g0 t30_1 x30 (by omega) (by omega)) k_X7_needs mw_4_177 ⟨rfl, rfl, Nat.le_of_ble_eq_true rfl, Nat.le_of_ble_eq_true rfl⟩ (rv_Model hK hT g0) hT rfl hl.1 rfl (Nat.le_of_ble_eq_true rfl) dX7_readLine_31 ⟨Nat.zero_le _, Nat.zero_le _⟩ hS (fun _ h => h) (fun _ _ h => h) (fun H locs hpo hS => ?_)
      obtain ⟨gk31, hz31, hT, u31_0, u31_1, u31_2, u31_3, u31_4, u31_5, u31_6⟩ := hpo
      have hg1 := eqv_tr hz31 hg1
      have tz31_40 := hz31 h0 40 rfl
      have tb31 := ty_mr hT g0
      refine lv_aload_n hx hb dX7_readLine_34 rfl (lv_at hl 0 rfl) ?_
      refine lv_iload_n hx hb dX7_readLine_35 rfl (lv_at hl 1 rfl) ?_
      refine r_iconst hx hb dX7_readLine_36 (by decide) (by decide) (fun x36 e36 => ?_)
      have J75 : ∀ (ls : Array Slot) (H : Heap) (locs : List Loc) (t75_1 : Int32) (gk : Gh), (0 ≤ t75_1.toInt ∧ t75_1.toInt ≤ 1) → (gk.1 h0 52 = gh.1 h0 52 ∧ gk.1 h0 55 = gh.1 h0 55 ∧ 0 ≤ gk.1 h0 54) → (gk.1 h0 54 = 0 → t17_0.toInt ≠ -4) → (t75_1.toInt ≠ 0 → t17_0.toInt = 4 ∨ t17_0.toInt = 5 ∨ gk.1 h0 55 ≤ 4) → eqv gk gh → TY z (zA z) gk H → va_S (zA z) s.heap H locs → lv_has ls 2 [(0, .ref h0), (1, .int t17_0)] → W p l e (rmF 5 156) s m ([.ref h0] : List Value).toArray below meth c H locs 0 0 (MQ below (QcV z (fun H => ∃ gk : Gh, eqv gk gh ∧ TY z (zA z) gk H ∧ (gh.1 h0 52 ≤ gk.1 h0 52) ∧ (gk.1 h0 54 = 0 → gh.1 h0 52 < gk.1 h0 52))) ([.ref h0] : List Value).toArray s 0 0 (zA z)) (F0 m 75 ls [.int t75_1, .ref h0]) := by
        intro ls H locs t75_1 gk j75_t75_1 ex75_0 ex75_1 ex75_2 hg1 hT hS hl
        refine r_iconst hx hb dX7_readLine_75 (by decide) (by decide) (fun x75 e75 => ?_)
        refine cl_Vv (rest := []) hC hK hSK (c_X7_needs l z gk h0 (o0) g0 t75_1 x75 (by omega) (by omega)) k_X7_needs mw_4_177 ⟨rfl, rfl, Nat.le_of_ble_eq_true rfl, Nat.le_of_ble_eq_true rfl⟩ (rv_Model hK hT g0) hT rfl hl.1 rfl (Nat.le_of_ble_eq_true rfl) dX7_readLine_76 ⟨Nat.zero_le _, Nat.zero_le _⟩ hS (fun _ h => h) (fun _ _ h => h) (fun H locs hpo hS => ?_)
        obtain ⟨gk76, hz76, hT, u76_0, u76_1, u76_2, u76_3, u76_4, u76_5, u76_6⟩ := hpo
        have hg1 := eqv_tr hz76 hg1
        have tz76_40 := hz76 h0 40 rfl
        have tb76 := ty_mr hT g0
        refine lv_aload_n hx hb dX7_readLine_79 rfl (lv_at hl 0 rfl) ?_
        refine lv_iload_n hx hb dX7_readLine_80 rfl (lv_at hl 1 rfl) ?_
        refine r_iconst hx hb dX7_readLine_81 (by decide) (by decide) (fun x81 e81 => ?_)
        have J97 : ∀ (ls : Array Slot) (H : Heap) (locs : List Loc) (t97_1 : Int32) (gk : Gh), (0 ≤ t97_1.toInt ∧ t97_1.toInt ≤ 1) → (gk.1 h0 52 = gh.1 h0 52 ∧ gk.1 h0 55 = gh.1 h0 55 ∧ 0 ≤ gk.1 h0 54) → (gk.1 h0 54 = 0 → t17_0.toInt ≠ -4) → (gk.1 h0 54 = 0 → t17_0.toInt = 4 ∨ t17_0.toInt = 5 ∨ gk.1 h0 55 ≤ 4) → eqv gk gh → TY z (zA z) gk H → va_S (zA z) s.heap H locs → lv_has ls 2 [(0, .ref h0), (1, .int t17_0)] → W p l e (rmF 5 156) s m ([.ref h0] : List Value).toArray below meth c H locs 0 0 (MQ below (QcV z (fun H => ∃ gk : Gh, eqv gk gh ∧ TY z (zA z) gk H ∧ (gh.1 h0 52 ≤ gk.1 h0 52) ∧ (gk.1 h0 54 = 0 → gh.1 h0 52 < gk.1 h0 52))) ([.ref h0] : List Value).toArray s 0 0 (zA z)) (F0 m 97 ls [.int t97_1, .ref h0]) := by
          intro ls H locs t97_1 gk j97_t97_1 ex97_0 ex97_1 ex97_2 hg1 hT hS hl
          refine r_iconst hx hb dX7_readLine_97 (by decide) (by decide) (fun x97 e97 => ?_)
          refine cl_Vv (rest := []) hC hK hSK (c_X7_needs l z gk h0 (o0) g0 t97_1 x97 (by omega) (by omega)) k_X7_needs mw_4_177 ⟨rfl, rfl, Nat.le_of_ble_eq_true rfl, Nat.le_of_ble_eq_true rfl⟩ (rv_Model hK hT g0) hT rfl hl.1 rfl (Nat.le_of_ble_eq_true rfl) dX7_readLine_98 ⟨Nat.zero_le _, Nat.zero_le _⟩ hS (fun _ h => h) (fun _ _ h => h) (fun H locs hpo hS => ?_)
          obtain ⟨gk98, hz98, hT, u98_0, u98_1, u98_2, u98_3, u98_4, u98_5, u98_6⟩ := hpo
          have hg1 := eqv_tr hz98 hg1
          have tz98_40 := hz98 h0 40 rfl
          have tb98 := ty_mr hT g0
          refine lv_aload_n hx hb dX7_readLine_101 rfl (lv_at hl 0 rfl) ?_
          refine lv_aload_n hx hb dX7_readLine_102 rfl (lv_at hl 0 rfl) ?_
          refine gt_Model_hasProgram hx hb hts ic_Model hown hK hT g0 (hts _ mw_4_77) dX7_readLine_103 (fun x103 e103 g103 => ?_)
          have J119 : ∀ (ls : Array Slot) (H : Heap) (locs : List Loc) (t119_1 : Int32) (gk : Gh), (0 ≤ t119_1.toInt ∧ t119_1.toInt ≤ 1) → (gk.1 h0 52 = gh.1 h0 52 ∧ gk.1 h0 55 = gh.1 h0 55 ∧ 0 ≤ gk.1 h0 54) → (gk.1 h0 54 = 0 → t17_0.toInt ≠ -4) → (gk.1 h0 54 = 0 → t17_0.toInt = 4 ∨ t17_0.toInt = 5 ∨ gk.1 h0 55 ≤ 4) → eqv gk gh → TY z (zA z) gk H → va_S (zA z) s.heap H locs → lv_has ls 2 [(0, .ref h0), (1, .int t17_0)] → W p l e (rmF 5 156) s m ([.ref h0] : List Value).toArray below meth c H locs 0 0 (MQ below (QcV z (fun H => ∃ gk : Gh, eqv gk gh ∧ TY z (zA z) gk H ∧ (gh.1 h0 52 ≤ gk.1 h0 52) ∧ (gk.1 h0 54 = 0 → gh.1 h0 52 < gk.1 h0 52))) ([.ref h0] : List Value).toArray s 0 0 (zA z)) (F0 m 119 ls [.int t119_1, .ref h0]) := by
            intro ls H locs t119_1 gk j119_t119_1 ex119_0 ex119_1 ex119_2 hg1 hT hS hl
            refine pt_Model_hasProgram hx hb hts ic_Model hown hK hT hS g0 (hts _ mw_4_77) (by omega) (by omega) dX7_readLine_119 (fun H locs hT hS => ?_)
            refine lv_aload_n hx hb dX7_readLine_122 rfl (lv_at hl 0 rfl) ?_
            refine cl_Vv (rest := []) hC hK hSK (c_X7_next l z gk h0 (o0) g0 pr0) k_X7_next mw_4_165 ⟨rfl, rfl, Nat.le_of_ble_eq_true rfl, Nat.le_of_ble_eq_true rfl⟩ (rv_Model hK hT g0) hT rfl hl.1 rfl (Nat.le_of_ble_eq_true rfl) dX7_readLine_123 ⟨Nat.zero_le _, Nat.zero_le _⟩ hS (fun _ h => h) (fun _ _ h => h) (fun H locs hpo hS => ?_)
            obtain ⟨gk123, hz123, hT, u123_0, u123_1, u123_2, u123_3, u123_4⟩ := hpo
            have hg1 := eqv_tr hz123 hg1
            have tz123_40 := hz123 h0 40 rfl
            have tb123 := ty_mr hT g0
            refine lv_aload_n hx hb dX7_readLine_126 rfl (lv_at hl 0 rfl) ?_
            refine gt_Model_fault hx hb hts ic_Model hown hK hT g0 (hts _ mw_4_85) dX7_readLine_127 (fun x127 i127 e127 g127 => ?_)
            refine r_if_le (tgt := 134) hx hb dX7_readLine_130 (by decide) (fun c130 => ?_) (fun c130 => ?_)
            · refine lv_iload_n hx hb dX7_readLine_134 rfl (lv_at hl 1 rfl) ?_
              refine r_iconst hx hb dX7_readLine_135 (by decide) (by decide) (fun x135 e135 => ?_)
              have J163 : ∀ (ls : Array Slot) (H : Heap) (locs : List Loc) (gk : Gh), (gh.1 h0 52 ≤ gk.1 h0 52) → (gk.1 h0 54 = 0 → gk.1 h0 53 ≠ 0 → gh.1 h0 52 < gk.1 h0 52) → eqv gk gh → TY z (zA z) gk H → va_S (zA z) s.heap H locs → lv_has ls 2 [(0, .ref h0), (1, .int t17_0)] → W p l e (rmF 5 156) s m ([.ref h0] : List Value).toArray below meth c H locs 0 0 (MQ below (QcV z (fun H => ∃ gk : Gh, eqv gk gh ∧ TY z (zA z) gk H ∧ (gh.1 h0 52 ≤ gk.1 h0 52) ∧ (gk.1 h0 54 = 0 → gh.1 h0 52 < gk.1 h0 52))) ([.ref h0] : List Value).toArray s 0 0 (zA z)) (F0 m 163 ls []) := by
                intro ls H locs gk ex163_0 ex163_1 hg1 hT hS hl
                refine lv_aload_n hx hb dX7_readLine_163 rfl (lv_at hl 0 rfl) ?_
                refine gt_Model_fault hx hb hts ic_Model hown hK hT g0 (hts _ mw_4_85) dX7_readLine_164 (fun x164 i164 e164 g164 => ?_)
                have J188 : ∀ (ls : Array Slot) (H : Heap) (locs : List Loc) (gk : Gh), (gh.1 h0 52 ≤ gk.1 h0 52) → (gk.1 h0 54 = 0 → gk.1 h0 53 ≠ 0 → gh.1 h0 52 < gk.1 h0 52) → (gk.1 h0 54 = 0 → gk.1 h0 53 ≠ 0) → eqv gk gh → TY z (zA z) gk H → va_S (zA z) s.heap H locs → lv_has ls 2 [(0, .ref h0), (1, .int t17_0)] → W p l e (rmF 5 156) s m ([.ref h0] : List Value).toArray below meth c H locs 0 0 (MQ below (QcV z (fun H => ∃ gk : Gh, eqv gk gh ∧ TY z (zA z) gk H ∧ (gh.1 h0 52 ≤ gk.1 h0 52) ∧ (gk.1 h0 54 = 0 → gh.1 h0 52 < gk.1 h0 52))) ([.ref h0] : List Value).toArray s 0 0 (zA z)) (F0 m 188 ls []) := by
                  intro ls H locs gk ex188_0 ex188_1 ex188_2 hg1 hT hS hl
                  refine lv_aload_n hx hb dX7_readLine_188 rfl (lv_at hl 0 rfl) ?_
                  refine cl_Vv (rest := []) hC hK hSK (c_X7_next l z gk h0 (o0) g0 pr0) k_X7_next mw_4_165 ⟨rfl, rfl, Nat.le_of_ble_eq_true rfl, Nat.le_of_ble_eq_true rfl⟩ (rv_Model hK hT g0) hT rfl hl.1 rfl (Nat.le_of_ble_eq_true rfl) dX7_readLine_189 ⟨Nat.zero_le _, Nat.zero_le _⟩ hS (fun _ h => h) (fun _ _ h => h) (fun H locs hpo hS => ?_)
                  obtain ⟨gk189, hz189, hT, u189_0, u189_1, u189_2, u189_3, u189_4⟩ := hpo
                  have hg1 := eqv_tr hz189 hg1
                  have tz189_40 := hz189 h0 40 rfl
                  have tb189 := ty_mr hT g0
                  exact rt_v hx hb hr hlk hS ⟨_, hg1, hT, by omega, by omega⟩ dX7_readLine_192
                refine r_if_ne (tgt := 188) hx hb dX7_readLine_167 (by decide) (fun c167 => ?_) (fun c167 => ?_)
                · exact J188 ls _ _ _ (by omega) (by omega) (by omega) hg1 hT hS (lv_sub hl [0, 1] rfl)
                · refine lv_aload_n hx hb dX7_readLine_170 rfl (lv_at hl 0 rfl) ?_
                  refine lv_aload_n hx hb dX7_readLine_171 rfl (lv_at hl 0 rfl) ?_
                  refine gt_Model_sort hx hb hts ic_Model hown hK hT g0 (hts _ mw_4_83) dX7_readLine_172 (fun x172 i172 e172 g172 => ?_)
                  refine r_iconst hx hb dX7_readLine_175 (by decide) (by decide) (fun x175 e175 => ?_)
                  have J184 : ∀ (ls : Array Slot) (H : Heap) (locs : List Loc) (t184_1 : Int32) (gk : Gh), (0 ≤ t184_1.toInt ∧ t184_1.toInt ≤ 1) → (gh.1 h0 52 ≤ gk.1 h0 52) → (gk.1 h0 54 = 0 → gk.1 h0 53 ≠ 0 → gh.1 h0 52 < gk.1 h0 52) → (t184_1.toInt ≠ 0 → gk.1 h0 53 = 3) → eqv gk gh → TY z (zA z) gk H → va_S (zA z) s.heap H locs → lv_has ls 2 [(0, .ref h0), (1, .int t17_0)] → W p l e (rmF 5 156) s m ([.ref h0] : List Value).toArray below meth c H locs 0 0 (MQ below (QcV z (fun H => ∃ gk : Gh, eqv gk gh ∧ TY z (zA z) gk H ∧ (gh.1 h0 52 ≤ gk.1 h0 52) ∧ (gk.1 h0 54 = 0 → gh.1 h0 52 < gk.1 h0 52))) ([.ref h0] : List Value).toArray s 0 0 (zA z)) (F0 m 184 ls [.int t184_1, .ref h0]) := by
                    intro ls H locs t184_1 gk j184_t184_1 ex184_0 ex184_1 ex184_2 hg1 hT hS hl
                    refine r_iconst hx hb dX7_readLine_184 (by decide) (by decide) (fun x184 e184 => ?_)
                    refine cl_Vv (rest := []) hC hK hSK (c_X7_needs l z gk h0 (o0) g0 t184_1 x184 (by omega) (by omega)) k_X7_needs mw_4_177 ⟨rfl, rfl, Nat.le_of_ble_eq_true rfl, Nat.le_of_ble_eq_true rfl⟩ (rv_Model hK hT g0) hT rfl hl.1 rfl (Nat.le_of_ble_eq_true rfl) dX7_readLine_185 ⟨Nat.zero_le _, Nat.zero_le _⟩ hS (fun _ h => h) (fun _ _ h => h) (fun H locs hpo hS => ?_)
                    obtain ⟨gk185, hz185, hT, u185_0, u185_1, u185_2, u185_3, u185_4, u185_5, u185_6⟩ := hpo
                    have hg1 := eqv_tr hz185 hg1
                    have tz185_40 := hz185 h0 40 rfl
                    exact J188 ls _ _ _ (by omega) (by omega) (by omega) hg1 hT hS (lv_sub hl [0, 1] rfl)
                  refine r_icmp_ne (tgt := 183) hx hb dX7_readLine_176 (by decide) (fun c176 => ?_) (fun c176 => ?_)
                  · refine r_iconst hx hb dX7_readLine_183 (by decide) (by decide) (fun x183 e183 => ?_)
                    exact J184 ls _ _ x183 _ (by omega) (by omega) (by omega) (by omega) hg1 hT hS (lv_sub hl [0, 1] rfl)
                  · refine r_iconst hx hb dX7_readLine_179 (by decide) (by decide) (fun x179 e179 => ?_)
                    refine lv_goto (tgt := 184) hx hb dX7_readLine_180 (by decide) ?_
                    exact J184 ls _ _ x179 _ (by omega) (by omega) (by omega) (by omega) hg1 hT hS (lv_sub hl [0, 1] rfl)
              refine r_icmp_ne (tgt := 146) hx hb dX7_readLine_136 (by decide) (fun c136 => ?_) (fun c136 => ?_)
              · refine lv_iload_n hx hb dX7_readLine_146 rfl (lv_at hl 1 rfl) ?_
                refine r_iconst hx hb dX7_readLine_147 (by decide) (by decide) (fun x147 e147 => ?_)
                refine r_icmp_ne (tgt := 158) hx hb dX7_readLine_148 (by decide) (fun c148 => ?_) (fun c148 => ?_)
                · refine lv_aload_n hx hb dX7_readLine_158 rfl (lv_at hl 0 rfl) ?_
                  refine lv_iload_n hx hb dX7_readLine_159 rfl (lv_at hl 1 rfl) ?_
                  refine cl_Vv (rest := []) hC hK hSK (c_X7_readMan l z gk123 h0 (o0) g0 t17_0 (by omega) pr0 (by omega)) k_X7_readMan mw_4_217 ⟨rfl, rfl, Nat.le_of_ble_eq_true rfl, Nat.le_of_ble_eq_true rfl⟩ (rv_Model hK hT g0) hT rfl hl.1 rfl (Nat.le_of_ble_eq_true rfl) dX7_readLine_160 ⟨Nat.zero_le _, Nat.zero_le _⟩ hS (fun _ h => h) (fun _ _ h => h) (fun H locs hpo hS => ?_)
                  obtain ⟨gk160, hz160, hT, u160_0, u160_1, u160_2⟩ := hpo
                  have hg1 := eqv_tr hz160 hg1
                  have tz160_40 := hz160 h0 40 rfl
                  exact J163 ls _ _ _ (by omega) (by omega) hg1 hT hS (lv_sub hl [0, 1] rfl)
                · refine lv_aload_n hx hb dX7_readLine_151 rfl (lv_at hl 0 rfl) ?_
                  refine cl_Vv (rest := []) hC hK hSK (c_X7_readProgram l z gk123 h0 (o0) g0 pr0) k_X7_readProgram mw_4_209 ⟨rfl, rfl, Nat.le_of_ble_eq_true rfl, Nat.le_of_ble_eq_true rfl⟩ (rv_Model hK hT g0) hT rfl hl.1 rfl (Nat.le_of_ble_eq_true rfl) dX7_readLine_152 ⟨Nat.zero_le _, Nat.zero_le _⟩ hS (fun _ h => h) (fun _ _ h => h) (fun H locs hpo hS => ?_)
                  obtain ⟨gk152, hz152, hT, u152_0, u152_1, u152_2⟩ := hpo
                  have hg1 := eqv_tr hz152 hg1
                  have tz152_40 := hz152 h0 40 rfl
                  refine lv_goto (tgt := 163) hx hb dX7_readLine_155 (by decide) ?_
                  exact J163 ls _ _ _ (by omega) (by omega) hg1 hT hS (lv_sub hl [0, 1] rfl)
              · refine lv_aload_n hx hb dX7_readLine_139 rfl (lv_at hl 0 rfl) ?_
                refine cl_Vv (rest := []) hC hK hSK (c_X7_readCousins l z gk123 h0 (o0) g0 pr0) k_X7_readCousins mw_4_197 ⟨rfl, rfl, Nat.le_of_ble_eq_true rfl, Nat.le_of_ble_eq_true rfl⟩ (rv_Model hK hT g0) hT rfl hl.1 rfl (Nat.le_of_ble_eq_true rfl) dX7_readLine_140 ⟨Nat.zero_le _, Nat.zero_le _⟩ hS (fun _ h => h) (fun _ _ h => h) (fun H locs hpo hS => ?_)
                obtain ⟨gk140, hz140, hT, u140_0, u140_1, u140_2⟩ := hpo
                have hg1 := eqv_tr hz140 hg1
                have tz140_40 := hz140 h0 40 rfl
                refine lv_goto (tgt := 163) hx hb dX7_readLine_143 (by decide) ?_
                exact J163 ls _ _ _ (by omega) (by omega) hg1 hT hS (lv_sub hl [0, 1] rfl)
            · exact rt_v hx hb hr hlk hS ⟨_, hg1, hT, by omega, by omega⟩ dX7_readLine_133
          have J114 : ∀ (ls : Array Slot) (H : Heap) (locs : List Loc) (gk : Gh), (gk.1 h0 52 = gh.1 h0 52 ∧ gk.1 h0 55 = gh.1 h0 55 ∧ 0 ≤ gk.1 h0 54) → (gk.1 h0 54 = 0 → t17_0.toInt ≠ -4) → (gk.1 h0 54 = 0 → t17_0.toInt = 4 ∨ t17_0.toInt = 5 ∨ gk.1 h0 55 ≤ 4) → eqv gk gh → TY z (zA z) gk H → va_S (zA z) s.heap H locs → lv_has ls 2 [(0, .ref h0), (1, .int t17_0)] → W p l e (rmF 5 156) s m ([.ref h0] : List Value).toArray below meth c H locs 0 0 (MQ below (QcV z (fun H => ∃ gk : Gh, eqv gk gh ∧ TY z (zA z) gk H ∧ (gh.1 h0 52 ≤ gk.1 h0 52) ∧ (gk.1 h0 54 = 0 → gh.1 h0 52 < gk.1 h0 52))) ([.ref h0] : List Value).toArray s 0 0 (zA z)) (F0 m 114 ls [.ref h0]) := by
            intro ls H locs gk ex114_0 ex114_1 ex114_2 hg1 hT hS hl
            refine r_iconst hx hb dX7_readLine_114 (by decide) (by decide) (fun x114 e114 => ?_)
            refine lv_goto (tgt := 119) hx hb dX7_readLine_115 (by decide) ?_
            exact J119 ls _ _ x114 _ (by omega) (by omega) (by omega) (by omega) hg1 hT hS (lv_sub hl [0, 1] rfl)
          refine r_if_ne (tgt := 114) hx hb dX7_readLine_106 (by decide) (fun c106 => ?_) (fun c106 => ?_)
          · exact J114 ls _ _ _ (by omega) (by omega) (by omega) hg1 hT hS (lv_sub hl [0, 1] rfl)
          · refine lv_iload_n hx hb dX7_readLine_109 rfl (lv_at hl 1 rfl) ?_
            refine r_iconst hx hb dX7_readLine_110 (by decide) (by decide) (fun x110 e110 => ?_)
            refine r_icmp_ne (tgt := 118) hx hb dX7_readLine_111 (by decide) (fun c111 => ?_) (fun c111 => ?_)
            · refine r_iconst hx hb dX7_readLine_118 (by decide) (by decide) (fun x118 e118 => ?_)
              exact J119 ls _ _ x118 _ (by omega) (by omega) (by omega) (by omega) hg1 hT hS (lv_sub hl [0, 1] rfl)
            · exact J114 ls _ _ _ (by omega) (by omega) (by omega) hg1 hT hS (lv_sub hl [0, 1] rfl)
        have J92 : ∀ (ls : Array Slot) (H : Heap) (locs : List Loc) (gk : Gh), (gk.1 h0 52 = gh.1 h0 52 ∧ gk.1 h0 55 = gh.1 h0 55 ∧ 0 ≤ gk.1 h0 54) → (gk.1 h0 54 = 0 → t17_0.toInt ≠ -4) → (gk.1 h0 54 = 0 → t17_0.toInt = 4 ∨ t17_0.toInt = 5 ∨ gk.1 h0 55 ≤ 4) → eqv gk gh → TY z (zA z) gk H → va_S (zA z) s.heap H locs → lv_has ls 2 [(0, .ref h0), (1, .int t17_0)] → W p l e (rmF 5 156) s m ([.ref h0] : List Value).toArray below meth c H locs 0 0 (MQ below (QcV z (fun H => ∃ gk : Gh, eqv gk gh ∧ TY z (zA z) gk H ∧ (gh.1 h0 52 ≤ gk.1 h0 52) ∧ (gk.1 h0 54 = 0 → gh.1 h0 52 < gk.1 h0 52))) ([.ref h0] : List Value).toArray s 0 0 (zA z)) (F0 m 92 ls [.ref h0]) := by
          intro ls H locs gk ex92_0 ex92_1 ex92_2 hg1 hT hS hl
          refine r_iconst hx hb dX7_readLine_92 (by decide) (by decide) (fun x92 e92 => ?_)
          refine lv_goto (tgt := 97) hx hb dX7_readLine_93 (by decide) ?_
          exact J97 ls _ _ x92 _ (by omega) (by omega) (by omega) (by omega) hg1 hT hS (lv_sub hl [0, 1] rfl)
        refine r_icmp_ne (tgt := 92) hx hb dX7_readLine_82 (by decide) (fun c82 => ?_) (fun c82 => ?_)
        · exact J92 ls _ _ _ (by omega) (by omega) (by omega) hg1 hT hS (lv_sub hl [0, 1] rfl)
        · refine lv_aload_n hx hb dX7_readLine_85 rfl (lv_at hl 0 rfl) ?_
          refine gt_Model_hasProgram hx hb hts ic_Model hown hK hT g0 (hts _ mw_4_77) dX7_readLine_86 (fun x86 e86 g86 => ?_)
          refine r_if_ne (tgt := 96) hx hb dX7_readLine_89 (by decide) (fun c89 => ?_) (fun c89 => ?_)
          · refine r_iconst hx hb dX7_readLine_96 (by decide) (by decide) (fun x96 e96 => ?_)
            exact J97 ls _ _ x96 _ (by omega) (by omega) (by omega) (by omega) hg1 hT hS (lv_sub hl [0, 1] rfl)
          · exact J92 ls _ _ _ (by omega) (by omega) (by omega) hg1 hT hS (lv_sub hl [0, 1] rfl)
      refine r_icmp_ne (tgt := 57) hx hb dX7_readLine_37 (by decide) (fun c37 => ?_) (fun c37 => ?_)
      · refine lv_iload_n hx hb dX7_readLine_57 rfl (lv_at hl 1 rfl) ?_
        refine r_iconst hx hb dX7_readLine_58 (by decide) (by decide) (fun x58 e58 => ?_)
        have J70 : ∀ (ls : Array Slot) (H : Heap) (locs : List Loc) (gk : Gh), (gk.1 h0 52 = gh.1 h0 52 ∧ gk.1 h0 55 = gh.1 h0 55 ∧ 0 ≤ gk.1 h0 54) → (gk.1 h0 54 = 0 → t17_0.toInt ≠ -4) → (t17_0.toInt = 4 ∨ t17_0.toInt = 5 ∨ gk.1 h0 55 ≤ 4) → eqv gk gh → TY z (zA z) gk H → va_S (zA z) s.heap H locs → lv_has ls 2 [(0, .ref h0), (1, .int t17_0)] → W p l e (rmF 5 156) s m ([.ref h0] : List Value).toArray below meth c H locs 0 0 (MQ below (QcV z (fun H => ∃ gk : Gh, eqv gk gh ∧ TY z (zA z) gk H ∧ (gh.1 h0 52 ≤ gk.1 h0 52) ∧ (gk.1 h0 54 = 0 → gh.1 h0 52 < gk.1 h0 52))) ([.ref h0] : List Value).toArray s 0 0 (zA z)) (F0 m 70 ls [.ref h0]) := by
          intro ls H locs gk ex70_0 ex70_1 ex70_2 hg1 hT hS hl
          refine r_iconst hx hb dX7_readLine_70 (by decide) (by decide) (fun x70 e70 => ?_)
          refine lv_goto (tgt := 75) hx hb dX7_readLine_71 (by decide) ?_
          exact J75 ls _ _ x70 _ (by omega) (by omega) (by omega) (by omega) hg1 hT hS (lv_sub hl [0, 1] rfl)
        refine r_icmp_eq (tgt := 70) hx hb dX7_readLine_59 (by decide) (fun c59 => ?_) (fun c59 => ?_)
        · exact J70 ls _ _ _ (by omega) (by omega) (by omega) hg1 hT hS (lv_sub hl [0, 1] rfl)
        · refine lv_aload_n hx hb dX7_readLine_62 rfl (lv_at hl 0 rfl) ?_
          refine gt_Model_dMen hx hb hts ic_Model hown hK hT g0 (hts _ mw_4_75) dX7_readLine_63 (fun x63 i63 e63 g63 => ?_)
          refine r_iconst hx hb dX7_readLine_66 (by decide) (by decide) (fun x66 e66 => ?_)
          refine r_icmp_ge (tgt := 74) hx hb dX7_readLine_67 (by decide) (fun c67 => ?_) (fun c67 => ?_)
          · refine r_iconst hx hb dX7_readLine_74 (by decide) (by decide) (fun x74 e74 => ?_)
            exact J75 ls _ _ x74 _ (by omega) (by omega) (by omega) (by omega) hg1 hT hS (lv_sub hl [0, 1] rfl)
          · exact J70 ls _ _ _ (by omega) (by omega) (by omega) hg1 hT hS (lv_sub hl [0, 1] rfl)
      · refine lv_aload_n hx hb dX7_readLine_40 rfl (lv_at hl 0 rfl) ?_
        refine gt_Model_dKin hx hb hts ic_Model hown hK hT g0 (hts _ mw_4_76) dX7_readLine_41 (fun x41 => ?_)
        refine r_bipush hx hb dX7_readLine_44 rfl (fun x44 e44 => ?_)
        refine r_icmp_ge (tgt := 53) hx hb dX7_readLine_46 (by decide) (fun c46 => ?_) (fun c46 => ?_)
        · refine r_iconst hx hb dX7_readLine_53 (by decide) (by decide) (fun x53 e53 => ?_)
          refine lv_goto (tgt := 75) hx hb dX7_readLine_54 (by decide) ?_
          exact J75 ls _ _ x53 _ (by omega) (by omega) (by omega) (by omega) hg1 hT hS (lv_sub hl [0, 1] rfl)
        · refine r_iconst hx hb dX7_readLine_49 (by decide) (by decide) (fun x49 e49 => ?_)
          refine lv_goto (tgt := 75) hx hb dX7_readLine_50 (by decide) ?_
          exact J75 ls _ _ x49 _ (by omega) (by omega) (by omega) (by omega) hg1 hT hS (lv_sub hl [0, 1] rfl)
    refine r_icmp_eq (tgt := 29) hx hb dX7_readLine_22 (by decide) (fun c22 => ?_) (fun c22 => ?_)
    · refine r_iconst hx hb dX7_readLine_29 (by decide) (by decide) (fun x29 e29 => ?_)
      exact J30 ls _ _ x29 _ (by omega) (by omega) (by omega) hg1 hT hS (lv_sub hl [1, 0] rfl)
    · refine r_iconst hx hb dX7_readLine_25 (by decide) (by decide) (fun x25 e25 => ?_)
      refine lv_goto (tgt := 30) hx hb dX7_readLine_26 (by decide) ?_
      exact J30 ls _ _ x25 _ (by omega) (by omega) (by omega) hg1 hT hS (lv_sub hl [1, 0] rfl)
  refine r_icmp_ne (tgt := 15) hx hb dX7_readLine_5 (by decide) (fun c5 => ?_) (fun c5 => ?_)
  · refine r_bipush hx hb dX7_readLine_15 rfl (fun x15 e15 => ?_)
    exact J17 ls _ _ x15 _ (by omega) (by omega) (by omega) hg1 hT hS (lv_sub hl [0] rfl)
  · refine lv_aload_n hx hb dX7_readLine_8 rfl (lv_at hl 0 rfl) ?_
    refine cl_Vi (rest := []) hC hK hSK (c_X7_lineNow l z gh h0 (o0) g0 pr0) k_X7_lineNow mw_4_185 ⟨rfl, rfl, Nat.le_of_ble_eq_true rfl, Nat.le_of_ble_eq_true rfl⟩ (rv_Model hK hT g0) hT rfl hl.1 rfl (Nat.le_of_ble_eq_true rfl) dX7_readLine_9 ⟨Nat.zero_le _, Nat.zero_le _⟩ hS (fun _ h => h) (fun _ _ h => h) (fun r9 H locs hpo hS => ?_)
    obtain ⟨hT, u9_0, u9_1⟩ := hpo
    refine lv_goto (tgt := 17) hx hb dX7_readLine_12 (by decide) ?_
    exact J17 ls _ _ r9 _ (by omega) (by omega) (by omega) hg1 hT hS (lv_sub hl [0] rfl)
theorem k_X7_firstDraft : cBV yX7_firstDraft cX7_firstDraft 2 none 0 := ⟨mw_4_64, ms_1_12, mw_1_8, mw_4_65, ⟨by decide, by decide, by decide⟩⟩
set_option maxHeartbeats 4000000 in
set_option maxRecDepth 100000 in
theorem c_X7_firstDraft (l : Launch) (z : Zt) (gh : Gh) (h0 o0 : Nat) (g0 : zG z h0 = (17, o0)) : Met l yX7_firstDraft (uw yX7_firstDraft cX7_firstDraft 2 none) (rmF 1 64) (PcW z [.ref h0] (fun H => TY z (zA z) gh H)) (QcV z (fun H => ∃ gk : Gh, eqv gk gh ∧ TY z (zA z) gk H ∧ (gk.1 h0 55 = 0) ∧ (gk.1 h0 52 = gh.1 h0 52) ∧ (gk.1 h0 53 = gh.1 h0 53) ∧ (gk.1 h0 54 = gh.1 h0 54))) 0 0 (zA z) := by
  refine Met.ofW (cc := cX7_firstDraft) (maxL := 2) (ret := none) (by decide) rfl ?_
  intro p e s m args below meth c s₁ B hml hv
  obtain ⟨rfl, hW, hK, hSK⟩ := hv
  have hx := B.exec
  have hb := B.bytes
  have hr := B.returns
  have hts : ∀ w ∈ lw_ok, w.before ([.ref h0] : List Value).toArray s = true := fun w hw => atoms_spec (ws := uw yX7_firstDraft cX7_firstDraft 2 none) B.pre w (List.mem_cons_of_mem _ hw)
  have hown : s.vm.findClass RX7 = some m.cls := findClass_of_methodNamed B.named
  have hlk := B.notSynchronized
  have hC : CallFix p m c cX7_firstDraft 2 s ([.ref h0] : List Value).toArray lw_ok RX7 := ⟨hx, hb, hml, hown, hts⟩
  have hS : va_S (zA z) s.heap s.heap [] := va_S.rf
  have hl := lv_entry ([.ref h0]) (n := 2) (Nat.le_of_ble_eq_true rfl)
  rw [lg_entry_eq]
  generalize (lg_sl ([.ref h0]) ++ List.replicate (2 - (lg_sl ([.ref h0])).length) Slot.unset).toArray = ls at hl ⊢
  have hl : lv_has ls 2 [(0, .ref h0)] := hl
  show W p l e (rmF 1 64) s m ([.ref h0] : List Value).toArray below meth c s.heap [] 0 0 (MQ below (QcV z (fun H => ∃ gk : Gh, eqv gk gh ∧ TY z (zA z) gk H ∧ (gk.1 h0 55 = 0) ∧ (gk.1 h0 52 = gh.1 h0 52) ∧ (gk.1 h0 53 = gh.1 h0 53) ∧ (gk.1 h0 54 = gh.1 h0 54))) ([.ref h0] : List Value).toArray s 0 0 (zA z)) (F0 m 0 ls [])
  have hT : TY z (zA z) gh s.heap := hW
  have hg1 : eqv gh gh := eqv_rf gh
  refine r_iconst hx hb dX7_firstDraft_0 (by decide) (by decide) (fun x0 e0 => ?_)
  refine lv_istore_n (lv' := [(1, .int x0), (0, .ref h0)]) hx hb dX7_firstDraft_1 rfl hl (by decide) rfl (fun ls hl => ?_)
  have J2 : ∀ (n2 : Nat) (ls : Array Slot) (H : Heap) (locs : List Loc) (y2_1 : Int32) (gk : Gh), (0 ≤ y2_1.toInt ∧ y2_1.toInt ≤ 59) → (gk.1 h0 52 = gh.1 h0 52) → (gk.1 h0 53 = gh.1 h0 53) → (gk.1 h0 54 = gh.1 h0 54) → (59 - y2_1.toInt) < (n2 : Int) → eqv gk gh → TY z (zA z) gk H → va_S (zA z) s.heap H locs → lv_has ls 2 [(0, .ref h0), (1, .int y2_1)] → W p l e (rmF 1 64) s m ([.ref h0] : List Value).toArray below meth c H locs 0 0 (MQ below (QcV z (fun H => ∃ gk : Gh, eqv gk gh ∧ TY z (zA z) gk H ∧ (gk.1 h0 55 = 0) ∧ (gk.1 h0 52 = gh.1 h0 52) ∧ (gk.1 h0 53 = gh.1 h0 53) ∧ (gk.1 h0 54 = gh.1 h0 54))) ([.ref h0] : List Value).toArray s 0 0 (zA z)) (F0 m 2 ls []) := by
    intro n2
    induction n2 with
    | zero => intro ls H locs y2_1 gk j2_y2_1 ex2_0 ex2_1 ex2_2 mm2 hg1 hT hS hl; exfalso; omega
    | succ n2 ih2 =>
      intro ls H locs y2_1 gk j2_y2_1 ex2_0 ex2_1 ex2_2 mm2 hg1 hT hS hl
      refine lv_iload_n hx hb dX7_firstDraft_2 rfl (lv_at hl 1 rfl) ?_
      refine r_bipush hx hb dX7_firstDraft_3 rfl (fun x3 e3 => ?_)
      refine r_icmp_ge (tgt := 21) hx hb dX7_firstDraft_5 (by decide) (fun c5 => ?_) (fun c5 => ?_)
      · refine r_iconst hx hb dX7_firstDraft_21 (by decide) (by decide) (fun x21 e21 => ?_)
        refine lv_istore_n (lv' := [(1, .int x21), (0, .ref h0)]) hx hb dX7_firstDraft_22 rfl hl (by decide) rfl (fun ls hl => ?_)
        have J23 : ∀ (n23 : Nat) (ls : Array Slot) (H : Heap) (locs : List Loc) (y23_1 : Int32) (gk : Gh), (0 ≤ y23_1.toInt ∧ y23_1.toInt ≤ 5) → (gk.1 h0 52 = gh.1 h0 52) → (gk.1 h0 53 = gh.1 h0 53) → (gk.1 h0 54 = gh.1 h0 54) → (5 - y23_1.toInt) < (n23 : Int) → eqv gk gh → TY z (zA z) gk H → va_S (zA z) s.heap H locs → lv_has ls 2 [(0, .ref h0), (1, .int y23_1)] → W p l e (rmF 1 64) s m ([.ref h0] : List Value).toArray below meth c H locs 0 0 (MQ below (QcV z (fun H => ∃ gk : Gh, eqv gk gh ∧ TY z (zA z) gk H ∧ (gk.1 h0 55 = 0) ∧ (gk.1 h0 52 = gh.1 h0 52) ∧ (gk.1 h0 53 = gh.1 h0 53) ∧ (gk.1 h0 54 = gh.1 h0 54))) ([.ref h0] : List Value).toArray s 0 0 (zA z)) (F0 m 23 ls []) := by
          intro n23
          induction n23 with
          | zero => intro ls H locs y23_1 gk j23_y23_1 ex23_0 ex23_1 ex23_2 mm23 hg1 hT hS hl; exfalso; omega
          | succ n23 ih23 =>
            intro ls H locs y23_1 gk j23_y23_1 ex23_0 ex23_1 ex23_2 mm23 hg1 hT hS hl
            refine lv_iload_n hx hb dX7_firstDraft_23 rfl (lv_at hl 1 rfl) ?_
            refine r_iconst hx hb dX7_firstDraft_24 (by decide) (by decide) (fun x24 e24 => ?_)
            refine r_icmp_ge (tgt := 44) hx hb dX7_firstDraft_25 (by decide) (fun c25 => ?_) (fun c25 => ?_)
            · refine lv_aload_n hx hb dX7_firstDraft_44 rfl (lv_at hl 0 rfl) ?_
              refine r_iconst hx hb dX7_firstDraft_45 (by decide) (by decide) (fun x45 e45 => ?_)
              refine pt_Model_dMen hx hb hts ic_Model hown hK hT hS g0 (hts _ mw_4_75) (by omega) (by omega) dX7_firstDraft_46 (fun H locs hT hS => ?_)
              obtain ⟨gk46, w46, hq46, y46, hg1, hT⟩ : ∃ g : Gh, g.1 h0 55 = x45.toInt ∧ (∀ b k, k ≠ 55 → g.1 b k = gk.1 b k) ∧ g.2 = gk.2 ∧ eqv g gh ∧ TY z (zA z) g H := ⟨_, gs_at _ _ _ _, fun b k hk => gs_nk _ _ _ _ hk, rfl, eqv_gs rfl hg1, hT⟩
              have t46_40 := hq46 h0 40 (by decide)
              have t46_52 := hq46 h0 52 (by decide)
              have t46_53 := hq46 h0 53 (by decide)
              have t46_54 := hq46 h0 54 (by decide)
              have t46_56 := hq46 h0 56 (by decide)
              refine lv_aload_n hx hb dX7_firstDraft_49 rfl (lv_at hl 0 rfl) ?_
              refine r_iconst hx hb dX7_firstDraft_50 (by decide) (by decide) (fun x50 e50 => ?_)
              refine pt_Model_dKin hx hb hts ic_Model hown hK hT hS g0 (hts _ mw_4_76) dX7_firstDraft_51 (fun H locs hT hS => ?_)
              refine lv_aload_n hx hb dX7_firstDraft_54 rfl (lv_at hl 0 rfl) ?_
              refine r_iconst hx hb dX7_firstDraft_55 (by decide) (by decide) (fun x55 e55 => ?_)
              refine pt_Model_hasProgram hx hb hts ic_Model hown hK hT hS g0 (hts _ mw_4_77) (by omega) (by omega) dX7_firstDraft_56 (fun H locs hT hS => ?_)
              refine lv_aload_n hx hb dX7_firstDraft_59 rfl (lv_at hl 0 rfl) ?_
              refine r_bipush hx hb dX7_firstDraft_60 rfl (fun x60 e60 => ?_)
              refine pt_Model_highest hx hb hts ic_Model hown hK hT hS g0 (hts _ mw_4_78) dX7_firstDraft_62 (fun H locs hT hS => ?_)
              exact rt_v hx hb hr hlk hS ⟨_, hg1, hT, by omega, by omega, by omega, by omega⟩ dX7_firstDraft_65
            · refine lv_aload_n hx hb dX7_firstDraft_28 rfl (lv_at hl 0 rfl) ?_
              refine gt_Model_draft hx hb hts ic_Model hown hK hT g0 (hts _ mw_4_74) dX7_firstDraft_29 (fun q29 hq29 => ?_)
              refine r_bipush hx hb dX7_firstDraft_32 rfl (fun x32 e32 => ?_)
              refine lv_iload_n hx hb dX7_firstDraft_34 rfl (lv_at hl 1 rfl) ?_
              refine r_iadd hx hb dX7_firstDraft_35 (by omega) (by omega) (fun x35 e35 => ?_)
              refine lv_iload_n hx hb dX7_firstDraft_36 rfl (lv_at hl 1 rfl) ?_
              refine as_43 hx hb hK hT hS hq29 (by omega) (by omega) (by have n0 := ix_nat (i := x35) (by omega); exact d59_m20 (by omega) (by omega) ⟨by omega, by omega⟩) dX7_firstDraft_37 (fun H locs hT hS => ?_)
              obtain ⟨gk37, w37, hq37, hg1, hT⟩ : ∃ g : Gh, g.2 = (gc gk q29 (upd (gk.2 q29) x35.toNatClampNeg y23_1)).2 ∧ g.1 = gk.1 ∧ eqv g gh ∧ TY z (zA z) g H := ⟨_, rfl, rfl, eqv_gc hg1, hT⟩
              have t37_40 := congrFun (congrFun hq37 h0) 40
              have t37_52 := congrFun (congrFun hq37 h0) 52
              have t37_53 := congrFun (congrFun hq37 h0) 53
              have t37_54 := congrFun (congrFun hq37 h0) 54
              have t37_55 := congrFun (congrFun hq37 h0) 55
              have t37_56 := congrFun (congrFun hq37 h0) 56
              refine r_iinc (lv' := fun v__ => [(1, .int v__), (0, .ref h0)]) hx hb dX7_firstDraft_38 hl (k := 1) rfl (by decide) (fun _ => rfl) ⟨by decide, by decide⟩ (by omega) (by omega) (fun x38 ls e38 hl => ?_)
              refine lv_goto (tgt := 23) hx hb dX7_firstDraft_41 (by decide) ?_
              exact ih23 ls _ _ x38 _ (by omega) (by omega) (by omega) (by omega) (by omega) hg1 hT hS (lv_sub hl [1, 0] rfl)
        exact J23 (((5 - x21.toInt)).toNat + 1) ls _ _ x21 _ (by omega) (by omega) (by omega) (by omega) (by omega) hg1 hT hS (lv_sub hl [1, 0] rfl)
      · refine lv_aload_n hx hb dX7_firstDraft_8 rfl (lv_at hl 0 rfl) ?_
        refine gt_Model_draft hx hb hts ic_Model hown hK hT g0 (hts _ mw_4_74) dX7_firstDraft_9 (fun q9 hq9 => ?_)
        refine lv_iload_n hx hb dX7_firstDraft_12 rfl (lv_at hl 1 rfl) ?_
        refine r_iconst hx hb dX7_firstDraft_13 (by decide) (by decide) (fun x13 e13 => ?_)
        refine as_43 hx hb hK hT hS hq9 (by omega) (by omega) (d59_m0 (by omega)) dX7_firstDraft_14 (fun H locs hT hS => ?_)
        obtain ⟨gk14, w14, hq14, hg1, hT⟩ : ∃ g : Gh, g.2 = (gc gk q9 (upd (gk.2 q9) y2_1.toNatClampNeg x13)).2 ∧ g.1 = gk.1 ∧ eqv g gh ∧ TY z (zA z) g H := ⟨_, rfl, rfl, eqv_gc hg1, hT⟩
        have t14_40 := congrFun (congrFun hq14 h0) 40
        have t14_52 := congrFun (congrFun hq14 h0) 52
        have t14_53 := congrFun (congrFun hq14 h0) 53
        have t14_54 := congrFun (congrFun hq14 h0) 54
        have t14_55 := congrFun (congrFun hq14 h0) 55
        have t14_56 := congrFun (congrFun hq14 h0) 56
        refine r_iinc (lv' := fun v__ => [(1, .int v__), (0, .ref h0)]) hx hb dX7_firstDraft_15 hl (k := 1) rfl (by decide) (fun _ => rfl) ⟨by decide, by decide⟩ (by omega) (by omega) (fun x15 ls e15 hl => ?_)
        refine lv_goto (tgt := 2) hx hb dX7_firstDraft_18 (by decide) ?_
        exact ih2 ls _ _ x15 _ (by omega) (by omega) (by omega) (by omega) (by omega) hg1 hT hS (lv_sub hl [1, 0] rfl)
  exact J2 (((59 - x0.toInt)).toNat + 1) ls _ _ x0 _ (by omega) (by omega) (by omega) (by omega) (by omega) hg1 hT hS (lv_sub hl [1, 0] rfl)
