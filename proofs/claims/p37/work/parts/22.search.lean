theorem k_X2_take : cBV yX2_take cX2_take 2 none 0 := ⟨mw_3_156, ms_1_7, mw_1_6, mw_3_157, ⟨by decide, by decide, by decide⟩⟩
set_option maxHeartbeats 4000000 in
set_option maxRecDepth 100000 in
theorem c_X2_take (l : Launch) (z : Zt) (σ : Sg) (h0 : Nat) (g0 : zG z h0 = (12, 0)) (out : Sg) (hF : D_X2_take σ = some out) : Met l yX2_take (uw yX2_take cX2_take 2 none) (rmF 2 86) (PcW z [.ref h0] (fun H => TY z (zA z) σ H)) (QcV z (fun H => ∃ σ' : Sg, some (σ') = some out ∧ TY z (zA z) σ' H)) 0 0 (zA z) := by
  refine Met.ofW (cc := cX2_take) (maxL := 2) (ret := none) (by decide) rfl ?_
  intro p e s m args below meth c s₁ B hml hv
  obtain ⟨rfl, hT, hK, hSK⟩ := hv
  have hx := B.exec
  have hb := B.bytes
  have hr := B.returns
  have hts : ∀ w ∈ lw_ok, w.before ([.ref h0] : List Value).toArray s = true := fun w hw => atoms_spec (ws := uw yX2_take cX2_take 2 none) B.pre w (List.mem_cons_of_mem _ hw)
  have hown : s.vm.findClass RX2 = some m.cls := findClass_of_methodNamed B.named
  have hlk := B.notSynchronized
  have hC : CallFix p m c cX2_take 2 s ([.ref h0] : List Value).toArray lw_ok RX2 := ⟨hx, hb, hml, hown, hts⟩
  have hS : va_S (zA z) s.heap s.heap [] := va_S.rf
  have hl := lv_entry ([.ref h0]) (n := 2) (Nat.le_of_ble_eq_true rfl)
  rw [lg_entry_eq]
  generalize (lg_sl ([.ref h0]) ++ List.replicate (2 - (lg_sl ([.ref h0])).length) Slot.unset).toArray = ls at hl ⊢
  have hl : lv_has ls 2 [(0, .ref h0)] := hl
  show W p l e (rmF 2 86) s m ([.ref h0] : List Value).toArray below meth c s.heap [] 0 0 (MQ below (QcV z (fun H => ∃ σ' : Sg, some (σ') = some out ∧ TY z (zA z) σ' H)) ([.ref h0] : List Value).toArray s 0 0 (zA z)) (F0 m 0 ls [])
  unfold D_X2_take at hF
  refine lv_aload_n hx hb dX2_take_0 rfl (lv_at hl 0 rfl) ?_
  refine gt_Search_behind hx hb hts ic_Search hown hK hT g0 (hts _ mw_1_198) dX2_take_1 (fun q1 hq1 => ?_)
  refine lv_aload_n hx hb dX2_take_4 rfl (lv_at hl 0 rfl) ?_
  refine gt_Search_length hx hb hts ic_Search hown hK hT g0 (hts _ mw_1_205) dX2_take_5 (fun x5 e5 f5 g5 => ?_)
  have hF := bn hF e5
  refine al_35 hx hb hK hT hq1 (by omega) (by omega) dX2_take_8 (fun q8 hq8 => ?_)
  obtain ⟨v9, hd9, -⟩ := bd0_s hF
  refine cl_Vi (rest := []) hC hK hSK (c_X1_roundBits l z σ q8 (6 + x5.toInt.toNat) hq8 v9 hd9) k_X1_roundBits mw_3_158 ⟨rfl, rfl, Nat.le_of_ble_eq_true rfl, Nat.le_of_ble_eq_true rfl⟩ (rv_Floor hK hT hq8) hT rfl hl.1 rfl (Nat.le_of_ble_eq_true rfl) dX2_take_9 ⟨Nat.zero_le _, Nat.zero_le _⟩ hS (fun _ h => h) (fun _ _ h => h) (fun r9 H locs hpo hS => ?_)
  obtain ⟨he9, hT⟩ := hpo
  have hF := bd0_r hF hd9 he9
  obtain ⟨v12, hd12, -⟩ := bd0_s hF
  refine cl_Si (rest := []) hC hK hSK (c_bitCount l z σ r9 v12 hd12) k_J6_bitCount_0f7a4 mw_3_159 ⟨rfl, rfl, Nat.le_of_ble_eq_true rfl, Nat.le_of_ble_eq_true rfl⟩ hT rfl hl.1 rfl (Nat.le_of_ble_eq_true rfl) dX2_take_12 ⟨Nat.zero_le _, Nat.zero_le _⟩ hS (fun _ h => h) (fun _ _ h => h) (fun r12 H locs hpo hS => ?_)
  obtain ⟨he12, hT, u12_0⟩ := hpo
  have hF := bd0_r hF hd12 he12
  refine lv_istore_n (lv' := [(1, .int r12), (0, .ref h0)]) hx hb dX2_take_15 rfl hl (by decide) rfl (fun ls hl => ?_)
  refine lv_aload_n hx hb dX2_take_16 rfl (lv_at hl 1 rfl) ?_
  refine gt_Search_found hx hb hts ic_Search hown hK hT g0 (hts _ mw_1_206) dX2_take_17 (fun x17 e17 f17 g17 => ?_)
  have hF := bn hF e17
  have J40 : ∀ (ls : Array Slot) (H : Heap) (locs : List Loc) (σj40 : Sg), D_X2_take_40 r12.toInt σj40 = some out → TY z (zA z) σj40 H → va_S (zA z) s.heap H locs → lv_has ls 2 [(0, .ref h0), (1, .int r12)] → W p l e (rmF 2 86) s m ([.ref h0] : List Value).toArray below meth c H locs 0 0 (MQ below (QcV z (fun H => ∃ σ' : Sg, some (σ') = some out ∧ TY z (zA z) σ' H)) ([.ref h0] : List Value).toArray s 0 0 (zA z)) (F0 m 40 ls []) := by
    intro ls H locs σj40 hF hT hS hl
    unfold D_X2_take_40 at hF
    refine lv_iload_n hx hb dX2_take_40 rfl (lv_at hl 1 rfl) ?_
    refine lv_aload_n hx hb dX2_take_41 rfl (lv_at hl 0 rfl) ?_
    refine gt_Search_most hx hb hts ic_Search hown hK hT g0 (hts _ mw_1_208) dX2_take_42 (fun x42 e42 f42 g42 => ?_)
    have hF := bn hF e42
    have J70 : ∀ (ls : Array Slot) (H : Heap) (locs : List Loc) (σj70 : Sg), D_X2_take_70 σj70 = some out → TY z (zA z) σj70 H → va_S (zA z) s.heap H locs → lv_has ls 2 [(0, .ref h0), (1, .int r12)] → W p l e (rmF 2 86) s m ([.ref h0] : List Value).toArray below meth c H locs 0 0 (MQ below (QcV z (fun H => ∃ σ' : Sg, some (σ') = some out ∧ TY z (zA z) σ' H)) ([.ref h0] : List Value).toArray s 0 0 (zA z)) (F0 m 70 ls []) := by
      intro ls H locs σj70 hF hT hS hl
      unfold D_X2_take_70 at hF
      refine lv_aload_n hx hb dX2_take_70 rfl (lv_at hl 0 rfl) ?_
      refine lv_dup hx hb dX2_take_71 rfl ?_
      refine gt_Search_found hx hb hts ic_Search hown hK hT g0 (hts _ mw_1_206) dX2_take_72 (fun x72 e72 f72 g72 => ?_)
      have hF := bn hF e72
      refine r_iconst hx hb dX2_take_75 (by decide) (by decide) (fun x75 e75 => ?_)
      have hF := bn hF e75
      refine x_iadd hx hb dX2_take_76 (fun x76 e76 => ?_)
      have hF := bn hF e76
      have mx77 := i_mx x76
      refine pt_Search_found hx hb hts ic_Search hown hK hT hS g0 (hts _ mw_1_206) (by omega) (by omega) dX2_take_77 (fun H locs hT hS => ?_)
      obtain ⟨σ77, hF, hT⟩ := wrG hF hT
      exact rt_v hx hb hr hlk hS ⟨σ77, hF, hT⟩ dX2_take_80
    refine r_icmp_le (tgt := 70) hx hb dX2_take_45 (by decide) (fun c45 => ?_) (fun c45 => ?_)
    · have hF := ifn hF (Int.not_lt.mpr c45)
      exact J70 ls _ _ σj40 hF hT hS (lv_sub hl [0, 1] rfl)
    · have hF := ifp hF c45
      refine lv_aload_n hx hb dX2_take_48 rfl (lv_at hl 0 rfl) ?_
      refine lv_iload_n hx hb dX2_take_49 rfl (lv_at hl 1 rfl) ?_
      have mx50 := i_mx r12
      refine pt_Search_most hx hb hts ic_Search hown hK hT hS g0 (hts _ mw_1_208) (by omega) (by omega) dX2_take_50 (fun H locs hT hS => ?_)
      obtain ⟨σ50, hF, hT⟩ := wrG hF hT
      refine lv_aload_n hx hb dX2_take_53 rfl (lv_at hl 0 rfl) ?_
      refine gt_Search_row hx hb hts ic_Search hown hK hT g0 (hts _ mw_1_199) dX2_take_54 (fun q54 hq54 => ?_)
      refine r_iconst hx hb dX2_take_57 (by decide) (by decide) (fun x57 e57 => ?_)
      have hF := bn hF e57
      refine lv_aload_n hx hb dX2_take_58 rfl (lv_at hl 0 rfl) ?_
      refine gt_Search_bestRow hx hb hts ic_Search hown hK hT g0 (hts _ mw_1_202) dX2_take_59 (fun q59 hq59 => ?_)
      refine r_iconst hx hb dX2_take_62 (by decide) (by decide) (fun x62 e62 => ?_)
      have hF := bn hF e62
      refine lv_aload_n hx hb dX2_take_63 rfl (lv_at hl 0 rfl) ?_
      refine gt_Search_length hx hb hts ic_Search hown hK hT g0 (hts _ mw_1_205) dX2_take_64 (fun x64 e64 f64 g64 => ?_)
      have hF := bn hF e64
      refine cp_56_58 hx hb (hml.trans hl.1.symm) hts hown mw_3_160 hK hT hS hq54 hq59 (by omega) (by omega) (by omega) (by omega) (by omega) (Nat.le_of_ble_eq_true rfl) (Nat.le_of_ble_eq_true rfl) dX2_take_67 (fun H locs hT hS => ?_)
      obtain ⟨σ67, hF, hT⟩ := wrG hF hT
      exact J70 ls _ _ σ67 hF hT hS (lv_sub hl [0, 1] rfl)
  refine r_if_ne (tgt := 40) hx hb dX2_take_20 (by decide) (fun c20 => ?_) (fun c20 => ?_)
  · have hF := ifn hF c20
    exact J40 ls _ _ σ hF hT hS (lv_sub hl [1, 0] rfl)
  · have hF := ifp hF c20
    refine lv_aload_n hx hb dX2_take_23 rfl (lv_at hl 1 rfl) ?_
    refine gt_Search_row hx hb hts ic_Search hown hK hT g0 (hts _ mw_1_199) dX2_take_24 (fun q24 hq24 => ?_)
    refine r_iconst hx hb dX2_take_27 (by decide) (by decide) (fun x27 e27 => ?_)
    have hF := bn hF e27
    refine lv_aload_n hx hb dX2_take_28 rfl (lv_at hl 1 rfl) ?_
    refine gt_Search_firstRow hx hb hts ic_Search hown hK hT g0 (hts _ mw_1_200) dX2_take_29 (fun q29 hq29 => ?_)
    refine r_iconst hx hb dX2_take_32 (by decide) (by decide) (fun x32 e32 => ?_)
    have hF := bn hF e32
    refine lv_aload_n hx hb dX2_take_33 rfl (lv_at hl 1 rfl) ?_
    refine gt_Search_length hx hb hts ic_Search hown hK hT g0 (hts _ mw_1_205) dX2_take_34 (fun x34 e34 f34 g34 => ?_)
    have hF := bn hF e34
    refine cp_56_57 hx hb (hml.trans hl.1.symm) hts hown mw_3_160 hK hT hS hq24 hq29 (by omega) (by omega) (by omega) (by omega) (by omega) (Nat.le_of_ble_eq_true rfl) (Nat.le_of_ble_eq_true rfl) dX2_take_37 (fun H locs hT hS => ?_)
    obtain ⟨σ37, hF, hT⟩ := wrG hF hT
    exact J40 ls _ _ σ37 hF hT hS (lv_sub hl [1, 0] rfl)
theorem k_X2_descend : cBV yX2_descend cX2_descend 7 none 3 := ⟨mw_3_152, ms_1_6, mw_1_6, mw_3_153, ⟨by decide, by decide, by decide⟩⟩
set_option maxHeartbeats 4000000 in
set_option maxRecDepth 100000 in
theorem c_X2_descend (l : Launch) (z : Zt) : ∀ (d : Nat) (σ : Sg) (h0 : Nat) (g0 : zG z h0 = (12, 0)) (ra1 ora1 : Nat) (hra1 : zG z ra1 = (10, ora1)) (p2 : Int32) (p3 : Int32) (out : Sg) (hF : D_X2_descend ora1 d σ p2.toInt p3.toInt = some out) (bp2 : 0 ≤ p2.toInt ∧ p2.toInt ≤ 5), Met l yX2_descend (uw yX2_descend cX2_descend 7 none) (rmF (4 + d) (130 + 26 * d)) (PcW z [.ref h0, .ref ra1, .int p2, .int p3] (fun H => TY z (zA z) σ H)) (QcV z (fun H => ∃ σ' : Sg, some (σ') = some out ∧ TY z (zA z) σ' H)) 0 0 (zA z) := by
  intro d
  induction d with
  | zero => intro σ h0 g0 ra1 ora1 hra1 p2 p3 out hF bp2; exact (no_s hF).elim
  | succ dd ihd =>
  intro σ h0 g0 ra1 ora1 hra1 p2 p3 out hF bp2
  rw [D_X2_descend.eq_2] at hF
  refine Met.ofW (cc := cX2_descend) (maxL := 7) (ret := none) (by decide) rfl ?_
  intro p e s m args below meth c s₁ B hml hv
  obtain ⟨rfl, hT, hK, hSK⟩ := hv
  have hx := B.exec
  have hb := B.bytes
  have hr := B.returns
  have hts : ∀ w ∈ lw_ok, w.before ([.ref h0, .ref ra1, .int p2, .int p3] : List Value).toArray s = true := fun w hw => atoms_spec (ws := uw yX2_descend cX2_descend 7 none) B.pre w (List.mem_cons_of_mem _ hw)
  have hown : s.vm.findClass RX2 = some m.cls := findClass_of_methodNamed B.named
  have hlk := B.notSynchronized
  have hC : CallFix p m c cX2_descend 7 s ([.ref h0, .ref ra1, .int p2, .int p3] : List Value).toArray lw_ok RX2 := ⟨hx, hb, hml, hown, hts⟩
  have hS : va_S (zA z) s.heap s.heap [] := va_S.rf
  have hl := lv_entry ([.ref h0, .ref ra1, .int p2, .int p3]) (n := 7) (Nat.le_of_ble_eq_true rfl)
  rw [lg_entry_eq]
  generalize (lg_sl ([.ref h0, .ref ra1, .int p2, .int p3]) ++ List.replicate (7 - (lg_sl ([.ref h0, .ref ra1, .int p2, .int p3])).length) Slot.unset).toArray = ls at hl ⊢
  have hl : lv_has ls 7 [(0, .ref h0), (1, .ref ra1), (2, .int p2), (3, .int p3)] := hl
  show W p l e (rmF (4 + (dd + 1)) (130 + 26 * (dd + 1))) s m ([.ref h0, .ref ra1, .int p2, .int p3] : List Value).toArray below meth c s.heap [] 0 0 (MQ below (QcV z (fun H => ∃ σ' : Sg, some (σ') = some out ∧ TY z (zA z) σ' H)) ([.ref h0, .ref ra1, .int p2, .int p3] : List Value).toArray s 0 0 (zA z)) (F0 m 0 ls [])
  have mx_p3 := i_mx p3
  refine lv_iload_n hx hb dX2_descend_0 rfl (lv_at hl 2 rfl) ?_
  refine lv_aload_n hx hb dX2_descend_1 rfl (lv_at hl 0 rfl) ?_
  refine gt_Search_length hx hb hts ic_Search hown hK hT g0 (hts _ mw_1_205) dX2_descend_2 (fun x2 e2 f2 g2 => ?_)
  have hF := bn hF e2
  refine r_icmp_lt (tgt := 13) hx hb dX2_descend_5 (by decide) (fun c5 => ?_) (fun c5 => ?_)
  · have hF := ifp hF c5
    refine lv_aload_n hx hb dX2_descend_13 rfl (lv_at hl 0 rfl) ?_
    refine gt_Search_byPlaces hx hb hts ic_Search hown hK hT g0 (hts _ mw_1_204) dX2_descend_14 (fun x14 e14 f14 g14 => ?_)
    have hF := bn hF e14
    have J28 : ∀ (ls : Array Slot) (H : Heap) (locs : List Loc) (t28_0 : Int32) (σj28 : Sg), (0 ≤ t28_0.toInt ∧ t28_0.toInt ≤ 5) → D_X2_descend_28 ora1 p2.toInt p3.toInt (D_X2_descend ora1 dd) σj28 t28_0.toInt = some out → TY z (zA z) σj28 H → va_S (zA z) s.heap H locs → lv_has ls 7 [(0, .ref h0), (1, .ref ra1), (2, .int p2), (3, .int p3)] → W p l e (rmF (4 + (dd + 1)) (130 + 26 * (dd + 1))) s m ([.ref h0, .ref ra1, .int p2, .int p3] : List Value).toArray below meth c H locs 0 0 (MQ below (QcV z (fun H => ∃ σ' : Sg, some (σ') = some out ∧ TY z (zA z) σ' H)) ([.ref h0, .ref ra1, .int p2, .int p3] : List Value).toArray s 0 0 (zA z)) (F0 m 28 ls [.int t28_0]) := by
      intro ls H locs t28_0 σj28 j28_t28_0 hF hT hS hl
      unfold D_X2_descend_28 at hF
      refine lv_istore (lv' := [(4, .int t28_0), (0, .ref h0), (1, .ref ra1), (2, .int p2), (3, .int p3)]) hx hb dX2_descend_28 hl (by decide) rfl (fun ls hl => ?_)
      refine lv_aload_n hx hb dX2_descend_30 rfl (lv_at hl 1 rfl) ?_
      refine gt_Search_behind hx hb hts ic_Search hown hK hT g0 (hts _ mw_1_198) dX2_descend_31 (fun q31 hq31 => ?_)
      refine lv_iload_n hx hb dX2_descend_34 rfl (lv_at hl 3 rfl) ?_
      refine r_iconst hx hb dX2_descend_35 (by decide) (by decide) (fun x35 e35 => ?_)
      have hF := bn hF e35
      refine r_iadd hx hb dX2_descend_36 (by omega) (by omega) (fun x36 e36 => ?_)
      have hF := bn hF e36
      refine al_35 hx hb hK hT hq31 (by omega) (by omega) dX2_descend_37 (fun q37 hq37 => ?_)
      refine lv_astore (lv' := [(5, .ref q37), (4, .int t28_0), (0, .ref h0), (1, .ref ra1), (2, .int p2), (3, .int p3)]) hx hb dX2_descend_38 hl (by decide) rfl (fun ls hl => ?_)
      refine r_iconst hx hb dX2_descend_40 (by decide) (by decide) (fun x40 e40 => ?_)
      have hF := bn hF e40
      refine lv_istore (lv' := [(6, .int x40), (5, .ref q37), (4, .int t28_0), (0, .ref h0), (1, .ref ra1), (2, .int p2), (3, .int p3)]) hx hb dX2_descend_41 hl (by decide) rfl (fun ls hl => ?_)
      have J43 : ∀ (n43 : Nat) (ls : Array Slot) (H : Heap) (locs : List Loc) (y43_6 : Int32) (σj43 : Sg), (0 ≤ y43_6.toInt ∧ y43_6.toInt ≤ 5) → D_X2_descend_43 ora1 p2.toInt p3.toInt (D_X2_descend ora1 dd) t28_0.toInt x36.toInt n43 σj43 y43_6.toInt = some out → TY z (zA z) σj43 H → va_S (zA z) s.heap H locs → lv_has ls 7 [(0, .ref h0), (1, .ref ra1), (2, .int p2), (3, .int p3), (4, .int t28_0), (5, .ref q37), (6, .int y43_6)] → W p l e (rmF (4 + (dd + 1)) (130 + 26 * (dd + 1))) s m ([.ref h0, .ref ra1, .int p2, .int p3] : List Value).toArray below meth c H locs 0 0 (MQ below (QcV z (fun H => ∃ σ' : Sg, some (σ') = some out ∧ TY z (zA z) σ' H)) ([.ref h0, .ref ra1, .int p2, .int p3] : List Value).toArray s 0 0 (zA z)) (F0 m 43 ls []) := by
        intro n43
        induction n43 with
        | zero => intro ls H locs y43_6 σj43 j43_y43_6 hF hT hS hl; exact (no_s hF).elim
        | succ n43 ih43 =>
          intro ls H locs y43_6 σj43 j43_y43_6 hF hT hS hl
          rw [D_X2_descend_43.eq_2] at hF
          refine lv_iload hx hb dX2_descend_43 (lv_at hl 6 rfl) ?_
          refine lv_iload hx hb dX2_descend_45 (lv_at hl 4 rfl) ?_
          refine r_icmp_ge (tgt := 142) hx hb dX2_descend_47 (by decide) (fun c47 => ?_) (fun c47 => ?_)
          · have hF := ifn hF (Int.not_lt.mpr c47)
            exact rt_v hx hb hr hlk hS ⟨σj43, hF, hT⟩ dX2_descend_142
          · have hF := ifp hF c47
            refine lv_aload_n hx hb dX2_descend_50 rfl (lv_at hl 0 rfl) ?_
            refine gt_Search_byPlaces hx hb hts ic_Search hown hK hT g0 (hts _ mw_1_204) dX2_descend_51 (fun x51 e51 f51 g51 => ?_)
            have hF := bn hF e51
            have J136 : ∀ (ls : Array Slot) (H : Heap) (locs : List Loc) (σj136 : Sg), D_X2_descend_136 (D_X2_descend_43 ora1 p2.toInt p3.toInt (D_X2_descend ora1 dd) t28_0.toInt x36.toInt n43) y43_6.toInt σj136 = some out → TY z (zA z) σj136 H → va_S (zA z) s.heap H locs → lv_has ls 7 [(0, .ref h0), (1, .ref ra1), (2, .int p2), (3, .int p3), (4, .int t28_0), (5, .ref q37), (6, .int y43_6)] → W p l e (rmF (4 + (dd + 1)) (130 + 26 * (dd + 1))) s m ([.ref h0, .ref ra1, .int p2, .int p3] : List Value).toArray below meth c H locs 0 0 (MQ below (QcV z (fun H => ∃ σ' : Sg, some (σ') = some out ∧ TY z (zA z) σ' H)) ([.ref h0, .ref ra1, .int p2, .int p3] : List Value).toArray s 0 0 (zA z)) (F0 m 136 ls []) := by
              intro ls H locs σj136 hF hT hS hl
              unfold D_X2_descend_136 at hF
              refine r_iinc (lv' := fun v__ => [(6, .int v__), (0, .ref h0), (1, .ref ra1), (2, .int p2), (3, .int p3), (4, .int t28_0), (5, .ref q37)]) hx hb dX2_descend_136 hl (k := 6) rfl (by decide) (fun _ => rfl) ⟨by decide, by decide⟩ (by omega) (by omega) (fun x136 ls e136 hl => ?_)
              have hF := bn hF e136
              refine lv_goto (tgt := 43) hx hb dX2_descend_139 (by decide) ?_
              exact ih43 ls _ _ x136 σj136 (by omega) hF hT hS (lv_sub hl [1, 2, 3, 4, 5, 6, 0] rfl)
            have J70 : ∀ (ls : Array Slot) (H : Heap) (locs : List Loc) (σj70 : Sg), D_X2_descend_70 (D_X2_descend_43 ora1 p2.toInt p3.toInt (D_X2_descend ora1 dd) t28_0.toInt x36.toInt n43) ora1 p2.toInt p3.toInt (D_X2_descend ora1 dd) x36.toInt y43_6.toInt σj70 = some out → TY z (zA z) σj70 H → va_S (zA z) s.heap H locs → lv_has ls 7 [(0, .ref h0), (1, .ref ra1), (2, .int p2), (3, .int p3), (4, .int t28_0), (5, .ref q37), (6, .int y43_6)] → W p l e (rmF (4 + (dd + 1)) (130 + 26 * (dd + 1))) s m ([.ref h0, .ref ra1, .int p2, .int p3] : List Value).toArray below meth c H locs 0 0 (MQ below (QcV z (fun H => ∃ σ' : Sg, some (σ') = some out ∧ TY z (zA z) σ' H)) ([.ref h0, .ref ra1, .int p2, .int p3] : List Value).toArray s 0 0 (zA z)) (F0 m 70 ls []) := by
              intro ls H locs σj70 hF hT hS hl
              unfold D_X2_descend_70 at hF
              refine lv_aload hx hb dX2_descend_70 (lv_at hl 5 rfl) ?_
              refine lv_aload_n hx hb dX2_descend_72 rfl (lv_at hl 0 rfl) ?_
              refine gt_Search_behind hx hb hts ic_Search hown hK hT g0 (hts _ mw_1_198) dX2_descend_73 (fun q73 hq73 => ?_)
              refine lv_iload_n hx hb dX2_descend_76 rfl (lv_at hl 2 rfl) ?_
              refine al_35 hx hb hK hT hq73 (by omega) (by omega) dX2_descend_77 (fun q77 hq77 => ?_)
              obtain ⟨s78, hd78, -⟩ := bd1_s hF
              refine cl_Vv (rest := []) hC hK hSK (c_X1_copyFrom l z σj70 q37 (6 + x36.toInt.toNat) hq37 q77 (6 + p2.toInt.toNat) hq77 s78 hd78) k_X1_copyFrom mw_3_149 ⟨rfl, rfl, (show 1 + 1 ≤ 4 + (dd + 1) by omega), (show 8 + (3 + 11) + 64 ≤ 130 + 26 * (dd + 1) by omega)⟩ (rv_Floor hK hT hq37) hT rfl hl.1 rfl (Nat.le_of_ble_eq_true rfl) dX2_descend_78 ⟨Nat.zero_le _, Nat.zero_le _⟩ hS (fun _ h => h) (fun _ _ h => h) (fun H locs hpo hS => ?_)
              obtain ⟨σ78, he78, hT⟩ := hpo
              have hF := bd1_r hF hd78 he78
              refine lv_aload hx hb dX2_descend_81 (lv_at hl 5 rfl) ?_
              refine lv_aload_n hx hb dX2_descend_83 rfl (lv_at hl 0 rfl) ?_
              refine gt_Search_byPlaces hx hb hts ic_Search hown hK hT g0 (hts _ mw_1_204) dX2_descend_84 (fun x84 e84 f84 g84 => ?_)
              have hF := bn hF e84
              have J102 : ∀ (ls : Array Slot) (H : Heap) (locs : List Loc) (t102_1 : Int32) (σj102 : Sg), D_X2_descend_102 (D_X2_descend_43 ora1 p2.toInt p3.toInt (D_X2_descend ora1 dd) t28_0.toInt x36.toInt n43) ora1 p2.toInt p3.toInt (D_X2_descend ora1 dd) x36.toInt y43_6.toInt σj102 t102_1.toInt = some out → TY z (zA z) σj102 H → va_S (zA z) s.heap H locs → lv_has ls 7 [(0, .ref h0), (1, .ref ra1), (2, .int p2), (3, .int p3), (4, .int t28_0), (5, .ref q37), (6, .int y43_6)] → W p l e (rmF (4 + (dd + 1)) (130 + 26 * (dd + 1))) s m ([.ref h0, .ref ra1, .int p2, .int p3] : List Value).toArray below meth c H locs 0 0 (MQ below (QcV z (fun H => ∃ σ' : Sg, some (σ') = some out ∧ TY z (zA z) σ' H)) ([.ref h0, .ref ra1, .int p2, .int p3] : List Value).toArray s 0 0 (zA z)) (F0 m 102 ls [.int t102_1, .ref q37]) := by
                intro ls H locs t102_1 σj102 hF hT hS hl
                unfold D_X2_descend_102 at hF
                obtain ⟨s102, hd102, -⟩ := bd1_s hF
                refine cl_Vv (rest := []) hC hK hSK (c_X1_step l z σj102 q37 (6 + x36.toInt.toNat) hq37 t102_1 s102 hd102) k_X1_step mw_3_161 ⟨rfl, rfl, (show 3 + 1 ≤ 4 + (dd + 1) by omega), (show 8 + (2 + 11) + 109 ≤ 130 + 26 * (dd + 1) by omega)⟩ (rv_Floor hK hT hq37) hT rfl hl.1 rfl (Nat.le_of_ble_eq_true rfl) dX2_descend_102 ⟨Nat.zero_le _, Nat.zero_le _⟩ hS (fun _ h => h) (fun _ _ h => h) (fun H locs hpo hS => ?_)
                obtain ⟨σ102, he102, hf102, hT⟩ := hpo
                have hF := bd1_r hF hd102 he102
                have hF := gsL hF hf102
                refine lv_aload_n hx hb dX2_descend_105 rfl (lv_at hl 1 rfl) ?_
                refine lv_aload hx hb dX2_descend_106 (lv_at hl 5 rfl) ?_
                obtain ⟨v108, hd108, -⟩ := bd0_s hF
                refine cl_Vi (rest := []) hC hK hSK (c_X0_cousinsMeet l z σ102 ra1 (ora1) hra1 q37 (6 + x36.toInt.toNat) hq37 v108 hd108) k_X0_cousinsMeet mw_3_162 ⟨rfl, rfl, (show 2 + 1 ≤ 4 + (dd + 1) by omega), (show 8 + (3 + 11) + 86 ≤ 130 + 26 * (dd + 1) by omega)⟩ (rv_Evening hK hT hra1) hT rfl hl.1 rfl (Nat.le_of_ble_eq_true rfl) dX2_descend_108 ⟨Nat.zero_le _, Nat.zero_le _⟩ hS (fun _ h => h) (fun _ _ h => h) (fun r108 H locs hpo hS => ?_)
                obtain ⟨he108, hT, u108_0⟩ := hpo
                have hF := bd0_r hF hd108 he108
                refine r_if_ne (tgt := 136) hx hb dX2_descend_111 (by decide) (fun c111 => ?_) (fun c111 => ?_)
                · have hF := ifn hF c111
                  exact J136 ls _ _ σ102 hF hT hS (lv_sub hl [0, 1, 2, 3, 4, 5, 6] rfl)
                · have hF := ifp hF c111
                  refine lv_aload_n hx hb dX2_descend_114 rfl (lv_at hl 0 rfl) ?_
                  refine gt_Search_row hx hb hts ic_Search hown hK hT g0 (hts _ mw_1_199) dX2_descend_115 (fun q115 hq115 => ?_)
                  refine lv_iload_n hx hb dX2_descend_118 rfl (lv_at hl 2 rfl) ?_
                  refine lv_iload hx hb dX2_descend_119 (lv_at hl 6 rfl) ?_
                  refine as_56 hx hb hK hT hS hq115 (by omega) (by omega) dX2_descend_121 (fun H locs hT hS => ?_)
                  obtain ⟨σ121, hF, hT⟩ := wrG hF hT
                  refine lv_aload_n hx hb dX2_descend_122 rfl (lv_at hl 0 rfl) ?_
                  refine lv_aload_n hx hb dX2_descend_123 rfl (lv_at hl 1 rfl) ?_
                  refine lv_iload_n hx hb dX2_descend_124 rfl (lv_at hl 2 rfl) ?_
                  refine r_iconst hx hb dX2_descend_125 (by decide) (by decide) (fun x125 e125 => ?_)
                  have hF := bn hF e125
                  refine r_iadd hx hb dX2_descend_126 (by omega) (by omega) (fun x126 e126 => ?_)
                  have hF := bn hF e126
                  refine lv_iload_n hx hb dX2_descend_127 rfl (lv_at hl 3 rfl) ?_
                  refine r_iconst hx hb dX2_descend_128 (by decide) (by decide) (fun x128 e128 => ?_)
                  have hF := bn hF e128
                  refine lv_iload hx hb dX2_descend_129 (lv_at hl 6 rfl) ?_
                  refine x_shl1 hx hb dX2_descend_131 (by omega) (by omega) (by omega) (fun x131 e131 g131 h131 => ?_)
                  have hF := bn hF e131
                  refine x_ior hx hb dX2_descend_132 (fun x132 e132 => ?_)
                  have hF := bn hF e132
                  obtain ⟨s133, hd133, -⟩ := bd1_s hF
                  refine cl_Vv (rest := []) hC hK hSK (ihd σ121 h0 g0 ra1 (ora1) hra1 x126 x132 s133 hd133 (by omega)) k_X2_descend mw_3_150 ⟨rfl, rfl, (show 4 + dd + 1 ≤ 4 + (dd + 1) by omega), (show 8 + (7 + 11) + (130 + 26 * dd) ≤ 130 + 26 * (dd + 1) by omega)⟩ (rv_Search hK hT g0) hT rfl hl.1 rfl (Nat.le_of_ble_eq_true rfl) dX2_descend_133 ⟨Nat.zero_le _, Nat.zero_le _⟩ hS (fun _ h => h) (fun _ _ h => h) (fun H locs hpo hS => ?_)
                  obtain ⟨σ133, he133, hT⟩ := hpo
                  have hF := bd1_r hF hd133 he133
                  exact J136 ls _ _ σ133 hF hT hS (lv_sub hl [0, 1, 2, 3, 4, 5, 6] rfl)
              refine r_if_eq (tgt := 100) hx hb dX2_descend_87 (by decide) (fun c87 => ?_) (fun c87 => ?_)
              · have hF := ifp hF c87
                refine lv_iload hx hb dX2_descend_100 (lv_at hl 6 rfl) ?_
                exact J102 ls _ _ y43_6 σ78 hF hT hS (lv_sub hl [0, 1, 2, 3, 4, 5, 6] rfl)
              · have hF := ifn hF c87
                refine lv_aload_n hx hb dX2_descend_90 rfl (lv_at hl 1 rfl) ?_
                refine gt_Evening_program hx hb hts ic_Evening hown hK hT hra1 (hts _ mw_1_98) dX2_descend_91 (fun q91 hq91 => ?_)
                refine lv_iload hx hb dX2_descend_94 (lv_at hl 6 rfl) ?_
                refine al_21 hx hb hK hT hq91 (by omega) (by omega) dX2_descend_96 (fun x96 e96 => ?_)
                have hF := bn hF e96
                refine lv_goto (tgt := 102) hx hb dX2_descend_97 (by decide) ?_
                exact J102 ls _ _ x96 σ78 hF hT hS (lv_sub hl [0, 1, 2, 3, 4, 5, 6] rfl)
            refine r_if_eq (tgt := 70) hx hb dX2_descend_54 (by decide) (fun c54 => ?_) (fun c54 => ?_)
            · have hF := ifp hF c54
              exact J70 ls _ _ σj43 hF hT hS (lv_sub hl [0, 1, 2, 3, 4, 5, 6] rfl)
            · have hF := ifn hF c54
              refine lv_iload_n hx hb dX2_descend_57 rfl (lv_at hl 3 rfl) ?_
              refine lv_iload hx hb dX2_descend_58 (lv_at hl 6 rfl) ?_
              refine x_ishr hx hb dX2_descend_60 (fun x60 e60 => ?_)
              have hF := bn hF e60
              refine r_iconst hx hb dX2_descend_61 (by decide) (by decide) (fun x61 e61 => ?_)
              have hF := bn hF e61
              refine x_iandr hx hb dX2_descend_62 (by omega) (fun x62 e62 g62 h62 => ?_)
              have hF := bn hF e62
              refine r_iconst hx hb dX2_descend_63 (by decide) (by decide) (fun x63 e63 => ?_)
              have hF := bn hF e63
              refine r_icmp_ne (tgt := 70) hx hb dX2_descend_64 (by decide) (fun c64 => ?_) (fun c64 => ?_)
              · have hF := ifn hF c64
                exact J70 ls _ _ σj43 hF hT hS (lv_sub hl [0, 1, 2, 3, 4, 5, 6] rfl)
              · have hF := ifp hF c64
                refine lv_goto (tgt := 136) hx hb dX2_descend_67 (by decide) ?_
                exact J136 ls _ _ σj43 hF hT hS (lv_sub hl [0, 1, 2, 3, 4, 5, 6] rfl)
      exact J43 5000 ls _ _ x40 σj28 (by omega) hF hT hS (lv_sub hl [3, 4, 5, 6, 2, 1, 0] rfl)
    refine r_if_eq (tgt := 27) hx hb dX2_descend_17 (by decide) (fun c17 => ?_) (fun c17 => ?_)
    · have hF := ifp hF c17
      refine r_iconst hx hb dX2_descend_27 (by decide) (by decide) (fun x27 e27 => ?_)
      have hF := bn hF e27
      exact J28 ls _ _ x27 σ (by omega) hF hT hS (lv_sub hl [0, 1, 2, 3] rfl)
    · have hF := ifn hF c17
      refine lv_aload_n hx hb dX2_descend_20 rfl (lv_at hl 0 rfl) ?_
      refine gt_Search_length hx hb hts ic_Search hown hK hT g0 (hts _ mw_1_205) dX2_descend_21 (fun x21 e21 f21 g21 => ?_)
      have hF := bn hF e21
      refine lv_goto (tgt := 28) hx hb dX2_descend_24 (by decide) ?_
      exact J28 ls _ _ x21 σ (by omega) hF hT hS (lv_sub hl [0, 1, 2, 3] rfl)
  · have hF := ifn hF (Int.not_lt.mpr c5)
    refine lv_aload_n hx hb dX2_descend_8 rfl (lv_at hl 0 rfl) ?_
    obtain ⟨s9, hd9, -⟩ := bd1_s hF
    refine cl_Vv (rest := []) hC hK hSK (c_X2_take l z σ h0 g0 s9 hd9) k_X2_take mw_3_154 ⟨rfl, rfl, (show 2 + 1 ≤ 4 + (dd + 1) by omega), (show 8 + (2 + 11) + 86 ≤ 130 + 26 * (dd + 1) by omega)⟩ (rv_Search hK hT g0) hT rfl hl.1 rfl (Nat.le_of_ble_eq_true rfl) dX2_descend_9 ⟨Nat.zero_le _, Nat.zero_le _⟩ hS (fun _ h => h) (fun _ _ h => h) (fun H locs hpo hS => ?_)
    obtain ⟨σ9, he9, hT⟩ := hpo
    have hF := bd1_r hF hd9 he9
    exact rt_v hx hb hr hlk hS ⟨σ9, hF, hT⟩ dX2_descend_12
theorem k_X2_over : cBV yX2_over cX2_over 4 none 3 := ⟨mw_3_145, mw_3_146, mw_1_6, mw_3_147, ⟨by decide, by decide, by decide⟩⟩
set_option maxHeartbeats 4000000 in
set_option maxRecDepth 100000 in
theorem c_X2_over (l : Launch) (z : Zt) (σ : Sg) (h0 : Nat) (g0 : zG z h0 = (12, 0)) (ra1 ora1 : Nat) (hra1 : zG z ra1 = (10, ora1)) (p2 : Int32) (p3 : Int32) (out : Sg) (hF : D_X2_over ora1 σ p2.toInt p3.toInt = some out) (bp2 : 0 ≤ p2.toInt ∧ p2.toInt ≤ 8) (bp3 : 0 ≤ p3.toInt ∧ p3.toInt ≤ 1) : Met l yX2_over (uw yX2_over cX2_over 4 none) (rmF 11 312) (PcW z [.ref h0, .ref ra1, .int p2, .int p3] (fun H => TY z (zA z) σ H)) (QcV z (fun H => ∃ σ' : Sg, some (σ') = some out ∧ TY z (zA z) σ' H)) 0 0 (zA z) := by
  refine Met.ofW (cc := cX2_over) (maxL := 4) (ret := none) (by decide) rfl ?_
  intro p e s m args below meth c s₁ B hml hv
  obtain ⟨rfl, hT, hK, hSK⟩ := hv
  have hx := B.exec
  have hb := B.bytes
  have hr := B.returns
  have hts : ∀ w ∈ lw_ok, w.before ([.ref h0, .ref ra1, .int p2, .int p3] : List Value).toArray s = true := fun w hw => atoms_spec (ws := uw yX2_over cX2_over 4 none) B.pre w (List.mem_cons_of_mem _ hw)
  have hown : s.vm.findClass RX2 = some m.cls := findClass_of_methodNamed B.named
  have hlk := B.notSynchronized
  have hC : CallFix p m c cX2_over 4 s ([.ref h0, .ref ra1, .int p2, .int p3] : List Value).toArray lw_ok RX2 := ⟨hx, hb, hml, hown, hts⟩
  have hS : va_S (zA z) s.heap s.heap [] := va_S.rf
  have hl := lv_entry ([.ref h0, .ref ra1, .int p2, .int p3]) (n := 4) (Nat.le_of_ble_eq_true rfl)
  rw [lg_entry_eq]
  generalize (lg_sl ([.ref h0, .ref ra1, .int p2, .int p3]) ++ List.replicate (4 - (lg_sl ([.ref h0, .ref ra1, .int p2, .int p3])).length) Slot.unset).toArray = ls at hl ⊢
  have hl : lv_has ls 4 [(0, .ref h0), (1, .ref ra1), (2, .int p2), (3, .int p3)] := hl
  show W p l e (rmF 11 312) s m ([.ref h0, .ref ra1, .int p2, .int p3] : List Value).toArray below meth c s.heap [] 0 0 (MQ below (QcV z (fun H => ∃ σ' : Sg, some (σ') = some out ∧ TY z (zA z) σ' H)) ([.ref h0, .ref ra1, .int p2, .int p3] : List Value).toArray s 0 0 (zA z)) (F0 m 0 ls [])
  unfold D_X2_over at hF
  refine lv_aload_n hx hb dX2_over_0 rfl (lv_at hl 0 rfl) ?_
  refine lv_iload_n hx hb dX2_over_1 rfl (lv_at hl 3 rfl) ?_
  refine pt_Search_byPlaces hx hb hts ic_Search hown hK hT hS g0 (hts _ mw_1_204) (by omega) (by omega) dX2_over_2 (fun H locs hT hS => ?_)
  obtain ⟨σ2, hF, hT⟩ := wrG hF hT
  refine lv_aload_n hx hb dX2_over_5 rfl (lv_at hl 0 rfl) ?_
  refine lv_iload_n hx hb dX2_over_6 rfl (lv_at hl 2 rfl) ?_
  refine r_iconst hx hb dX2_over_7 (by decide) (by decide) (fun x7 e7 => ?_)
  have hF := bn hF e7
  refine r_min hx hb (hml.trans hl.1.symm) hts hown mw_3_148 (Nat.le_of_ble_eq_true rfl) (Nat.le_of_ble_eq_true rfl) ⟨Nat.zero_le _, Nat.zero_le _⟩ dX2_over_8 (fun x8 e8 => ?_)
  have hF := bn hF e8
  have g8 := e8
  refine pt_Search_length hx hb hts ic_Search hown hK hT hS g0 (hts _ mw_1_205) (by omega) (by omega) dX2_over_11 (fun H locs hT hS => ?_)
  obtain ⟨σ11, hF, hT⟩ := wrG hF hT
  refine lv_aload_n hx hb dX2_over_14 rfl (lv_at hl 0 rfl) ?_
  refine r_iconst hx hb dX2_over_15 (by decide) (by decide) (fun x15 e15 => ?_)
  have hF := bn hF e15
  have mx16 := i_mx x15
  refine pt_Search_found hx hb hts ic_Search hown hK hT hS g0 (hts _ mw_1_206) (by omega) (by omega) dX2_over_16 (fun H locs hT hS => ?_)
  obtain ⟨σ16, hF, hT⟩ := wrG hF hT
  refine lv_aload_n hx hb dX2_over_19 rfl (lv_at hl 0 rfl) ?_
  refine r_bipush hx hb dX2_over_20 rfl (fun x20 e20 => ?_)
  have hF := bn hF e20
  have mx22 := i_mx x20
  refine pt_Search_most hx hb hts ic_Search hown hK hT hS g0 (hts _ mw_1_208) (by omega) (by omega) dX2_over_22 (fun H locs hT hS => ?_)
  obtain ⟨σ22, hF, hT⟩ := wrG hF hT
  refine lv_aload_n hx hb dX2_over_25 rfl (lv_at hl 0 rfl) ?_
  refine gt_Search_behind hx hb hts ic_Search hown hK hT g0 (hts _ mw_1_198) dX2_over_26 (fun q26 hq26 => ?_)
  refine r_iconst hx hb dX2_over_29 (by decide) (by decide) (fun x29 e29 => ?_)
  have hF := bn hF e29
  refine al_35 hx hb hK hT hq26 (by omega) (by omega) dX2_over_30 (fun q30 hq30 => ?_)
  refine lv_aload_n hx hb dX2_over_31 rfl (lv_at hl 1 rfl) ?_
  refine gt_Evening_floor hx hb hts ic_Evening hown hK hT hra1 (hts _ mw_1_90) dX2_over_32 (fun q32 hq32 => ?_)
  obtain ⟨s35, hd35, -⟩ := bd1_s hF
  refine cl_Vv (rest := []) hC hK hSK (c_X1_copyFrom l z σ22 q30 (6 + x29.toInt.toNat) hq30 q32 (ora1) hq32 s35 hd35) k_X1_copyFrom mw_3_149 ⟨rfl, rfl, Nat.le_of_ble_eq_true rfl, Nat.le_of_ble_eq_true rfl⟩ (rv_Floor hK hT hq30) hT rfl hl.1 rfl (Nat.le_of_ble_eq_true rfl) dX2_over_35 ⟨Nat.zero_le _, Nat.zero_le _⟩ hS (fun _ h => h) (fun _ _ h => h) (fun H locs hpo hS => ?_)
  obtain ⟨σ35, he35, hT⟩ := hpo
  have hF := bd1_r hF hd35 he35
  refine lv_aload_n hx hb dX2_over_38 rfl (lv_at hl 0 rfl) ?_
  refine lv_aload_n hx hb dX2_over_39 rfl (lv_at hl 1 rfl) ?_
  refine r_iconst hx hb dX2_over_40 (by decide) (by decide) (fun x40 e40 => ?_)
  have hF := bn hF e40
  refine r_iconst hx hb dX2_over_41 (by decide) (by decide) (fun x41 e41 => ?_)
  have hF := bn hF e41
  obtain ⟨s42, hd42, -⟩ := bd1_s hF
  refine cl_Vv (rest := []) hC hK hSK (c_X2_descend l z 6 σ35 h0 g0 ra1 (ora1) hra1 x40 x41 s42 hd42 (by omega)) k_X2_descend mw_3_150 ⟨rfl, rfl, Nat.le_of_ble_eq_true rfl, Nat.le_of_ble_eq_true rfl⟩ (rv_Search hK hT g0) hT rfl hl.1 rfl (Nat.le_of_ble_eq_true rfl) dX2_over_42 ⟨Nat.zero_le _, Nat.zero_le _⟩ hS (fun _ h => h) (fun _ _ h => h) (fun H locs hpo hS => ?_)
  obtain ⟨σ42, he42, hT⟩ := hpo
  have hF := bd1_r hF hd42 he42
  exact rt_v hx hb hr hlk hS ⟨σ42, hF, hT⟩ dX2_over_45
