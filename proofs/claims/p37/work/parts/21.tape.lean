theorem k_X4_refuse : cBV yX4_refuse cX4_refuse 3 (some .boolean) 2 := ⟨mw_2_68, ms_0_2, mw_1_2, mw_2_69, ⟨by decide, by decide, by decide⟩⟩
set_option maxHeartbeats 4000000 in
set_option maxRecDepth 100000 in
theorem c_X4_refuse (l : Launch) (z : Zt) (σ : Sg) (h0 o0 : Nat) (g0 : zG z h0 = (14, o0)) (p1 : Int32) (p2 : Int32) (out : (Int × Lo)) (hF : D_X4_refuse (σ o0) p1.toInt p2.toInt = some out) (bp1 : 0 ≤ p1.toInt ∧ p1.toInt ≤ 6) (bp2 : 0 ≤ p2.toInt ∧ p2.toInt ≤ 160) : Met l yX4_refuse (uw yX4_refuse cX4_refuse 3 (some .boolean)) (rmF 1 64) (PcW z [.ref h0, .int p1, .int p2] (fun H => TY z (zA z) σ H)) (QcI z (fun r H => ∃ σ' : Sg, some (r.toInt, σ' o0) = some out ∧ FR σ σ' o0 ∧ TY z (zA z) σ' H ∧ (0 ≤ r.toInt ∧ r.toInt ≤ 0))) 0 0 (zA z) := by
  refine Met.ofW (cc := cX4_refuse) (maxL := 3) (ret := (some .boolean)) (by decide) rfl ?_
  intro p e s m args below meth c s₁ B hml hv
  obtain ⟨rfl, hT, hK, hSK⟩ := hv
  have hx := B.exec
  have hb := B.bytes
  have hr := B.returns
  have hts : ∀ w ∈ lw_ok, w.before ([.ref h0, .int p1, .int p2] : List Value).toArray s = true := fun w hw => atoms_spec (ws := uw yX4_refuse cX4_refuse 3 (some .boolean)) B.pre w (List.mem_cons_of_mem _ hw)
  have hown : s.vm.findClass RX4 = some m.cls := findClass_of_methodNamed B.named
  have hlk := B.notSynchronized
  have hC : CallFix p m c cX4_refuse 3 s ([.ref h0, .int p1, .int p2] : List Value).toArray lw_ok RX4 := ⟨hx, hb, hml, hown, hts⟩
  have hS : va_S (zA z) s.heap s.heap [] := va_S.rf
  have hl := lv_entry ([.ref h0, .int p1, .int p2]) (n := 3) (Nat.le_of_ble_eq_true rfl)
  rw [lg_entry_eq]
  generalize (lg_sl ([.ref h0, .int p1, .int p2]) ++ List.replicate (3 - (lg_sl ([.ref h0, .int p1, .int p2])).length) Slot.unset).toArray = ls at hl ⊢
  have hl : lv_has ls 3 [(0, .ref h0), (1, .int p1), (2, .int p2)] := hl
  show W p l e (rmF 1 64) s m ([.ref h0, .int p1, .int p2] : List Value).toArray below meth c s.heap [] 0 0 (MQ below (QcI z (fun r H => ∃ σ' : Sg, some (r.toInt, σ' o0) = some out ∧ FR σ σ' o0 ∧ TY z (zA z) σ' H ∧ (0 ≤ r.toInt ∧ r.toInt ≤ 0))) ([.ref h0, .int p1, .int p2] : List Value).toArray s 0 0 (zA z)) (F0 m 0 ls [])
  have hfr : FR σ σ o0 := FR_rf σ o0
  unfold D_X4_refuse at hF
  refine lv_aload_n hx hb dX4_refuse_0 rfl (lv_at hl 0 rfl) ?_
  refine lv_iload_n hx hb dX4_refuse_1 rfl (lv_at hl 1 rfl) ?_
  refine pt_Tape_faultFound hx hb hts ic_Tape hown hK hT hS g0 (hts _ mw_1_135) (by omega) (by omega) dX4_refuse_2 (fun H locs hT hS => ?_)
  obtain ⟨σ2, hF, hfr, hT⟩ := wrL hF hfr hT
  refine lv_aload_n hx hb dX4_refuse_5 rfl (lv_at hl 0 rfl) ?_
  refine lv_iload_n hx hb dX4_refuse_6 rfl (lv_at hl 2 rfl) ?_
  refine pt_Tape_place hx hb hts ic_Tape hown hK hT hS g0 (hts _ mw_1_137) (by omega) (by omega) dX4_refuse_7 (fun H locs hT hS => ?_)
  obtain ⟨σ7, hF, hfr, hT⟩ := wrL hF hfr hT
  refine r_iconst hx hb dX4_refuse_10 (by decide) (by decide) (fun x10 e10 => ?_)
  have hF := bn hF e10
  exact rt_z hx hb hr hlk hS (by omega) (by omega) ⟨σ7, hF, hfr, hT, (by omega)⟩ dX4_refuse_11
theorem k_X4_tokenAt : cBV yX4_tokenAt cX4_tokenAt 3 (some .int) 1 := ⟨mw_2_64, ms_0_1, mw_1_2, mw_2_65, ⟨by decide, by decide, by decide⟩⟩
set_option maxHeartbeats 4000000 in
set_option maxRecDepth 100000 in
theorem c_X4_tokenAt (l : Launch) (z : Zt) (σ : Sg) (h0 o0 : Nat) (g0 : zG z h0 = (14, o0)) (p1 : Int32) (out : Int) (hF : D_X4_tokenAt (σ o0) p1.toInt = some out) (bp1 : 0 ≤ p1.toInt ∧ p1.toInt ≤ 160) : Met l yX4_tokenAt (uw yX4_tokenAt cX4_tokenAt 3 (some .int)) (rmF 1 64) (PcW z [.ref h0, .int p1] (fun H => TY z (zA z) σ H)) (QcI z (fun r H => some r.toInt = some out ∧ TY z (zA z) σ H ∧ (0 ≤ r.toInt ∧ r.toInt ≤ 4))) 0 0 (zA z) := by
  refine Met.ofW (cc := cX4_tokenAt) (maxL := 3) (ret := (some .int)) (by decide) rfl ?_
  intro p e s m args below meth c s₁ B hml hv
  obtain ⟨rfl, hT, hK, hSK⟩ := hv
  have hx := B.exec
  have hb := B.bytes
  have hr := B.returns
  have hts : ∀ w ∈ lw_ok, w.before ([.ref h0, .int p1] : List Value).toArray s = true := fun w hw => atoms_spec (ws := uw yX4_tokenAt cX4_tokenAt 3 (some .int)) B.pre w (List.mem_cons_of_mem _ hw)
  have hown : s.vm.findClass RX4 = some m.cls := findClass_of_methodNamed B.named
  have hlk := B.notSynchronized
  have hC : CallFix p m c cX4_tokenAt 3 s ([.ref h0, .int p1] : List Value).toArray lw_ok RX4 := ⟨hx, hb, hml, hown, hts⟩
  have hS : va_S (zA z) s.heap s.heap [] := va_S.rf
  have hl := lv_entry ([.ref h0, .int p1]) (n := 3) (Nat.le_of_ble_eq_true rfl)
  rw [lg_entry_eq]
  generalize (lg_sl ([.ref h0, .int p1]) ++ List.replicate (3 - (lg_sl ([.ref h0, .int p1])).length) Slot.unset).toArray = ls at hl ⊢
  have hl : lv_has ls 3 [(0, .ref h0), (1, .int p1)] := hl
  show W p l e (rmF 1 64) s m ([.ref h0, .int p1] : List Value).toArray below meth c s.heap [] 0 0 (MQ below (QcI z (fun r H => some r.toInt = some out ∧ TY z (zA z) σ H ∧ (0 ≤ r.toInt ∧ r.toInt ≤ 4))) ([.ref h0, .int p1] : List Value).toArray s 0 0 (zA z)) (F0 m 0 ls [])
  unfold D_X4_tokenAt at hF
  refine lv_iload_n hx hb dX4_tokenAt_0 rfl (lv_at hl 1 rfl) ?_
  refine lv_aload_n hx hb dX4_tokenAt_1 rfl (lv_at hl 0 rfl) ?_
  refine gt_Tape_length hx hb hts ic_Tape hown hK hT g0 (hts _ mw_1_134) dX4_tokenAt_2 (fun x2 e2 f2 g2 => ?_)
  have hF := bn hF e2
  refine r_icmp_lt (tgt := 10) hx hb dX4_tokenAt_5 (by decide) (fun c5 => ?_) (fun c5 => ?_)
  · have hF := ifp hF c5
    refine lv_aload_n hx hb dX4_tokenAt_10 rfl (lv_at hl 0 rfl) ?_
    refine gt_Tape_bytes hx hb hts ic_Tape hown hK hT g0 (hts _ mw_1_129) dX4_tokenAt_11 (fun q11 hq11 => ?_)
    refine lv_iload_n hx hb dX4_tokenAt_14 rfl (lv_at hl 1 rfl) ?_
    refine al_30 hx hb hK hT hq11 (by omega) (by omega) dX4_tokenAt_15 (fun x15 e15 g15 => ?_)
    have hF := bn hF e15
    refine lv_istore_n (lv' := [(2, .int x15), (0, .ref h0), (1, .int p1)]) hx hb dX4_tokenAt_16 rfl hl (by decide) rfl (fun ls hl => ?_)
    refine lv_iload_n hx hb dX4_tokenAt_17 rfl (lv_at hl 0 rfl) ?_
    refine r_bipush hx hb dX4_tokenAt_18 rfl (fun x18 e18 => ?_)
    have hF := bn hF e18
    have J31 : ∀ (ls : Array Slot) (H : Heap) (locs : List Loc), D_X4_tokenAt_31 x15.toInt = some out → TY z (zA z) σ H → va_S (zA z) s.heap H locs → lv_has ls 3 [(0, .ref h0), (1, .int p1), (2, .int x15)] → W p l e (rmF 1 64) s m ([.ref h0, .int p1] : List Value).toArray below meth c H locs 0 0 (MQ below (QcI z (fun r H => some r.toInt = some out ∧ TY z (zA z) σ H ∧ (0 ≤ r.toInt ∧ r.toInt ≤ 4))) ([.ref h0, .int p1] : List Value).toArray s 0 0 (zA z)) (F0 m 31 ls []) := by
      intro ls H locs hF hT hS hl
      unfold D_X4_tokenAt_31 at hF
      refine lv_iload_n hx hb dX4_tokenAt_31 rfl (lv_at hl 2 rfl) ?_
      refine r_bipush hx hb dX4_tokenAt_32 rfl (fun x32 e32 => ?_)
      have hF := bn hF e32
      have J45 : ∀ (ls : Array Slot) (H : Heap) (locs : List Loc), D_X4_tokenAt_45 x15.toInt = some out → TY z (zA z) σ H → va_S (zA z) s.heap H locs → lv_has ls 3 [(0, .ref h0), (1, .int p1), (2, .int x15)] → W p l e (rmF 1 64) s m ([.ref h0, .int p1] : List Value).toArray below meth c H locs 0 0 (MQ below (QcI z (fun r H => some r.toInt = some out ∧ TY z (zA z) σ H ∧ (0 ≤ r.toInt ∧ r.toInt ≤ 4))) ([.ref h0, .int p1] : List Value).toArray s 0 0 (zA z)) (F0 m 45 ls []) := by
        intro ls H locs hF hT hS hl
        unfold D_X4_tokenAt_45 at hF
        refine lv_iload_n hx hb dX4_tokenAt_45 rfl (lv_at hl 2 rfl) ?_
        refine r_bipush hx hb dX4_tokenAt_46 rfl (fun x46 e46 => ?_)
        have hF := bn hF e46
        refine r_icmp_ne (tgt := 55) hx hb dX4_tokenAt_48 (by decide) (fun c48 => ?_) (fun c48 => ?_)
        · have hF := ifn hF c48
          refine r_iconst hx hb dX4_tokenAt_55 (by decide) (by decide) (fun x55 e55 => ?_)
          have hF := bn hF e55
          exact rt_i hx hb hr hlk hS ⟨hF, hT, (by omega)⟩ dX4_tokenAt_56
        · have hF := ifp hF c48
          refine r_iconst hx hb dX4_tokenAt_51 (by decide) (by decide) (fun x51 e51 => ?_)
          have hF := bn hF e51
          refine lv_goto (tgt := 56) hx hb dX4_tokenAt_52 (by decide) ?_
          exact rt_i hx hb hr hlk hS ⟨hF, hT, (by omega)⟩ dX4_tokenAt_56
      refine r_icmp_lt (tgt := 45) hx hb dX4_tokenAt_34 (by decide) (fun c34 => ?_) (fun c34 => ?_)
      · have hF := ifp hF c34
        exact J45 ls _ _ hF hT hS (lv_sub hl [0, 1, 2] rfl)
      · have hF := ifn hF (Int.not_lt.mpr c34)
        refine lv_iload_n hx hb dX4_tokenAt_37 rfl (lv_at hl 2 rfl) ?_
        refine r_bipush hx hb dX4_tokenAt_38 rfl (fun x38 e38 => ?_)
        have hF := bn hF e38
        refine r_icmp_gt (tgt := 45) hx hb dX4_tokenAt_40 (by decide) (fun c40 => ?_) (fun c40 => ?_)
        · have hF := ifp hF c40
          exact J45 ls _ _ hF hT hS (lv_sub hl [0, 1, 2] rfl)
        · have hF := ifn hF (Int.not_lt.mpr c40)
          refine r_iconst hx hb dX4_tokenAt_43 (by decide) (by decide) (fun x43 e43 => ?_)
          have hF := bn hF e43
          exact rt_i hx hb hr hlk hS ⟨hF, hT, (by omega)⟩ dX4_tokenAt_44
    refine r_icmp_lt (tgt := 31) hx hb dX4_tokenAt_20 (by decide) (fun c20 => ?_) (fun c20 => ?_)
    · have hF := ifp hF c20
      exact J31 ls _ _ hF hT hS (lv_sub hl [1, 2, 0] rfl)
    · have hF := ifn hF (Int.not_lt.mpr c20)
      refine lv_iload_n hx hb dX4_tokenAt_23 rfl (lv_at hl 0 rfl) ?_
      refine r_bipush hx hb dX4_tokenAt_24 rfl (fun x24 e24 => ?_)
      have hF := bn hF e24
      refine r_icmp_gt (tgt := 31) hx hb dX4_tokenAt_26 (by decide) (fun c26 => ?_) (fun c26 => ?_)
      · have hF := ifp hF c26
        exact J31 ls _ _ hF hT hS (lv_sub hl [1, 2, 0] rfl)
      · have hF := ifn hF (Int.not_lt.mpr c26)
        refine r_iconst hx hb dX4_tokenAt_29 (by decide) (by decide) (fun x29 e29 => ?_)
        have hF := bn hF e29
        exact rt_i hx hb hr hlk hS ⟨hF, hT, (by omega)⟩ dX4_tokenAt_30
  · have hF := ifn hF (Int.not_lt.mpr c5)
    refine r_iconst hx hb dX4_tokenAt_8 (by decide) (by decide) (fun x8 e8 => ?_)
    have hF := bn hF e8
    exact rt_i hx hb hr hlk hS ⟨hF, hT, (by omega)⟩ dX4_tokenAt_9
theorem k_X4_advance : cBV yX4_advance cX4_advance 2 (some .boolean) 0 := ⟨mw_2_60, ms_0_0, mw_1_2, mw_2_61, ⟨by decide, by decide, by decide⟩⟩
set_option maxHeartbeats 4000000 in
set_option maxRecDepth 100000 in
theorem c_X4_advance (l : Launch) (z : Zt) (σ : Sg) (h0 o0 : Nat) (g0 : zG z h0 = (14, o0)) (out : (Int × Lo)) (hF : D_X4_advance (σ o0) = some out) : Met l yX4_advance (uw yX4_advance cX4_advance 2 (some .boolean)) (rmF 2 86) (PcW z [.ref h0] (fun H => TY z (zA z) σ H)) (QcI z (fun r H => ∃ σ' : Sg, some (r.toInt, σ' o0) = some out ∧ FR σ σ' o0 ∧ TY z (zA z) σ' H ∧ (0 ≤ r.toInt ∧ r.toInt ≤ 1))) 0 0 (zA z) := by
  refine Met.ofW (cc := cX4_advance) (maxL := 2) (ret := (some .boolean)) (by decide) rfl ?_
  intro p e s m args below meth c s₁ B hml hv
  obtain ⟨rfl, hT, hK, hSK⟩ := hv
  have hx := B.exec
  have hb := B.bytes
  have hr := B.returns
  have hts : ∀ w ∈ lw_ok, w.before ([.ref h0] : List Value).toArray s = true := fun w hw => atoms_spec (ws := uw yX4_advance cX4_advance 2 (some .boolean)) B.pre w (List.mem_cons_of_mem _ hw)
  have hown : s.vm.findClass RX4 = some m.cls := findClass_of_methodNamed B.named
  have hlk := B.notSynchronized
  have hC : CallFix p m c cX4_advance 2 s ([.ref h0] : List Value).toArray lw_ok RX4 := ⟨hx, hb, hml, hown, hts⟩
  have hS : va_S (zA z) s.heap s.heap [] := va_S.rf
  have hl := lv_entry ([.ref h0]) (n := 2) (Nat.le_of_ble_eq_true rfl)
  rw [lg_entry_eq]
  generalize (lg_sl ([.ref h0]) ++ List.replicate (2 - (lg_sl ([.ref h0])).length) Slot.unset).toArray = ls at hl ⊢
  have hl : lv_has ls 2 [(0, .ref h0)] := hl
  show W p l e (rmF 2 86) s m ([.ref h0] : List Value).toArray below meth c s.heap [] 0 0 (MQ below (QcI z (fun r H => ∃ σ' : Sg, some (r.toInt, σ' o0) = some out ∧ FR σ σ' o0 ∧ TY z (zA z) σ' H ∧ (0 ≤ r.toInt ∧ r.toInt ≤ 1))) ([.ref h0] : List Value).toArray s 0 0 (zA z)) (F0 m 0 ls [])
  have hfr : FR σ σ o0 := FR_rf σ o0
  unfold D_X4_advance at hF
  have J0 : ∀ (n0 : Nat) (ls : Array Slot) (H : Heap) (locs : List Loc) (σj0 : Sg), D_X4_advance_0 n0 (σj0 o0) = some out → FR σ σj0 o0 → TY z (zA z) σj0 H → va_S (zA z) s.heap H locs → lv_has ls 2 [(0, .ref h0)] → W p l e (rmF 2 86) s m ([.ref h0] : List Value).toArray below meth c H locs 0 0 (MQ below (QcI z (fun r H => ∃ σ' : Sg, some (r.toInt, σ' o0) = some out ∧ FR σ σ' o0 ∧ TY z (zA z) σ' H ∧ (0 ≤ r.toInt ∧ r.toInt ≤ 1))) ([.ref h0] : List Value).toArray s 0 0 (zA z)) (F0 m 0 ls []) := by
    intro n0
    induction n0 with
    | zero => intro ls H locs σj0 hF hfr hT hS hl; exact (no_s hF).elim
    | succ n0 ih0 =>
      intro ls H locs σj0 hF hfr hT hS hl
      rw [D_X4_advance_0.eq_2] at hF
      refine lv_aload_n hx hb dX4_advance_0 rfl (lv_at hl 0 rfl) ?_
      refine gt_Tape_next hx hb hts ic_Tape hown hK hT g0 (hts _ mw_1_139) dX4_advance_1 (fun x1 e1 f1 g1 => ?_)
      have hF := bn hF e1
      refine lv_aload_n hx hb dX4_advance_4 rfl (lv_at hl 0 rfl) ?_
      refine gt_Tape_length hx hb hts ic_Tape hown hK hT g0 (hts _ mw_1_134) dX4_advance_5 (fun x5 e5 f5 g5 => ?_)
      have hF := bn hF e5
      have J38 : ∀ (ls : Array Slot) (H : Heap) (locs : List Loc) (σj38 : Sg), D_X4_advance_38 (σj38 o0) = some out → FR σ σj38 o0 → TY z (zA z) σj38 H → va_S (zA z) s.heap H locs → lv_has ls 2 [(0, .ref h0)] → W p l e (rmF 2 86) s m ([.ref h0] : List Value).toArray below meth c H locs 0 0 (MQ below (QcI z (fun r H => ∃ σ' : Sg, some (r.toInt, σ' o0) = some out ∧ FR σ σ' o0 ∧ TY z (zA z) σ' H ∧ (0 ≤ r.toInt ∧ r.toInt ≤ 1))) ([.ref h0] : List Value).toArray s 0 0 (zA z)) (F0 m 38 ls []) := by
        intro ls H locs σj38 hF hfr hT hS hl
        unfold D_X4_advance_38 at hF
        refine lv_aload_n hx hb dX4_advance_38 rfl (lv_at hl 0 rfl) ?_
        refine lv_aload_n hx hb dX4_advance_39 rfl (lv_at hl 0 rfl) ?_
        refine gt_Tape_next hx hb hts ic_Tape hown hK hT g0 (hts _ mw_1_139) dX4_advance_40 (fun x40 e40 f40 g40 => ?_)
        have hF := bn hF e40
        refine pt_Tape_start hx hb hts ic_Tape hown hK hT hS g0 (hts _ mw_1_141) (by omega) (by omega) dX4_advance_43 (fun H locs hT hS => ?_)
        obtain ⟨σ43, hF, hfr, hT⟩ := wrL hF hfr hT
        refine lv_aload_n hx hb dX4_advance_46 rfl (lv_at hl 0 rfl) ?_
        refine lv_aload_n hx hb dX4_advance_47 rfl (lv_at hl 0 rfl) ?_
        refine lv_aload_n hx hb dX4_advance_48 rfl (lv_at hl 0 rfl) ?_
        refine gt_Tape_start hx hb hts ic_Tape hown hK hT g0 (hts _ mw_1_141) dX4_advance_49 (fun x49 e49 f49 g49 => ?_)
        have hF := bn hF e49
        obtain ⟨v52, hd52, -⟩ := bd0_s hF
        refine cl_Vi (rest := [.ref h0]) hC hK hSK (c_X4_tokenAt l z σ43 h0 (o0) g0 x49 v52 hd52 (by omega)) k_X4_tokenAt mw_2_62 ⟨rfl, rfl, Nat.le_of_ble_eq_true rfl, Nat.le_of_ble_eq_true rfl⟩ (rv_Tape hK hT g0) hT rfl hl.1 rfl (Nat.le_of_ble_eq_true rfl) dX4_advance_52 ⟨Nat.zero_le _, Nat.zero_le _⟩ hS (fun _ h => h) (fun _ _ h => h) (fun r52 H locs hpo hS => ?_)
        obtain ⟨he52, hT, u52_0⟩ := hpo
        have hF := bd0_r hF hd52 he52
        refine pt_Tape_token hx hb hts ic_Tape hown hK hT hS g0 (hts _ mw_1_140) (by omega) (by omega) dX4_advance_55 (fun H locs hT hS => ?_)
        obtain ⟨σ55, hF, hfr, hT⟩ := wrL hF hfr hT
        refine lv_aload_n hx hb dX4_advance_58 rfl (lv_at hl 0 rfl) ?_
        refine gt_Tape_token hx hb hts ic_Tape hown hK hT g0 (hts _ mw_1_140) dX4_advance_59 (fun x59 e59 f59 g59 => ?_)
        have hF := bn hF e59
        refine r_iconst hx hb dX4_advance_62 (by decide) (by decide) (fun x62 e62 => ?_)
        have hF := bn hF e62
        refine r_icmp_ne (tgt := 76) hx hb dX4_advance_63 (by decide) (fun c63 => ?_) (fun c63 => ?_)
        · have hF := ifn hF c63
          refine lv_aload_n hx hb dX4_advance_76 rfl (lv_at hl 0 rfl) ?_
          refine gt_Tape_token hx hb hts ic_Tape hown hK hT g0 (hts _ mw_1_140) dX4_advance_77 (fun x77 e77 f77 g77 => ?_)
          have hF := bn hF e77
          have J93 : ∀ (ls : Array Slot) (H : Heap) (locs : List Loc) (σj93 : Sg), D_X4_advance_93 (σj93 o0) = some out → FR σ σj93 o0 → TY z (zA z) σj93 H → va_S (zA z) s.heap H locs → lv_has ls 2 [(0, .ref h0)] → W p l e (rmF 2 86) s m ([.ref h0] : List Value).toArray below meth c H locs 0 0 (MQ below (QcI z (fun r H => ∃ σ' : Sg, some (r.toInt, σ' o0) = some out ∧ FR σ σ' o0 ∧ TY z (zA z) σ' H ∧ (0 ≤ r.toInt ∧ r.toInt ≤ 1))) ([.ref h0] : List Value).toArray s 0 0 (zA z)) (F0 m 93 ls []) := by
            intro ls H locs σj93 hF hfr hT hS hl
            unfold D_X4_advance_93 at hF
            refine lv_aload_n hx hb dX4_advance_93 rfl (lv_at hl 0 rfl) ?_
            refine gt_Tape_token hx hb hts ic_Tape hown hK hT g0 (hts _ mw_1_140) dX4_advance_94 (fun x94 e94 f94 g94 => ?_)
            have hF := bn hF e94
            refine r_iconst hx hb dX4_advance_97 (by decide) (by decide) (fun x97 e97 => ?_)
            have hF := bn hF e97
            have J114 : ∀ (ls : Array Slot) (H : Heap) (locs : List Loc) (t114_0 : Int32) (σj114 : Sg), (0 ≤ t114_0.toInt ∧ t114_0.toInt ≤ 1) → D_X4_advance_114 (σj114 o0) t114_0.toInt = some out → FR σ σj114 o0 → TY z (zA z) σj114 H → va_S (zA z) s.heap H locs → lv_has ls 2 [(0, .ref h0)] → W p l e (rmF 2 86) s m ([.ref h0] : List Value).toArray below meth c H locs 0 0 (MQ below (QcI z (fun r H => ∃ σ' : Sg, some (r.toInt, σ' o0) = some out ∧ FR σ σ' o0 ∧ TY z (zA z) σ' H ∧ (0 ≤ r.toInt ∧ r.toInt ≤ 1))) ([.ref h0] : List Value).toArray s 0 0 (zA z)) (F0 m 114 ls [.int t114_0]) := by
              intro ls H locs t114_0 σj114 j114_t114_0 hF hfr hT hS hl
              unfold D_X4_advance_114 at hF
              refine lv_istore_n (lv' := [(1, .int t114_0), (0, .ref h0)]) hx hb dX4_advance_114 rfl hl (by decide) rfl (fun ls hl => ?_)
              have J115 : ∀ (n115 : Nat) (ls : Array Slot) (H : Heap) (locs : List Loc) (σj115 : Sg), D_X4_advance_115 t114_0.toInt n115 (σj115 o0) = some out → FR σ σj115 o0 → TY z (zA z) σj115 H → va_S (zA z) s.heap H locs → lv_has ls 2 [(0, .ref h0), (1, .int t114_0)] → W p l e (rmF 2 86) s m ([.ref h0] : List Value).toArray below meth c H locs 0 0 (MQ below (QcI z (fun r H => ∃ σ' : Sg, some (r.toInt, σ' o0) = some out ∧ FR σ σ' o0 ∧ TY z (zA z) σ' H ∧ (0 ≤ r.toInt ∧ r.toInt ≤ 1))) ([.ref h0] : List Value).toArray s 0 0 (zA z)) (F0 m 115 ls []) := by
                intro n115
                induction n115 with
                | zero => intro ls H locs σj115 hF hfr hT hS hl; exact (no_s hF).elim
                | succ n115 ih115 =>
                  intro ls H locs σj115 hF hfr hT hS hl
                  rw [D_X4_advance_115.eq_2] at hF
                  refine lv_iload_n hx hb dX4_advance_115 rfl (lv_at hl 1 rfl) ?_
                  have J158 : ∀ (ls : Array Slot) (H : Heap) (locs : List Loc) (σj158 : Sg), D_X4_advance_158 (σj158 o0) = some out → FR σ σj158 o0 → TY z (zA z) σj158 H → va_S (zA z) s.heap H locs → lv_has ls 2 [(0, .ref h0), (1, .int t114_0)] → W p l e (rmF 2 86) s m ([.ref h0] : List Value).toArray below meth c H locs 0 0 (MQ below (QcI z (fun r H => ∃ σ' : Sg, some (r.toInt, σ' o0) = some out ∧ FR σ σ' o0 ∧ TY z (zA z) σ' H ∧ (0 ≤ r.toInt ∧ r.toInt ≤ 1))) ([.ref h0] : List Value).toArray s 0 0 (zA z)) (F0 m 158 ls []) := by
                    intro ls H locs σj158 hF hfr hT hS hl
                    unfold D_X4_advance_158 at hF
                    refine lv_aload_n hx hb dX4_advance_158 rfl (lv_at hl 0 rfl) ?_
                    refine gt_Tape_token hx hb hts ic_Tape hown hK hT g0 (hts _ mw_1_140) dX4_advance_159 (fun x159 e159 f159 g159 => ?_)
                    have hF := bn hF e159
                    refine r_iconst hx hb dX4_advance_162 (by decide) (by decide) (fun x162 e162 => ?_)
                    have hF := bn hF e162
                    have J191 : ∀ (ls : Array Slot) (H : Heap) (locs : List Loc) (σj191 : Sg), D_X4_advance_191 (σj191 o0) = some out → FR σ σj191 o0 → TY z (zA z) σj191 H → va_S (zA z) s.heap H locs → lv_has ls 2 [(0, .ref h0), (1, .int t114_0)] → W p l e (rmF 2 86) s m ([.ref h0] : List Value).toArray below meth c H locs 0 0 (MQ below (QcI z (fun r H => ∃ σ' : Sg, some (r.toInt, σ' o0) = some out ∧ FR σ σ' o0 ∧ TY z (zA z) σ' H ∧ (0 ≤ r.toInt ∧ r.toInt ≤ 1))) ([.ref h0] : List Value).toArray s 0 0 (zA z)) (F0 m 191 ls []) := by
                      intro ls H locs σj191 hF hfr hT hS hl
                      unfold D_X4_advance_191 at hF
                      refine r_iconst hx hb dX4_advance_191 (by decide) (by decide) (fun x191 e191 => ?_)
                      have hF := bn hF e191
                      refine lv_goto (tgt := 196) hx hb dX4_advance_192 (by decide) ?_
                      exact rt_z hx hb hr hlk hS (by omega) (by omega) ⟨σj191, hF, hfr, hT, (by omega)⟩ dX4_advance_196
                    refine r_icmp_ne (tgt := 191) hx hb dX4_advance_163 (by decide) (fun c163 => ?_) (fun c163 => ?_)
                    · have hF := ifn hF c163
                      exact J191 ls _ _ σj158 hF hfr hT hS (lv_sub hl [0, 1] rfl)
                    · have hF := ifp hF c163
                      refine lv_aload_n hx hb dX4_advance_166 rfl (lv_at hl 0 rfl) ?_
                      refine gt_Tape_next hx hb hts ic_Tape hown hK hT g0 (hts _ mw_1_139) dX4_advance_167 (fun x167 e167 f167 g167 => ?_)
                      have hF := bn hF e167
                      refine lv_aload_n hx hb dX4_advance_170 rfl (lv_at hl 0 rfl) ?_
                      refine gt_Tape_start hx hb hts ic_Tape hown hK hT g0 (hts _ mw_1_141) dX4_advance_171 (fun x171 e171 f171 g171 => ?_)
                      have hF := bn hF e171
                      refine r_isub hx hb dX4_advance_174 (by omega) (by omega) (fun x174 e174 => ?_)
                      have hF := bn hF e174
                      refine r_iconst hx hb dX4_advance_175 (by decide) (by decide) (fun x175 e175 => ?_)
                      have hF := bn hF e175
                      refine r_icmp_le (tgt := 191) hx hb dX4_advance_176 (by decide) (fun c176 => ?_) (fun c176 => ?_)
                      · have hF := ifn hF (Int.not_lt.mpr c176)
                        exact J191 ls _ _ σj158 hF hfr hT hS (lv_sub hl [0, 1] rfl)
                      · have hF := ifp hF c176
                        refine lv_aload_n hx hb dX4_advance_179 rfl (lv_at hl 0 rfl) ?_
                        refine r_iconst hx hb dX4_advance_180 (by decide) (by decide) (fun x180 e180 => ?_)
                        have hF := bn hF e180
                        refine lv_aload_n hx hb dX4_advance_181 rfl (lv_at hl 0 rfl) ?_
                        refine gt_Tape_start hx hb hts ic_Tape hown hK hT g0 (hts _ mw_1_141) dX4_advance_182 (fun x182 e182 f182 g182 => ?_)
                        have hF := bn hF e182
                        obtain ⟨v185, s185, hd185, -⟩ := bd2_s hF
                        refine cl_Vi (rest := []) hC hK hSK (c_X4_refuse l z σj158 h0 (o0) g0 x180 x182 (v185, s185) hd185 (by omega) (by omega)) k_X4_refuse mw_2_66 ⟨rfl, rfl, Nat.le_of_ble_eq_true rfl, Nat.le_of_ble_eq_true rfl⟩ (rv_Tape hK hT g0) hT rfl hl.1 rfl (Nat.le_of_ble_eq_true rfl) dX4_advance_185 ⟨Nat.zero_le _, Nat.zero_le _⟩ hS (fun _ h => h) (fun _ _ h => h) (fun r185 H locs hpo hS => ?_)
                        obtain ⟨σ185, he185, hf185, hT, u185_0⟩ := hpo
                        have hF := bd2_r hF hd185 he185
                        have hfr := FR_tr hf185 hfr
                        refine r_if_eq (tgt := 195) hx hb dX4_advance_188 (by decide) (fun c188 => ?_) (fun c188 => ?_)
                        · have hF := ifp hF c188
                          refine r_iconst hx hb dX4_advance_195 (by decide) (by decide) (fun x195 e195 => ?_)
                          have hF := bn hF e195
                          exact rt_z hx hb hr hlk hS (by omega) (by omega) ⟨σ185, hF, hfr, hT, (by omega)⟩ dX4_advance_196
                        · exfalso; omega
                  refine r_if_eq (tgt := 158) hx hb dX4_advance_116 (by decide) (fun c116 => ?_) (fun c116 => ?_)
                  · have hF := ifp hF c116
                    exact J158 ls _ _ σj115 hF hfr hT hS (lv_sub hl [0, 1] rfl)
                  · have hF := ifn hF c116
                    refine lv_aload_n hx hb dX4_advance_119 rfl (lv_at hl 0 rfl) ?_
                    refine gt_Tape_next hx hb hts ic_Tape hown hK hT g0 (hts _ mw_1_139) dX4_advance_120 (fun x120 e120 f120 g120 => ?_)
                    have hF := bn hF e120
                    refine lv_aload_n hx hb dX4_advance_123 rfl (lv_at hl 0 rfl) ?_
                    refine gt_Tape_length hx hb hts ic_Tape hown hK hT g0 (hts _ mw_1_134) dX4_advance_124 (fun x124 e124 f124 g124 => ?_)
                    have hF := bn hF e124
                    refine r_icmp_ge (tgt := 158) hx hb dX4_advance_127 (by decide) (fun c127 => ?_) (fun c127 => ?_)
                    · have hF := ifn hF (Int.not_lt.mpr c127)
                      exact J158 ls _ _ σj115 hF hfr hT hS (lv_sub hl [0, 1] rfl)
                    · have hF := ifp hF c127
                      refine lv_aload_n hx hb dX4_advance_130 rfl (lv_at hl 0 rfl) ?_
                      refine lv_aload_n hx hb dX4_advance_131 rfl (lv_at hl 0 rfl) ?_
                      refine gt_Tape_next hx hb hts ic_Tape hown hK hT g0 (hts _ mw_1_139) dX4_advance_132 (fun x132 e132 f132 g132 => ?_)
                      have hF := bn hF e132
                      obtain ⟨v135, hd135, -⟩ := bd0_s hF
                      refine cl_Vi (rest := []) hC hK hSK (c_X4_tokenAt l z σj115 h0 (o0) g0 x132 v135 hd135 (by omega)) k_X4_tokenAt mw_2_62 ⟨rfl, rfl, Nat.le_of_ble_eq_true rfl, Nat.le_of_ble_eq_true rfl⟩ (rv_Tape hK hT g0) hT rfl hl.1 rfl (Nat.le_of_ble_eq_true rfl) dX4_advance_135 ⟨Nat.zero_le _, Nat.zero_le _⟩ hS (fun _ h => h) (fun _ _ h => h) (fun r135 H locs hpo hS => ?_)
                      obtain ⟨he135, hT, u135_0⟩ := hpo
                      have hF := bd0_r hF hd135 he135
                      refine lv_aload_n hx hb dX4_advance_138 rfl (lv_at hl 0 rfl) ?_
                      refine gt_Tape_token hx hb hts ic_Tape hown hK hT g0 (hts _ mw_1_140) dX4_advance_139 (fun x139 e139 f139 g139 => ?_)
                      have hF := bn hF e139
                      refine r_icmp_ne (tgt := 158) hx hb dX4_advance_142 (by decide) (fun c142 => ?_) (fun c142 => ?_)
                      · have hF := ifn hF c142
                        exact J158 ls _ _ σj115 hF hfr hT hS (lv_sub hl [0, 1] rfl)
                      · have hF := ifp hF c142
                        refine lv_aload_n hx hb dX4_advance_145 rfl (lv_at hl 0 rfl) ?_
                        refine lv_dup hx hb dX4_advance_146 rfl ?_
                        refine gt_Tape_next hx hb hts ic_Tape hown hK hT g0 (hts _ mw_1_139) dX4_advance_147 (fun x147 e147 f147 g147 => ?_)
                        have hF := bn hF e147
                        refine r_iconst hx hb dX4_advance_150 (by decide) (by decide) (fun x150 e150 => ?_)
                        have hF := bn hF e150
                        refine r_iadd hx hb dX4_advance_151 (by omega) (by omega) (fun x151 e151 => ?_)
                        have hF := bn hF e151
                        obtain ⟨k152, hF⟩ := ck hF
                        refine pt_Tape_next hx hb hts ic_Tape hown hK hT hS g0 (hts _ mw_1_139) (by omega) (by omega) dX4_advance_152 (fun H locs hT hS => ?_)
                        obtain ⟨σ152, hF, hfr, hT⟩ := wrL hF hfr hT
                        refine lv_goto (tgt := 115) hx hb dX4_advance_155 (by decide) ?_
                        exact ih115 ls _ _ σ152 hF hfr hT hS (lv_sub hl [0, 1] rfl)
              exact J115 5000 ls _ _ σj114 hF hfr hT hS (lv_sub hl [1, 0] rfl)
            have J109 : ∀ (ls : Array Slot) (H : Heap) (locs : List Loc) (σj109 : Sg), D_X4_advance_109 (σj109 o0) = some out → FR σ σj109 o0 → TY z (zA z) σj109 H → va_S (zA z) s.heap H locs → lv_has ls 2 [(0, .ref h0)] → W p l e (rmF 2 86) s m ([.ref h0] : List Value).toArray below meth c H locs 0 0 (MQ below (QcI z (fun r H => ∃ σ' : Sg, some (r.toInt, σ' o0) = some out ∧ FR σ σ' o0 ∧ TY z (zA z) σ' H ∧ (0 ≤ r.toInt ∧ r.toInt ≤ 1))) ([.ref h0] : List Value).toArray s 0 0 (zA z)) (F0 m 109 ls []) := by
              intro ls H locs σj109 hF hfr hT hS hl
              unfold D_X4_advance_109 at hF
              refine r_iconst hx hb dX4_advance_109 (by decide) (by decide) (fun x109 e109 => ?_)
              have hF := bn hF e109
              refine lv_goto (tgt := 114) hx hb dX4_advance_110 (by decide) ?_
              exact J114 ls _ _ x109 σj109 (by omega) hF hfr hT hS (lv_sub hl [0] rfl)
            refine r_icmp_eq (tgt := 109) hx hb dX4_advance_98 (by decide) (fun c98 => ?_) (fun c98 => ?_)
            · have hF := ifp hF c98
              exact J109 ls _ _ σj93 hF hfr hT hS (lv_sub hl [0] rfl)
            · have hF := ifn hF c98
              refine lv_aload_n hx hb dX4_advance_101 rfl (lv_at hl 0 rfl) ?_
              refine gt_Tape_token hx hb hts ic_Tape hown hK hT g0 (hts _ mw_1_140) dX4_advance_102 (fun x102 e102 f102 g102 => ?_)
              have hF := bn hF e102
              refine r_iconst hx hb dX4_advance_105 (by decide) (by decide) (fun x105 e105 => ?_)
              have hF := bn hF e105
              refine r_icmp_ne (tgt := 113) hx hb dX4_advance_106 (by decide) (fun c106 => ?_) (fun c106 => ?_)
              · have hF := ifn hF c106
                refine r_iconst hx hb dX4_advance_113 (by decide) (by decide) (fun x113 e113 => ?_)
                have hF := bn hF e113
                exact J114 ls _ _ x113 σj93 (by omega) hF hfr hT hS (lv_sub hl [0] rfl)
              · have hF := ifp hF c106
                exact J109 ls _ _ σj93 hF hfr hT hS (lv_sub hl [0] rfl)
          refine r_if_eq (tgt := 93) hx hb dX4_advance_80 (by decide) (fun c80 => ?_) (fun c80 => ?_)
          · have hF := ifp hF c80
            exact J93 ls _ _ σ55 hF hfr hT hS (lv_sub hl [0] rfl)
          · have hF := ifn hF c80
            refine lv_aload_n hx hb dX4_advance_83 rfl (lv_at hl 0 rfl) ?_
            refine lv_dup hx hb dX4_advance_84 rfl ?_
            refine gt_Tape_next hx hb hts ic_Tape hown hK hT g0 (hts _ mw_1_139) dX4_advance_85 (fun x85 e85 f85 g85 => ?_)
            have hF := bn hF e85
            refine r_iconst hx hb dX4_advance_88 (by decide) (by decide) (fun x88 e88 => ?_)
            have hF := bn hF e88
            refine r_iadd hx hb dX4_advance_89 (by omega) (by omega) (fun x89 e89 => ?_)
            have hF := bn hF e89
            obtain ⟨k90, hF⟩ := ck hF
            refine pt_Tape_next hx hb hts ic_Tape hown hK hT hS g0 (hts _ mw_1_139) (by omega) (by omega) dX4_advance_90 (fun H locs hT hS => ?_)
            obtain ⟨σ90, hF, hfr, hT⟩ := wrL hF hfr hT
            exact J93 ls _ _ σ90 hF hfr hT hS (lv_sub hl [0] rfl)
        · have hF := ifp hF c63
          refine lv_aload_n hx hb dX4_advance_66 rfl (lv_at hl 0 rfl) ?_
          refine r_iconst hx hb dX4_advance_67 (by decide) (by decide) (fun x67 e67 => ?_)
          have hF := bn hF e67
          refine lv_aload_n hx hb dX4_advance_68 rfl (lv_at hl 0 rfl) ?_
          refine gt_Tape_start hx hb hts ic_Tape hown hK hT g0 (hts _ mw_1_141) dX4_advance_69 (fun x69 e69 f69 g69 => ?_)
          have hF := bn hF e69
          obtain ⟨v72, s72, hd72, -⟩ := bd2_s hF
          refine cl_Vi (rest := []) hC hK hSK (c_X4_refuse l z σ55 h0 (o0) g0 x67 x69 (v72, s72) hd72 (by omega) (by omega)) k_X4_refuse mw_2_66 ⟨rfl, rfl, Nat.le_of_ble_eq_true rfl, Nat.le_of_ble_eq_true rfl⟩ (rv_Tape hK hT g0) hT rfl hl.1 rfl (Nat.le_of_ble_eq_true rfl) dX4_advance_72 ⟨Nat.zero_le _, Nat.zero_le _⟩ hS (fun _ h => h) (fun _ _ h => h) (fun r72 H locs hpo hS => ?_)
          obtain ⟨σ72, he72, hf72, hT, u72_0⟩ := hpo
          have hF := bd2_r hF hd72 he72
          have hfr := FR_tr hf72 hfr
          exact rt_z hx hb hr hlk hS (by omega) (by omega) ⟨σ72, hF, hfr, hT, (by omega)⟩ dX4_advance_75
      refine r_icmp_ge (tgt := 38) hx hb dX4_advance_8 (by decide) (fun c8 => ?_) (fun c8 => ?_)
      · have hF := ifn hF (Int.not_lt.mpr c8)
        exact J38 ls _ _ σj0 hF hfr hT hS (lv_sub hl [0] rfl)
      · have hF := ifp hF c8
        refine lv_aload_n hx hb dX4_advance_11 rfl (lv_at hl 0 rfl) ?_
        refine gt_Tape_bytes hx hb hts ic_Tape hown hK hT g0 (hts _ mw_1_129) dX4_advance_12 (fun q12 hq12 => ?_)
        refine lv_aload_n hx hb dX4_advance_15 rfl (lv_at hl 0 rfl) ?_
        refine gt_Tape_next hx hb hts ic_Tape hown hK hT g0 (hts _ mw_1_139) dX4_advance_16 (fun x16 e16 f16 g16 => ?_)
        have hF := bn hF e16
        obtain ⟨kb19, hF⟩ := ck hF
        refine al_30 hx hb hK hT hq12 (by omega) (by omega) dX4_advance_19 (fun x19 e19 g19 => ?_)
        have hF := bn hF e19
        refine r_bipush hx hb dX4_advance_20 rfl (fun x20 e20 => ?_)
        have hF := bn hF e20
        refine r_icmp_ne (tgt := 38) hx hb dX4_advance_22 (by decide) (fun c22 => ?_) (fun c22 => ?_)
        · have hF := ifn hF c22
          exact J38 ls _ _ σj0 hF hfr hT hS (lv_sub hl [0] rfl)
        · have hF := ifp hF c22
          refine lv_aload_n hx hb dX4_advance_25 rfl (lv_at hl 0 rfl) ?_
          refine lv_dup hx hb dX4_advance_26 rfl ?_
          refine gt_Tape_next hx hb hts ic_Tape hown hK hT g0 (hts _ mw_1_139) dX4_advance_27 (fun x27 e27 f27 g27 => ?_)
          have hF := bn hF e27
          refine r_iconst hx hb dX4_advance_30 (by decide) (by decide) (fun x30 e30 => ?_)
          have hF := bn hF e30
          refine r_iadd hx hb dX4_advance_31 (by omega) (by omega) (fun x31 e31 => ?_)
          have hF := bn hF e31
          obtain ⟨k32, hF⟩ := ck hF
          refine pt_Tape_next hx hb hts ic_Tape hown hK hT hS g0 (hts _ mw_1_139) (by omega) (by omega) dX4_advance_32 (fun H locs hT hS => ?_)
          obtain ⟨σ32, hF, hfr, hT⟩ := wrL hF hfr hT
          refine lv_goto (tgt := 0) hx hb dX4_advance_35 (by decide) ?_
          exact ih0 ls _ _ σ32 hF hfr hT hS (lv_sub hl [0] rfl)
  exact J0 5000 ls _ _ σ hF hfr hT hS (lv_sub hl [0] rfl)
theorem k_X4_number : cBV yX4_number cX4_number 3 (some .boolean) 1 := ⟨mw_2_145, ms_0_7, mw_1_2, mw_2_146, ⟨by decide, by decide, by decide⟩⟩
set_option maxHeartbeats 4000000 in
set_option maxRecDepth 100000 in
theorem c_X4_number (l : Launch) (z : Zt) (σ : Sg) (h0 o0 : Nat) (g0 : zG z h0 = (14, o0)) (p1 : Int32) (out : (Int × Lo)) (hF : D_X4_number (σ o0) p1.toInt = some out) : Met l yX4_number (uw yX4_number cX4_number 3 (some .boolean)) (rmF 3 107) (PcW z [.ref h0, .int p1] (fun H => TY z (zA z) σ H)) (QcI z (fun r H => ∃ σ' : Sg, some (r.toInt, σ' o0) = some out ∧ FR σ σ' o0 ∧ TY z (zA z) σ' H ∧ (0 ≤ r.toInt ∧ r.toInt ≤ 1))) 0 0 (zA z) := by
  refine Met.ofW (cc := cX4_number) (maxL := 3) (ret := (some .boolean)) (by decide) rfl ?_
  intro p e s m args below meth c s₁ B hml hv
  obtain ⟨rfl, hT, hK, hSK⟩ := hv
  have hx := B.exec
  have hb := B.bytes
  have hr := B.returns
  have hts : ∀ w ∈ lw_ok, w.before ([.ref h0, .int p1] : List Value).toArray s = true := fun w hw => atoms_spec (ws := uw yX4_number cX4_number 3 (some .boolean)) B.pre w (List.mem_cons_of_mem _ hw)
  have hown : s.vm.findClass RX4 = some m.cls := findClass_of_methodNamed B.named
  have hlk := B.notSynchronized
  have hC : CallFix p m c cX4_number 3 s ([.ref h0, .int p1] : List Value).toArray lw_ok RX4 := ⟨hx, hb, hml, hown, hts⟩
  have hS : va_S (zA z) s.heap s.heap [] := va_S.rf
  have hl := lv_entry ([.ref h0, .int p1]) (n := 3) (Nat.le_of_ble_eq_true rfl)
  rw [lg_entry_eq]
  generalize (lg_sl ([.ref h0, .int p1]) ++ List.replicate (3 - (lg_sl ([.ref h0, .int p1])).length) Slot.unset).toArray = ls at hl ⊢
  have hl : lv_has ls 3 [(0, .ref h0), (1, .int p1)] := hl
  show W p l e (rmF 3 107) s m ([.ref h0, .int p1] : List Value).toArray below meth c s.heap [] 0 0 (MQ below (QcI z (fun r H => ∃ σ' : Sg, some (r.toInt, σ' o0) = some out ∧ FR σ σ' o0 ∧ TY z (zA z) σ' H ∧ (0 ≤ r.toInt ∧ r.toInt ≤ 1))) ([.ref h0, .int p1] : List Value).toArray s 0 0 (zA z)) (F0 m 0 ls [])
  have hfr : FR σ σ o0 := FR_rf σ o0
  unfold D_X4_number at hF
  have mx_p1 := i_mx p1
  refine lv_aload_n hx hb dX4_number_0 rfl (lv_at hl 0 rfl) ?_
  obtain ⟨v1, s1, hd1, -⟩ := bd2_s hF
  refine cl_Vi (rest := []) hC hK hSK (c_X4_advance l z σ h0 (o0) g0 (v1, s1) hd1) k_X4_advance mw_2_58 ⟨rfl, rfl, Nat.le_of_ble_eq_true rfl, Nat.le_of_ble_eq_true rfl⟩ (rv_Tape hK hT g0) hT rfl hl.1 rfl (Nat.le_of_ble_eq_true rfl) dX4_number_1 ⟨Nat.zero_le _, Nat.zero_le _⟩ hS (fun _ h => h) (fun _ _ h => h) (fun r1 H locs hpo hS => ?_)
  obtain ⟨σ1, he1, hf1, hT, u1_0⟩ := hpo
  have hF := bd2_r hF hd1 he1
  have hfr := FR_tr hf1 hfr
  refine r_if_ne (tgt := 9) hx hb dX4_number_4 (by decide) (fun c4 => ?_) (fun c4 => ?_)
  · have hF := ifn hF c4
    refine lv_aload_n hx hb dX4_number_9 rfl (lv_at hl 0 rfl) ?_
    refine gt_Tape_token hx hb hts ic_Tape hown hK hT g0 (hts _ mw_1_140) dX4_number_10 (fun x10 e10 f10 g10 => ?_)
    have hF := bn hF e10
    refine r_iconst hx hb dX4_number_13 (by decide) (by decide) (fun x13 e13 => ?_)
    have hF := bn hF e13
    refine r_icmp_eq (tgt := 27) hx hb dX4_number_14 (by decide) (fun c14 => ?_) (fun c14 => ?_)
    · have hF := ifp hF c14
      refine lv_aload_n hx hb dX4_number_27 rfl (lv_at hl 0 rfl) ?_
      refine r_iconst hx hb dX4_number_28 (by decide) (by decide) (fun x28 e28 => ?_)
      have hF := bn hF e28
      refine pt_Tape_value hx hb hts ic_Tape hown hK hT hS g0 (hts _ mw_1_142) (by omega) (by omega) dX4_number_29 (fun H locs hT hS => ?_)
      obtain ⟨σ29, hF, hfr, hT⟩ := wrL hF hfr hT
      refine lv_aload_n hx hb dX4_number_32 rfl (lv_at hl 0 rfl) ?_
      refine gt_Tape_start hx hb hts ic_Tape hown hK hT g0 (hts _ mw_1_141) dX4_number_33 (fun x33 e33 f33 g33 => ?_)
      have hF := bn hF e33
      refine lv_istore_n (lv' := [(2, .int x33), (0, .ref h0), (1, .int p1)]) hx hb dX4_number_36 rfl hl (by decide) rfl (fun ls hl => ?_)
      have J37 : ∀ (n37 : Nat) (ls : Array Slot) (H : Heap) (locs : List Loc) (y37_2 : Int32) (σj37 : Sg), (0 ≤ y37_2.toInt ∧ y37_2.toInt ≤ 160) → D_X4_number_37 p1.toInt n37 (σj37 o0) y37_2.toInt = some out → FR σ σj37 o0 → TY z (zA z) σj37 H → va_S (zA z) s.heap H locs → lv_has ls 3 [(0, .ref h0), (1, .int p1), (2, .int y37_2)] → W p l e (rmF 3 107) s m ([.ref h0, .int p1] : List Value).toArray below meth c H locs 0 0 (MQ below (QcI z (fun r H => ∃ σ' : Sg, some (r.toInt, σ' o0) = some out ∧ FR σ σ' o0 ∧ TY z (zA z) σ' H ∧ (0 ≤ r.toInt ∧ r.toInt ≤ 1))) ([.ref h0, .int p1] : List Value).toArray s 0 0 (zA z)) (F0 m 37 ls []) := by
        intro n37
        induction n37 with
        | zero => intro ls H locs y37_2 σj37 j37_y37_2 hF hfr hT hS hl; exact (no_s hF).elim
        | succ n37 ih37 =>
          intro ls H locs y37_2 σj37 j37_y37_2 hF hfr hT hS hl
          rw [D_X4_number_37.eq_2] at hF
          refine lv_iload_n hx hb dX4_number_37 rfl (lv_at hl 2 rfl) ?_
          refine lv_aload_n hx hb dX4_number_38 rfl (lv_at hl 0 rfl) ?_
          refine gt_Tape_next hx hb hts ic_Tape hown hK hT g0 (hts _ mw_1_139) dX4_number_39 (fun x39 e39 f39 g39 => ?_)
          have hF := bn hF e39
          refine r_icmp_ge (tgt := 72) hx hb dX4_number_42 (by decide) (fun c42 => ?_) (fun c42 => ?_)
          · have hF := ifn hF (Int.not_lt.mpr c42)
            refine lv_aload_n hx hb dX4_number_72 rfl (lv_at hl 0 rfl) ?_
            refine gt_Tape_value hx hb hts ic_Tape hown hK hT g0 (hts _ mw_1_142) dX4_number_73 (fun x73 e73 f73 g73 => ?_)
            have hF := bn hF e73
            refine lv_iload_n hx hb dX4_number_76 rfl (lv_at hl 1 rfl) ?_
            have J92 : ∀ (ls : Array Slot) (H : Heap) (locs : List Loc) (σj92 : Sg), (0 ≤ p1.toInt) → D_X4_number_92 (σj92 o0) = some out → FR σ σj92 o0 → TY z (zA z) σj92 H → va_S (zA z) s.heap H locs → lv_has ls 3 [(0, .ref h0), (1, .int p1), (2, .int y37_2)] → W p l e (rmF 3 107) s m ([.ref h0, .int p1] : List Value).toArray below meth c H locs 0 0 (MQ below (QcI z (fun r H => ∃ σ' : Sg, some (r.toInt, σ' o0) = some out ∧ FR σ σ' o0 ∧ TY z (zA z) σ' H ∧ (0 ≤ r.toInt ∧ r.toInt ≤ 1))) ([.ref h0, .int p1] : List Value).toArray s 0 0 (zA z)) (F0 m 92 ls []) := by
              intro ls H locs σj92 j92_p1 hF hfr hT hS hl
              unfold D_X4_number_92 at hF
              refine r_iconst hx hb dX4_number_92 (by decide) (by decide) (fun x92 e92 => ?_)
              have hF := bn hF e92
              refine lv_goto (tgt := 97) hx hb dX4_number_93 (by decide) ?_
              exact rt_z hx hb hr hlk hS (by omega) (by omega) ⟨σj92, hF, hfr, hT, (by omega)⟩ dX4_number_97
            refine r_icmp_le (tgt := 92) hx hb dX4_number_77 (by decide) (fun c77 => ?_) (fun c77 => ?_)
            · have hF := ifn hF (Int.not_lt.mpr c77)
              exact J92 ls _ _ σj37 (by omega) hF hfr hT hS (lv_sub hl [0, 1, 2] rfl)
            · have hF := ifp hF c77
              refine lv_aload_n hx hb dX4_number_80 rfl (lv_at hl 0 rfl) ?_
              refine r_iconst hx hb dX4_number_81 (by decide) (by decide) (fun x81 e81 => ?_)
              have hF := bn hF e81
              refine lv_aload_n hx hb dX4_number_82 rfl (lv_at hl 0 rfl) ?_
              refine gt_Tape_start hx hb hts ic_Tape hown hK hT g0 (hts _ mw_1_141) dX4_number_83 (fun x83 e83 f83 g83 => ?_)
              have hF := bn hF e83
              obtain ⟨v86, s86, hd86, -⟩ := bd2_s hF
              refine cl_Vi (rest := []) hC hK hSK (c_X4_refuse l z σj37 h0 (o0) g0 x81 x83 (v86, s86) hd86 (by omega) (by omega)) k_X4_refuse mw_2_66 ⟨rfl, rfl, Nat.le_of_ble_eq_true rfl, Nat.le_of_ble_eq_true rfl⟩ (rv_Tape hK hT g0) hT rfl hl.1 rfl (Nat.le_of_ble_eq_true rfl) dX4_number_86 ⟨Nat.zero_le _, Nat.zero_le _⟩ hS (fun _ h => h) (fun _ _ h => h) (fun r86 H locs hpo hS => ?_)
              obtain ⟨σ86, he86, hf86, hT, u86_0⟩ := hpo
              have hF := bd2_r hF hd86 he86
              have hfr := FR_tr hf86 hfr
              refine r_if_eq (tgt := 96) hx hb dX4_number_89 (by decide) (fun c89 => ?_) (fun c89 => ?_)
              · have hF := ifp hF c89
                refine r_iconst hx hb dX4_number_96 (by decide) (by decide) (fun x96 e96 => ?_)
                have hF := bn hF e96
                exact rt_z hx hb hr hlk hS (by omega) (by omega) ⟨σ86, hF, hfr, hT, (by omega)⟩ dX4_number_97
              · exfalso; omega
          · have hF := ifp hF c42
            refine lv_aload_n hx hb dX4_number_45 rfl (lv_at hl 0 rfl) ?_
            refine lv_aload_n hx hb dX4_number_46 rfl (lv_at hl 0 rfl) ?_
            refine gt_Tape_value hx hb hts ic_Tape hown hK hT g0 (hts _ mw_1_142) dX4_number_47 (fun x47 e47 f47 g47 => ?_)
            have hF := bn hF e47
            refine r_bipush hx hb dX4_number_50 rfl (fun x50 e50 => ?_)
            have hF := bn hF e50
            refine r_imul (10) (by omega) hx hb dX4_number_52 (by omega) (by omega) (fun x52 e52 => ?_)
            have hF := bn hF e52
            refine lv_aload_n hx hb dX4_number_53 rfl (lv_at hl 0 rfl) ?_
            refine gt_Tape_bytes hx hb hts ic_Tape hown hK hT g0 (hts _ mw_1_129) dX4_number_54 (fun q54 hq54 => ?_)
            refine lv_iload_n hx hb dX4_number_57 rfl (lv_at hl 2 rfl) ?_
            refine al_30 hx hb hK hT hq54 (by omega) (by omega) dX4_number_58 (fun x58 e58 g58 => ?_)
            have hF := bn hF e58
            refine r_iadd hx hb dX4_number_59 (by omega) (by omega) (fun x59 e59 => ?_)
            have hF := bn hF e59
            refine r_bipush hx hb dX4_number_60 rfl (fun x60 e60 => ?_)
            have hF := bn hF e60
            refine r_isub hx hb dX4_number_62 (by omega) (by omega) (fun x62 e62 => ?_)
            have hF := bn hF e62
            obtain ⟨k63, hF⟩ := ck hF
            refine pt_Tape_value hx hb hts ic_Tape hown hK hT hS g0 (hts _ mw_1_142) (by omega) (by omega) dX4_number_63 (fun H locs hT hS => ?_)
            obtain ⟨σ63, hF, hfr, hT⟩ := wrL hF hfr hT
            refine r_iinc (lv' := fun v__ => [(2, .int v__), (0, .ref h0), (1, .int p1)]) hx hb dX4_number_66 hl (k := 2) rfl (by decide) (fun _ => rfl) ⟨by decide, by decide⟩ (by omega) (by omega) (fun x66 ls e66 hl => ?_)
            have hF := bn hF e66
            refine lv_goto (tgt := 37) hx hb dX4_number_69 (by decide) ?_
            exact ih37 ls _ _ x66 σ63 (by omega) hF hfr hT hS (lv_sub hl [1, 2, 0] rfl)
      exact J37 5000 ls _ _ x33 σ29 (by omega) hF hfr hT hS (lv_sub hl [1, 2, 0] rfl)
    · have hF := ifn hF c14
      refine lv_aload_n hx hb dX4_number_17 rfl (lv_at hl 0 rfl) ?_
      refine r_iconst hx hb dX4_number_18 (by decide) (by decide) (fun x18 e18 => ?_)
      have hF := bn hF e18
      refine lv_aload_n hx hb dX4_number_19 rfl (lv_at hl 0 rfl) ?_
      refine gt_Tape_start hx hb hts ic_Tape hown hK hT g0 (hts _ mw_1_141) dX4_number_20 (fun x20 e20 f20 g20 => ?_)
      have hF := bn hF e20
      obtain ⟨v23, s23, hd23, -⟩ := bd2_s hF
      refine cl_Vi (rest := []) hC hK hSK (c_X4_refuse l z σ1 h0 (o0) g0 x18 x20 (v23, s23) hd23 (by omega) (by omega)) k_X4_refuse mw_2_66 ⟨rfl, rfl, Nat.le_of_ble_eq_true rfl, Nat.le_of_ble_eq_true rfl⟩ (rv_Tape hK hT g0) hT rfl hl.1 rfl (Nat.le_of_ble_eq_true rfl) dX4_number_23 ⟨Nat.zero_le _, Nat.zero_le _⟩ hS (fun _ h => h) (fun _ _ h => h) (fun r23 H locs hpo hS => ?_)
      obtain ⟨σ23, he23, hf23, hT, u23_0⟩ := hpo
      have hF := bd2_r hF hd23 he23
      have hfr := FR_tr hf23 hfr
      exact rt_z hx hb hr hlk hS (by omega) (by omega) ⟨σ23, hF, hfr, hT, (by omega)⟩ dX4_number_26
  · have hF := ifp hF c4
    refine r_iconst hx hb dX4_number_7 (by decide) (by decide) (fun x7 e7 => ?_)
    have hF := bn hF e7
    exact rt_z hx hb hr hlk hS (by omega) (by omega) ⟨σ1, hF, hfr, hT, (by omega)⟩ dX4_number_8
theorem k_X4_semicolon : cBV yX4_semicolon cX4_semicolon 1 (some .boolean) 0 := ⟨mw_2_153, ms_0_8, mw_1_2, mw_2_154, ⟨by decide, by decide, by decide⟩⟩
set_option maxHeartbeats 4000000 in
set_option maxRecDepth 100000 in
theorem c_X4_semicolon (l : Launch) (z : Zt) (σ : Sg) (h0 o0 : Nat) (g0 : zG z h0 = (14, o0)) (out : (Int × Lo)) (hF : D_X4_semicolon (σ o0) = some out) : Met l yX4_semicolon (uw yX4_semicolon cX4_semicolon 1 (some .boolean)) (rmF 3 107) (PcW z [.ref h0] (fun H => TY z (zA z) σ H)) (QcI z (fun r H => ∃ σ' : Sg, some (r.toInt, σ' o0) = some out ∧ FR σ σ' o0 ∧ TY z (zA z) σ' H ∧ (0 ≤ r.toInt ∧ r.toInt ≤ 1))) 0 0 (zA z) := by
  refine Met.ofW (cc := cX4_semicolon) (maxL := 1) (ret := (some .boolean)) (by decide) rfl ?_
  intro p e s m args below meth c s₁ B hml hv
  obtain ⟨rfl, hT, hK, hSK⟩ := hv
  have hx := B.exec
  have hb := B.bytes
  have hr := B.returns
  have hts : ∀ w ∈ lw_ok, w.before ([.ref h0] : List Value).toArray s = true := fun w hw => atoms_spec (ws := uw yX4_semicolon cX4_semicolon 1 (some .boolean)) B.pre w (List.mem_cons_of_mem _ hw)
  have hown : s.vm.findClass RX4 = some m.cls := findClass_of_methodNamed B.named
  have hlk := B.notSynchronized
  have hC : CallFix p m c cX4_semicolon 1 s ([.ref h0] : List Value).toArray lw_ok RX4 := ⟨hx, hb, hml, hown, hts⟩
  have hS : va_S (zA z) s.heap s.heap [] := va_S.rf
  have hl := lv_entry ([.ref h0]) (n := 1) (Nat.le_of_ble_eq_true rfl)
  rw [lg_entry_eq]
  generalize (lg_sl ([.ref h0]) ++ List.replicate (1 - (lg_sl ([.ref h0])).length) Slot.unset).toArray = ls at hl ⊢
  have hl : lv_has ls 1 [(0, .ref h0)] := hl
  show W p l e (rmF 3 107) s m ([.ref h0] : List Value).toArray below meth c s.heap [] 0 0 (MQ below (QcI z (fun r H => ∃ σ' : Sg, some (r.toInt, σ' o0) = some out ∧ FR σ σ' o0 ∧ TY z (zA z) σ' H ∧ (0 ≤ r.toInt ∧ r.toInt ≤ 1))) ([.ref h0] : List Value).toArray s 0 0 (zA z)) (F0 m 0 ls [])
  have hfr : FR σ σ o0 := FR_rf σ o0
  unfold D_X4_semicolon at hF
  refine lv_aload_n hx hb dX4_semicolon_0 rfl (lv_at hl 0 rfl) ?_
  obtain ⟨v1, s1, hd1, -⟩ := bd2_s hF
  refine cl_Vi (rest := []) hC hK hSK (c_X4_advance l z σ h0 (o0) g0 (v1, s1) hd1) k_X4_advance mw_2_58 ⟨rfl, rfl, Nat.le_of_ble_eq_true rfl, Nat.le_of_ble_eq_true rfl⟩ (rv_Tape hK hT g0) hT rfl hl.1 rfl (Nat.le_of_ble_eq_true rfl) dX4_semicolon_1 ⟨Nat.zero_le _, Nat.zero_le _⟩ hS (fun _ h => h) (fun _ _ h => h) (fun r1 H locs hpo hS => ?_)
  obtain ⟨σ1, he1, hf1, hT, u1_0⟩ := hpo
  have hF := bd2_r hF hd1 he1
  have hfr := FR_tr hf1 hfr
  refine r_if_ne (tgt := 9) hx hb dX4_semicolon_4 (by decide) (fun c4 => ?_) (fun c4 => ?_)
  · have hF := ifn hF c4
    refine lv_aload_n hx hb dX4_semicolon_9 rfl (lv_at hl 0 rfl) ?_
    refine gt_Tape_token hx hb hts ic_Tape hown hK hT g0 (hts _ mw_1_140) dX4_semicolon_10 (fun x10 e10 f10 g10 => ?_)
    have hF := bn hF e10
    refine r_iconst hx hb dX4_semicolon_13 (by decide) (by decide) (fun x13 e13 => ?_)
    have hF := bn hF e13
    have J29 : ∀ (ls : Array Slot) (H : Heap) (locs : List Loc) (σj29 : Sg), D_X4_semicolon_29 (σj29 o0) = some out → FR σ σj29 o0 → TY z (zA z) σj29 H → va_S (zA z) s.heap H locs → lv_has ls 1 [(0, .ref h0)] → W p l e (rmF 3 107) s m ([.ref h0] : List Value).toArray below meth c H locs 0 0 (MQ below (QcI z (fun r H => ∃ σ' : Sg, some (r.toInt, σ' o0) = some out ∧ FR σ σ' o0 ∧ TY z (zA z) σ' H ∧ (0 ≤ r.toInt ∧ r.toInt ≤ 1))) ([.ref h0] : List Value).toArray s 0 0 (zA z)) (F0 m 29 ls []) := by
      intro ls H locs σj29 hF hfr hT hS hl
      unfold D_X4_semicolon_29 at hF
      refine r_iconst hx hb dX4_semicolon_29 (by decide) (by decide) (fun x29 e29 => ?_)
      have hF := bn hF e29
      refine lv_goto (tgt := 34) hx hb dX4_semicolon_30 (by decide) ?_
      exact rt_z hx hb hr hlk hS (by omega) (by omega) ⟨σj29, hF, hfr, hT, (by omega)⟩ dX4_semicolon_34
    refine r_icmp_eq (tgt := 29) hx hb dX4_semicolon_14 (by decide) (fun c14 => ?_) (fun c14 => ?_)
    · have hF := ifp hF c14
      exact J29 ls _ _ σ1 hF hfr hT hS (lv_sub hl [0] rfl)
    · have hF := ifn hF c14
      refine lv_aload_n hx hb dX4_semicolon_17 rfl (lv_at hl 0 rfl) ?_
      refine r_iconst hx hb dX4_semicolon_18 (by decide) (by decide) (fun x18 e18 => ?_)
      have hF := bn hF e18
      refine lv_aload_n hx hb dX4_semicolon_19 rfl (lv_at hl 0 rfl) ?_
      refine gt_Tape_start hx hb hts ic_Tape hown hK hT g0 (hts _ mw_1_141) dX4_semicolon_20 (fun x20 e20 f20 g20 => ?_)
      have hF := bn hF e20
      obtain ⟨v23, s23, hd23, -⟩ := bd2_s hF
      refine cl_Vi (rest := []) hC hK hSK (c_X4_refuse l z σ1 h0 (o0) g0 x18 x20 (v23, s23) hd23 (by omega) (by omega)) k_X4_refuse mw_2_66 ⟨rfl, rfl, Nat.le_of_ble_eq_true rfl, Nat.le_of_ble_eq_true rfl⟩ (rv_Tape hK hT g0) hT rfl hl.1 rfl (Nat.le_of_ble_eq_true rfl) dX4_semicolon_23 ⟨Nat.zero_le _, Nat.zero_le _⟩ hS (fun _ h => h) (fun _ _ h => h) (fun r23 H locs hpo hS => ?_)
      obtain ⟨σ23, he23, hf23, hT, u23_0⟩ := hpo
      have hF := bd2_r hF hd23 he23
      have hfr := FR_tr hf23 hfr
      refine r_if_eq (tgt := 33) hx hb dX4_semicolon_26 (by decide) (fun c26 => ?_) (fun c26 => ?_)
      · have hF := ifp hF c26
        refine r_iconst hx hb dX4_semicolon_33 (by decide) (by decide) (fun x33 e33 => ?_)
        have hF := bn hF e33
        exact rt_z hx hb hr hlk hS (by omega) (by omega) ⟨σ23, hF, hfr, hT, (by omega)⟩ dX4_semicolon_34
      · exfalso; omega
  · have hF := ifp hF c4
    refine r_iconst hx hb dX4_semicolon_7 (by decide) (by decide) (fun x7 e7 => ?_)
    have hF := bn hF e7
    exact rt_z hx hb hr hlk hS (by omega) (by omega) ⟨σ1, hF, hfr, hT, (by omega)⟩ dX4_semicolon_8
theorem k_X4_manLine : cBV yX4_manLine cX4_manLine 3 (some .boolean) 1 := ⟨mw_2_141, ms_0_6, mw_1_2, mw_2_142, ⟨by decide, by decide, by decide⟩⟩
set_option maxHeartbeats 4000000 in
set_option maxRecDepth 100000 in
theorem c_X4_manLine (l : Launch) (z : Zt) (σ : Sg) (h0 o0 : Nat) (g0 : zG z h0 = (14, o0)) (p1 : Int32) (out : (Int × Lo)) (hF : D_X4_manLine (σ o0) p1.toInt = some out) : Met l yX4_manLine (uw yX4_manLine cX4_manLine 3 (some .boolean)) (rmF 4 129) (PcW z [.ref h0, .int p1] (fun H => TY z (zA z) σ H)) (QcI z (fun r H => ∃ σ' : Sg, some (r.toInt, σ' o0) = some out ∧ FR σ σ' o0 ∧ TY z (zA z) σ' H ∧ (0 ≤ r.toInt ∧ r.toInt ≤ 1))) 0 0 (zA z) := by
  refine Met.ofW (cc := cX4_manLine) (maxL := 3) (ret := (some .boolean)) (by decide) rfl ?_
  intro p e s m args below meth c s₁ B hml hv
  obtain ⟨rfl, hT, hK, hSK⟩ := hv
  have hx := B.exec
  have hb := B.bytes
  have hr := B.returns
  have hts : ∀ w ∈ lw_ok, w.before ([.ref h0, .int p1] : List Value).toArray s = true := fun w hw => atoms_spec (ws := uw yX4_manLine cX4_manLine 3 (some .boolean)) B.pre w (List.mem_cons_of_mem _ hw)
  have hown : s.vm.findClass RX4 = some m.cls := findClass_of_methodNamed B.named
  have hlk := B.notSynchronized
  have hC : CallFix p m c cX4_manLine 3 s ([.ref h0, .int p1] : List Value).toArray lw_ok RX4 := ⟨hx, hb, hml, hown, hts⟩
  have hS : va_S (zA z) s.heap s.heap [] := va_S.rf
  have hl := lv_entry ([.ref h0, .int p1]) (n := 3) (Nat.le_of_ble_eq_true rfl)
  rw [lg_entry_eq]
  generalize (lg_sl ([.ref h0, .int p1]) ++ List.replicate (3 - (lg_sl ([.ref h0, .int p1])).length) Slot.unset).toArray = ls at hl ⊢
  have hl : lv_has ls 3 [(0, .ref h0), (1, .int p1)] := hl
  show W p l e (rmF 4 129) s m ([.ref h0, .int p1] : List Value).toArray below meth c s.heap [] 0 0 (MQ below (QcI z (fun r H => ∃ σ' : Sg, some (r.toInt, σ' o0) = some out ∧ FR σ σ' o0 ∧ TY z (zA z) σ' H ∧ (0 ≤ r.toInt ∧ r.toInt ≤ 1))) ([.ref h0, .int p1] : List Value).toArray s 0 0 (zA z)) (F0 m 0 ls [])
  have hfr : FR σ σ o0 := FR_rf σ o0
  unfold D_X4_manLine at hF
  have mx_p1 := i_mx p1
  refine lv_aload_n hx hb dX4_manLine_0 rfl (lv_at hl 0 rfl) ?_
  refine gt_Tape_draft hx hb hts ic_Tape hown hK hT g0 (hts _ mw_1_131) dX4_manLine_1 (fun q1 hq1 => ?_)
  refine gt_Evening_floor hx hb hts ic_Evening hown hK hT hq1 (hts _ mw_1_92) dX4_manLine_4 (fun q4 hq4 => ?_)
  refine gt_Floor_men hx hb hts ic_Floor hown hK hT hq4 (hts _ mw_1_63) dX4_manLine_7 (fun x7 e7 f7 g7 => ?_)
  have hF := bn hF e7
  refine r_iconst hx hb dX4_manLine_10 (by decide) (by decide) (fun x10 e10 => ?_)
  have hF := bn hF e10
  refine r_icmp_lt (tgt := 24) hx hb dX4_manLine_11 (by decide) (fun c11 => ?_) (fun c11 => ?_)
  · have hF := ifp hF c11
    refine lv_aload_n hx hb dX4_manLine_24 rfl (lv_at hl 0 rfl) ?_
    refine r_bipush hx hb dX4_manLine_25 rfl (fun x25 e25 => ?_)
    have hF := bn hF e25
    obtain ⟨v27, s27, hd27, -⟩ := bd2_s hF
    refine cl_Vi (rest := []) hC hK hSK (c_X4_number l z σ h0 (o0) g0 x25 (v27, s27) hd27) k_X4_number mw_2_143 ⟨rfl, rfl, Nat.le_of_ble_eq_true rfl, Nat.le_of_ble_eq_true rfl⟩ (rv_Tape hK hT g0) hT rfl hl.1 rfl (Nat.le_of_ble_eq_true rfl) dX4_manLine_27 ⟨Nat.zero_le _, Nat.zero_le _⟩ hS (fun _ h => h) (fun _ _ h => h) (fun r27 H locs hpo hS => ?_)
    obtain ⟨σ27, he27, hf27, hT, u27_0⟩ := hpo
    have hF := bd2_r hF hd27 he27
    have hfr := FR_tr hf27 hfr
    refine r_if_ne (tgt := 35) hx hb dX4_manLine_30 (by decide) (fun c30 => ?_) (fun c30 => ?_)
    · have hF := ifn hF c30
      refine lv_aload_n hx hb dX4_manLine_35 rfl (lv_at hl 0 rfl) ?_
      refine gt_Tape_value hx hb hts ic_Tape hown hK hT g0 (hts _ mw_1_142) dX4_manLine_36 (fun x36 e36 f36 g36 => ?_)
      have hF := bn hF e36
      refine lv_istore_n (lv' := [(2, .int x36), (0, .ref h0), (1, .int p1)]) hx hb dX4_manLine_39 rfl hl (by decide) rfl (fun ls hl => ?_)
      refine lv_aload_n hx hb dX4_manLine_40 rfl (lv_at hl 1 rfl) ?_
      refine r_bipush hx hb dX4_manLine_41 rfl (fun x41 e41 => ?_)
      have hF := bn hF e41
      obtain ⟨v43, s43, hd43, -⟩ := bd2_s hF
      refine cl_Vi (rest := []) hC hK hSK (c_X4_number l z σ27 h0 (o0) g0 x41 (v43, s43) hd43) k_X4_number mw_2_143 ⟨rfl, rfl, Nat.le_of_ble_eq_true rfl, Nat.le_of_ble_eq_true rfl⟩ (rv_Tape hK hT g0) hT rfl hl.1 rfl (Nat.le_of_ble_eq_true rfl) dX4_manLine_43 ⟨Nat.zero_le _, Nat.zero_le _⟩ hS (fun _ h => h) (fun _ _ h => h) (fun r43 H locs hpo hS => ?_)
      obtain ⟨σ43, he43, hf43, hT, u43_0⟩ := hpo
      have hF := bd2_r hF hd43 he43
      have hfr := FR_tr hf43 hfr
      refine r_if_ne (tgt := 51) hx hb dX4_manLine_46 (by decide) (fun c46 => ?_) (fun c46 => ?_)
      · have hF := ifn hF c46
        refine lv_aload_n hx hb dX4_manLine_51 rfl (lv_at hl 1 rfl) ?_
        refine gt_Tape_draft hx hb hts ic_Tape hown hK hT g0 (hts _ mw_1_131) dX4_manLine_52 (fun q52 hq52 => ?_)
        refine gt_Evening_floor hx hb hts ic_Evening hown hK hT hq52 (hts _ mw_1_92) dX4_manLine_55 (fun q55 hq55 => ?_)
        refine lv_iload_n hx hb dX4_manLine_58 rfl (lv_at hl 2 rfl) ?_
        refine lv_iload_n hx hb dX4_manLine_59 rfl (lv_at hl 0 rfl) ?_
        refine lv_aload_n hx hb dX4_manLine_60 rfl (lv_at hl 1 rfl) ?_
        refine gt_Tape_value hx hb hts ic_Tape hown hK hT g0 (hts _ mw_1_142) dX4_manLine_61 (fun x61 e61 f61 g61 => ?_)
        have hF := bn hF e61
        obtain ⟨ka64_1, hF⟩ := ck hF
        obtain ⟨ka64_2, hF⟩ := ck hF
        obtain ⟨s64, hd64, -⟩ := bd1_s hF
        refine cl_Vv (rest := []) hC hK hSK (c_X1_addMan l z σ43 q55 (o0) hq55 p1 x36 x61 s64 hd64 (by omega) (by omega)) k_X1_addMan mw_2_147 ⟨rfl, rfl, Nat.le_of_ble_eq_true rfl, Nat.le_of_ble_eq_true rfl⟩ (rv_Floor hK hT hq55) hT rfl hl.1 rfl (Nat.le_of_ble_eq_true rfl) dX4_manLine_64 ⟨Nat.zero_le _, Nat.zero_le _⟩ hS (fun _ h => h) (fun _ _ h => h) (fun H locs hpo hS => ?_)
        obtain ⟨σ64, he64, hf64, hT⟩ := hpo
        have hF := bd1_r hF hd64 he64
        have hfr := FR_tr hf64 hfr
        refine lv_aload_n hx hb dX4_manLine_67 rfl (lv_at hl 1 rfl) ?_
        obtain ⟨v68, s68, hd68, -⟩ := bd2_s hF
        refine cl_Vi (rest := []) hC hK hSK (c_X4_semicolon l z σ64 h0 (o0) g0 (v68, s68) hd68) k_X4_semicolon mw_2_151 ⟨rfl, rfl, Nat.le_of_ble_eq_true rfl, Nat.le_of_ble_eq_true rfl⟩ (rv_Tape hK hT g0) hT rfl hl.1 rfl (Nat.le_of_ble_eq_true rfl) dX4_manLine_68 ⟨Nat.zero_le _, Nat.zero_le _⟩ hS (fun _ h => h) (fun _ _ h => h) (fun r68 H locs hpo hS => ?_)
        obtain ⟨σ68, he68, hf68, hT, u68_0⟩ := hpo
        have hF := bd2_r hF hd68 he68
        have hfr := FR_tr hf68 hfr
        exact rt_z hx hb hr hlk hS (by omega) (by omega) ⟨σ68, hF, hfr, hT, (by omega)⟩ dX4_manLine_71
      · have hF := ifp hF c46
        refine r_iconst hx hb dX4_manLine_49 (by decide) (by decide) (fun x49 e49 => ?_)
        have hF := bn hF e49
        exact rt_z hx hb hr hlk hS (by omega) (by omega) ⟨σ43, hF, hfr, hT, (by omega)⟩ dX4_manLine_50
    · have hF := ifp hF c30
      refine r_iconst hx hb dX4_manLine_33 (by decide) (by decide) (fun x33 e33 => ?_)
      have hF := bn hF e33
      exact rt_z hx hb hr hlk hS (by omega) (by omega) ⟨σ27, hF, hfr, hT, (by omega)⟩ dX4_manLine_34
  · have hF := ifn hF (Int.not_lt.mpr c11)
    refine lv_aload_n hx hb dX4_manLine_14 rfl (lv_at hl 0 rfl) ?_
    refine r_iconst hx hb dX4_manLine_15 (by decide) (by decide) (fun x15 e15 => ?_)
    have hF := bn hF e15
    refine lv_aload_n hx hb dX4_manLine_16 rfl (lv_at hl 0 rfl) ?_
    refine gt_Tape_start hx hb hts ic_Tape hown hK hT g0 (hts _ mw_1_141) dX4_manLine_17 (fun x17 e17 f17 g17 => ?_)
    have hF := bn hF e17
    obtain ⟨v20, s20, hd20, -⟩ := bd2_s hF
    refine cl_Vi (rest := []) hC hK hSK (c_X4_refuse l z σ h0 (o0) g0 x15 x17 (v20, s20) hd20 (by omega) (by omega)) k_X4_refuse mw_2_66 ⟨rfl, rfl, Nat.le_of_ble_eq_true rfl, Nat.le_of_ble_eq_true rfl⟩ (rv_Tape hK hT g0) hT rfl hl.1 rfl (Nat.le_of_ble_eq_true rfl) dX4_manLine_20 ⟨Nat.zero_le _, Nat.zero_le _⟩ hS (fun _ h => h) (fun _ _ h => h) (fun r20 H locs hpo hS => ?_)
    obtain ⟨σ20, he20, hf20, hT, u20_0⟩ := hpo
    have hF := bd2_r hF hd20 he20
    have hfr := FR_tr hf20 hfr
    exact rt_z hx hb hr hlk hS (by omega) (by omega) ⟨σ20, hF, hfr, hT, (by omega)⟩ dX4_manLine_23
theorem k_X4_cousinsLine : cBV yX4_cousinsLine cX4_cousinsLine 2 (some .boolean) 0 := ⟨mw_2_157, ms_0_9, mw_1_2, mw_2_158, ⟨by decide, by decide, by decide⟩⟩
set_option maxHeartbeats 4000000 in
set_option maxRecDepth 100000 in
theorem c_X4_cousinsLine (l : Launch) (z : Zt) (σ : Sg) (h0 o0 : Nat) (g0 : zG z h0 = (14, o0)) (out : (Int × Lo)) (hF : D_X4_cousinsLine (σ o0) = some out) : Met l yX4_cousinsLine (uw yX4_cousinsLine cX4_cousinsLine 2 (some .boolean)) (rmF 4 129) (PcW z [.ref h0] (fun H => TY z (zA z) σ H)) (QcI z (fun r H => ∃ σ' : Sg, some (r.toInt, σ' o0) = some out ∧ FR σ σ' o0 ∧ TY z (zA z) σ' H ∧ (0 ≤ r.toInt ∧ r.toInt ≤ 1))) 0 0 (zA z) := by
  refine Met.ofW (cc := cX4_cousinsLine) (maxL := 2) (ret := (some .boolean)) (by decide) rfl ?_
  intro p e s m args below meth c s₁ B hml hv
  obtain ⟨rfl, hT, hK, hSK⟩ := hv
  have hx := B.exec
  have hb := B.bytes
  have hr := B.returns
  have hts : ∀ w ∈ lw_ok, w.before ([.ref h0] : List Value).toArray s = true := fun w hw => atoms_spec (ws := uw yX4_cousinsLine cX4_cousinsLine 2 (some .boolean)) B.pre w (List.mem_cons_of_mem _ hw)
  have hown : s.vm.findClass RX4 = some m.cls := findClass_of_methodNamed B.named
  have hlk := B.notSynchronized
  have hC : CallFix p m c cX4_cousinsLine 2 s ([.ref h0] : List Value).toArray lw_ok RX4 := ⟨hx, hb, hml, hown, hts⟩
  have hS : va_S (zA z) s.heap s.heap [] := va_S.rf
  have hl := lv_entry ([.ref h0]) (n := 2) (Nat.le_of_ble_eq_true rfl)
  rw [lg_entry_eq]
  generalize (lg_sl ([.ref h0]) ++ List.replicate (2 - (lg_sl ([.ref h0])).length) Slot.unset).toArray = ls at hl ⊢
  have hl : lv_has ls 2 [(0, .ref h0)] := hl
  show W p l e (rmF 4 129) s m ([.ref h0] : List Value).toArray below meth c s.heap [] 0 0 (MQ below (QcI z (fun r H => ∃ σ' : Sg, some (r.toInt, σ' o0) = some out ∧ FR σ σ' o0 ∧ TY z (zA z) σ' H ∧ (0 ≤ r.toInt ∧ r.toInt ≤ 1))) ([.ref h0] : List Value).toArray s 0 0 (zA z)) (F0 m 0 ls [])
  have hfr : FR σ σ o0 := FR_rf σ o0
  unfold D_X4_cousinsLine at hF
  refine lv_aload_n hx hb dX4_cousinsLine_0 rfl (lv_at hl 0 rfl) ?_
  refine gt_Tape_draft hx hb hts ic_Tape hown hK hT g0 (hts _ mw_1_131) dX4_cousinsLine_1 (fun q1 hq1 => ?_)
  obtain ⟨v4, hd4, -⟩ := bd0_s hF
  refine cl_Vi (rest := []) hC hK hSK (c_X0_allKin l z σ q1 (o0) hq1 v4 hd4) k_X0_allKin mw_2_159 ⟨rfl, rfl, Nat.le_of_ble_eq_true rfl, Nat.le_of_ble_eq_true rfl⟩ (rv_Evening hK hT hq1) hT rfl hl.1 rfl (Nat.le_of_ble_eq_true rfl) dX4_cousinsLine_4 ⟨Nat.zero_le _, Nat.zero_le _⟩ hS (fun _ h => h) (fun _ _ h => h) (fun r4 H locs hpo hS => ?_)
  obtain ⟨he4, hT⟩ := hpo
  have hF := bd0_r hF hd4 he4
  refine r_bipush hx hb dX4_cousinsLine_7 rfl (fun x7 e7 => ?_)
  have hF := bn hF e7
  refine r_icmp_lt (tgt := 22) hx hb dX4_cousinsLine_9 (by decide) (fun c9 => ?_) (fun c9 => ?_)
  · have hF := ifp hF c9
    refine lv_aload_n hx hb dX4_cousinsLine_22 rfl (lv_at hl 0 rfl) ?_
    refine r_iconst hx hb dX4_cousinsLine_23 (by decide) (by decide) (fun x23 e23 => ?_)
    have hF := bn hF e23
    obtain ⟨v24, s24, hd24, -⟩ := bd2_s hF
    refine cl_Vi (rest := []) hC hK hSK (c_X4_number l z σ h0 (o0) g0 x23 (v24, s24) hd24) k_X4_number mw_2_143 ⟨rfl, rfl, Nat.le_of_ble_eq_true rfl, Nat.le_of_ble_eq_true rfl⟩ (rv_Tape hK hT g0) hT rfl hl.1 rfl (Nat.le_of_ble_eq_true rfl) dX4_cousinsLine_24 ⟨Nat.zero_le _, Nat.zero_le _⟩ hS (fun _ h => h) (fun _ _ h => h) (fun r24 H locs hpo hS => ?_)
    obtain ⟨σ24, he24, hf24, hT, u24_0⟩ := hpo
    have hF := bd2_r hF hd24 he24
    have hfr := FR_tr hf24 hfr
    refine r_if_ne (tgt := 32) hx hb dX4_cousinsLine_27 (by decide) (fun c27 => ?_) (fun c27 => ?_)
    · have hF := ifn hF c27
      refine lv_aload_n hx hb dX4_cousinsLine_32 rfl (lv_at hl 0 rfl) ?_
      refine gt_Tape_value hx hb hts ic_Tape hown hK hT g0 (hts _ mw_1_142) dX4_cousinsLine_33 (fun x33 e33 f33 g33 => ?_)
      have hF := bn hF e33
      refine lv_istore_n (lv' := [(1, .int x33), (0, .ref h0)]) hx hb dX4_cousinsLine_36 rfl hl (by decide) rfl (fun ls hl => ?_)
      refine lv_aload_n hx hb dX4_cousinsLine_37 rfl (lv_at hl 1 rfl) ?_
      refine r_iconst hx hb dX4_cousinsLine_38 (by decide) (by decide) (fun x38 e38 => ?_)
      have hF := bn hF e38
      obtain ⟨v39, s39, hd39, -⟩ := bd2_s hF
      refine cl_Vi (rest := []) hC hK hSK (c_X4_number l z σ24 h0 (o0) g0 x38 (v39, s39) hd39) k_X4_number mw_2_143 ⟨rfl, rfl, Nat.le_of_ble_eq_true rfl, Nat.le_of_ble_eq_true rfl⟩ (rv_Tape hK hT g0) hT rfl hl.1 rfl (Nat.le_of_ble_eq_true rfl) dX4_cousinsLine_39 ⟨Nat.zero_le _, Nat.zero_le _⟩ hS (fun _ h => h) (fun _ _ h => h) (fun r39 H locs hpo hS => ?_)
      obtain ⟨σ39, he39, hf39, hT, u39_0⟩ := hpo
      have hF := bd2_r hF hd39 he39
      have hfr := FR_tr hf39 hfr
      refine r_if_ne (tgt := 47) hx hb dX4_cousinsLine_42 (by decide) (fun c42 => ?_) (fun c42 => ?_)
      · have hF := ifn hF c42
        refine lv_aload_n hx hb dX4_cousinsLine_47 rfl (lv_at hl 1 rfl) ?_
        refine gt_Tape_draft hx hb hts ic_Tape hown hK hT g0 (hts _ mw_1_131) dX4_cousinsLine_48 (fun q48 hq48 => ?_)
        refine lv_iload_n hx hb dX4_cousinsLine_51 rfl (lv_at hl 0 rfl) ?_
        refine lv_aload_n hx hb dX4_cousinsLine_52 rfl (lv_at hl 1 rfl) ?_
        refine gt_Tape_value hx hb hts ic_Tape hown hK hT g0 (hts _ mw_1_142) dX4_cousinsLine_53 (fun x53 e53 f53 g53 => ?_)
        have hF := bn hF e53
        obtain ⟨ka56_0, hF⟩ := ck hF
        obtain ⟨v56, hd56, -⟩ := bd0_s hF
        refine cl_Vi (rest := []) hC hK hSK (c_X0_areKin l z σ39 q48 (o0) hq48 x33 x53 v56 hd56 (by omega)) k_X0_areKin mw_2_169 ⟨rfl, rfl, Nat.le_of_ble_eq_true rfl, Nat.le_of_ble_eq_true rfl⟩ (rv_Evening hK hT hq48) hT rfl hl.1 rfl (Nat.le_of_ble_eq_true rfl) dX4_cousinsLine_56 ⟨Nat.zero_le _, Nat.zero_le _⟩ hS (fun _ h => h) (fun _ _ h => h) (fun r56 H locs hpo hS => ?_)
        obtain ⟨he56, hT, u56_0⟩ := hpo
        have hF := bd0_r hF hd56 he56
        refine r_if_eq (tgt := 72) hx hb dX4_cousinsLine_59 (by decide) (fun c59 => ?_) (fun c59 => ?_)
        · have hF := ifp hF c59
          refine lv_aload_n hx hb dX4_cousinsLine_72 rfl (lv_at hl 1 rfl) ?_
          refine gt_Tape_draft hx hb hts ic_Tape hown hK hT g0 (hts _ mw_1_131) dX4_cousinsLine_73 (fun q73 hq73 => ?_)
          refine gt_Evening_kin hx hb hts ic_Evening hown hK hT hq73 (hts _ mw_1_94) dX4_cousinsLine_76 (fun q76 hq76 => ?_)
          refine lv_iload_n hx hb dX4_cousinsLine_79 rfl (lv_at hl 0 rfl) ?_
          refine lv_dup2_11 hx hb dX4_cousinsLine_80 rfl rfl ?_
          refine al_20 hx hb hK hT hq76 (by omega) (by omega) dX4_cousinsLine_81 (fun x81 e81 => ?_)
          have hF := bn hF e81
          refine r_iconst hx hb dX4_cousinsLine_82 (by decide) (by decide) (fun x82 e82 => ?_)
          have hF := bn hF e82
          refine lv_aload_n hx hb dX4_cousinsLine_83 rfl (lv_at hl 1 rfl) ?_
          refine gt_Tape_value hx hb hts ic_Tape hown hK hT g0 (hts _ mw_1_142) dX4_cousinsLine_84 (fun x84 e84 f84 g84 => ?_)
          have hF := bn hF e84
          refine x_ishl hx hb dX4_cousinsLine_87 (fun x87 e87 => ?_)
          have hF := bn hF e87
          refine x_ior hx hb dX4_cousinsLine_88 (fun x88 e88 => ?_)
          have hF := bn hF e88
          refine as_20 hx hb hK hT hS hq76 (by omega) (by omega) dX4_cousinsLine_89 (fun H locs hT hS => ?_)
          obtain ⟨σ89, hF, hfr, hT⟩ := wrL hF hfr hT
          refine lv_aload_n hx hb dX4_cousinsLine_90 rfl (lv_at hl 1 rfl) ?_
          obtain ⟨v91, s91, hd91, -⟩ := bd2_s hF
          refine cl_Vi (rest := []) hC hK hSK (c_X4_semicolon l z σ89 h0 (o0) g0 (v91, s91) hd91) k_X4_semicolon mw_2_151 ⟨rfl, rfl, Nat.le_of_ble_eq_true rfl, Nat.le_of_ble_eq_true rfl⟩ (rv_Tape hK hT g0) hT rfl hl.1 rfl (Nat.le_of_ble_eq_true rfl) dX4_cousinsLine_91 ⟨Nat.zero_le _, Nat.zero_le _⟩ hS (fun _ h => h) (fun _ _ h => h) (fun r91 H locs hpo hS => ?_)
          obtain ⟨σ91, he91, hf91, hT, u91_0⟩ := hpo
          have hF := bd2_r hF hd91 he91
          have hfr := FR_tr hf91 hfr
          exact rt_z hx hb hr hlk hS (by omega) (by omega) ⟨σ91, hF, hfr, hT, (by omega)⟩ dX4_cousinsLine_94
        · have hF := ifn hF c59
          refine lv_aload_n hx hb dX4_cousinsLine_62 rfl (lv_at hl 1 rfl) ?_
          refine r_iconst hx hb dX4_cousinsLine_63 (by decide) (by decide) (fun x63 e63 => ?_)
          have hF := bn hF e63
          refine lv_aload_n hx hb dX4_cousinsLine_64 rfl (lv_at hl 1 rfl) ?_
          refine gt_Tape_start hx hb hts ic_Tape hown hK hT g0 (hts _ mw_1_141) dX4_cousinsLine_65 (fun x65 e65 f65 g65 => ?_)
          have hF := bn hF e65
          obtain ⟨v68, s68, hd68, -⟩ := bd2_s hF
          refine cl_Vi (rest := []) hC hK hSK (c_X4_refuse l z σ39 h0 (o0) g0 x63 x65 (v68, s68) hd68 (by omega) (by omega)) k_X4_refuse mw_2_66 ⟨rfl, rfl, Nat.le_of_ble_eq_true rfl, Nat.le_of_ble_eq_true rfl⟩ (rv_Tape hK hT g0) hT rfl hl.1 rfl (Nat.le_of_ble_eq_true rfl) dX4_cousinsLine_68 ⟨Nat.zero_le _, Nat.zero_le _⟩ hS (fun _ h => h) (fun _ _ h => h) (fun r68 H locs hpo hS => ?_)
          obtain ⟨σ68, he68, hf68, hT, u68_0⟩ := hpo
          have hF := bd2_r hF hd68 he68
          have hfr := FR_tr hf68 hfr
          exact rt_z hx hb hr hlk hS (by omega) (by omega) ⟨σ68, hF, hfr, hT, (by omega)⟩ dX4_cousinsLine_71
      · have hF := ifp hF c42
        refine r_iconst hx hb dX4_cousinsLine_45 (by decide) (by decide) (fun x45 e45 => ?_)
        have hF := bn hF e45
        exact rt_z hx hb hr hlk hS (by omega) (by omega) ⟨σ39, hF, hfr, hT, (by omega)⟩ dX4_cousinsLine_46
    · have hF := ifp hF c27
      refine r_iconst hx hb dX4_cousinsLine_30 (by decide) (by decide) (fun x30 e30 => ?_)
      have hF := bn hF e30
      exact rt_z hx hb hr hlk hS (by omega) (by omega) ⟨σ24, hF, hfr, hT, (by omega)⟩ dX4_cousinsLine_31
  · have hF := ifn hF (Int.not_lt.mpr c9)
    refine lv_aload_n hx hb dX4_cousinsLine_12 rfl (lv_at hl 0 rfl) ?_
    refine r_iconst hx hb dX4_cousinsLine_13 (by decide) (by decide) (fun x13 e13 => ?_)
    have hF := bn hF e13
    refine lv_aload_n hx hb dX4_cousinsLine_14 rfl (lv_at hl 0 rfl) ?_
    refine gt_Tape_start hx hb hts ic_Tape hown hK hT g0 (hts _ mw_1_141) dX4_cousinsLine_15 (fun x15 e15 f15 g15 => ?_)
    have hF := bn hF e15
    obtain ⟨v18, s18, hd18, -⟩ := bd2_s hF
    refine cl_Vi (rest := []) hC hK hSK (c_X4_refuse l z σ h0 (o0) g0 x13 x15 (v18, s18) hd18 (by omega) (by omega)) k_X4_refuse mw_2_66 ⟨rfl, rfl, Nat.le_of_ble_eq_true rfl, Nat.le_of_ble_eq_true rfl⟩ (rv_Tape hK hT g0) hT rfl hl.1 rfl (Nat.le_of_ble_eq_true rfl) dX4_cousinsLine_18 ⟨Nat.zero_le _, Nat.zero_le _⟩ hS (fun _ h => h) (fun _ _ h => h) (fun r18 H locs hpo hS => ?_)
    obtain ⟨σ18, he18, hf18, hT, u18_0⟩ := hpo
    have hF := bd2_r hF hd18 he18
    have hfr := FR_tr hf18 hfr
    exact rt_z hx hb hr hlk hS (by omega) (by omega) ⟨σ18, hF, hfr, hT, (by omega)⟩ dX4_cousinsLine_21
theorem k_X4_isWord : cBV yX4_isWord cX4_isWord 3 (some .boolean) 1 := ⟨mw_2_89, ms_0_5, mw_1_2, mw_2_90, ⟨by decide, by decide, by decide⟩⟩
set_option maxHeartbeats 4000000 in
set_option maxRecDepth 100000 in
theorem c_X4_isWord (l : Launch) (z : Zt) (σ : Sg) (h0 o0 : Nat) (g0 : zG z h0 = (14, o0)) (ra1 ts wd : Nat) (out : Int) (hF : D_X4_isWord (σ o0) wd = some out) : Met l yX4_isWord (uw yX4_isWord cX4_isWord 3 (some .boolean)) (rmF 5 230) (PcS z [.ref h0, .ref ra1] (fun H => TY z (zA z) σ H) ra1 ts wd) (QcI z (fun r H => some r.toInt = some out ∧ TY z (zA z) σ H ∧ (0 ≤ r.toInt ∧ r.toInt ≤ 1))) 0 0 (zA z) := by
  refine Met.ofW (cc := cX4_isWord) (maxL := 3) (ret := (some .boolean)) (by decide) rfl ?_
  intro p e s m args below meth c s₁ B hml hv
  obtain ⟨rfl, hT, hK, hSK, hsq⟩ := hv
  have hx := B.exec
  have hb := B.bytes
  have hr := B.returns
  have hts : ∀ w ∈ lw_ok, w.before ([.ref h0, .ref ra1] : List Value).toArray s = true := fun w hw => atoms_spec (ws := uw yX4_isWord cX4_isWord 3 (some .boolean)) B.pre w (List.mem_cons_of_mem _ hw)
  have hown : s.vm.findClass RX4 = some m.cls := findClass_of_methodNamed B.named
  have hlk := B.notSynchronized
  have hC : CallFix p m c cX4_isWord 3 s ([.ref h0, .ref ra1] : List Value).toArray lw_ok RX4 := ⟨hx, hb, hml, hown, hts⟩
  have hS : va_S (zA z) s.heap s.heap [] := va_S.rf
  have hl := lv_entry ([.ref h0, .ref ra1]) (n := 3) (Nat.le_of_ble_eq_true rfl)
  rw [lg_entry_eq]
  generalize (lg_sl ([.ref h0, .ref ra1]) ++ List.replicate (3 - (lg_sl ([.ref h0, .ref ra1])).length) Slot.unset).toArray = ls at hl ⊢
  have hl : lv_has ls 3 [(0, .ref h0), (1, .ref ra1)] := hl
  show W p l e (rmF 5 230) s m ([.ref h0, .ref ra1] : List Value).toArray below meth c s.heap [] 0 0 (MQ below (QcI z (fun r H => some r.toInt = some out ∧ TY z (zA z) σ H ∧ (0 ≤ r.toInt ∧ r.toInt ≤ 1))) ([.ref h0, .ref ra1] : List Value).toArray s 0 0 (zA z)) (F0 m 0 ls [])
  have sN := hsq.1
  unfold D_X4_isWord at hF
  refine lv_aload_n hx hb dX4_isWord_0 rfl (lv_at hl 1 rfl) ?_
  refine cs_Vi (rest := []) hC hK hSK hsq (c_J0_length_8abf5 l z σ ra1 ts wd) k_J0_length_8abf5 mw_2_91 ⟨rfl, rfl, Nat.le_of_ble_eq_true rfl, Nat.le_of_ble_eq_true rfl⟩ (vk_rv hsq hS) hT rfl hl.1 rfl (Nat.le_of_ble_eq_true rfl) dX4_isWord_1 ⟨Nat.zero_le _, Nat.zero_le _⟩ hS (fun _ h => h) (fun _ _ h => h) (fun r1 H locs hpo hS => ?_)
  obtain ⟨hT, e1⟩ := hpo
  have hF := bn hF e1
  refine lv_aload_n hx hb dX4_isWord_4 rfl (lv_at hl 0 rfl) ?_
  refine gt_Tape_next hx hb hts ic_Tape hown hK hT g0 (hts _ mw_1_139) dX4_isWord_5 (fun x5 e5 f5 g5 => ?_)
  have hF := bn hF e5
  refine lv_aload_n hx hb dX4_isWord_8 rfl (lv_at hl 0 rfl) ?_
  refine gt_Tape_start hx hb hts ic_Tape hown hK hT g0 (hts _ mw_1_141) dX4_isWord_9 (fun x9 e9 f9 g9 => ?_)
  have hF := bn hF e9
  refine r_isub hx hb dX4_isWord_12 (by omega) (by omega) (fun x12 e12 => ?_)
  have hF := bn hF e12
  refine r_icmp_eq (tgt := 18) hx hb dX4_isWord_13 (by decide) (fun c13 => ?_) (fun c13 => ?_)
  · have hF := ifp hF c13
    refine r_iconst hx hb dX4_isWord_18 (by decide) (by decide) (fun x18 e18 => ?_)
    have hF := bn hF e18
    refine lv_istore_n (lv' := [(2, .int x18), (0, .ref h0), (1, .ref ra1)]) hx hb dX4_isWord_19 rfl hl (by decide) rfl (fun ls hl => ?_)
    have J20 : ∀ (n20 : Nat) (ls : Array Slot) (H : Heap) (locs : List Loc) (y20_2 : Int32), (0 ≤ y20_2.toInt ∧ y20_2.toInt ≤ 7) → D_X4_isWord_20 wd (σ o0) n20 y20_2.toInt = some out → TY z (zA z) σ H → va_S (zA z) s.heap H locs → lv_has ls 3 [(0, .ref h0), (1, .ref ra1), (2, .int y20_2)] → W p l e (rmF 5 230) s m ([.ref h0, .ref ra1] : List Value).toArray below meth c H locs 0 0 (MQ below (QcI z (fun r H => some r.toInt = some out ∧ TY z (zA z) σ H ∧ (0 ≤ r.toInt ∧ r.toInt ≤ 1))) ([.ref h0, .ref ra1] : List Value).toArray s 0 0 (zA z)) (F0 m 20 ls []) := by
      intro n20
      induction n20 with
      | zero => intro ls H locs y20_2 j20_y20_2 hF hT hS hl; exact (no_s hF).elim
      | succ n20 ih20 =>
        intro ls H locs y20_2 j20_y20_2 hF hT hS hl
        rw [D_X4_isWord_20.eq_2] at hF
        refine lv_iload_n hx hb dX4_isWord_20 rfl (lv_at hl 2 rfl) ?_
        refine lv_aload_n hx hb dX4_isWord_21 rfl (lv_at hl 1 rfl) ?_
        refine cs_Vi (rest := [.int y20_2]) hC hK hSK hsq (c_J0_length_8abf5 l z σ ra1 ts wd) k_J0_length_8abf5 mw_2_91 ⟨rfl, rfl, Nat.le_of_ble_eq_true rfl, Nat.le_of_ble_eq_true rfl⟩ (vk_rv hsq hS) hT rfl hl.1 rfl (Nat.le_of_ble_eq_true rfl) dX4_isWord_22 ⟨Nat.zero_le _, Nat.zero_le _⟩ hS (fun _ h => h) (fun _ _ h => h) (fun r22 H locs hpo hS => ?_)
        obtain ⟨hT, e22⟩ := hpo
        have hF := bn hF e22
        refine r_icmp_ge (tgt := 55) hx hb dX4_isWord_25 (by decide) (fun c25 => ?_) (fun c25 => ?_)
        · have hF := ifn hF (Int.not_lt.mpr c25)
          refine r_iconst hx hb dX4_isWord_55 (by decide) (by decide) (fun x55 e55 => ?_)
          have hF := bn hF e55
          exact rt_z hx hb hr hlk hS (by omega) (by omega) ⟨hF, hT, (by omega)⟩ dX4_isWord_56
        · have hF := ifp hF c25
          refine lv_aload_n hx hb dX4_isWord_28 rfl (lv_at hl 1 rfl) ?_
          refine lv_iload_n hx hb dX4_isWord_29 rfl (lv_at hl 2 rfl) ?_
          obtain ⟨kc30, hF⟩ := ck hF
          refine cs_Vi (rest := []) hC hK hSK hsq (c_J0_charAt_5068e l z σ ra1 ts wd y20_2 kc30.1 kc30.2) k_J0_charAt_5068e mw_2_101 ⟨rfl, rfl, Nat.le_of_ble_eq_true rfl, Nat.le_of_ble_eq_true rfl⟩ (vk_rv hsq hS) hT rfl hl.1 rfl (Nat.le_of_ble_eq_true rfl) dX4_isWord_30 ⟨Nat.zero_le _, Nat.zero_le _⟩ hS (fun _ h => h) (fun _ _ h => h) (fun r30 H locs hpo hS => ?_)
          obtain ⟨hT, e30⟩ := hpo
          have hF := bn hF e30
          refine lv_aload_n hx hb dX4_isWord_33 rfl (lv_at hl 0 rfl) ?_
          refine gt_Tape_bytes hx hb hts ic_Tape hown hK hT g0 (hts _ mw_1_129) dX4_isWord_34 (fun q34 hq34 => ?_)
          refine lv_aload_n hx hb dX4_isWord_37 rfl (lv_at hl 0 rfl) ?_
          refine gt_Tape_start hx hb hts ic_Tape hown hK hT g0 (hts _ mw_1_141) dX4_isWord_38 (fun x38 e38 f38 g38 => ?_)
          have hF := bn hF e38
          refine lv_iload_n hx hb dX4_isWord_41 rfl (lv_at hl 2 rfl) ?_
          refine r_iadd hx hb dX4_isWord_42 (by omega) (by omega) (fun x42 e42 => ?_)
          have hF := bn hF e42
          obtain ⟨kb43, hF⟩ := ck hF
          refine al_30 hx hb hK hT hq34 (by omega) (by omega) dX4_isWord_43 (fun x43 e43 g43 => ?_)
          have hF := bn hF e43
          refine r_icmp_eq (tgt := 49) hx hb dX4_isWord_44 (by decide) (fun c44 => ?_) (fun c44 => ?_)
          · have hF := ifp hF c44
            refine r_iinc (lv' := fun v__ => [(2, .int v__), (0, .ref h0), (1, .ref ra1)]) hx hb dX4_isWord_49 hl (k := 2) rfl (by decide) (fun _ => rfl) ⟨by decide, by decide⟩ (by omega) (by omega) (fun x49 ls e49 hl => ?_)
            have hF := bn hF e49
            refine lv_goto (tgt := 20) hx hb dX4_isWord_52 (by decide) ?_
            exact ih20 ls _ _ x49 (by omega) hF hT hS (lv_sub hl [1, 2, 0] rfl)
          · have hF := ifn hF c44
            refine r_iconst hx hb dX4_isWord_47 (by decide) (by decide) (fun x47 e47 => ?_)
            have hF := bn hF e47
            exact rt_z hx hb hr hlk hS (by omega) (by omega) ⟨hF, hT, (by omega)⟩ dX4_isWord_48
    exact J20 5000 ls _ _ x18 (by omega) hF hT hS (lv_sub hl [1, 2, 0] rfl)
  · have hF := ifn hF c13
    refine r_iconst hx hb dX4_isWord_16 (by decide) (by decide) (fun x16 e16 => ?_)
    have hF := bn hF e16
    exact rt_z hx hb hr hlk hS (by omega) (by omega) ⟨hF, hT, (by omega)⟩ dX4_isWord_17
theorem k_X4_wordOfFigure : cBS yX4_wordOfFigure cX4_wordOfFigure 1 (some (.object "java/lang/String")) 1 := ⟨mw_2_182, mw_1_2, mw_2_183, ⟨by decide, by decide, by decide⟩⟩
set_option maxHeartbeats 4000000 in
set_option maxRecDepth 100000 in
theorem c_X4_wordOfFigure (l : Launch) (z : Zt) (σ : Sg) (p1 : Int32) (out : Int) (hF : D_X4_wordOfFigure p1.toInt = some out) : Met l yX4_wordOfFigure (uw yX4_wordOfFigure cX4_wordOfFigure 1 (some (.object "java/lang/String"))) (rmF 1 64) (PcW z [.int p1] (fun H => TY z (zA z) σ H)) (QcR z (fun r H => ∃ i : Nat, some (i : Int) = some out ∧ TY z (zA z) σ H ∧ i < 10 ∧ r = zK z i)) 0 0 (zA z) := by
  refine Met.ofW (cc := cX4_wordOfFigure) (maxL := 1) (ret := (some (.object "java/lang/String"))) (by decide) rfl ?_
  intro p e s m args below meth c s₁ B hml hv
  obtain ⟨rfl, hT, hK, hSK⟩ := hv
  have hx := B.exec
  have hb := B.bytes
  have hr := B.returns
  have hts : ∀ w ∈ lw_ok, w.before ([.int p1] : List Value).toArray s = true := fun w hw => atoms_spec (ws := uw yX4_wordOfFigure cX4_wordOfFigure 1 (some (.object "java/lang/String"))) B.pre w (List.mem_cons_of_mem _ hw)
  have hown : s.vm.findClass RX4 = some m.cls := findClass_of_methodNamed B.named
  have hlk := B.notSynchronized
  have hC : CallFix p m c cX4_wordOfFigure 1 s ([.int p1] : List Value).toArray lw_ok RX4 := ⟨hx, hb, hml, hown, hts⟩
  have hS : va_S (zA z) s.heap s.heap [] := va_S.rf
  have hl := lv_entry ([.int p1]) (n := 1) (Nat.le_of_ble_eq_true rfl)
  rw [lg_entry_eq]
  generalize (lg_sl ([.int p1]) ++ List.replicate (1 - (lg_sl ([.int p1])).length) Slot.unset).toArray = ls at hl ⊢
  have hl : lv_has ls 1 [(0, .int p1)] := hl
  show W p l e (rmF 1 64) s m ([.int p1] : List Value).toArray below meth c s.heap [] 0 0 (MQ below (QcR z (fun r H => ∃ i : Nat, some (i : Int) = some out ∧ TY z (zA z) σ H ∧ i < 10 ∧ r = zK z i)) ([.int p1] : List Value).toArray s 0 0 (zA z)) (F0 m 0 ls [])
  unfold D_X4_wordOfFigure at hF
  have mx_p1 := i_mx p1
  refine lv_iload_n hx hb dX4_wordOfFigure_0 rfl (lv_at hl 0 rfl) ?_
  rcases (show p1.toInt = 0 ∨ p1.toInt = 1 ∨ p1.toInt = 2 ∨ (p1.toInt < 0 ∨ 2 < p1.toInt) by omega) with c1 | c1 | c1 | c1
  · have hF := ifp hF c1
    refine lv_tableIn (off := 27) (tgt := 28) hx hb dX4_wordOfFigure_1 (by omega) (by omega) (by rw [c1]; rfl) (by decide) ?_
    refine va_ldcS (own := RX4) hx hb hown (hSK.1 6 (by decide)).1 dX4_wordOfFigure_28 ?_
    exact rt_r hx hb hr (Or.inl ⟨_, rfl⟩) hlk hS ⟨6, hF, hT, by decide, rfl⟩ dX4_wordOfFigure_30
  · have hF := ifn hF (by omega)
    have hF := ifp hF c1
    refine lv_tableIn (off := 30) (tgt := 31) hx hb dX4_wordOfFigure_1 (by omega) (by omega) (by rw [c1]; rfl) (by decide) ?_
    refine va_ldcS (own := RX4) hx hb hown (hSK.1 7 (by decide)).1 dX4_wordOfFigure_31 ?_
    exact rt_r hx hb hr (Or.inl ⟨_, rfl⟩) hlk hS ⟨7, hF, hT, by decide, rfl⟩ dX4_wordOfFigure_33
  · have hF := ifn hF (by omega)
    have hF := ifn hF (by omega)
    have hF := ifp hF c1
    refine lv_tableIn (off := 33) (tgt := 34) hx hb dX4_wordOfFigure_1 (by omega) (by omega) (by rw [c1]; rfl) (by decide) ?_
    refine va_ldcS (own := RX4) hx hb hown (hSK.1 8 (by decide)).1 dX4_wordOfFigure_34 ?_
    exact rt_r hx hb hr (Or.inl ⟨_, rfl⟩) hlk hS ⟨8, hF, hT, by decide, rfl⟩ dX4_wordOfFigure_36
  · have hF := ifn hF (by omega)
    have hF := ifn hF (by omega)
    have hF := ifn hF (by omega)
    refine lv_tableOut (tgt := 37) hx hb dX4_wordOfFigure_1 c1 (by decide) ?_
    refine va_ldcS (own := RX4) hx hb hown (hSK.1 9 (by decide)).1 dX4_wordOfFigure_37 ?_
    exact rt_r hx hb hr (Or.inl ⟨_, rfl⟩) hlk hS ⟨9, hF, hT, by decide, rfl⟩ dX4_wordOfFigure_39
theorem k_X4_figureWord : cBV yX4_figureWord cX4_figureWord 2 (some .int) 0 := ⟨mw_2_179, ms_0_11, mw_1_2, mw_2_180, ⟨by decide, by decide, by decide⟩⟩
set_option maxHeartbeats 4000000 in
set_option maxRecDepth 100000 in
theorem c_X4_figureWord (l : Launch) (z : Zt) (σ : Sg) (h0 o0 : Nat) (g0 : zG z h0 = (14, o0)) (out : Int) (hF : D_X4_figureWord (σ o0) = some out) : Met l yX4_figureWord (uw yX4_figureWord cX4_figureWord 2 (some .int)) (rmF 6 260) (PcW z [.ref h0] (fun H => TY z (zA z) σ H)) (QcI z (fun r H => some r.toInt = some out ∧ TY z (zA z) σ H ∧ (-4 ≤ r.toInt ∧ r.toInt ≤ 3))) 0 0 (zA z) := by
  refine Met.ofW (cc := cX4_figureWord) (maxL := 2) (ret := (some .int)) (by decide) rfl ?_
  intro p e s m args below meth c s₁ B hml hv
  obtain ⟨rfl, hT, hK, hSK⟩ := hv
  have hx := B.exec
  have hb := B.bytes
  have hr := B.returns
  have hts : ∀ w ∈ lw_ok, w.before ([.ref h0] : List Value).toArray s = true := fun w hw => atoms_spec (ws := uw yX4_figureWord cX4_figureWord 2 (some .int)) B.pre w (List.mem_cons_of_mem _ hw)
  have hown : s.vm.findClass RX4 = some m.cls := findClass_of_methodNamed B.named
  have hlk := B.notSynchronized
  have hC : CallFix p m c cX4_figureWord 2 s ([.ref h0] : List Value).toArray lw_ok RX4 := ⟨hx, hb, hml, hown, hts⟩
  have hS : va_S (zA z) s.heap s.heap [] := va_S.rf
  have hl := lv_entry ([.ref h0]) (n := 2) (Nat.le_of_ble_eq_true rfl)
  rw [lg_entry_eq]
  generalize (lg_sl ([.ref h0]) ++ List.replicate (2 - (lg_sl ([.ref h0])).length) Slot.unset).toArray = ls at hl ⊢
  have hl : lv_has ls 2 [(0, .ref h0)] := hl
  show W p l e (rmF 6 260) s m ([.ref h0] : List Value).toArray below meth c s.heap [] 0 0 (MQ below (QcI z (fun r H => some r.toInt = some out ∧ TY z (zA z) σ H ∧ (-4 ≤ r.toInt ∧ r.toInt ≤ 3))) ([.ref h0] : List Value).toArray s 0 0 (zA z)) (F0 m 0 ls [])
  unfold D_X4_figureWord at hF
  refine r_iconst hx hb dX4_figureWord_0 (by decide) (by decide) (fun x0 e0 => ?_)
  have hF := bn hF e0
  refine lv_istore_n (lv' := [(1, .int x0), (0, .ref h0)]) hx hb dX4_figureWord_1 rfl hl (by decide) rfl (fun ls hl => ?_)
  have J2 : ∀ (n2 : Nat) (ls : Array Slot) (H : Heap) (locs : List Loc) (y2_1 : Int32), (0 ≤ y2_1.toInt ∧ y2_1.toInt ≤ 4) → D_X4_figureWord_2 (σ o0) n2 y2_1.toInt = some out → TY z (zA z) σ H → va_S (zA z) s.heap H locs → lv_has ls 2 [(0, .ref h0), (1, .int y2_1)] → W p l e (rmF 6 260) s m ([.ref h0] : List Value).toArray below meth c H locs 0 0 (MQ below (QcI z (fun r H => some r.toInt = some out ∧ TY z (zA z) σ H ∧ (-4 ≤ r.toInt ∧ r.toInt ≤ 3))) ([.ref h0] : List Value).toArray s 0 0 (zA z)) (F0 m 2 ls []) := by
    intro n2
    induction n2 with
    | zero => intro ls H locs y2_1 j2_y2_1 hF hT hS hl; exact (no_s hF).elim
    | succ n2 ih2 =>
      intro ls H locs y2_1 j2_y2_1 hF hT hS hl
      rw [D_X4_figureWord_2.eq_2] at hF
      refine lv_iload_n hx hb dX4_figureWord_2 rfl (lv_at hl 1 rfl) ?_
      refine r_iconst hx hb dX4_figureWord_3 (by decide) (by decide) (fun x3 e3 => ?_)
      have hF := bn hF e3
      refine r_icmp_ge (tgt := 26) hx hb dX4_figureWord_4 (by decide) (fun c4 => ?_) (fun c4 => ?_)
      · have hF := ifn hF (Int.not_lt.mpr c4)
        refine r_bipush hx hb dX4_figureWord_26 rfl (fun x26 e26 => ?_)
        have hF := bn hF e26
        exact rt_i hx hb hr hlk hS ⟨hF, hT, (by omega)⟩ dX4_figureWord_28
      · have hF := ifp hF c4
        refine lv_aload_n hx hb dX4_figureWord_7 rfl (lv_at hl 0 rfl) ?_
        refine lv_iload_n hx hb dX4_figureWord_8 rfl (lv_at hl 1 rfl) ?_
        obtain ⟨v9, hd9, -⟩ := bd0_s hF
        refine cl_Sr (rest := [.ref h0]) hC hK hSK (c_X4_wordOfFigure l z σ y2_1 v9 hd9) k_X4_wordOfFigure mw_2_181 ⟨rfl, rfl, Nat.le_of_ble_eq_true rfl, Nat.le_of_ble_eq_true rfl⟩ hT rfl hl.1 rfl (Nat.le_of_ble_eq_true rfl) dX4_figureWord_9 ⟨Nat.zero_le _, Nat.zero_le _⟩ hS (fun _ h => h) (fun _ _ h => h) (fun rw9 H locs hpo hS => ?_)
        obtain ⟨iw9, he9, hT, iv9, ie9⟩ := hpo
        have hF := bd0_r hF hd9 he9
        obtain ⟨tw9, hsw9⟩ := (hSK.1 iw9 iv9).2
        rw [← ie9] at hsw9
        rw [show (iw9 : Int).toNat = iw9 from rfl] at hF
        obtain ⟨v12, hd12, -⟩ := bd0_s hF
        refine cs_Vi (rest := []) hC hK hSK hsw9 (c_X4_isWord l z σ h0 o0 g0 rw9 tw9 iw9 v12 hd12) k_X4_isWord mw_2_87 ⟨rfl, rfl, Nat.le_of_ble_eq_true rfl, Nat.le_of_ble_eq_true rfl⟩ (rv_Tape hK hT g0) hT rfl hl.1 rfl (Nat.le_of_ble_eq_true rfl) dX4_figureWord_12 ⟨Nat.zero_le _, Nat.zero_le _⟩ hS (fun _ h => h) (fun _ _ h => h) (fun r12 H locs hpo hS => ?_)
        obtain ⟨he12, hT, ub12⟩ := hpo
        have hF := bd0_r hF hd12 he12
        refine r_if_eq (tgt := 20) hx hb dX4_figureWord_15 (by decide) (fun c15 => ?_) (fun c15 => ?_)
        · have hF := ifp hF c15
          refine r_iinc (lv' := fun v__ => [(1, .int v__), (0, .ref h0)]) hx hb dX4_figureWord_20 hl (k := 1) rfl (by decide) (fun _ => rfl) ⟨by decide, by decide⟩ (by omega) (by omega) (fun x20 ls e20 hl => ?_)
          have hF := bn hF e20
          refine lv_goto (tgt := 2) hx hb dX4_figureWord_23 (by decide) ?_
          exact ih2 ls _ _ x20 (by omega) hF hT hS (lv_sub hl [1, 0] rfl)
        · have hF := ifn hF c15
          refine lv_iload_n hx hb dX4_figureWord_18 rfl (lv_at hl 1 rfl) ?_
          exact rt_i hx hb hr hlk hS ⟨hF, hT, (by omega)⟩ dX4_figureWord_19
  exact J2 5000 ls _ _ x0 (by omega) hF hT hS (lv_sub hl [1, 0] rfl)
theorem k_X4_programLine : cBV yX4_programLine cX4_programLine 3 (some .boolean) 0 := ⟨mw_2_175, ms_0_10, mw_1_2, mw_2_176, ⟨by decide, by decide, by decide⟩⟩
set_option maxHeartbeats 4000000 in
set_option maxRecDepth 100000 in
theorem c_X4_programLine (l : Launch) (z : Zt) (σ : Sg) (h0 o0 : Nat) (g0 : zG z h0 = (14, o0)) (out : (Int × Lo)) (hF : D_X4_programLine (σ o0) = some out) : Met l yX4_programLine (uw yX4_programLine cX4_programLine 3 (some .boolean)) (rmF 7 281) (PcW z [.ref h0] (fun H => TY z (zA z) σ H)) (QcI z (fun r H => ∃ σ' : Sg, some (r.toInt, σ' o0) = some out ∧ FR σ σ' o0 ∧ TY z (zA z) σ' H ∧ (0 ≤ r.toInt ∧ r.toInt ≤ 1))) 0 0 (zA z) := by
  refine Met.ofW (cc := cX4_programLine) (maxL := 3) (ret := (some .boolean)) (by decide) rfl ?_
  intro p e s m args below meth c s₁ B hml hv
  obtain ⟨rfl, hT, hK, hSK⟩ := hv
  have hx := B.exec
  have hb := B.bytes
  have hr := B.returns
  have hts : ∀ w ∈ lw_ok, w.before ([.ref h0] : List Value).toArray s = true := fun w hw => atoms_spec (ws := uw yX4_programLine cX4_programLine 3 (some .boolean)) B.pre w (List.mem_cons_of_mem _ hw)
  have hown : s.vm.findClass RX4 = some m.cls := findClass_of_methodNamed B.named
  have hlk := B.notSynchronized
  have hC : CallFix p m c cX4_programLine 3 s ([.ref h0] : List Value).toArray lw_ok RX4 := ⟨hx, hb, hml, hown, hts⟩
  have hS : va_S (zA z) s.heap s.heap [] := va_S.rf
  have hl := lv_entry ([.ref h0]) (n := 3) (Nat.le_of_ble_eq_true rfl)
  rw [lg_entry_eq]
  generalize (lg_sl ([.ref h0]) ++ List.replicate (3 - (lg_sl ([.ref h0])).length) Slot.unset).toArray = ls at hl ⊢
  have hl : lv_has ls 3 [(0, .ref h0)] := hl
  show W p l e (rmF 7 281) s m ([.ref h0] : List Value).toArray below meth c s.heap [] 0 0 (MQ below (QcI z (fun r H => ∃ σ' : Sg, some (r.toInt, σ' o0) = some out ∧ FR σ σ' o0 ∧ TY z (zA z) σ' H ∧ (0 ≤ r.toInt ∧ r.toInt ≤ 1))) ([.ref h0] : List Value).toArray s 0 0 (zA z)) (F0 m 0 ls [])
  have hfr : FR σ σ o0 := FR_rf σ o0
  unfold D_X4_programLine at hF
  refine lv_aload_n hx hb dX4_programLine_0 rfl (lv_at hl 0 rfl) ?_
  refine gt_Tape_hasProgram hx hb hts ic_Tape hown hK hT g0 (hts _ mw_1_143) dX4_programLine_1 (fun x1 e1 f1 g1 => ?_)
  have hF := bn hF e1
  refine r_if_eq (tgt := 17) hx hb dX4_programLine_4 (by decide) (fun c4 => ?_) (fun c4 => ?_)
  · have hF := ifp hF c4
    refine lv_aload_n hx hb dX4_programLine_17 rfl (lv_at hl 0 rfl) ?_
    refine r_iconst hx hb dX4_programLine_18 (by decide) (by decide) (fun x18 e18 => ?_)
    have hF := bn hF e18
    refine pt_Tape_hasProgram hx hb hts ic_Tape hown hK hT hS g0 (hts _ mw_1_143) (by omega) (by omega) dX4_programLine_19 (fun H locs hT hS => ?_)
    obtain ⟨σ19, hF, hfr, hT⟩ := wrL hF hfr hT
    refine r_iconst hx hb dX4_programLine_22 (by decide) (by decide) (fun x22 e22 => ?_)
    have hF := bn hF e22
    refine lv_istore_n (lv' := [(1, .int x22), (0, .ref h0)]) hx hb dX4_programLine_23 rfl hl (by decide) rfl (fun ls hl => ?_)
    have J24 : ∀ (n24 : Nat) (ls : Array Slot) (H : Heap) (locs : List Loc) (y24_1 : Int32) (σj24 : Sg), (0 ≤ y24_1.toInt ∧ y24_1.toInt ≤ 9) → D_X4_programLine_24 n24 (σj24 o0) y24_1.toInt = some out → FR σ σj24 o0 → TY z (zA z) σj24 H → va_S (zA z) s.heap H locs → lv_has ls 3 [(0, .ref h0), (1, .int y24_1)] → W p l e (rmF 7 281) s m ([.ref h0] : List Value).toArray below meth c H locs 0 0 (MQ below (QcI z (fun r H => ∃ σ' : Sg, some (r.toInt, σ' o0) = some out ∧ FR σ σ' o0 ∧ TY z (zA z) σ' H ∧ (0 ≤ r.toInt ∧ r.toInt ≤ 1))) ([.ref h0] : List Value).toArray s 0 0 (zA z)) (F0 m 24 ls []) := by
      intro n24
      induction n24 with
      | zero => intro ls H locs y24_1 σj24 j24_y24_1 hF hfr hT hS hl; exact (no_s hF).elim
      | succ n24 ih24 =>
        intro ls H locs y24_1 σj24 j24_y24_1 hF hfr hT hS hl
        rw [D_X4_programLine_24.eq_2] at hF
        refine lv_iload_n hx hb dX4_programLine_24 rfl (lv_at hl 1 rfl) ?_
        refine r_bipush hx hb dX4_programLine_25 rfl (fun x25 e25 => ?_)
        have hF := bn hF e25
        refine r_icmp_gt (tgt := 127) hx hb dX4_programLine_27 (by decide) (fun c27 => ?_) (fun c27 => ?_)
        · have hF := ifp hF c27
          refine r_iconst hx hb dX4_programLine_127 (by decide) (by decide) (fun x127 e127 => ?_)
          have hF := bn hF e127
          exact rt_z hx hb hr hlk hS (by omega) (by omega) ⟨σj24, hF, hfr, hT, (by omega)⟩ dX4_programLine_128
        · have hF := ifn hF (Int.not_lt.mpr c27)
          refine lv_aload_n hx hb dX4_programLine_30 rfl (lv_at hl 0 rfl) ?_
          obtain ⟨v31, s31, hd31, -⟩ := bd2_s hF
          refine cl_Vi (rest := []) hC hK hSK (c_X4_advance l z σj24 h0 (o0) g0 (v31, s31) hd31) k_X4_advance mw_2_58 ⟨rfl, rfl, Nat.le_of_ble_eq_true rfl, Nat.le_of_ble_eq_true rfl⟩ (rv_Tape hK hT g0) hT rfl hl.1 rfl (Nat.le_of_ble_eq_true rfl) dX4_programLine_31 ⟨Nat.zero_le _, Nat.zero_le _⟩ hS (fun _ h => h) (fun _ _ h => h) (fun r31 H locs hpo hS => ?_)
          obtain ⟨σ31, he31, hf31, hT, u31_0⟩ := hpo
          have hF := bd2_r hF hd31 he31
          have hfr := FR_tr hf31 hfr
          refine r_if_ne (tgt := 39) hx hb dX4_programLine_34 (by decide) (fun c34 => ?_) (fun c34 => ?_)
          · have hF := ifn hF c34
            refine lv_aload_n hx hb dX4_programLine_39 rfl (lv_at hl 0 rfl) ?_
            refine gt_Tape_token hx hb hts ic_Tape hown hK hT g0 (hts _ mw_1_140) dX4_programLine_40 (fun x40 e40 f40 g40 => ?_)
            have hF := bn hF e40
            refine r_iconst hx hb dX4_programLine_43 (by decide) (by decide) (fun x43 e43 => ?_)
            have hF := bn hF e43
            refine r_icmp_ne (tgt := 49) hx hb dX4_programLine_44 (by decide) (fun c44 => ?_) (fun c44 => ?_)
            · have hF := ifn hF c44
              refine lv_aload_n hx hb dX4_programLine_49 rfl (lv_at hl 0 rfl) ?_
              refine gt_Tape_token hx hb hts ic_Tape hown hK hT g0 (hts _ mw_1_140) dX4_programLine_50 (fun x50 e50 f50 g50 => ?_)
              have hF := bn hF e50
              refine r_iconst hx hb dX4_programLine_53 (by decide) (by decide) (fun x53 e53 => ?_)
              have hF := bn hF e53
              have J79 : ∀ (ls : Array Slot) (H : Heap) (locs : List Loc) (σj79 : Sg), D_X4_programLine_79 (D_X4_programLine_24 n24) y24_1.toInt (σj79 o0) = some out → FR σ σj79 o0 → TY z (zA z) σj79 H → va_S (zA z) s.heap H locs → lv_has ls 3 [(0, .ref h0), (1, .int y24_1)] → W p l e (rmF 7 281) s m ([.ref h0] : List Value).toArray below meth c H locs 0 0 (MQ below (QcI z (fun r H => ∃ σ' : Sg, some (r.toInt, σ' o0) = some out ∧ FR σ σ' o0 ∧ TY z (zA z) σ' H ∧ (0 ≤ r.toInt ∧ r.toInt ≤ 1))) ([.ref h0] : List Value).toArray s 0 0 (zA z)) (F0 m 79 ls []) := by
                intro ls H locs σj79 hF hfr hT hS hl
                unfold D_X4_programLine_79 at hF
                refine lv_aload_n hx hb dX4_programLine_79 rfl (lv_at hl 0 rfl) ?_
                refine gt_Tape_token hx hb hts ic_Tape hown hK hT g0 (hts _ mw_1_140) dX4_programLine_80 (fun x80 e80 f80 g80 => ?_)
                have hF := bn hF e80
                refine r_iconst hx hb dX4_programLine_83 (by decide) (by decide) (fun x83 e83 => ?_)
                have hF := bn hF e83
                have J96 : ∀ (ls : Array Slot) (H : Heap) (locs : List Loc) (t96_0 : Int32) (σj96 : Sg), (-4 ≤ t96_0.toInt ∧ t96_0.toInt ≤ 3) → D_X4_programLine_96 (D_X4_programLine_24 n24) y24_1.toInt (σj96 o0) t96_0.toInt = some out → FR σ σj96 o0 → TY z (zA z) σj96 H → va_S (zA z) s.heap H locs → lv_has ls 3 [(0, .ref h0), (1, .int y24_1)] → W p l e (rmF 7 281) s m ([.ref h0] : List Value).toArray below meth c H locs 0 0 (MQ below (QcI z (fun r H => ∃ σ' : Sg, some (r.toInt, σ' o0) = some out ∧ FR σ σ' o0 ∧ TY z (zA z) σ' H ∧ (0 ≤ r.toInt ∧ r.toInt ≤ 1))) ([.ref h0] : List Value).toArray s 0 0 (zA z)) (F0 m 96 ls [.int t96_0]) := by
                  intro ls H locs t96_0 σj96 j96_t96_0 hF hfr hT hS hl
                  unfold D_X4_programLine_96 at hF
                  refine lv_istore_n (lv' := [(2, .int t96_0), (0, .ref h0), (1, .int y24_1)]) hx hb dX4_programLine_96 rfl hl (by decide) rfl (fun ls hl => ?_)
                  refine lv_iload_n hx hb dX4_programLine_97 rfl (lv_at hl 0 rfl) ?_
                  refine r_bipush hx hb dX4_programLine_98 rfl (fun x98 e98 => ?_)
                  have hF := bn hF e98
                  refine r_icmp_ne (tgt := 113) hx hb dX4_programLine_100 (by decide) (fun c100 => ?_) (fun c100 => ?_)
                  · have hF := ifn hF c100
                    refine lv_aload_n hx hb dX4_programLine_113 rfl (lv_at hl 1 rfl) ?_
                    refine gt_Tape_draft hx hb hts ic_Tape hown hK hT g0 (hts _ mw_1_131) dX4_programLine_114 (fun q114 hq114 => ?_)
                    refine lv_iload_n hx hb dX4_programLine_117 rfl (lv_at hl 0 rfl) ?_
                    obtain ⟨s118, hd118, -⟩ := bd1_s hF
                    refine cl_Vv (rest := []) hC hK hSK (c_X0_addFigure l z σj96 q114 (o0) hq114 t96_0 s118 hd118) k_X0_addFigure mw_2_188 ⟨rfl, rfl, Nat.le_of_ble_eq_true rfl, Nat.le_of_ble_eq_true rfl⟩ (rv_Evening hK hT hq114) hT rfl hl.1 rfl (Nat.le_of_ble_eq_true rfl) dX4_programLine_118 ⟨Nat.zero_le _, Nat.zero_le _⟩ hS (fun _ h => h) (fun _ _ h => h) (fun H locs hpo hS => ?_)
                    obtain ⟨σ118, he118, hf118, hT⟩ := hpo
                    have hF := bd1_r hF hd118 he118
                    have hfr := FR_tr hf118 hfr
                    refine r_iinc (lv' := fun v__ => [(1, .int v__), (2, .int t96_0), (0, .ref h0)]) hx hb dX4_programLine_121 hl (k := 2) rfl (by decide) (fun _ => rfl) ⟨by decide, by decide⟩ (by omega) (by omega) (fun x121 ls e121 hl => ?_)
                    have hF := bn hF e121
                    refine lv_goto (tgt := 24) hx hb dX4_programLine_124 (by decide) ?_
                    exact ih24 ls _ _ x121 σ118 (by omega) hF hfr hT hS (lv_sub hl [2, 0] rfl)
                  · have hF := ifp hF c100
                    refine lv_aload_n hx hb dX4_programLine_103 rfl (lv_at hl 1 rfl) ?_
                    refine r_iconst hx hb dX4_programLine_104 (by decide) (by decide) (fun x104 e104 => ?_)
                    have hF := bn hF e104
                    refine lv_aload_n hx hb dX4_programLine_105 rfl (lv_at hl 1 rfl) ?_
                    refine gt_Tape_start hx hb hts ic_Tape hown hK hT g0 (hts _ mw_1_141) dX4_programLine_106 (fun x106 e106 f106 g106 => ?_)
                    have hF := bn hF e106
                    obtain ⟨v109, s109, hd109, -⟩ := bd2_s hF
                    refine cl_Vi (rest := []) hC hK hSK (c_X4_refuse l z σj96 h0 (o0) g0 x104 x106 (v109, s109) hd109 (by omega) (by omega)) k_X4_refuse mw_2_66 ⟨rfl, rfl, Nat.le_of_ble_eq_true rfl, Nat.le_of_ble_eq_true rfl⟩ (rv_Tape hK hT g0) hT rfl hl.1 rfl (Nat.le_of_ble_eq_true rfl) dX4_programLine_109 ⟨Nat.zero_le _, Nat.zero_le _⟩ hS (fun _ h => h) (fun _ _ h => h) (fun r109 H locs hpo hS => ?_)
                    obtain ⟨σ109, he109, hf109, hT, u109_0⟩ := hpo
                    have hF := bd2_r hF hd109 he109
                    have hfr := FR_tr hf109 hfr
                    exact rt_z hx hb hr hlk hS (by omega) (by omega) ⟨σ109, hF, hfr, hT, (by omega)⟩ dX4_programLine_112
                refine r_icmp_ne (tgt := 94) hx hb dX4_programLine_84 (by decide) (fun c84 => ?_) (fun c84 => ?_)
                · have hF := ifn hF c84
                  refine r_bipush hx hb dX4_programLine_94 rfl (fun x94 e94 => ?_)
                  have hF := bn hF e94
                  exact J96 ls _ _ x94 σj79 (by omega) hF hfr hT hS (lv_sub hl [0, 1] rfl)
                · have hF := ifp hF c84
                  refine lv_aload_n hx hb dX4_programLine_87 rfl (lv_at hl 0 rfl) ?_
                  obtain ⟨v88, hd88, -⟩ := bd0_s hF
                  refine cl_Vi (rest := []) hC hK hSK (c_X4_figureWord l z σj79 h0 (o0) g0 v88 hd88) k_X4_figureWord mw_2_177 ⟨rfl, rfl, Nat.le_of_ble_eq_true rfl, Nat.le_of_ble_eq_true rfl⟩ (rv_Tape hK hT g0) hT rfl hl.1 rfl (Nat.le_of_ble_eq_true rfl) dX4_programLine_88 ⟨Nat.zero_le _, Nat.zero_le _⟩ hS (fun _ h => h) (fun _ _ h => h) (fun r88 H locs hpo hS => ?_)
                  obtain ⟨he88, hT, u88_0⟩ := hpo
                  have hF := bd0_r hF hd88 he88
                  refine lv_goto (tgt := 96) hx hb dX4_programLine_91 (by decide) ?_
                  exact J96 ls _ _ r88 σj79 (by omega) hF hfr hT hS (lv_sub hl [0, 1] rfl)
              refine r_icmp_ne (tgt := 79) hx hb dX4_programLine_54 (by decide) (fun c54 => ?_) (fun c54 => ?_)
              · have hF := ifn hF c54
                exact J79 ls _ _ σ31 hF hfr hT hS (lv_sub hl [0, 1] rfl)
              · have hF := ifp hF c54
                refine lv_aload_n hx hb dX4_programLine_57 rfl (lv_at hl 0 rfl) ?_
                refine gt_Tape_draft hx hb hts ic_Tape hown hK hT g0 (hts _ mw_1_131) dX4_programLine_58 (fun q58 hq58 => ?_)
                refine gt_Evening_figures hx hb hts ic_Evening hown hK hT hq58 (hts _ mw_1_109) dX4_programLine_61 (fun x61 e61 f61 g61 => ?_)
                have hF := bn hF e61
                refine r_bipush hx hb dX4_programLine_64 rfl (fun x64 e64 => ?_)
                have hF := bn hF e64
                refine r_icmp_lt (tgt := 79) hx hb dX4_programLine_66 (by decide) (fun c66 => ?_) (fun c66 => ?_)
                · have hF := ifp hF c66
                  exact J79 ls _ _ σ31 hF hfr hT hS (lv_sub hl [0, 1] rfl)
                · have hF := ifn hF (Int.not_lt.mpr c66)
                  refine lv_aload_n hx hb dX4_programLine_69 rfl (lv_at hl 0 rfl) ?_
                  refine r_iconst hx hb dX4_programLine_70 (by decide) (by decide) (fun x70 e70 => ?_)
                  have hF := bn hF e70
                  refine lv_aload_n hx hb dX4_programLine_71 rfl (lv_at hl 0 rfl) ?_
                  refine gt_Tape_start hx hb hts ic_Tape hown hK hT g0 (hts _ mw_1_141) dX4_programLine_72 (fun x72 e72 f72 g72 => ?_)
                  have hF := bn hF e72
                  obtain ⟨v75, s75, hd75, -⟩ := bd2_s hF
                  refine cl_Vi (rest := []) hC hK hSK (c_X4_refuse l z σ31 h0 (o0) g0 x70 x72 (v75, s75) hd75 (by omega) (by omega)) k_X4_refuse mw_2_66 ⟨rfl, rfl, Nat.le_of_ble_eq_true rfl, Nat.le_of_ble_eq_true rfl⟩ (rv_Tape hK hT g0) hT rfl hl.1 rfl (Nat.le_of_ble_eq_true rfl) dX4_programLine_75 ⟨Nat.zero_le _, Nat.zero_le _⟩ hS (fun _ h => h) (fun _ _ h => h) (fun r75 H locs hpo hS => ?_)
                  obtain ⟨σ75, he75, hf75, hT, u75_0⟩ := hpo
                  have hF := bd2_r hF hd75 he75
                  have hfr := FR_tr hf75 hfr
                  exact rt_z hx hb hr hlk hS (by omega) (by omega) ⟨σ75, hF, hfr, hT, (by omega)⟩ dX4_programLine_78
            · have hF := ifp hF c44
              refine r_iconst hx hb dX4_programLine_47 (by decide) (by decide) (fun x47 e47 => ?_)
              have hF := bn hF e47
              exact rt_z hx hb hr hlk hS (by omega) (by omega) ⟨σ31, hF, hfr, hT, (by omega)⟩ dX4_programLine_48
          · have hF := ifp hF c34
            refine r_iconst hx hb dX4_programLine_37 (by decide) (by decide) (fun x37 e37 => ?_)
            have hF := bn hF e37
            exact rt_z hx hb hr hlk hS (by omega) (by omega) ⟨σ31, hF, hfr, hT, (by omega)⟩ dX4_programLine_38
    exact J24 5000 ls _ _ x22 σ19 (by omega) hF hfr hT hS (lv_sub hl [1, 0] rfl)
  · have hF := ifn hF c4
    refine lv_aload_n hx hb dX4_programLine_7 rfl (lv_at hl 0 rfl) ?_
    refine r_iconst hx hb dX4_programLine_8 (by decide) (by decide) (fun x8 e8 => ?_)
    have hF := bn hF e8
    refine lv_aload_n hx hb dX4_programLine_9 rfl (lv_at hl 0 rfl) ?_
    refine gt_Tape_start hx hb hts ic_Tape hown hK hT g0 (hts _ mw_1_141) dX4_programLine_10 (fun x10 e10 f10 g10 => ?_)
    have hF := bn hF e10
    obtain ⟨v13, s13, hd13, -⟩ := bd2_s hF
    refine cl_Vi (rest := []) hC hK hSK (c_X4_refuse l z σ h0 (o0) g0 x8 x10 (v13, s13) hd13 (by omega) (by omega)) k_X4_refuse mw_2_66 ⟨rfl, rfl, Nat.le_of_ble_eq_true rfl, Nat.le_of_ble_eq_true rfl⟩ (rv_Tape hK hT g0) hT rfl hl.1 rfl (Nat.le_of_ble_eq_true rfl) dX4_programLine_13 ⟨Nat.zero_le _, Nat.zero_le _⟩ hS (fun _ h => h) (fun _ _ h => h) (fun r13 H locs hpo hS => ?_)
    obtain ⟨σ13, he13, hf13, hT, u13_0⟩ := hpo
    have hF := bd2_r hF hd13 he13
    have hfr := FR_tr hf13 hfr
    exact rt_z hx hb hr hlk hS (by omega) (by omega) ⟨σ13, hF, hfr, hT, (by omega)⟩ dX4_programLine_16
theorem k_X4_wordOfLine : cBS yX4_wordOfLine cX4_wordOfLine 1 (some (.object "java/lang/String")) 1 := ⟨mw_2_79, mw_1_2, mw_2_80, ⟨by decide, by decide, by decide⟩⟩
set_option maxHeartbeats 4000000 in
set_option maxRecDepth 100000 in
theorem c_X4_wordOfLine (l : Launch) (z : Zt) (σ : Sg) (p1 : Int32) (out : Int) (hF : D_X4_wordOfLine p1.toInt = some out) : Met l yX4_wordOfLine (uw yX4_wordOfLine cX4_wordOfLine 1 (some (.object "java/lang/String"))) (rmF 1 64) (PcW z [.int p1] (fun H => TY z (zA z) σ H)) (QcR z (fun r H => ∃ i : Nat, some (i : Int) = some out ∧ TY z (zA z) σ H ∧ i < 10 ∧ r = zK z i)) 0 0 (zA z) := by
  refine Met.ofW (cc := cX4_wordOfLine) (maxL := 1) (ret := (some (.object "java/lang/String"))) (by decide) rfl ?_
  intro p e s m args below meth c s₁ B hml hv
  obtain ⟨rfl, hT, hK, hSK⟩ := hv
  have hx := B.exec
  have hb := B.bytes
  have hr := B.returns
  have hts : ∀ w ∈ lw_ok, w.before ([.int p1] : List Value).toArray s = true := fun w hw => atoms_spec (ws := uw yX4_wordOfLine cX4_wordOfLine 1 (some (.object "java/lang/String"))) B.pre w (List.mem_cons_of_mem _ hw)
  have hown : s.vm.findClass RX4 = some m.cls := findClass_of_methodNamed B.named
  have hlk := B.notSynchronized
  have hC : CallFix p m c cX4_wordOfLine 1 s ([.int p1] : List Value).toArray lw_ok RX4 := ⟨hx, hb, hml, hown, hts⟩
  have hS : va_S (zA z) s.heap s.heap [] := va_S.rf
  have hl := lv_entry ([.int p1]) (n := 1) (Nat.le_of_ble_eq_true rfl)
  rw [lg_entry_eq]
  generalize (lg_sl ([.int p1]) ++ List.replicate (1 - (lg_sl ([.int p1])).length) Slot.unset).toArray = ls at hl ⊢
  have hl : lv_has ls 1 [(0, .int p1)] := hl
  show W p l e (rmF 1 64) s m ([.int p1] : List Value).toArray below meth c s.heap [] 0 0 (MQ below (QcR z (fun r H => ∃ i : Nat, some (i : Int) = some out ∧ TY z (zA z) σ H ∧ i < 10 ∧ r = zK z i)) ([.int p1] : List Value).toArray s 0 0 (zA z)) (F0 m 0 ls [])
  unfold D_X4_wordOfLine at hF
  have mx_p1 := i_mx p1
  refine lv_iload_n hx hb dX4_wordOfLine_0 rfl (lv_at hl 0 rfl) ?_
  rcases (show p1.toInt = 0 ∨ p1.toInt = 1 ∨ p1.toInt = 2 ∨ p1.toInt = 3 ∨ p1.toInt = 4 ∨ (p1.toInt < 0 ∨ 4 < p1.toInt) by omega) with c1 | c1 | c1 | c1 | c1 | c1
  · have hF := ifp hF c1
    refine lv_tableIn (off := 35) (tgt := 36) hx hb dX4_wordOfLine_1 (by omega) (by omega) (by rw [c1]; rfl) (by decide) ?_
    refine va_ldcS (own := RX4) hx hb hown (hSK.1 0 (by decide)).1 dX4_wordOfLine_36 ?_
    exact rt_r hx hb hr (Or.inl ⟨_, rfl⟩) hlk hS ⟨0, hF, hT, by decide, rfl⟩ dX4_wordOfLine_38
  · have hF := ifn hF (by omega)
    have hF := ifp hF c1
    refine lv_tableIn (off := 38) (tgt := 39) hx hb dX4_wordOfLine_1 (by omega) (by omega) (by rw [c1]; rfl) (by decide) ?_
    refine va_ldcS (own := RX4) hx hb hown (hSK.1 1 (by decide)).1 dX4_wordOfLine_39 ?_
    exact rt_r hx hb hr (Or.inl ⟨_, rfl⟩) hlk hS ⟨1, hF, hT, by decide, rfl⟩ dX4_wordOfLine_41
  · have hF := ifn hF (by omega)
    have hF := ifn hF (by omega)
    have hF := ifp hF c1
    refine lv_tableIn (off := 41) (tgt := 42) hx hb dX4_wordOfLine_1 (by omega) (by omega) (by rw [c1]; rfl) (by decide) ?_
    refine va_ldcS (own := RX4) hx hb hown (hSK.1 2 (by decide)).1 dX4_wordOfLine_42 ?_
    exact rt_r hx hb hr (Or.inl ⟨_, rfl⟩) hlk hS ⟨2, hF, hT, by decide, rfl⟩ dX4_wordOfLine_44
  · have hF := ifn hF (by omega)
    have hF := ifn hF (by omega)
    have hF := ifn hF (by omega)
    have hF := ifp hF c1
    refine lv_tableIn (off := 44) (tgt := 45) hx hb dX4_wordOfLine_1 (by omega) (by omega) (by rw [c1]; rfl) (by decide) ?_
    refine va_ldcS (own := RX4) hx hb hown (hSK.1 3 (by decide)).1 dX4_wordOfLine_45 ?_
    exact rt_r hx hb hr (Or.inl ⟨_, rfl⟩) hlk hS ⟨3, hF, hT, by decide, rfl⟩ dX4_wordOfLine_47
  · have hF := ifn hF (by omega)
    have hF := ifn hF (by omega)
    have hF := ifn hF (by omega)
    have hF := ifn hF (by omega)
    have hF := ifp hF c1
    refine lv_tableIn (off := 47) (tgt := 48) hx hb dX4_wordOfLine_1 (by omega) (by omega) (by rw [c1]; rfl) (by decide) ?_
    refine va_ldcS (own := RX4) hx hb hown (hSK.1 4 (by decide)).1 dX4_wordOfLine_48 ?_
    exact rt_r hx hb hr (Or.inl ⟨_, rfl⟩) hlk hS ⟨4, hF, hT, by decide, rfl⟩ dX4_wordOfLine_50
  · have hF := ifn hF (by omega)
    have hF := ifn hF (by omega)
    have hF := ifn hF (by omega)
    have hF := ifn hF (by omega)
    have hF := ifn hF (by omega)
    refine lv_tableOut (tgt := 51) hx hb dX4_wordOfLine_1 c1 (by decide) ?_
    refine va_ldcS (own := RX4) hx hb hown (hSK.1 5 (by decide)).1 dX4_wordOfLine_51 ?_
    exact rt_r hx hb hr (Or.inl ⟨_, rfl⟩) hlk hS ⟨5, hF, hT, by decide, rfl⟩ dX4_wordOfLine_53
theorem k_X4_lineWord : cBV yX4_lineWord cX4_lineWord 2 (some .int) 0 := ⟨mw_2_76, ms_0_4, mw_1_2, mw_2_77, ⟨by decide, by decide, by decide⟩⟩
set_option maxHeartbeats 4000000 in
set_option maxRecDepth 100000 in
theorem c_X4_lineWord (l : Launch) (z : Zt) (σ : Sg) (h0 o0 : Nat) (g0 : zG z h0 = (14, o0)) (out : Int) (hF : D_X4_lineWord (σ o0) = some out) : Met l yX4_lineWord (uw yX4_lineWord cX4_lineWord 2 (some .int)) (rmF 6 260) (PcW z [.ref h0] (fun H => TY z (zA z) σ H)) (QcI z (fun r H => some r.toInt = some out ∧ TY z (zA z) σ H ∧ (-4 ≤ r.toInt ∧ r.toInt ≤ 5))) 0 0 (zA z) := by
  refine Met.ofW (cc := cX4_lineWord) (maxL := 2) (ret := (some .int)) (by decide) rfl ?_
  intro p e s m args below meth c s₁ B hml hv
  obtain ⟨rfl, hT, hK, hSK⟩ := hv
  have hx := B.exec
  have hb := B.bytes
  have hr := B.returns
  have hts : ∀ w ∈ lw_ok, w.before ([.ref h0] : List Value).toArray s = true := fun w hw => atoms_spec (ws := uw yX4_lineWord cX4_lineWord 2 (some .int)) B.pre w (List.mem_cons_of_mem _ hw)
  have hown : s.vm.findClass RX4 = some m.cls := findClass_of_methodNamed B.named
  have hlk := B.notSynchronized
  have hC : CallFix p m c cX4_lineWord 2 s ([.ref h0] : List Value).toArray lw_ok RX4 := ⟨hx, hb, hml, hown, hts⟩
  have hS : va_S (zA z) s.heap s.heap [] := va_S.rf
  have hl := lv_entry ([.ref h0]) (n := 2) (Nat.le_of_ble_eq_true rfl)
  rw [lg_entry_eq]
  generalize (lg_sl ([.ref h0]) ++ List.replicate (2 - (lg_sl ([.ref h0])).length) Slot.unset).toArray = ls at hl ⊢
  have hl : lv_has ls 2 [(0, .ref h0)] := hl
  show W p l e (rmF 6 260) s m ([.ref h0] : List Value).toArray below meth c s.heap [] 0 0 (MQ below (QcI z (fun r H => some r.toInt = some out ∧ TY z (zA z) σ H ∧ (-4 ≤ r.toInt ∧ r.toInt ≤ 5))) ([.ref h0] : List Value).toArray s 0 0 (zA z)) (F0 m 0 ls [])
  unfold D_X4_lineWord at hF
  refine r_iconst hx hb dX4_lineWord_0 (by decide) (by decide) (fun x0 e0 => ?_)
  have hF := bn hF e0
  refine lv_istore_n (lv' := [(1, .int x0), (0, .ref h0)]) hx hb dX4_lineWord_1 rfl hl (by decide) rfl (fun ls hl => ?_)
  have J2 : ∀ (n2 : Nat) (ls : Array Slot) (H : Heap) (locs : List Loc) (y2_1 : Int32), (0 ≤ y2_1.toInt ∧ y2_1.toInt ≤ 6) → D_X4_lineWord_2 (σ o0) n2 y2_1.toInt = some out → TY z (zA z) σ H → va_S (zA z) s.heap H locs → lv_has ls 2 [(0, .ref h0), (1, .int y2_1)] → W p l e (rmF 6 260) s m ([.ref h0] : List Value).toArray below meth c H locs 0 0 (MQ below (QcI z (fun r H => some r.toInt = some out ∧ TY z (zA z) σ H ∧ (-4 ≤ r.toInt ∧ r.toInt ≤ 5))) ([.ref h0] : List Value).toArray s 0 0 (zA z)) (F0 m 2 ls []) := by
    intro n2
    induction n2 with
    | zero => intro ls H locs y2_1 j2_y2_1 hF hT hS hl; exact (no_s hF).elim
    | succ n2 ih2 =>
      intro ls H locs y2_1 j2_y2_1 hF hT hS hl
      rw [D_X4_lineWord_2.eq_2] at hF
      refine lv_iload_n hx hb dX4_lineWord_2 rfl (lv_at hl 1 rfl) ?_
      refine r_bipush hx hb dX4_lineWord_3 rfl (fun x3 e3 => ?_)
      have hF := bn hF e3
      refine r_icmp_ge (tgt := 27) hx hb dX4_lineWord_5 (by decide) (fun c5 => ?_) (fun c5 => ?_)
      · have hF := ifn hF (Int.not_lt.mpr c5)
        refine r_bipush hx hb dX4_lineWord_27 rfl (fun x27 e27 => ?_)
        have hF := bn hF e27
        exact rt_i hx hb hr hlk hS ⟨hF, hT, (by omega)⟩ dX4_lineWord_29
      · have hF := ifp hF c5
        refine lv_aload_n hx hb dX4_lineWord_8 rfl (lv_at hl 0 rfl) ?_
        refine lv_iload_n hx hb dX4_lineWord_9 rfl (lv_at hl 1 rfl) ?_
        obtain ⟨v10, hd10, -⟩ := bd0_s hF
        refine cl_Sr (rest := [.ref h0]) hC hK hSK (c_X4_wordOfLine l z σ y2_1 v10 hd10) k_X4_wordOfLine mw_2_78 ⟨rfl, rfl, Nat.le_of_ble_eq_true rfl, Nat.le_of_ble_eq_true rfl⟩ hT rfl hl.1 rfl (Nat.le_of_ble_eq_true rfl) dX4_lineWord_10 ⟨Nat.zero_le _, Nat.zero_le _⟩ hS (fun _ h => h) (fun _ _ h => h) (fun rw10 H locs hpo hS => ?_)
        obtain ⟨iw10, he10, hT, iv10, ie10⟩ := hpo
        have hF := bd0_r hF hd10 he10
        obtain ⟨tw10, hsw10⟩ := (hSK.1 iw10 iv10).2
        rw [← ie10] at hsw10
        rw [show (iw10 : Int).toNat = iw10 from rfl] at hF
        obtain ⟨v13, hd13, -⟩ := bd0_s hF
        refine cs_Vi (rest := []) hC hK hSK hsw10 (c_X4_isWord l z σ h0 o0 g0 rw10 tw10 iw10 v13 hd13) k_X4_isWord mw_2_87 ⟨rfl, rfl, Nat.le_of_ble_eq_true rfl, Nat.le_of_ble_eq_true rfl⟩ (rv_Tape hK hT g0) hT rfl hl.1 rfl (Nat.le_of_ble_eq_true rfl) dX4_lineWord_13 ⟨Nat.zero_le _, Nat.zero_le _⟩ hS (fun _ h => h) (fun _ _ h => h) (fun r13 H locs hpo hS => ?_)
        obtain ⟨he13, hT, ub13⟩ := hpo
        have hF := bd0_r hF hd13 he13
        refine r_if_eq (tgt := 21) hx hb dX4_lineWord_16 (by decide) (fun c16 => ?_) (fun c16 => ?_)
        · have hF := ifp hF c16
          refine r_iinc (lv' := fun v__ => [(1, .int v__), (0, .ref h0)]) hx hb dX4_lineWord_21 hl (k := 1) rfl (by decide) (fun _ => rfl) ⟨by decide, by decide⟩ (by omega) (by omega) (fun x21 ls e21 hl => ?_)
          have hF := bn hF e21
          refine lv_goto (tgt := 2) hx hb dX4_lineWord_24 (by decide) ?_
          exact ih2 ls _ _ x21 (by omega) hF hT hS (lv_sub hl [1, 0] rfl)
        · have hF := ifn hF c16
          refine lv_iload_n hx hb dX4_lineWord_19 rfl (lv_at hl 1 rfl) ?_
          exact rt_i hx hb hr hlk hS ⟨hF, hT, (by omega)⟩ dX4_lineWord_20
  exact J2 5000 ls _ _ x0 (by omega) hF hT hS (lv_sub hl [1, 0] rfl)
theorem k_X4_oneLine : cBV yX4_oneLine cX4_oneLine 2 (some .boolean) 0 := ⟨mw_2_72, ms_0_3, mw_1_2, mw_2_73, ⟨by decide, by decide, by decide⟩⟩
set_option maxHeartbeats 4000000 in
set_option maxRecDepth 100000 in
theorem c_X4_oneLine (l : Launch) (z : Zt) (σ : Sg) (h0 o0 : Nat) (g0 : zG z h0 = (14, o0)) (out : (Int × Lo)) (hF : D_X4_oneLine (σ o0) = some out) : Met l yX4_oneLine (uw yX4_oneLine cX4_oneLine 2 (some .boolean)) (rmF 8 303) (PcW z [.ref h0] (fun H => TY z (zA z) σ H)) (QcI z (fun r H => ∃ σ' : Sg, some (r.toInt, σ' o0) = some out ∧ FR σ σ' o0 ∧ TY z (zA z) σ' H ∧ (0 ≤ r.toInt ∧ r.toInt ≤ 1))) 0 0 (zA z) := by
  refine Met.ofW (cc := cX4_oneLine) (maxL := 2) (ret := (some .boolean)) (by decide) rfl ?_
  intro p e s m args below meth c s₁ B hml hv
  obtain ⟨rfl, hT, hK, hSK⟩ := hv
  have hx := B.exec
  have hb := B.bytes
  have hr := B.returns
  have hts : ∀ w ∈ lw_ok, w.before ([.ref h0] : List Value).toArray s = true := fun w hw => atoms_spec (ws := uw yX4_oneLine cX4_oneLine 2 (some .boolean)) B.pre w (List.mem_cons_of_mem _ hw)
  have hown : s.vm.findClass RX4 = some m.cls := findClass_of_methodNamed B.named
  have hlk := B.notSynchronized
  have hC : CallFix p m c cX4_oneLine 2 s ([.ref h0] : List Value).toArray lw_ok RX4 := ⟨hx, hb, hml, hown, hts⟩
  have hS : va_S (zA z) s.heap s.heap [] := va_S.rf
  have hl := lv_entry ([.ref h0]) (n := 2) (Nat.le_of_ble_eq_true rfl)
  rw [lg_entry_eq]
  generalize (lg_sl ([.ref h0]) ++ List.replicate (2 - (lg_sl ([.ref h0])).length) Slot.unset).toArray = ls at hl ⊢
  have hl : lv_has ls 2 [(0, .ref h0)] := hl
  show W p l e (rmF 8 303) s m ([.ref h0] : List Value).toArray below meth c s.heap [] 0 0 (MQ below (QcI z (fun r H => ∃ σ' : Sg, some (r.toInt, σ' o0) = some out ∧ FR σ σ' o0 ∧ TY z (zA z) σ' H ∧ (0 ≤ r.toInt ∧ r.toInt ≤ 1))) ([.ref h0] : List Value).toArray s 0 0 (zA z)) (F0 m 0 ls [])
  have hfr : FR σ σ o0 := FR_rf σ o0
  unfold D_X4_oneLine at hF
  refine lv_aload_n hx hb dX4_oneLine_0 rfl (lv_at hl 0 rfl) ?_
  refine gt_Tape_token hx hb hts ic_Tape hown hK hT g0 (hts _ mw_1_140) dX4_oneLine_1 (fun x1 e1 f1 g1 => ?_)
  have hF := bn hF e1
  refine r_iconst hx hb dX4_oneLine_4 (by decide) (by decide) (fun x4 e4 => ?_)
  have hF := bn hF e4
  have J17 : ∀ (ls : Array Slot) (H : Heap) (locs : List Loc) (t17_0 : Int32) (σj17 : Sg), (-4 ≤ t17_0.toInt ∧ t17_0.toInt ≤ 5) → D_X4_oneLine_17 (σj17 o0) t17_0.toInt = some out → FR σ σj17 o0 → TY z (zA z) σj17 H → va_S (zA z) s.heap H locs → lv_has ls 2 [(0, .ref h0)] → W p l e (rmF 8 303) s m ([.ref h0] : List Value).toArray below meth c H locs 0 0 (MQ below (QcI z (fun r H => ∃ σ' : Sg, some (r.toInt, σ' o0) = some out ∧ FR σ σ' o0 ∧ TY z (zA z) σ' H ∧ (0 ≤ r.toInt ∧ r.toInt ≤ 1))) ([.ref h0] : List Value).toArray s 0 0 (zA z)) (F0 m 17 ls [.int t17_0]) := by
    intro ls H locs t17_0 σj17 j17_t17_0 hF hfr hT hS hl
    unfold D_X4_oneLine_17 at hF
    refine lv_istore_n (lv' := [(1, .int t17_0), (0, .ref h0)]) hx hb dX4_oneLine_17 rfl hl (by decide) rfl (fun ls hl => ?_)
    refine lv_iload_n hx hb dX4_oneLine_18 rfl (lv_at hl 0 rfl) ?_
    refine r_bipush hx hb dX4_oneLine_19 rfl (fun x19 e19 => ?_)
    have hF := bn hF e19
    refine r_icmp_ne (tgt := 34) hx hb dX4_oneLine_21 (by decide) (fun c21 => ?_) (fun c21 => ?_)
    · have hF := ifn hF c21
      refine lv_iload_n hx hb dX4_oneLine_34 rfl (lv_at hl 0 rfl) ?_
      refine r_iconst hx hb dX4_oneLine_35 (by decide) (by decide) (fun x35 e35 => ?_)
      have hF := bn hF e35
      refine r_icmp_ge (tgt := 45) hx hb dX4_oneLine_36 (by decide) (fun c36 => ?_) (fun c36 => ?_)
      · have hF := ifn hF (Int.not_lt.mpr c36)
        refine lv_iload_n hx hb dX4_oneLine_45 rfl (lv_at hl 0 rfl) ?_
        refine r_iconst hx hb dX4_oneLine_46 (by decide) (by decide) (fun x46 e46 => ?_)
        have hF := bn hF e46
        refine r_icmp_ne (tgt := 57) hx hb dX4_oneLine_47 (by decide) (fun c47 => ?_) (fun c47 => ?_)
        · have hF := ifn hF c47
          refine lv_aload_n hx hb dX4_oneLine_57 rfl (lv_at hl 1 rfl) ?_
          obtain ⟨v58, s58, hd58, -⟩ := bd2_s hF
          refine cl_Vi (rest := []) hC hK hSK (c_X4_programLine l z σj17 h0 (o0) g0 (v58, s58) hd58) k_X4_programLine mw_2_173 ⟨rfl, rfl, Nat.le_of_ble_eq_true rfl, Nat.le_of_ble_eq_true rfl⟩ (rv_Tape hK hT g0) hT rfl hl.1 rfl (Nat.le_of_ble_eq_true rfl) dX4_oneLine_58 ⟨Nat.zero_le _, Nat.zero_le _⟩ hS (fun _ h => h) (fun _ _ h => h) (fun r58 H locs hpo hS => ?_)
          obtain ⟨σ58, he58, hf58, hT, u58_0⟩ := hpo
          have hF := bd2_r hF hd58 he58
          have hfr := FR_tr hf58 hfr
          exact rt_z hx hb hr hlk hS (by omega) (by omega) ⟨σ58, hF, hfr, hT, (by omega)⟩ dX4_oneLine_61
        · have hF := ifp hF c47
          refine lv_aload_n hx hb dX4_oneLine_50 rfl (lv_at hl 1 rfl) ?_
          obtain ⟨v51, s51, hd51, -⟩ := bd2_s hF
          refine cl_Vi (rest := []) hC hK hSK (c_X4_cousinsLine l z σj17 h0 (o0) g0 (v51, s51) hd51) k_X4_cousinsLine mw_2_155 ⟨rfl, rfl, Nat.le_of_ble_eq_true rfl, Nat.le_of_ble_eq_true rfl⟩ (rv_Tape hK hT g0) hT rfl hl.1 rfl (Nat.le_of_ble_eq_true rfl) dX4_oneLine_51 ⟨Nat.zero_le _, Nat.zero_le _⟩ hS (fun _ h => h) (fun _ _ h => h) (fun r51 H locs hpo hS => ?_)
          obtain ⟨σ51, he51, hf51, hT, u51_0⟩ := hpo
          have hF := bd2_r hF hd51 he51
          have hfr := FR_tr hf51 hfr
          refine lv_goto (tgt := 61) hx hb dX4_oneLine_54 (by decide) ?_
          exact rt_z hx hb hr hlk hS (by omega) (by omega) ⟨σ51, hF, hfr, hT, (by omega)⟩ dX4_oneLine_61
      · have hF := ifp hF c36
        refine lv_aload_n hx hb dX4_oneLine_39 rfl (lv_at hl 1 rfl) ?_
        refine lv_iload_n hx hb dX4_oneLine_40 rfl (lv_at hl 0 rfl) ?_
        obtain ⟨v41, s41, hd41, -⟩ := bd2_s hF
        refine cl_Vi (rest := []) hC hK hSK (c_X4_manLine l z σj17 h0 (o0) g0 t17_0 (v41, s41) hd41) k_X4_manLine mw_2_139 ⟨rfl, rfl, Nat.le_of_ble_eq_true rfl, Nat.le_of_ble_eq_true rfl⟩ (rv_Tape hK hT g0) hT rfl hl.1 rfl (Nat.le_of_ble_eq_true rfl) dX4_oneLine_41 ⟨Nat.zero_le _, Nat.zero_le _⟩ hS (fun _ h => h) (fun _ _ h => h) (fun r41 H locs hpo hS => ?_)
        obtain ⟨σ41, he41, hf41, hT, u41_0⟩ := hpo
        have hF := bd2_r hF hd41 he41
        have hfr := FR_tr hf41 hfr
        exact rt_z hx hb hr hlk hS (by omega) (by omega) ⟨σ41, hF, hfr, hT, (by omega)⟩ dX4_oneLine_44
    · have hF := ifp hF c21
      refine lv_aload_n hx hb dX4_oneLine_24 rfl (lv_at hl 1 rfl) ?_
      refine r_iconst hx hb dX4_oneLine_25 (by decide) (by decide) (fun x25 e25 => ?_)
      have hF := bn hF e25
      refine lv_aload_n hx hb dX4_oneLine_26 rfl (lv_at hl 1 rfl) ?_
      refine gt_Tape_start hx hb hts ic_Tape hown hK hT g0 (hts _ mw_1_141) dX4_oneLine_27 (fun x27 e27 f27 g27 => ?_)
      have hF := bn hF e27
      obtain ⟨v30, s30, hd30, -⟩ := bd2_s hF
      refine cl_Vi (rest := []) hC hK hSK (c_X4_refuse l z σj17 h0 (o0) g0 x25 x27 (v30, s30) hd30 (by omega) (by omega)) k_X4_refuse mw_2_66 ⟨rfl, rfl, Nat.le_of_ble_eq_true rfl, Nat.le_of_ble_eq_true rfl⟩ (rv_Tape hK hT g0) hT rfl hl.1 rfl (Nat.le_of_ble_eq_true rfl) dX4_oneLine_30 ⟨Nat.zero_le _, Nat.zero_le _⟩ hS (fun _ h => h) (fun _ _ h => h) (fun r30 H locs hpo hS => ?_)
      obtain ⟨σ30, he30, hf30, hT, u30_0⟩ := hpo
      have hF := bd2_r hF hd30 he30
      have hfr := FR_tr hf30 hfr
      exact rt_z hx hb hr hlk hS (by omega) (by omega) ⟨σ30, hF, hfr, hT, (by omega)⟩ dX4_oneLine_33
  refine r_icmp_ne (tgt := 15) hx hb dX4_oneLine_5 (by decide) (fun c5 => ?_) (fun c5 => ?_)
  · have hF := ifn hF c5
    refine r_bipush hx hb dX4_oneLine_15 rfl (fun x15 e15 => ?_)
    have hF := bn hF e15
    exact J17 ls _ _ x15 σ (by omega) hF hfr hT hS (lv_sub hl [0] rfl)
  · have hF := ifp hF c5
    refine lv_aload_n hx hb dX4_oneLine_8 rfl (lv_at hl 0 rfl) ?_
    obtain ⟨v9, hd9, -⟩ := bd0_s hF
    refine cl_Vi (rest := []) hC hK hSK (c_X4_lineWord l z σ h0 (o0) g0 v9 hd9) k_X4_lineWord mw_2_74 ⟨rfl, rfl, Nat.le_of_ble_eq_true rfl, Nat.le_of_ble_eq_true rfl⟩ (rv_Tape hK hT g0) hT rfl hl.1 rfl (Nat.le_of_ble_eq_true rfl) dX4_oneLine_9 ⟨Nat.zero_le _, Nat.zero_le _⟩ hS (fun _ h => h) (fun _ _ h => h) (fun r9 H locs hpo hS => ?_)
    obtain ⟨he9, hT, u9_0⟩ := hpo
    have hF := bd0_r hF hd9 he9
    refine lv_goto (tgt := 17) hx hb dX4_oneLine_12 (by decide) ?_
    exact J17 ls _ _ r9 σ (by omega) hF hfr hT hS (lv_sub hl [0] rfl)
theorem k_X4_wholeText : cBV yX4_wholeText cX4_wholeText 2 (some .int) 0 := ⟨mw_2_48, mw_2_49, mw_1_2, mw_2_50, ⟨by decide, by decide, by decide⟩⟩
set_option maxHeartbeats 4000000 in
set_option maxRecDepth 100000 in
theorem c_X4_wholeText (l : Launch) (z : Zt) (σ : Sg) (h0 o0 : Nat) (g0 : zG z h0 = (14, o0)) (out : (Int × Lo)) (hF : D_X4_wholeText (σ o0) = some out) : Met l yX4_wholeText (uw yX4_wholeText cX4_wholeText 2 (some .int)) (rmF 9 324) (PcW z [.ref h0] (fun H => TY z (zA z) σ H)) (QcI z (fun r H => ∃ σ' : Sg, some (r.toInt, σ' o0) = some out ∧ FR σ σ' o0 ∧ TY z (zA z) σ' H ∧ (0 ≤ r.toInt ∧ r.toInt ≤ 161))) 0 0 (zA z) := by
  refine Met.ofW (cc := cX4_wholeText) (maxL := 2) (ret := (some .int)) (by decide) rfl ?_
  intro p e s m args below meth c s₁ B hml hv
  obtain ⟨rfl, hT, hK, hSK⟩ := hv
  have hx := B.exec
  have hb := B.bytes
  have hr := B.returns
  have hts : ∀ w ∈ lw_ok, w.before ([.ref h0] : List Value).toArray s = true := fun w hw => atoms_spec (ws := uw yX4_wholeText cX4_wholeText 2 (some .int)) B.pre w (List.mem_cons_of_mem _ hw)
  have hown : s.vm.findClass RX4 = some m.cls := findClass_of_methodNamed B.named
  have hlk := B.notSynchronized
  have hC : CallFix p m c cX4_wholeText 2 s ([.ref h0] : List Value).toArray lw_ok RX4 := ⟨hx, hb, hml, hown, hts⟩
  have hS : va_S (zA z) s.heap s.heap [] := va_S.rf
  have hl := lv_entry ([.ref h0]) (n := 2) (Nat.le_of_ble_eq_true rfl)
  rw [lg_entry_eq]
  generalize (lg_sl ([.ref h0]) ++ List.replicate (2 - (lg_sl ([.ref h0])).length) Slot.unset).toArray = ls at hl ⊢
  have hl : lv_has ls 2 [(0, .ref h0)] := hl
  show W p l e (rmF 9 324) s m ([.ref h0] : List Value).toArray below meth c s.heap [] 0 0 (MQ below (QcI z (fun r H => ∃ σ' : Sg, some (r.toInt, σ' o0) = some out ∧ FR σ σ' o0 ∧ TY z (zA z) σ' H ∧ (0 ≤ r.toInt ∧ r.toInt ≤ 161))) ([.ref h0] : List Value).toArray s 0 0 (zA z)) (F0 m 0 ls [])
  have hfr : FR σ σ o0 := FR_rf σ o0
  unfold D_X4_wholeText at hF
  refine lv_aload_n hx hb dX4_wholeText_0 rfl (lv_at hl 0 rfl) ?_
  refine gt_Tape_draft hx hb hts ic_Tape hown hK hT g0 (hts _ mw_1_131) dX4_wholeText_1 (fun q1 hq1 => ?_)
  obtain ⟨s4, hd4, -⟩ := bd1_s hF
  refine cl_Vv (rest := []) hC hK hSK (c_X0_empty l z σ q1 (o0) hq1 s4 hd4) k_X0_empty mw_2_51 ⟨rfl, rfl, Nat.le_of_ble_eq_true rfl, Nat.le_of_ble_eq_true rfl⟩ (rv_Evening hK hT hq1) hT rfl hl.1 rfl (Nat.le_of_ble_eq_true rfl) dX4_wholeText_4 ⟨Nat.zero_le _, Nat.zero_le _⟩ hS (fun _ h => h) (fun _ _ h => h) (fun H locs hpo hS => ?_)
  obtain ⟨σ4, he4, hf4, hT⟩ := hpo
  have hF := bd1_r hF hd4 he4
  have hfr := FR_tr hf4 hfr
  refine lv_aload_n hx hb dX4_wholeText_7 rfl (lv_at hl 0 rfl) ?_
  refine r_iconst hx hb dX4_wholeText_8 (by decide) (by decide) (fun x8 e8 => ?_)
  have hF := bn hF e8
  refine pt_Tape_faultFound hx hb hts ic_Tape hown hK hT hS g0 (hts _ mw_1_135) (by omega) (by omega) dX4_wholeText_9 (fun H locs hT hS => ?_)
  obtain ⟨σ9, hF, hfr, hT⟩ := wrL hF hfr hT
  refine lv_aload_n hx hb dX4_wholeText_12 rfl (lv_at hl 0 rfl) ?_
  refine r_iconst hx hb dX4_wholeText_13 (by decide) (by decide) (fun x13 e13 => ?_)
  have hF := bn hF e13
  refine pt_Tape_place hx hb hts ic_Tape hown hK hT hS g0 (hts _ mw_1_137) (by omega) (by omega) dX4_wholeText_14 (fun H locs hT hS => ?_)
  obtain ⟨σ14, hF, hfr, hT⟩ := wrL hF hfr hT
  refine lv_aload_n hx hb dX4_wholeText_17 rfl (lv_at hl 0 rfl) ?_
  refine r_iconst hx hb dX4_wholeText_18 (by decide) (by decide) (fun x18 e18 => ?_)
  have hF := bn hF e18
  refine pt_Tape_next hx hb hts ic_Tape hown hK hT hS g0 (hts _ mw_1_139) (by omega) (by omega) dX4_wholeText_19 (fun H locs hT hS => ?_)
  obtain ⟨σ19, hF, hfr, hT⟩ := wrL hF hfr hT
  refine lv_aload_n hx hb dX4_wholeText_22 rfl (lv_at hl 0 rfl) ?_
  refine r_iconst hx hb dX4_wholeText_23 (by decide) (by decide) (fun x23 e23 => ?_)
  have hF := bn hF e23
  refine pt_Tape_hasProgram hx hb hts ic_Tape hown hK hT hS g0 (hts _ mw_1_143) (by omega) (by omega) dX4_wholeText_24 (fun H locs hT hS => ?_)
  obtain ⟨σ24, hF, hfr, hT⟩ := wrL hF hfr hT
  refine r_iconst hx hb dX4_wholeText_27 (by decide) (by decide) (fun x27 e27 => ?_)
  have hF := bn hF e27
  refine lv_istore_n (lv' := [(1, .int x27), (0, .ref h0)]) hx hb dX4_wholeText_28 rfl hl (by decide) rfl (fun ls hl => ?_)
  have J29 : ∀ (n29 : Nat) (ls : Array Slot) (H : Heap) (locs : List Loc) (y29_1 : Int32) (σj29 : Sg), (0 ≤ y29_1.toInt ∧ y29_1.toInt ≤ 161) → D_X4_wholeText_29 n29 (σj29 o0) y29_1.toInt = some out → FR σ σj29 o0 → TY z (zA z) σj29 H → va_S (zA z) s.heap H locs → lv_has ls 2 [(0, .ref h0), (1, .int y29_1)] → W p l e (rmF 9 324) s m ([.ref h0] : List Value).toArray below meth c H locs 0 0 (MQ below (QcI z (fun r H => ∃ σ' : Sg, some (r.toInt, σ' o0) = some out ∧ FR σ σ' o0 ∧ TY z (zA z) σ' H ∧ (0 ≤ r.toInt ∧ r.toInt ≤ 161))) ([.ref h0] : List Value).toArray s 0 0 (zA z)) (F0 m 29 ls []) := by
    intro n29
    induction n29 with
    | zero => intro ls H locs y29_1 σj29 j29_y29_1 hF hfr hT hS hl; exact (no_s hF).elim
    | succ n29 ih29 =>
      intro ls H locs y29_1 σj29 j29_y29_1 hF hfr hT hS hl
      rw [D_X4_wholeText_29.eq_2] at hF
      refine lv_iload_n hx hb dX4_wholeText_29 rfl (lv_at hl 1 rfl) ?_
      refine r_sipush hx hb dX4_wholeText_30 rfl (fun x30 e30 => ?_)
      have hF := bn hF e30
      have J65 : ∀ (ls : Array Slot) (H : Heap) (locs : List Loc) (σj65 : Sg), D_X4_wholeText_65 y29_1.toInt (σj65 o0) = some out → FR σ σj65 o0 → TY z (zA z) σj65 H → va_S (zA z) s.heap H locs → lv_has ls 2 [(0, .ref h0), (1, .int y29_1)] → W p l e (rmF 9 324) s m ([.ref h0] : List Value).toArray below meth c H locs 0 0 (MQ below (QcI z (fun r H => ∃ σ' : Sg, some (r.toInt, σ' o0) = some out ∧ FR σ σ' o0 ∧ TY z (zA z) σ' H ∧ (0 ≤ r.toInt ∧ r.toInt ≤ 161))) ([.ref h0] : List Value).toArray s 0 0 (zA z)) (F0 m 65 ls []) := by
        intro ls H locs σj65 hF hfr hT hS hl
        unfold D_X4_wholeText_65 at hF
        refine lv_aload_n hx hb dX4_wholeText_65 rfl (lv_at hl 0 rfl) ?_
        refine gt_Tape_faultFound hx hb hts ic_Tape hown hK hT g0 (hts _ mw_1_135) dX4_wholeText_66 (fun x66 e66 f66 g66 => ?_)
        have hF := bn hF e66
        refine r_if_ne (tgt := 93) hx hb dX4_wholeText_69 (by decide) (fun c69 => ?_) (fun c69 => ?_)
        · have hF := ifn hF c69
          refine lv_iload_n hx hb dX4_wholeText_93 rfl (lv_at hl 1 rfl) ?_
          exact rt_i hx hb hr hlk hS ⟨σj65, hF, hfr, hT, (by omega)⟩ dX4_wholeText_94
        · have hF := ifp hF c69
          refine lv_aload_n hx hb dX4_wholeText_72 rfl (lv_at hl 0 rfl) ?_
          refine gt_Tape_draft hx hb hts ic_Tape hown hK hT g0 (hts _ mw_1_131) dX4_wholeText_73 (fun q73 hq73 => ?_)
          obtain ⟨v76, hd76, -⟩ := bd0_s hF
          refine cl_Vi (rest := []) hC hK hSK (c_X0_hasStrangers l z σj65 q73 (o0) hq73 v76 hd76) k_X0_hasStrangers mw_2_192 ⟨rfl, rfl, Nat.le_of_ble_eq_true rfl, Nat.le_of_ble_eq_true rfl⟩ (rv_Evening hK hT hq73) hT rfl hl.1 rfl (Nat.le_of_ble_eq_true rfl) dX4_wholeText_76 ⟨Nat.zero_le _, Nat.zero_le _⟩ hS (fun _ h => h) (fun _ _ h => h) (fun r76 H locs hpo hS => ?_)
          obtain ⟨he76, hT, u76_0⟩ := hpo
          have hF := bd0_r hF hd76 he76
          refine r_if_eq (tgt := 93) hx hb dX4_wholeText_79 (by decide) (fun c79 => ?_) (fun c79 => ?_)
          · have hF := ifp hF c79
            refine lv_iload_n hx hb dX4_wholeText_93 rfl (lv_at hl 1 rfl) ?_
            exact rt_i hx hb hr hlk hS ⟨σj65, hF, hfr, hT, (by omega)⟩ dX4_wholeText_94
          · have hF := ifn hF c79
            refine lv_aload_n hx hb dX4_wholeText_82 rfl (lv_at hl 0 rfl) ?_
            refine r_bipush hx hb dX4_wholeText_83 rfl (fun x83 e83 => ?_)
            have hF := bn hF e83
            refine lv_aload_n hx hb dX4_wholeText_85 rfl (lv_at hl 0 rfl) ?_
            refine gt_Tape_length hx hb hts ic_Tape hown hK hT g0 (hts _ mw_1_134) dX4_wholeText_86 (fun x86 e86 f86 g86 => ?_)
            have hF := bn hF e86
            obtain ⟨v89, s89, hd89, -⟩ := bd2_s hF
            refine cl_Vi (rest := []) hC hK hSK (c_X4_refuse l z σj65 h0 (o0) g0 x83 x86 (v89, s89) hd89 (by omega) (by omega)) k_X4_refuse mw_2_66 ⟨rfl, rfl, Nat.le_of_ble_eq_true rfl, Nat.le_of_ble_eq_true rfl⟩ (rv_Tape hK hT g0) hT rfl hl.1 rfl (Nat.le_of_ble_eq_true rfl) dX4_wholeText_89 ⟨Nat.zero_le _, Nat.zero_le _⟩ hS (fun _ h => h) (fun _ _ h => h) (fun r89 H locs hpo hS => ?_)
            obtain ⟨σ89, he89, hf89, hT, u89_0⟩ := hpo
            have hF := bd2_r hF hd89 he89
            have hfr := FR_tr hf89 hfr
            refine lv_pop hx hb dX4_wholeText_92 rfl ?_
            refine lv_iload_n hx hb dX4_wholeText_93 rfl (lv_at hl 1 rfl) ?_
            exact rt_i hx hb hr hlk hS ⟨σ89, hF, hfr, hT, (by omega)⟩ dX4_wholeText_94
      refine r_icmp_gt (tgt := 65) hx hb dX4_wholeText_33 (by decide) (fun c33 => ?_) (fun c33 => ?_)
      · have hF := ifp hF c33
        exact J65 ls _ _ σj29 hF hfr hT hS (lv_sub hl [0, 1] rfl)
      · have hF := ifn hF (Int.not_lt.mpr c33)
        refine lv_aload_n hx hb dX4_wholeText_36 rfl (lv_at hl 0 rfl) ?_
        obtain ⟨v37, s37, hd37, -⟩ := bd2_s hF
        refine cl_Vi (rest := []) hC hK hSK (c_X4_advance l z σj29 h0 (o0) g0 (v37, s37) hd37) k_X4_advance mw_2_58 ⟨rfl, rfl, Nat.le_of_ble_eq_true rfl, Nat.le_of_ble_eq_true rfl⟩ (rv_Tape hK hT g0) hT rfl hl.1 rfl (Nat.le_of_ble_eq_true rfl) dX4_wholeText_37 ⟨Nat.zero_le _, Nat.zero_le _⟩ hS (fun _ h => h) (fun _ _ h => h) (fun r37 H locs hpo hS => ?_)
        obtain ⟨σ37, he37, hf37, hT, u37_0⟩ := hpo
        have hF := bd2_r hF hd37 he37
        have hfr := FR_tr hf37 hfr
        refine r_if_eq (tgt := 65) hx hb dX4_wholeText_40 (by decide) (fun c40 => ?_) (fun c40 => ?_)
        · have hF := ifp hF c40
          exact J65 ls _ _ σ37 hF hfr hT hS (lv_sub hl [0, 1] rfl)
        · have hF := ifn hF c40
          refine lv_aload_n hx hb dX4_wholeText_43 rfl (lv_at hl 0 rfl) ?_
          refine gt_Tape_token hx hb hts ic_Tape hown hK hT g0 (hts _ mw_1_140) dX4_wholeText_44 (fun x44 e44 f44 g44 => ?_)
          have hF := bn hF e44
          refine r_if_eq (tgt := 65) hx hb dX4_wholeText_47 (by decide) (fun c47 => ?_) (fun c47 => ?_)
          · have hF := ifp hF c47
            exact J65 ls _ _ σ37 hF hfr hT hS (lv_sub hl [0, 1] rfl)
          · have hF := ifn hF c47
            refine lv_aload_n hx hb dX4_wholeText_50 rfl (lv_at hl 0 rfl) ?_
            obtain ⟨v51, s51, hd51, -⟩ := bd2_s hF
            refine cl_Vi (rest := []) hC hK hSK (c_X4_oneLine l z σ37 h0 (o0) g0 (v51, s51) hd51) k_X4_oneLine mw_2_70 ⟨rfl, rfl, Nat.le_of_ble_eq_true rfl, Nat.le_of_ble_eq_true rfl⟩ (rv_Tape hK hT g0) hT rfl hl.1 rfl (Nat.le_of_ble_eq_true rfl) dX4_wholeText_51 ⟨Nat.zero_le _, Nat.zero_le _⟩ hS (fun _ h => h) (fun _ _ h => h) (fun r51 H locs hpo hS => ?_)
            obtain ⟨σ51, he51, hf51, hT, u51_0⟩ := hpo
            have hF := bd2_r hF hd51 he51
            have hfr := FR_tr hf51 hfr
            refine r_if_ne (tgt := 59) hx hb dX4_wholeText_54 (by decide) (fun c54 => ?_) (fun c54 => ?_)
            · have hF := ifn hF c54
              refine r_iinc (lv' := fun v__ => [(1, .int v__), (0, .ref h0)]) hx hb dX4_wholeText_59 hl (k := 1) rfl (by decide) (fun _ => rfl) ⟨by decide, by decide⟩ (by omega) (by omega) (fun x59 ls e59 hl => ?_)
              have hF := bn hF e59
              refine lv_goto (tgt := 29) hx hb dX4_wholeText_62 (by decide) ?_
              exact ih29 ls _ _ x59 σ51 (by omega) hF hfr hT hS (lv_sub hl [1, 0] rfl)
            · have hF := ifp hF c54
              refine lv_iload_n hx hb dX4_wholeText_57 rfl (lv_at hl 1 rfl) ?_
              exact rt_i hx hb hr hlk hS ⟨σ51, hF, hfr, hT, (by omega)⟩ dX4_wholeText_58
  exact J29 5000 ls _ _ x27 σ24 (by omega) hF hfr hT hS (lv_sub hl [1, 0] rfl)
