theorem k_X7_firstDraft : cBV yX7_firstDraft cX7_firstDraft 2 none 0 := ⟨mw_4_64, ms_1_12, mw_1_8, mw_4_65, ⟨by decide, by decide, by decide⟩⟩
set_option maxHeartbeats 4000000 in
set_option maxRecDepth 100000 in
theorem c_X7_firstDraft (l : Launch) (z : Zt) (σ : Sg) (h0 o0 : Nat) (g0 : zG z h0 = (17, o0)) (out : Lo) (hF : D_X7_firstDraft (σ o0) = some out) : Met l yX7_firstDraft (uw yX7_firstDraft cX7_firstDraft 2 none) (rmF 1 64) (PcW z [.ref h0] (fun H => TY z (zA z) σ H)) (QcV z (fun H => ∃ σ' : Sg, some (σ' o0) = some out ∧ FR σ σ' o0 ∧ TY z (zA z) σ' H)) 0 0 (zA z) := by
  refine Met.ofW (cc := cX7_firstDraft) (maxL := 2) (ret := none) (by decide) rfl ?_
  intro p e s m args below meth c s₁ B hml hv
  obtain ⟨rfl, hT, hK, hSK⟩ := hv
  have hx := B.exec
  have hb := B.bytes
  have hr := B.returns
  have hts : ∀ w ∈ lw_ok, w.before ([.ref h0] : List Value).toArray s = true := fun w hw => atoms_spec (ws := uw yX7_firstDraft cX7_firstDraft 2 none) B.pre w (List.mem_cons_of_mem _ hw)
  have hown : s.vm.findClass RX7 = some m.cls := findClass_of_methodNamed B.named
  have hlk := B.notSynchronized
  have hC : CallFix p m c cX7_firstDraft 2 s ([.ref h0] : List Value).toArray lw_ok RX7 := ⟨hx, hb, hml, hown, hts⟩
  have hS : va_S (zA z) s.heap s.heap [] := va_S.rf
  have hl := lv_entry ([.ref h0]) (n := 2) (Nat.le_of_ble_eq_true rfl)
  rw [lg_entry_eq]
  generalize (lg_sl ([.ref h0]) ++ List.replicate (2 - (lg_sl ([.ref h0])).length) Slot.unset).toArray = ls at hl ⊢
  have hl : lv_has ls 2 [(0, .ref h0)] := hl
  show W p l e (rmF 1 64) s m ([.ref h0] : List Value).toArray below meth c s.heap [] 0 0 (MQ below (QcV z (fun H => ∃ σ' : Sg, some (σ' o0) = some out ∧ FR σ σ' o0 ∧ TY z (zA z) σ' H)) ([.ref h0] : List Value).toArray s 0 0 (zA z)) (F0 m 0 ls [])
  have hfr : FR σ σ o0 := FR_rf σ o0
  unfold D_X7_firstDraft at hF
  refine r_iconst hx hb dX7_firstDraft_0 (by decide) (by decide) (fun x0 e0 => ?_)
  have hF := bn hF e0
  refine lv_istore_n (lv' := [(1, .int x0), (0, .ref h0)]) hx hb dX7_firstDraft_1 rfl hl (by decide) rfl (fun ls hl => ?_)
  have J2 : ∀ (n2 : Nat) (ls : Array Slot) (H : Heap) (locs : List Loc) (y2_1 : Int32) (σj2 : Sg), (0 ≤ y2_1.toInt ∧ y2_1.toInt ≤ 59) → D_X7_firstDraft_2 n2 (σj2 o0) y2_1.toInt = some out → FR σ σj2 o0 → TY z (zA z) σj2 H → va_S (zA z) s.heap H locs → lv_has ls 2 [(0, .ref h0), (1, .int y2_1)] → W p l e (rmF 1 64) s m ([.ref h0] : List Value).toArray below meth c H locs 0 0 (MQ below (QcV z (fun H => ∃ σ' : Sg, some (σ' o0) = some out ∧ FR σ σ' o0 ∧ TY z (zA z) σ' H)) ([.ref h0] : List Value).toArray s 0 0 (zA z)) (F0 m 2 ls []) := by
    intro n2
    induction n2 with
    | zero => intro ls H locs y2_1 σj2 j2_y2_1 hF hfr hT hS hl; exact (no_s hF).elim
    | succ n2 ih2 =>
      intro ls H locs y2_1 σj2 j2_y2_1 hF hfr hT hS hl
      rw [D_X7_firstDraft_2.eq_2] at hF
      refine lv_iload_n hx hb dX7_firstDraft_2 rfl (lv_at hl 1 rfl) ?_
      refine r_bipush hx hb dX7_firstDraft_3 rfl (fun x3 e3 => ?_)
      have hF := bn hF e3
      refine r_icmp_ge (tgt := 21) hx hb dX7_firstDraft_5 (by decide) (fun c5 => ?_) (fun c5 => ?_)
      · have hF := ifn hF (Int.not_lt.mpr c5)
        refine r_iconst hx hb dX7_firstDraft_21 (by decide) (by decide) (fun x21 e21 => ?_)
        have hF := bn hF e21
        refine lv_istore_n (lv' := [(1, .int x21), (0, .ref h0)]) hx hb dX7_firstDraft_22 rfl hl (by decide) rfl (fun ls hl => ?_)
        have J23 : ∀ (n23 : Nat) (ls : Array Slot) (H : Heap) (locs : List Loc) (y23_1 : Int32) (σj23 : Sg), (0 ≤ y23_1.toInt ∧ y23_1.toInt ≤ 5) → D_X7_firstDraft_23 n23 (σj23 o0) y23_1.toInt = some out → FR σ σj23 o0 → TY z (zA z) σj23 H → va_S (zA z) s.heap H locs → lv_has ls 2 [(0, .ref h0), (1, .int y23_1)] → W p l e (rmF 1 64) s m ([.ref h0] : List Value).toArray below meth c H locs 0 0 (MQ below (QcV z (fun H => ∃ σ' : Sg, some (σ' o0) = some out ∧ FR σ σ' o0 ∧ TY z (zA z) σ' H)) ([.ref h0] : List Value).toArray s 0 0 (zA z)) (F0 m 23 ls []) := by
          intro n23
          induction n23 with
          | zero => intro ls H locs y23_1 σj23 j23_y23_1 hF hfr hT hS hl; exact (no_s hF).elim
          | succ n23 ih23 =>
            intro ls H locs y23_1 σj23 j23_y23_1 hF hfr hT hS hl
            rw [D_X7_firstDraft_23.eq_2] at hF
            refine lv_iload_n hx hb dX7_firstDraft_23 rfl (lv_at hl 1 rfl) ?_
            refine r_iconst hx hb dX7_firstDraft_24 (by decide) (by decide) (fun x24 e24 => ?_)
            have hF := bn hF e24
            refine r_icmp_ge (tgt := 44) hx hb dX7_firstDraft_25 (by decide) (fun c25 => ?_) (fun c25 => ?_)
            · have hF := ifn hF (Int.not_lt.mpr c25)
              refine lv_aload_n hx hb dX7_firstDraft_44 rfl (lv_at hl 0 rfl) ?_
              refine r_iconst hx hb dX7_firstDraft_45 (by decide) (by decide) (fun x45 e45 => ?_)
              have hF := bn hF e45
              refine pt_Model_dMen hx hb hts ic_Model hown hK hT hS g0 (hts _ mw_4_75) (by omega) (by omega) dX7_firstDraft_46 (fun H locs hT hS => ?_)
              obtain ⟨σ46, hF, hfr, hT⟩ := wrL hF hfr hT
              refine lv_aload_n hx hb dX7_firstDraft_49 rfl (lv_at hl 0 rfl) ?_
              refine r_iconst hx hb dX7_firstDraft_50 (by decide) (by decide) (fun x50 e50 => ?_)
              have hF := bn hF e50
              refine pt_Model_dKin hx hb hts ic_Model hown hK hT hS g0 (hts _ mw_4_76) (by omega) (by omega) dX7_firstDraft_51 (fun H locs hT hS => ?_)
              obtain ⟨σ51, hF, hfr, hT⟩ := wrL hF hfr hT
              refine lv_aload_n hx hb dX7_firstDraft_54 rfl (lv_at hl 0 rfl) ?_
              refine r_iconst hx hb dX7_firstDraft_55 (by decide) (by decide) (fun x55 e55 => ?_)
              have hF := bn hF e55
              refine pt_Model_hasProgram hx hb hts ic_Model hown hK hT hS g0 (hts _ mw_4_77) (by omega) (by omega) dX7_firstDraft_56 (fun H locs hT hS => ?_)
              obtain ⟨σ56, hF, hfr, hT⟩ := wrL hF hfr hT
              refine lv_aload_n hx hb dX7_firstDraft_59 rfl (lv_at hl 0 rfl) ?_
              refine r_bipush hx hb dX7_firstDraft_60 rfl (fun x60 e60 => ?_)
              have hF := bn hF e60
              refine pt_Model_highest hx hb hts ic_Model hown hK hT hS g0 (hts _ mw_4_78) (by omega) (by omega) dX7_firstDraft_62 (fun H locs hT hS => ?_)
              obtain ⟨σ62, hF, hfr, hT⟩ := wrL hF hfr hT
              exact rt_v hx hb hr hlk hS ⟨σ62, hF, hfr, hT⟩ dX7_firstDraft_65
            · have hF := ifp hF c25
              refine lv_aload_n hx hb dX7_firstDraft_28 rfl (lv_at hl 0 rfl) ?_
              refine gt_Model_draft hx hb hts ic_Model hown hK hT g0 (hts _ mw_4_74) dX7_firstDraft_29 (fun q29 hq29 => ?_)
              refine r_bipush hx hb dX7_firstDraft_32 rfl (fun x32 e32 => ?_)
              have hF := bn hF e32
              refine lv_iload_n hx hb dX7_firstDraft_34 rfl (lv_at hl 1 rfl) ?_
              refine r_iadd hx hb dX7_firstDraft_35 (by omega) (by omega) (fun x35 e35 => ?_)
              have hF := bn hF e35
              refine lv_iload_n hx hb dX7_firstDraft_36 rfl (lv_at hl 1 rfl) ?_
              refine as_43 hx hb hK hT hS hq29 (by omega) (by omega) (gd59_m20 (by omega) (by omega) ⟨by omega, by omega⟩) dX7_firstDraft_37 (fun H locs hT hS => ?_)
              obtain ⟨σ37, hF, hfr, hT⟩ := wrL hF hfr hT
              refine r_iinc (lv' := fun v__ => [(1, .int v__), (0, .ref h0)]) hx hb dX7_firstDraft_38 hl (k := 1) rfl (by decide) (fun _ => rfl) ⟨by decide, by decide⟩ (by omega) (by omega) (fun x38 ls e38 hl => ?_)
              have hF := bn hF e38
              refine lv_goto (tgt := 23) hx hb dX7_firstDraft_41 (by decide) ?_
              exact ih23 ls _ _ x38 σ37 (by omega) hF hfr hT hS (lv_sub hl [1, 0] rfl)
        exact J23 5000 ls _ _ x21 σj2 (by omega) hF hfr hT hS (lv_sub hl [1, 0] rfl)
      · have hF := ifp hF c5
        refine lv_aload_n hx hb dX7_firstDraft_8 rfl (lv_at hl 0 rfl) ?_
        refine gt_Model_draft hx hb hts ic_Model hown hK hT g0 (hts _ mw_4_74) dX7_firstDraft_9 (fun q9 hq9 => ?_)
        refine lv_iload_n hx hb dX7_firstDraft_12 rfl (lv_at hl 1 rfl) ?_
        refine r_iconst hx hb dX7_firstDraft_13 (by decide) (by decide) (fun x13 e13 => ?_)
        have hF := bn hF e13
        obtain ⟨kv14, hF⟩ := ckd hF
        refine as_43 hx hb hK hT hS hq9 (by omega) (by omega) kv14 dX7_firstDraft_14 (fun H locs hT hS => ?_)
        obtain ⟨σ14, hF, hfr, hT⟩ := wrL hF hfr hT
        refine r_iinc (lv' := fun v__ => [(1, .int v__), (0, .ref h0)]) hx hb dX7_firstDraft_15 hl (k := 1) rfl (by decide) (fun _ => rfl) ⟨by decide, by decide⟩ (by omega) (by omega) (fun x15 ls e15 hl => ?_)
        have hF := bn hF e15
        refine lv_goto (tgt := 2) hx hb dX7_firstDraft_18 (by decide) ?_
        exact ih2 ls _ _ x15 σ14 (by omega) hF hfr hT hS (lv_sub hl [1, 0] rfl)
  exact J2 5000 ls _ _ x0 σ (by omega) hF hfr hT hS (lv_sub hl [1, 0] rfl)
theorem k_X7_keepDraft : cBV yX7_keepDraft cX7_keepDraft 2 none 0 := ⟨mw_4_68, ms_1_13, mw_1_8, mw_4_69, ⟨by decide, by decide, by decide⟩⟩
set_option maxHeartbeats 4000000 in
set_option maxRecDepth 100000 in
theorem c_X7_keepDraft (l : Launch) (z : Zt) (σ : Sg) (h0 o0 : Nat) (g0 : zG z h0 = (17, o0)) (out : Lo) (hF : D_X7_keepDraft (σ o0) = some out) : Met l yX7_keepDraft (uw yX7_keepDraft cX7_keepDraft 2 none) (rmF 1 64) (PcW z [.ref h0] (fun H => TY z (zA z) σ H)) (QcV z (fun H => ∃ σ' : Sg, some (σ' o0) = some out ∧ FR σ σ' o0 ∧ TY z (zA z) σ' H)) 0 0 (zA z) := by
  refine Met.ofW (cc := cX7_keepDraft) (maxL := 2) (ret := none) (by decide) rfl ?_
  intro p e s m args below meth c s₁ B hml hv
  obtain ⟨rfl, hT, hK, hSK⟩ := hv
  have hx := B.exec
  have hb := B.bytes
  have hr := B.returns
  have hts : ∀ w ∈ lw_ok, w.before ([.ref h0] : List Value).toArray s = true := fun w hw => atoms_spec (ws := uw yX7_keepDraft cX7_keepDraft 2 none) B.pre w (List.mem_cons_of_mem _ hw)
  have hown : s.vm.findClass RX7 = some m.cls := findClass_of_methodNamed B.named
  have hlk := B.notSynchronized
  have hC : CallFix p m c cX7_keepDraft 2 s ([.ref h0] : List Value).toArray lw_ok RX7 := ⟨hx, hb, hml, hown, hts⟩
  have hS : va_S (zA z) s.heap s.heap [] := va_S.rf
  have hl := lv_entry ([.ref h0]) (n := 2) (Nat.le_of_ble_eq_true rfl)
  rw [lg_entry_eq]
  generalize (lg_sl ([.ref h0]) ++ List.replicate (2 - (lg_sl ([.ref h0])).length) Slot.unset).toArray = ls at hl ⊢
  have hl : lv_has ls 2 [(0, .ref h0)] := hl
  show W p l e (rmF 1 64) s m ([.ref h0] : List Value).toArray below meth c s.heap [] 0 0 (MQ below (QcV z (fun H => ∃ σ' : Sg, some (σ' o0) = some out ∧ FR σ σ' o0 ∧ TY z (zA z) σ' H)) ([.ref h0] : List Value).toArray s 0 0 (zA z)) (F0 m 0 ls [])
  have hfr : FR σ σ o0 := FR_rf σ o0
  unfold D_X7_keepDraft at hF
  refine r_iconst hx hb dX7_keepDraft_0 (by decide) (by decide) (fun x0 e0 => ?_)
  have hF := bn hF e0
  refine lv_istore_n (lv' := [(1, .int x0), (0, .ref h0)]) hx hb dX7_keepDraft_1 rfl hl (by decide) rfl (fun ls hl => ?_)
  have J2 : ∀ (n2 : Nat) (ls : Array Slot) (H : Heap) (locs : List Loc) (y2_1 : Int32) (σj2 : Sg), (0 ≤ y2_1.toInt ∧ y2_1.toInt ≤ 59) → D_X7_keepDraft_2 n2 (σj2 o0) y2_1.toInt = some out → FR σ σj2 o0 → TY z (zA z) σj2 H → va_S (zA z) s.heap H locs → lv_has ls 2 [(0, .ref h0), (1, .int y2_1)] → W p l e (rmF 1 64) s m ([.ref h0] : List Value).toArray below meth c H locs 0 0 (MQ below (QcV z (fun H => ∃ σ' : Sg, some (σ' o0) = some out ∧ FR σ σ' o0 ∧ TY z (zA z) σ' H)) ([.ref h0] : List Value).toArray s 0 0 (zA z)) (F0 m 2 ls []) := by
    intro n2
    induction n2 with
    | zero => intro ls H locs y2_1 σj2 j2_y2_1 hF hfr hT hS hl; exact (no_s hF).elim
    | succ n2 ih2 =>
      intro ls H locs y2_1 σj2 j2_y2_1 hF hfr hT hS hl
      rw [D_X7_keepDraft_2.eq_2] at hF
      refine lv_iload_n hx hb dX7_keepDraft_2 rfl (lv_at hl 1 rfl) ?_
      refine r_bipush hx hb dX7_keepDraft_3 rfl (fun x3 e3 => ?_)
      have hF := bn hF e3
      refine r_icmp_ge (tgt := 26) hx hb dX7_keepDraft_5 (by decide) (fun c5 => ?_) (fun c5 => ?_)
      · have hF := ifn hF (Int.not_lt.mpr c5)
        refine lv_aload_n hx hb dX7_keepDraft_26 rfl (lv_at hl 0 rfl) ?_
        refine lv_aload_n hx hb dX7_keepDraft_27 rfl (lv_at hl 0 rfl) ?_
        refine gt_Model_dMen hx hb hts ic_Model hown hK hT g0 (hts _ mw_4_75) dX7_keepDraft_28 (fun x28 e28 f28 g28 => ?_)
        have hF := bn hF e28
        refine pt_Model_men hx hb hts ic_Model hown hK hT hS g0 (hts _ mw_4_73) (by omega) (by omega) dX7_keepDraft_31 (fun H locs hT hS => ?_)
        obtain ⟨σ31, hF, hfr, hT⟩ := wrL hF hfr hT
        refine lv_aload_n hx hb dX7_keepDraft_34 rfl (lv_at hl 0 rfl) ?_
        refine gt_Model_isKept hx hb hts ic_Model hown hK hT g0 (hts _ mw_4_72) dX7_keepDraft_35 (fun q35 hq35 => ?_)
        refine r_iconst hx hb dX7_keepDraft_38 (by decide) (by decide) (fun x38 e38 => ?_)
        have hF := bn hF e38
        refine r_iconst hx hb dX7_keepDraft_39 (by decide) (by decide) (fun x39 e39 => ?_)
        have hF := bn hF e39
        refine as_42 hx hb hK hT hS hq35 (by omega) (by omega) ⟨by omega, by omega⟩ dX7_keepDraft_40 (fun H locs hT hS => ?_)
        obtain ⟨σ40, hF, hfr, hT⟩ := wrL hF hfr hT
        refine lv_aload_n hx hb dX7_keepDraft_41 rfl (lv_at hl 0 rfl) ?_
        refine gt_Model_isKept hx hb hts ic_Model hown hK hT g0 (hts _ mw_4_72) dX7_keepDraft_42 (fun q42 hq42 => ?_)
        refine r_iconst hx hb dX7_keepDraft_45 (by decide) (by decide) (fun x45 e45 => ?_)
        have hF := bn hF e45
        refine r_iconst hx hb dX7_keepDraft_46 (by decide) (by decide) (fun x46 e46 => ?_)
        have hF := bn hF e46
        refine as_42 hx hb hK hT hS hq42 (by omega) (by omega) ⟨by omega, by omega⟩ dX7_keepDraft_47 (fun H locs hT hS => ?_)
        obtain ⟨σ47, hF, hfr, hT⟩ := wrL hF hfr hT
        exact rt_v hx hb hr hlk hS ⟨σ47, hF, hfr, hT⟩ dX7_keepDraft_48
      · have hF := ifp hF c5
        refine lv_aload_n hx hb dX7_keepDraft_8 rfl (lv_at hl 0 rfl) ?_
        refine gt_Model_st hx hb hts ic_Model hown hK hT g0 (hts _ mw_4_70) dX7_keepDraft_9 (fun q9 hq9 => ?_)
        refine lv_iload_n hx hb dX7_keepDraft_12 rfl (lv_at hl 1 rfl) ?_
        refine lv_aload_n hx hb dX7_keepDraft_13 rfl (lv_at hl 0 rfl) ?_
        refine gt_Model_draft hx hb hts ic_Model hown hK hT g0 (hts _ mw_4_74) dX7_keepDraft_14 (fun q14 hq14 => ?_)
        refine lv_iload_n hx hb dX7_keepDraft_17 rfl (lv_at hl 1 rfl) ?_
        refine al_43 hx hb hK hT hq14 (by omega) (by omega) dX7_keepDraft_18 (fun x18 e18 g18 => ?_)
        have hF := bn hF e18
        refine as_40 hx hb hK hT hS hq9 (by omega) (by omega) (gd177_m (by omega) g18) dX7_keepDraft_19 (fun H locs hT hS => ?_)
        obtain ⟨σ19, hF, hfr, hT⟩ := wrL hF hfr hT
        refine r_iinc (lv' := fun v__ => [(1, .int v__), (0, .ref h0)]) hx hb dX7_keepDraft_20 hl (k := 1) rfl (by decide) (fun _ => rfl) ⟨by decide, by decide⟩ (by omega) (by omega) (fun x20 ls e20 hl => ?_)
        have hF := bn hF e20
        refine lv_goto (tgt := 2) hx hb dX7_keepDraft_23 (by decide) ?_
        exact ih2 ls _ _ x20 σ19 (by omega) hF hfr hT hS (lv_sub hl [1, 0] rfl)
  exact J2 5000 ls _ _ x0 σ (by omega) hF hfr hT hS (lv_sub hl [1, 0] rfl)
theorem k_X7_byteAt : cBV yX7_byteAt cX7_byteAt 2 (some .int) 1 := ⟨mw_4_171, ms_1_15, mw_1_8, mw_4_172, ⟨by decide, by decide, by decide⟩⟩
set_option maxHeartbeats 4000000 in
set_option maxRecDepth 100000 in
theorem c_X7_byteAt (l : Launch) (z : Zt) (σ : Sg) (h0 o0 : Nat) (g0 : zG z h0 = (17, o0)) (p1 : Int32) (out : Int) (hF : D_X7_byteAt (σ o0) p1.toInt = some out) (bp1 : 0 ≤ p1.toInt ∧ p1.toInt ≤ 170) : Met l yX7_byteAt (uw yX7_byteAt cX7_byteAt 2 (some .int)) (rmF 1 64) (PcW z [.ref h0, .int p1] (fun H => TY z (zA z) σ H)) (QcI z (fun r H => some r.toInt = some out ∧ TY z (zA z) σ H ∧ (-1 ≤ r.toInt ∧ r.toInt ≤ 127))) 0 0 (zA z) := by
  refine Met.ofW (cc := cX7_byteAt) (maxL := 2) (ret := (some .int)) (by decide) rfl ?_
  intro p e s m args below meth c s₁ B hml hv
  obtain ⟨rfl, hT, hK, hSK⟩ := hv
  have hx := B.exec
  have hb := B.bytes
  have hr := B.returns
  have hts : ∀ w ∈ lw_ok, w.before ([.ref h0, .int p1] : List Value).toArray s = true := fun w hw => atoms_spec (ws := uw yX7_byteAt cX7_byteAt 2 (some .int)) B.pre w (List.mem_cons_of_mem _ hw)
  have hown : s.vm.findClass RX7 = some m.cls := findClass_of_methodNamed B.named
  have hlk := B.notSynchronized
  have hC : CallFix p m c cX7_byteAt 2 s ([.ref h0, .int p1] : List Value).toArray lw_ok RX7 := ⟨hx, hb, hml, hown, hts⟩
  have hS : va_S (zA z) s.heap s.heap [] := va_S.rf
  have hl := lv_entry ([.ref h0, .int p1]) (n := 2) (Nat.le_of_ble_eq_true rfl)
  rw [lg_entry_eq]
  generalize (lg_sl ([.ref h0, .int p1]) ++ List.replicate (2 - (lg_sl ([.ref h0, .int p1])).length) Slot.unset).toArray = ls at hl ⊢
  have hl : lv_has ls 2 [(0, .ref h0), (1, .int p1)] := hl
  show W p l e (rmF 1 64) s m ([.ref h0, .int p1] : List Value).toArray below meth c s.heap [] 0 0 (MQ below (QcI z (fun r H => some r.toInt = some out ∧ TY z (zA z) σ H ∧ (-1 ≤ r.toInt ∧ r.toInt ≤ 127))) ([.ref h0, .int p1] : List Value).toArray s 0 0 (zA z)) (F0 m 0 ls [])
  unfold D_X7_byteAt at hF
  refine lv_iload_n hx hb dX7_byteAt_0 rfl (lv_at hl 1 rfl) ?_
  refine lv_aload_n hx hb dX7_byteAt_1 rfl (lv_at hl 0 rfl) ?_
  refine gt_Model_taped hx hb hts ic_Model hown hK hT g0 (hts _ mw_4_80) dX7_byteAt_2 (fun x2 e2 f2 g2 => ?_)
  have hF := bn hF e2
  refine r_icmp_ge (tgt := 17) hx hb dX7_byteAt_5 (by decide) (fun c5 => ?_) (fun c5 => ?_)
  · have hF := ifn hF (Int.not_lt.mpr c5)
    refine r_iconst hx hb dX7_byteAt_17 (by decide) (by decide) (fun x17 e17 => ?_)
    have hF := bn hF e17
    exact rt_i hx hb hr hlk hS ⟨hF, hT, (by omega)⟩ dX7_byteAt_18
  · have hF := ifp hF c5
    refine lv_aload_n hx hb dX7_byteAt_8 rfl (lv_at hl 0 rfl) ?_
    refine gt_Model_tape hx hb hts ic_Model hown hK hT g0 (hts _ mw_4_79) dX7_byteAt_9 (fun q9 hq9 => ?_)
    refine lv_iload_n hx hb dX7_byteAt_12 rfl (lv_at hl 1 rfl) ?_
    refine al_44 hx hb hK hT hq9 (by omega) (by omega) dX7_byteAt_13 (fun x13 e13 g13 => ?_)
    have hF := bn hF e13
    refine lv_goto (tgt := 18) hx hb dX7_byteAt_14 (by decide) ?_
    exact rt_i hx hb hr hlk hS ⟨hF, hT, (by omega)⟩ dX7_byteAt_18
theorem k_X7_needs : cBV yX7_needs cX7_needs 3 none 2 := ⟨mw_4_179, ms_2_0, mw_1_8, mw_4_180, ⟨by decide, by decide, by decide⟩⟩
set_option maxHeartbeats 4000000 in
set_option maxRecDepth 100000 in
theorem c_X7_needs (l : Launch) (z : Zt) (σ : Sg) (h0 o0 : Nat) (g0 : zG z h0 = (17, o0)) (p1 : Int32) (p2 : Int32) (out : Lo) (hF : D_X7_needs (σ o0) p1.toInt p2.toInt = some out) (bp1 : 0 ≤ p1.toInt ∧ p1.toInt ≤ 1) (bp2 : 0 ≤ p2.toInt ∧ p2.toInt ≤ 6) : Met l yX7_needs (uw yX7_needs cX7_needs 3 none) (rmF 1 64) (PcW z [.ref h0, .int p1, .int p2] (fun H => TY z (zA z) σ H)) (QcV z (fun H => ∃ σ' : Sg, some (σ' o0) = some out ∧ FR σ σ' o0 ∧ TY z (zA z) σ' H)) 0 0 (zA z) := by
  refine Met.ofW (cc := cX7_needs) (maxL := 3) (ret := none) (by decide) rfl ?_
  intro p e s m args below meth c s₁ B hml hv
  obtain ⟨rfl, hT, hK, hSK⟩ := hv
  have hx := B.exec
  have hb := B.bytes
  have hr := B.returns
  have hts : ∀ w ∈ lw_ok, w.before ([.ref h0, .int p1, .int p2] : List Value).toArray s = true := fun w hw => atoms_spec (ws := uw yX7_needs cX7_needs 3 none) B.pre w (List.mem_cons_of_mem _ hw)
  have hown : s.vm.findClass RX7 = some m.cls := findClass_of_methodNamed B.named
  have hlk := B.notSynchronized
  have hC : CallFix p m c cX7_needs 3 s ([.ref h0, .int p1, .int p2] : List Value).toArray lw_ok RX7 := ⟨hx, hb, hml, hown, hts⟩
  have hS : va_S (zA z) s.heap s.heap [] := va_S.rf
  have hl := lv_entry ([.ref h0, .int p1, .int p2]) (n := 3) (Nat.le_of_ble_eq_true rfl)
  rw [lg_entry_eq]
  generalize (lg_sl ([.ref h0, .int p1, .int p2]) ++ List.replicate (3 - (lg_sl ([.ref h0, .int p1, .int p2])).length) Slot.unset).toArray = ls at hl ⊢
  have hl : lv_has ls 3 [(0, .ref h0), (1, .int p1), (2, .int p2)] := hl
  show W p l e (rmF 1 64) s m ([.ref h0, .int p1, .int p2] : List Value).toArray below meth c s.heap [] 0 0 (MQ below (QcV z (fun H => ∃ σ' : Sg, some (σ' o0) = some out ∧ FR σ σ' o0 ∧ TY z (zA z) σ' H)) ([.ref h0, .int p1, .int p2] : List Value).toArray s 0 0 (zA z)) (F0 m 0 ls [])
  have hfr : FR σ σ o0 := FR_rf σ o0
  unfold D_X7_needs at hF
  refine lv_iload_n hx hb dX7_needs_0 rfl (lv_at hl 1 rfl) ?_
  refine r_if_ne (tgt := 24) hx hb dX7_needs_1 (by decide) (fun c1 => ?_) (fun c1 => ?_)
  · have hF := ifn hF c1
    exact rt_v hx hb hr hlk hS ⟨σ, hF, hfr, hT⟩ dX7_needs_24
  · have hF := ifp hF c1
    refine lv_aload_n hx hb dX7_needs_4 rfl (lv_at hl 0 rfl) ?_
    refine gt_Model_fault hx hb hts ic_Model hown hK hT g0 (hts _ mw_4_85) dX7_needs_5 (fun x5 e5 f5 g5 => ?_)
    have hF := bn hF e5
    refine r_if_ne (tgt := 24) hx hb dX7_needs_8 (by decide) (fun c8 => ?_) (fun c8 => ?_)
    · have hF := ifn hF c8
      exact rt_v hx hb hr hlk hS ⟨σ, hF, hfr, hT⟩ dX7_needs_24
    · have hF := ifp hF c8
      refine lv_aload_n hx hb dX7_needs_11 rfl (lv_at hl 0 rfl) ?_
      refine lv_iload_n hx hb dX7_needs_12 rfl (lv_at hl 2 rfl) ?_
      refine pt_Model_fault hx hb hts ic_Model hown hK hT hS g0 (hts _ mw_4_85) (by omega) (by omega) dX7_needs_13 (fun H locs hT hS => ?_)
      obtain ⟨σ13, hF, hfr, hT⟩ := wrL hF hfr hT
      refine lv_aload_n hx hb dX7_needs_16 rfl (lv_at hl 0 rfl) ?_
      refine lv_aload_n hx hb dX7_needs_17 rfl (lv_at hl 0 rfl) ?_
      refine gt_Model_from hx hb hts ic_Model hown hK hT g0 (hts _ mw_4_82) dX7_needs_18 (fun x18 e18 f18 g18 => ?_)
      have hF := bn hF e18
      refine pt_Model_wrongAt hx hb hts ic_Model hown hK hT hS g0 (hts _ mw_4_86) (by omega) (by omega) dX7_needs_21 (fun H locs hT hS => ?_)
      obtain ⟨σ21, hF, hfr, hT⟩ := wrL hF hfr hT
      exact rt_v hx hb hr hlk hS ⟨σ21, hF, hfr, hT⟩ dX7_needs_24
theorem k_X7_next : cBV yX7_next cX7_next 2 none 0 := ⟨mw_4_167, ms_1_14, mw_1_8, mw_4_168, ⟨by decide, by decide, by decide⟩⟩
set_option maxHeartbeats 4000000 in
set_option maxRecDepth 100000 in
theorem c_X7_next (l : Launch) (z : Zt) (σ : Sg) (h0 o0 : Nat) (g0 : zG z h0 = (17, o0)) (out : Lo) (hF : D_X7_next (σ o0) = some out) : Met l yX7_next (uw yX7_next cX7_next 2 none) (rmF 2 89) (PcW z [.ref h0] (fun H => TY z (zA z) σ H)) (QcV z (fun H => ∃ σ' : Sg, some (σ' o0) = some out ∧ FR σ σ' o0 ∧ TY z (zA z) σ' H)) 0 0 (zA z) := by
  refine Met.ofW (cc := cX7_next) (maxL := 2) (ret := none) (by decide) rfl ?_
  intro p e s m args below meth c s₁ B hml hv
  obtain ⟨rfl, hT, hK, hSK⟩ := hv
  have hx := B.exec
  have hb := B.bytes
  have hr := B.returns
  have hts : ∀ w ∈ lw_ok, w.before ([.ref h0] : List Value).toArray s = true := fun w hw => atoms_spec (ws := uw yX7_next cX7_next 2 none) B.pre w (List.mem_cons_of_mem _ hw)
  have hown : s.vm.findClass RX7 = some m.cls := findClass_of_methodNamed B.named
  have hlk := B.notSynchronized
  have hC : CallFix p m c cX7_next 2 s ([.ref h0] : List Value).toArray lw_ok RX7 := ⟨hx, hb, hml, hown, hts⟩
  have hS : va_S (zA z) s.heap s.heap [] := va_S.rf
  have hl := lv_entry ([.ref h0]) (n := 2) (Nat.le_of_ble_eq_true rfl)
  rw [lg_entry_eq]
  generalize (lg_sl ([.ref h0]) ++ List.replicate (2 - (lg_sl ([.ref h0])).length) Slot.unset).toArray = ls at hl ⊢
  have hl : lv_has ls 2 [(0, .ref h0)] := hl
  show W p l e (rmF 2 89) s m ([.ref h0] : List Value).toArray below meth c s.heap [] 0 0 (MQ below (QcV z (fun H => ∃ σ' : Sg, some (σ' o0) = some out ∧ FR σ σ' o0 ∧ TY z (zA z) σ' H)) ([.ref h0] : List Value).toArray s 0 0 (zA z)) (F0 m 0 ls [])
  have hfr : FR σ σ o0 := FR_rf σ o0
  unfold D_X7_next at hF
  refine lv_aload_n hx hb dX7_next_0 rfl (lv_at hl 0 rfl) ?_
  refine gt_Model_fault hx hb hts ic_Model hown hK hT g0 (hts _ mw_4_85) dX7_next_1 (fun x1 e1 f1 g1 => ?_)
  have hF := bn hF e1
  have J8 : ∀ (n8 : Nat) (ls : Array Slot) (H : Heap) (locs : List Loc) (σj8 : Sg), D_X7_next_8 n8 (σj8 o0) = some out → FR σ σj8 o0 → TY z (zA z) σj8 H → va_S (zA z) s.heap H locs → lv_has ls 2 [(0, .ref h0)] → W p l e (rmF 2 89) s m ([.ref h0] : List Value).toArray below meth c H locs 0 0 (MQ below (QcV z (fun H => ∃ σ' : Sg, some (σ' o0) = some out ∧ FR σ σ' o0 ∧ TY z (zA z) σ' H)) ([.ref h0] : List Value).toArray s 0 0 (zA z)) (F0 m 8 ls []) := by
    intro n8
    induction n8 with
    | zero => intro ls H locs σj8 hF hfr hT hS hl; exact (no_s hF).elim
    | succ n8 ih8 =>
      intro ls H locs σj8 hF hfr hT hS hl
      rw [D_X7_next_8.eq_2] at hF
      refine lv_aload_n hx hb dX7_next_8 rfl (lv_at hl 0 rfl) ?_
      refine lv_aload_n hx hb dX7_next_9 rfl (lv_at hl 0 rfl) ?_
      refine gt_Model_pos hx hb hts ic_Model hown hK hT g0 (hts _ mw_4_81) dX7_next_10 (fun x10 e10 f10 g10 => ?_)
      have hF := bn hF e10
      obtain ⟨v13, hd13, -⟩ := bd0_s hF
      refine cl_Vi (rest := []) hC hK hSK (c_X7_byteAt l z σj8 h0 (o0) g0 x10 v13 hd13 (by omega)) k_X7_byteAt mw_4_169 ⟨rfl, rfl, Nat.le_of_ble_eq_true rfl, Nat.le_of_ble_eq_true rfl⟩ (rv_Model hK hT g0) hT rfl hl.1 rfl (Nat.le_of_ble_eq_true rfl) dX7_next_13 ⟨Nat.zero_le _, Nat.zero_le _⟩ hS (fun _ h => h) (fun _ _ h => h) (fun r13 H locs hpo hS => ?_)
      obtain ⟨he13, hT, u13_0⟩ := hpo
      have hF := bd0_r hF hd13 he13
      refine r_bipush hx hb dX7_next_16 rfl (fun x16 e16 => ?_)
      have hF := bn hF e16
      refine r_icmp_ne (tgt := 34) hx hb dX7_next_18 (by decide) (fun c18 => ?_) (fun c18 => ?_)
      · have hF := ifn hF c18
        refine lv_aload_n hx hb dX7_next_34 rfl (lv_at hl 0 rfl) ?_
        refine lv_aload_n hx hb dX7_next_35 rfl (lv_at hl 0 rfl) ?_
        refine gt_Model_pos hx hb hts ic_Model hown hK hT g0 (hts _ mw_4_81) dX7_next_36 (fun x36 e36 f36 g36 => ?_)
        have hF := bn hF e36
        refine pt_Model_from hx hb hts ic_Model hown hK hT hS g0 (hts _ mw_4_82) (by omega) (by omega) dX7_next_39 (fun H locs hT hS => ?_)
        obtain ⟨σ39, hF, hfr, hT⟩ := wrL hF hfr hT
        refine lv_aload_n hx hb dX7_next_42 rfl (lv_at hl 0 rfl) ?_
        refine lv_aload_n hx hb dX7_next_43 rfl (lv_at hl 0 rfl) ?_
        refine gt_Model_pos hx hb hts ic_Model hown hK hT g0 (hts _ mw_4_81) dX7_next_44 (fun x44 e44 f44 g44 => ?_)
        have hF := bn hF e44
        obtain ⟨v47, hd47, -⟩ := bd0_s hF
        refine cl_Vi (rest := []) hC hK hSK (c_X7_byteAt l z σ39 h0 (o0) g0 x44 v47 hd47 (by omega)) k_X7_byteAt mw_4_169 ⟨rfl, rfl, Nat.le_of_ble_eq_true rfl, Nat.le_of_ble_eq_true rfl⟩ (rv_Model hK hT g0) hT rfl hl.1 rfl (Nat.le_of_ble_eq_true rfl) dX7_next_47 ⟨Nat.zero_le _, Nat.zero_le _⟩ hS (fun _ h => h) (fun _ _ h => h) (fun r47 H locs hpo hS => ?_)
        obtain ⟨he47, hT, u47_0⟩ := hpo
        have hF := bd0_r hF hd47 he47
        refine lv_istore_n (lv' := [(1, .int r47), (0, .ref h0)]) hx hb dX7_next_50 rfl hl (by decide) rfl (fun ls hl => ?_)
        refine lv_iload_n hx hb dX7_next_51 rfl (lv_at hl 0 rfl) ?_
        refine r_if_ge (tgt := 63) hx hb dX7_next_52 (by decide) (fun c52 => ?_) (fun c52 => ?_)
        · have hF := ifn hF (Int.not_lt.mpr c52)
          refine lv_iload_n hx hb dX7_next_63 rfl (lv_at hl 0 rfl) ?_
          refine r_i2l hx hb dX7_next_64 (fun x64 e64 => ?_)
          have hF := bn hF e64
          refine r_ldc2 (97) rfl hx hb hts hown mw_4_173 dX7_next_65 (fun x65 e65 => ?_)
          have hF := bn hF e65
          refine r_ldc2 (122) rfl hx hb hts hown mw_4_174 dX7_next_68 (fun x68 e68 => ?_)
          have hF := bn hF e68
          obtain ⟨v71, hd71, -⟩ := bd0_s hF
          refine cl_Si (rest := []) hC hK hSK (c_X7_in l z σ39 x64 x65 x68 v71 hd71) k_X7_in mw_4_154 ⟨rfl, rfl, Nat.le_of_ble_eq_true rfl, Nat.le_of_ble_eq_true rfl⟩ hT rfl hl.1 rfl (Nat.le_of_ble_eq_true rfl) dX7_next_71 ⟨Nat.zero_le _, Nat.zero_le _⟩ hS (fun _ h => h) (fun _ _ h => h) (fun r71 H locs hpo hS => ?_)
          obtain ⟨he71, hT, u71_0, u71_1⟩ := hpo
          have hF := bd0_r hF hd71 he71
          refine r_if_eq (tgt := 116) hx hb dX7_next_74 (by decide) (fun c74 => ?_) (fun c74 => ?_)
          · have hF := ifp hF c74
            refine lv_iload_n hx hb dX7_next_116 rfl (lv_at hl 0 rfl) ?_
            refine r_i2l hx hb dX7_next_117 (fun x117 e117 => ?_)
            have hF := bn hF e117
            refine r_ldc2 (48) rfl hx hb hts hown mw_4_175 dX7_next_118 (fun x118 e118 => ?_)
            have hF := bn hF e118
            refine r_ldc2 (57) rfl hx hb hts hown mw_4_176 dX7_next_121 (fun x121 e121 => ?_)
            have hF := bn hF e121
            obtain ⟨v124, hd124, -⟩ := bd0_s hF
            refine cl_Si (rest := []) hC hK hSK (c_X7_in l z σ39 x117 x118 x121 v124 hd124) k_X7_in mw_4_154 ⟨rfl, rfl, Nat.le_of_ble_eq_true rfl, Nat.le_of_ble_eq_true rfl⟩ hT rfl hl.1 rfl (Nat.le_of_ble_eq_true rfl) dX7_next_124 ⟨Nat.zero_le _, Nat.zero_le _⟩ hS (fun _ h => h) (fun _ _ h => h) (fun r124 H locs hpo hS => ?_)
            obtain ⟨he124, hT, u124_0, u124_1⟩ := hpo
            have hF := bd0_r hF hd124 he124
            refine r_if_eq (tgt := 243) hx hb dX7_next_127 (by decide) (fun c127 => ?_) (fun c127 => ?_)
            · have hF := ifp hF c127
              refine lv_aload_n hx hb dX7_next_243 rfl (lv_at hl 1 rfl) ?_
              refine r_iconst hx hb dX7_next_244 (by decide) (by decide) (fun x244 e244 => ?_)
              have hF := bn hF e244
              refine pt_Model_sort hx hb hts ic_Model hown hK hT hS g0 (hts _ mw_4_83) (by omega) (by omega) dX7_next_245 (fun H locs hT hS => ?_)
              obtain ⟨σ245, hF, hfr, hT⟩ := wrL hF hfr hT
              refine lv_aload_n hx hb dX7_next_248 rfl (lv_at hl 1 rfl) ?_
              refine lv_iload_n hx hb dX7_next_249 rfl (lv_at hl 0 rfl) ?_
              refine r_bipush hx hb dX7_next_250 rfl (fun x250 e250 => ?_)
              have hF := bn hF e250
              have J260 : ∀ (ls : Array Slot) (H : Heap) (locs : List Loc) (t260_1 : Int32) (σj260 : Sg), (0 ≤ t260_1.toInt ∧ t260_1.toInt ≤ 1) → D_X7_next_260 (σj260 o0) t260_1.toInt = some out → FR σ σj260 o0 → TY z (zA z) σj260 H → va_S (zA z) s.heap H locs → lv_has ls 2 [(0, .ref h0), (1, .int r47)] → W p l e (rmF 2 89) s m ([.ref h0] : List Value).toArray below meth c H locs 0 0 (MQ below (QcV z (fun H => ∃ σ' : Sg, some (σ' o0) = some out ∧ FR σ σ' o0 ∧ TY z (zA z) σ' H)) ([.ref h0] : List Value).toArray s 0 0 (zA z)) (F0 m 260 ls [.int t260_1, .ref h0]) := by
                intro ls H locs t260_1 σj260 j260_t260_1 hF hfr hT hS hl
                unfold D_X7_next_260 at hF
                refine r_iconst hx hb dX7_next_260 (by decide) (by decide) (fun x260 e260 => ?_)
                have hF := bn hF e260
                obtain ⟨s261, hd261, -⟩ := bd1_s hF
                refine cl_Vv (rest := []) hC hK hSK (c_X7_needs l z σj260 h0 (o0) g0 t260_1 x260 s261 hd261 (by omega) (by omega)) k_X7_needs mw_4_177 ⟨rfl, rfl, Nat.le_of_ble_eq_true rfl, Nat.le_of_ble_eq_true rfl⟩ (rv_Model hK hT g0) hT rfl hl.1 rfl (Nat.le_of_ble_eq_true rfl) dX7_next_261 ⟨Nat.zero_le _, Nat.zero_le _⟩ hS (fun _ h => h) (fun _ _ h => h) (fun H locs hpo hS => ?_)
                obtain ⟨σ261, he261, hf261, hT⟩ := hpo
                have hF := bd1_r hF hd261 he261
                have hfr := FR_tr hf261 hfr
                refine lv_aload_n hx hb dX7_next_264 rfl (lv_at hl 0 rfl) ?_
                refine lv_dup hx hb dX7_next_265 rfl ?_
                refine gt_Model_pos hx hb hts ic_Model hown hK hT g0 (hts _ mw_4_81) dX7_next_266 (fun x266 e266 f266 g266 => ?_)
                have hF := bn hF e266
                refine r_iconst hx hb dX7_next_269 (by decide) (by decide) (fun x269 e269 => ?_)
                have hF := bn hF e269
                refine r_iadd hx hb dX7_next_270 (by omega) (by omega) (fun x270 e270 => ?_)
                have hF := bn hF e270
                obtain ⟨k271, hF⟩ := ck hF
                refine pt_Model_pos hx hb hts ic_Model hown hK hT hS g0 (hts _ mw_4_81) (by omega) (by omega) dX7_next_271 (fun H locs hT hS => ?_)
                obtain ⟨σ271, hF, hfr, hT⟩ := wrL hF hfr hT
                exact rt_v hx hb hr hlk hS ⟨σ271, hF, hfr, hT⟩ dX7_next_274
              refine r_icmp_ne (tgt := 259) hx hb dX7_next_252 (by decide) (fun c252 => ?_) (fun c252 => ?_)
              · have hF := ifn hF c252
                refine r_iconst hx hb dX7_next_259 (by decide) (by decide) (fun x259 e259 => ?_)
                have hF := bn hF e259
                exact J260 ls _ _ x259 σ245 (by omega) hF hfr hT hS (lv_sub hl [1, 0] rfl)
              · have hF := ifp hF c252
                refine r_iconst hx hb dX7_next_255 (by decide) (by decide) (fun x255 e255 => ?_)
                have hF := bn hF e255
                refine lv_goto (tgt := 260) hx hb dX7_next_256 (by decide) ?_
                exact J260 ls _ _ x255 σ245 (by omega) hF hfr hT hS (lv_sub hl [1, 0] rfl)
            · have hF := ifn hF c127
              refine lv_aload_n hx hb dX7_next_130 rfl (lv_at hl 1 rfl) ?_
              refine r_iconst hx hb dX7_next_131 (by decide) (by decide) (fun x131 e131 => ?_)
              have hF := bn hF e131
              refine pt_Model_sort hx hb hts ic_Model hown hK hT hS g0 (hts _ mw_4_83) (by omega) (by omega) dX7_next_132 (fun H locs hT hS => ?_)
              obtain ⟨σ132, hF, hfr, hT⟩ := wrL hF hfr hT
              refine lv_aload_n hx hb dX7_next_135 rfl (lv_at hl 1 rfl) ?_
              refine r_iconst hx hb dX7_next_136 (by decide) (by decide) (fun x136 e136 => ?_)
              have hF := bn hF e136
              refine pt_Model_value hx hb hts ic_Model hown hK hT hS g0 (hts _ mw_4_84) (by omega) (by omega) dX7_next_137 (fun H locs hT hS => ?_)
              obtain ⟨σ137, hF, hfr, hT⟩ := wrL hF hfr hT
              have J140 : ∀ (n140 : Nat) (ls : Array Slot) (H : Heap) (locs : List Loc) (σj140 : Sg), D_X7_next_140 n140 (σj140 o0) = some out → FR σ σj140 o0 → TY z (zA z) σj140 H → va_S (zA z) s.heap H locs → lv_has ls 2 [(0, .ref h0), (1, .int r47)] → W p l e (rmF 2 89) s m ([.ref h0] : List Value).toArray below meth c H locs 0 0 (MQ below (QcV z (fun H => ∃ σ' : Sg, some (σ' o0) = some out ∧ FR σ σ' o0 ∧ TY z (zA z) σ' H)) ([.ref h0] : List Value).toArray s 0 0 (zA z)) (F0 m 140 ls []) := by
                intro n140
                induction n140 with
                | zero => intro ls H locs σj140 hF hfr hT hS hl; exact (no_s hF).elim
                | succ n140 ih140 =>
                  intro ls H locs σj140 hF hfr hT hS hl
                  rw [D_X7_next_140.eq_2] at hF
                  refine lv_aload_n hx hb dX7_next_140 rfl (lv_at hl 0 rfl) ?_
                  refine lv_aload_n hx hb dX7_next_141 rfl (lv_at hl 0 rfl) ?_
                  refine gt_Model_pos hx hb hts ic_Model hown hK hT g0 (hts _ mw_4_81) dX7_next_142 (fun x142 e142 f142 g142 => ?_)
                  have hF := bn hF e142
                  obtain ⟨v145, hd145, -⟩ := bd0_s hF
                  refine cl_Vi (rest := []) hC hK hSK (c_X7_byteAt l z σj140 h0 (o0) g0 x142 v145 hd145 (by omega)) k_X7_byteAt mw_4_169 ⟨rfl, rfl, Nat.le_of_ble_eq_true rfl, Nat.le_of_ble_eq_true rfl⟩ (rv_Model hK hT g0) hT rfl hl.1 rfl (Nat.le_of_ble_eq_true rfl) dX7_next_145 ⟨Nat.zero_le _, Nat.zero_le _⟩ hS (fun _ h => h) (fun _ _ h => h) (fun r145 H locs hpo hS => ?_)
                  obtain ⟨he145, hT, u145_0⟩ := hpo
                  have hF := bd0_r hF hd145 he145
                  refine r_i2l hx hb dX7_next_148 (fun x148 e148 => ?_)
                  have hF := bn hF e148
                  refine r_ldc2 (48) rfl hx hb hts hown mw_4_175 dX7_next_149 (fun x149 e149 => ?_)
                  have hF := bn hF e149
                  refine r_ldc2 (57) rfl hx hb hts hown mw_4_176 dX7_next_152 (fun x152 e152 => ?_)
                  have hF := bn hF e152
                  obtain ⟨v155, hd155, -⟩ := bd0_s hF
                  refine cl_Si (rest := []) hC hK hSK (c_X7_in l z σj140 x148 x149 x152 v155 hd155) k_X7_in mw_4_154 ⟨rfl, rfl, Nat.le_of_ble_eq_true rfl, Nat.le_of_ble_eq_true rfl⟩ hT rfl hl.1 rfl (Nat.le_of_ble_eq_true rfl) dX7_next_155 ⟨Nat.zero_le _, Nat.zero_le _⟩ hS (fun _ h => h) (fun _ _ h => h) (fun r155 H locs hpo hS => ?_)
                  obtain ⟨he155, hT, u155_0, u155_1⟩ := hpo
                  have hF := bd0_r hF hd155 he155
                  refine r_if_eq (tgt := 217) hx hb dX7_next_158 (by decide) (fun c158 => ?_) (fun c158 => ?_)
                  · have hF := ifp hF c158
                    refine lv_aload_n hx hb dX7_next_217 rfl (lv_at hl 0 rfl) ?_
                    refine lv_aload_n hx hb dX7_next_218 rfl (lv_at hl 0 rfl) ?_
                    refine gt_Model_pos hx hb hts ic_Model hown hK hT g0 (hts _ mw_4_81) dX7_next_219 (fun x219 e219 f219 g219 => ?_)
                    have hF := bn hF e219
                    refine lv_aload_n hx hb dX7_next_222 rfl (lv_at hl 0 rfl) ?_
                    refine gt_Model_from hx hb hts ic_Model hown hK hT g0 (hts _ mw_4_82) dX7_next_223 (fun x223 e223 f223 g223 => ?_)
                    have hF := bn hF e223
                    refine r_isub hx hb dX7_next_226 (by omega) (by omega) (fun x226 e226 => ?_)
                    have hF := bn hF e226
                    refine r_iconst hx hb dX7_next_227 (by decide) (by decide) (fun x227 e227 => ?_)
                    have hF := bn hF e227
                    have J236 : ∀ (ls : Array Slot) (H : Heap) (locs : List Loc) (t236_1 : Int32) (σj236 : Sg), (0 ≤ t236_1.toInt ∧ t236_1.toInt ≤ 1) → D_X7_next_236 (σj236 o0) t236_1.toInt = some out → FR σ σj236 o0 → TY z (zA z) σj236 H → va_S (zA z) s.heap H locs → lv_has ls 2 [(0, .ref h0), (1, .int r47)] → W p l e (rmF 2 89) s m ([.ref h0] : List Value).toArray below meth c H locs 0 0 (MQ below (QcV z (fun H => ∃ σ' : Sg, some (σ' o0) = some out ∧ FR σ σ' o0 ∧ TY z (zA z) σ' H)) ([.ref h0] : List Value).toArray s 0 0 (zA z)) (F0 m 236 ls [.int t236_1, .ref h0]) := by
                      intro ls H locs t236_1 σj236 j236_t236_1 hF hfr hT hS hl
                      unfold D_X7_next_236 at hF
                      refine r_iconst hx hb dX7_next_236 (by decide) (by decide) (fun x236 e236 => ?_)
                      have hF := bn hF e236
                      obtain ⟨s237, hd237, -⟩ := bd1_s hF
                      refine cl_Vv (rest := []) hC hK hSK (c_X7_needs l z σj236 h0 (o0) g0 t236_1 x236 s237 hd237 (by omega) (by omega)) k_X7_needs mw_4_177 ⟨rfl, rfl, Nat.le_of_ble_eq_true rfl, Nat.le_of_ble_eq_true rfl⟩ (rv_Model hK hT g0) hT rfl hl.1 rfl (Nat.le_of_ble_eq_true rfl) dX7_next_237 ⟨Nat.zero_le _, Nat.zero_le _⟩ hS (fun _ h => h) (fun _ _ h => h) (fun H locs hpo hS => ?_)
                      obtain ⟨σ237, he237, hf237, hT⟩ := hpo
                      have hF := bd1_r hF hd237 he237
                      have hfr := FR_tr hf237 hfr
                      refine lv_goto (tgt := 274) hx hb dX7_next_240 (by decide) ?_
                      exact rt_v hx hb hr hlk hS ⟨σ237, hF, hfr, hT⟩ dX7_next_274
                    refine r_icmp_gt (tgt := 235) hx hb dX7_next_228 (by decide) (fun c228 => ?_) (fun c228 => ?_)
                    · have hF := ifp hF c228
                      refine r_iconst hx hb dX7_next_235 (by decide) (by decide) (fun x235 e235 => ?_)
                      have hF := bn hF e235
                      exact J236 ls _ _ x235 σj140 (by omega) hF hfr hT hS (lv_sub hl [0, 1] rfl)
                    · have hF := ifn hF (Int.not_lt.mpr c228)
                      refine r_iconst hx hb dX7_next_231 (by decide) (by decide) (fun x231 e231 => ?_)
                      have hF := bn hF e231
                      refine lv_goto (tgt := 236) hx hb dX7_next_232 (by decide) ?_
                      exact J236 ls _ _ x231 σj140 (by omega) hF hfr hT hS (lv_sub hl [0, 1] rfl)
                  · have hF := ifn hF c158
                    refine lv_aload_n hx hb dX7_next_161 rfl (lv_at hl 0 rfl) ?_
                    refine lv_aload_n hx hb dX7_next_162 rfl (lv_at hl 0 rfl) ?_
                    refine gt_Model_pos hx hb hts ic_Model hown hK hT g0 (hts _ mw_4_81) dX7_next_163 (fun x163 e163 f163 g163 => ?_)
                    have hF := bn hF e163
                    refine lv_aload_n hx hb dX7_next_166 rfl (lv_at hl 0 rfl) ?_
                    refine gt_Model_from hx hb hts ic_Model hown hK hT g0 (hts _ mw_4_82) dX7_next_167 (fun x167 e167 f167 g167 => ?_)
                    have hF := bn hF e167
                    refine r_isub hx hb dX7_next_170 (by omega) (by omega) (fun x170 e170 => ?_)
                    have hF := bn hF e170
                    refine r_iconst hx hb dX7_next_171 (by decide) (by decide) (fun x171 e171 => ?_)
                    have hF := bn hF e171
                    have J201 : ∀ (ls : Array Slot) (H : Heap) (locs : List Loc) (t201_1 : Int32) (σj201 : Sg), (-49 ≤ t201_1.toInt ∧ t201_1.toInt ≤ 10069) → D_X7_next_201 (D_X7_next_140 n140) (σj201 o0) t201_1.toInt = some out → FR σ σj201 o0 → TY z (zA z) σj201 H → va_S (zA z) s.heap H locs → lv_has ls 2 [(0, .ref h0), (1, .int r47)] → W p l e (rmF 2 89) s m ([.ref h0] : List Value).toArray below meth c H locs 0 0 (MQ below (QcV z (fun H => ∃ σ' : Sg, some (σ' o0) = some out ∧ FR σ σ' o0 ∧ TY z (zA z) σ' H)) ([.ref h0] : List Value).toArray s 0 0 (zA z)) (F0 m 201 ls [.int t201_1, .ref h0]) := by
                      intro ls H locs t201_1 σj201 j201_t201_1 hF hfr hT hS hl
                      unfold D_X7_next_201 at hF
                      obtain ⟨k201, hF⟩ := ck hF
                      refine pt_Model_value hx hb hts ic_Model hown hK hT hS g0 (hts _ mw_4_84) (by omega) (by omega) dX7_next_201 (fun H locs hT hS => ?_)
                      obtain ⟨σ201, hF, hfr, hT⟩ := wrL hF hfr hT
                      refine lv_aload_n hx hb dX7_next_204 rfl (lv_at hl 0 rfl) ?_
                      refine lv_dup hx hb dX7_next_205 rfl ?_
                      refine gt_Model_pos hx hb hts ic_Model hown hK hT g0 (hts _ mw_4_81) dX7_next_206 (fun x206 e206 f206 g206 => ?_)
                      have hF := bn hF e206
                      refine r_iconst hx hb dX7_next_209 (by decide) (by decide) (fun x209 e209 => ?_)
                      have hF := bn hF e209
                      refine r_iadd hx hb dX7_next_210 (by omega) (by omega) (fun x210 e210 => ?_)
                      have hF := bn hF e210
                      obtain ⟨k211, hF⟩ := ck hF
                      refine pt_Model_pos hx hb hts ic_Model hown hK hT hS g0 (hts _ mw_4_81) (by omega) (by omega) dX7_next_211 (fun H locs hT hS => ?_)
                      obtain ⟨σ211, hF, hfr, hT⟩ := wrL hF hfr hT
                      refine lv_goto (tgt := 140) hx hb dX7_next_214 (by decide) ?_
                      exact ih140 ls _ _ σ211 hF hfr hT hS (lv_sub hl [0, 1] rfl)
                    refine r_icmp_ge (tgt := 197) hx hb dX7_next_172 (by decide) (fun c172 => ?_) (fun c172 => ?_)
                    · have hF := ifn hF (Int.not_lt.mpr c172)
                      refine lv_aload_n hx hb dX7_next_197 rfl (lv_at hl 0 rfl) ?_
                      refine gt_Model_value hx hb hts ic_Model hown hK hT g0 (hts _ mw_4_84) dX7_next_198 (fun x198 e198 f198 g198 => ?_)
                      have hF := bn hF e198
                      exact J201 ls _ _ x198 σj140 (by omega) hF hfr hT hS (lv_sub hl [0, 1] rfl)
                    · have hF := ifp hF c172
                      refine r_bipush hx hb dX7_next_175 rfl (fun x175 e175 => ?_)
                      have hF := bn hF e175
                      refine lv_aload_n hx hb dX7_next_177 rfl (lv_at hl 0 rfl) ?_
                      refine gt_Model_value hx hb hts ic_Model hown hK hT g0 (hts _ mw_4_84) dX7_next_178 (fun x178 e178 f178 g178 => ?_)
                      have hF := bn hF e178
                      refine r_imulL (10) (by omega) hx hb dX7_next_181 (by omega) (by omega) (fun x181 e181 => ?_)
                      have hF := bn hF e181
                      refine lv_aload_n hx hb dX7_next_182 rfl (lv_at hl 0 rfl) ?_
                      refine lv_aload_n hx hb dX7_next_183 rfl (lv_at hl 0 rfl) ?_
                      refine gt_Model_pos hx hb hts ic_Model hown hK hT g0 (hts _ mw_4_81) dX7_next_184 (fun x184 e184 f184 g184 => ?_)
                      have hF := bn hF e184
                      obtain ⟨v187, hd187, -⟩ := bd0_s hF
                      refine cl_Vi (rest := [.int x181, .ref h0]) hC hK hSK (c_X7_byteAt l z σj140 h0 (o0) g0 x184 v187 hd187 (by omega)) k_X7_byteAt mw_4_169 ⟨rfl, rfl, Nat.le_of_ble_eq_true rfl, Nat.le_of_ble_eq_true rfl⟩ (rv_Model hK hT g0) hT rfl hl.1 rfl (Nat.le_of_ble_eq_true rfl) dX7_next_187 ⟨Nat.zero_le _, Nat.zero_le _⟩ hS (fun _ h => h) (fun _ _ h => h) (fun r187 H locs hpo hS => ?_)
                      obtain ⟨he187, hT, u187_0⟩ := hpo
                      have hF := bd0_r hF hd187 he187
                      refine r_iadd hx hb dX7_next_190 (by omega) (by omega) (fun x190 e190 => ?_)
                      have hF := bn hF e190
                      refine r_bipush hx hb dX7_next_191 rfl (fun x191 e191 => ?_)
                      have hF := bn hF e191
                      refine r_isub hx hb dX7_next_193 (by omega) (by omega) (fun x193 e193 => ?_)
                      have hF := bn hF e193
                      refine lv_goto (tgt := 201) hx hb dX7_next_194 (by decide) ?_
                      exact J201 ls _ _ x193 σj140 (by omega) hF hfr hT hS (lv_sub hl [0, 1] rfl)
              exact J140 5000 ls _ _ σ137 hF hfr hT hS (lv_sub hl [1, 0] rfl)
          · have hF := ifn hF c74
            refine lv_aload_n hx hb dX7_next_77 rfl (lv_at hl 1 rfl) ?_
            refine r_iconst hx hb dX7_next_78 (by decide) (by decide) (fun x78 e78 => ?_)
            have hF := bn hF e78
            refine pt_Model_sort hx hb hts ic_Model hown hK hT hS g0 (hts _ mw_4_83) (by omega) (by omega) dX7_next_79 (fun H locs hT hS => ?_)
            obtain ⟨σ79, hF, hfr, hT⟩ := wrL hF hfr hT
            have J82 : ∀ (n82 : Nat) (ls : Array Slot) (H : Heap) (locs : List Loc) (σj82 : Sg), D_X7_next_82 n82 (σj82 o0) = some out → FR σ σj82 o0 → TY z (zA z) σj82 H → va_S (zA z) s.heap H locs → lv_has ls 2 [(0, .ref h0), (1, .int r47)] → W p l e (rmF 2 89) s m ([.ref h0] : List Value).toArray below meth c H locs 0 0 (MQ below (QcV z (fun H => ∃ σ' : Sg, some (σ' o0) = some out ∧ FR σ σ' o0 ∧ TY z (zA z) σ' H)) ([.ref h0] : List Value).toArray s 0 0 (zA z)) (F0 m 82 ls []) := by
              intro n82
              induction n82 with
              | zero => intro ls H locs σj82 hF hfr hT hS hl; exact (no_s hF).elim
              | succ n82 ih82 =>
                intro ls H locs σj82 hF hfr hT hS hl
                rw [D_X7_next_82.eq_2] at hF
                refine lv_aload_n hx hb dX7_next_82 rfl (lv_at hl 0 rfl) ?_
                refine lv_aload_n hx hb dX7_next_83 rfl (lv_at hl 0 rfl) ?_
                refine gt_Model_pos hx hb hts ic_Model hown hK hT g0 (hts _ mw_4_81) dX7_next_84 (fun x84 e84 f84 g84 => ?_)
                have hF := bn hF e84
                obtain ⟨v87, hd87, -⟩ := bd0_s hF
                refine cl_Vi (rest := []) hC hK hSK (c_X7_byteAt l z σj82 h0 (o0) g0 x84 v87 hd87 (by omega)) k_X7_byteAt mw_4_169 ⟨rfl, rfl, Nat.le_of_ble_eq_true rfl, Nat.le_of_ble_eq_true rfl⟩ (rv_Model hK hT g0) hT rfl hl.1 rfl (Nat.le_of_ble_eq_true rfl) dX7_next_87 ⟨Nat.zero_le _, Nat.zero_le _⟩ hS (fun _ h => h) (fun _ _ h => h) (fun r87 H locs hpo hS => ?_)
                obtain ⟨he87, hT, u87_0⟩ := hpo
                have hF := bd0_r hF hd87 he87
                refine r_i2l hx hb dX7_next_90 (fun x90 e90 => ?_)
                have hF := bn hF e90
                refine r_ldc2 (97) rfl hx hb hts hown mw_4_173 dX7_next_91 (fun x91 e91 => ?_)
                have hF := bn hF e91
                refine r_ldc2 (122) rfl hx hb hts hown mw_4_174 dX7_next_94 (fun x94 e94 => ?_)
                have hF := bn hF e94
                obtain ⟨v97, hd97, -⟩ := bd0_s hF
                refine cl_Si (rest := []) hC hK hSK (c_X7_in l z σj82 x90 x91 x94 v97 hd97) k_X7_in mw_4_154 ⟨rfl, rfl, Nat.le_of_ble_eq_true rfl, Nat.le_of_ble_eq_true rfl⟩ hT rfl hl.1 rfl (Nat.le_of_ble_eq_true rfl) dX7_next_97 ⟨Nat.zero_le _, Nat.zero_le _⟩ hS (fun _ h => h) (fun _ _ h => h) (fun r97 H locs hpo hS => ?_)
                obtain ⟨he97, hT, u97_0, u97_1⟩ := hpo
                have hF := bd0_r hF hd97 he97
                refine r_if_eq (tgt := 274) hx hb dX7_next_100 (by decide) (fun c100 => ?_) (fun c100 => ?_)
                · have hF := ifp hF c100
                  exact rt_v hx hb hr hlk hS ⟨σj82, hF, hfr, hT⟩ dX7_next_274
                · have hF := ifn hF c100
                  refine lv_aload_n hx hb dX7_next_103 rfl (lv_at hl 0 rfl) ?_
                  refine lv_dup hx hb dX7_next_104 rfl ?_
                  refine gt_Model_pos hx hb hts ic_Model hown hK hT g0 (hts _ mw_4_81) dX7_next_105 (fun x105 e105 f105 g105 => ?_)
                  have hF := bn hF e105
                  refine r_iconst hx hb dX7_next_108 (by decide) (by decide) (fun x108 e108 => ?_)
                  have hF := bn hF e108
                  refine r_iadd hx hb dX7_next_109 (by omega) (by omega) (fun x109 e109 => ?_)
                  have hF := bn hF e109
                  obtain ⟨k110, hF⟩ := ck hF
                  refine pt_Model_pos hx hb hts ic_Model hown hK hT hS g0 (hts _ mw_4_81) (by omega) (by omega) dX7_next_110 (fun H locs hT hS => ?_)
                  obtain ⟨σ110, hF, hfr, hT⟩ := wrL hF hfr hT
                  refine lv_goto (tgt := 82) hx hb dX7_next_113 (by decide) ?_
                  exact ih82 ls _ _ σ110 hF hfr hT hS (lv_sub hl [0, 1] rfl)
            exact J82 5000 ls _ _ σ79 hF hfr hT hS (lv_sub hl [1, 0] rfl)
        · have hF := ifp hF c52
          refine lv_aload_n hx hb dX7_next_55 rfl (lv_at hl 1 rfl) ?_
          refine r_iconst hx hb dX7_next_56 (by decide) (by decide) (fun x56 e56 => ?_)
          have hF := bn hF e56
          refine pt_Model_sort hx hb hts ic_Model hown hK hT hS g0 (hts _ mw_4_83) (by omega) (by omega) dX7_next_57 (fun H locs hT hS => ?_)
          obtain ⟨σ57, hF, hfr, hT⟩ := wrL hF hfr hT
          refine lv_goto (tgt := 274) hx hb dX7_next_60 (by decide) ?_
          exact rt_v hx hb hr hlk hS ⟨σ57, hF, hfr, hT⟩ dX7_next_274
      · have hF := ifp hF c18
        refine lv_aload_n hx hb dX7_next_21 rfl (lv_at hl 0 rfl) ?_
        refine lv_dup hx hb dX7_next_22 rfl ?_
        refine gt_Model_pos hx hb hts ic_Model hown hK hT g0 (hts _ mw_4_81) dX7_next_23 (fun x23 e23 f23 g23 => ?_)
        have hF := bn hF e23
        refine r_iconst hx hb dX7_next_26 (by decide) (by decide) (fun x26 e26 => ?_)
        have hF := bn hF e26
        refine r_iadd hx hb dX7_next_27 (by omega) (by omega) (fun x27 e27 => ?_)
        have hF := bn hF e27
        obtain ⟨k28, hF⟩ := ck hF
        refine pt_Model_pos hx hb hts ic_Model hown hK hT hS g0 (hts _ mw_4_81) (by omega) (by omega) dX7_next_28 (fun H locs hT hS => ?_)
        obtain ⟨σ28, hF, hfr, hT⟩ := wrL hF hfr hT
        refine lv_goto (tgt := 8) hx hb dX7_next_31 (by decide) ?_
        exact ih8 ls _ _ σ28 hF hfr hT hS (lv_sub hl [0] rfl)
  refine r_if_le (tgt := 8) hx hb dX7_next_4 (by decide) (fun c4 => ?_) (fun c4 => ?_)
  · have hF := ifn hF (Int.not_lt.mpr c4)
    exact J8 5000 ls _ _ σ hF hfr hT hS (lv_sub hl [0] rfl)
  · have hF := ifp hF c4
    exact rt_v hx hb hr hlk hS ⟨σ, hF, hfr, hT⟩ dX7_next_7
theorem k_X7_ends : cBV yX7_ends cX7_ends 6 (some .boolean) 5 := ⟨mw_4_195, ms_2_4, mw_1_8, mw_4_196, ⟨by decide, by decide, by decide⟩⟩
set_option maxHeartbeats 4000000 in
set_option maxRecDepth 100000 in
theorem c_X7_ends (l : Launch) (z : Zt) (σ : Sg) (h0 o0 : Nat) (g0 : zG z h0 = (17, o0)) (p1 : Int32) (p2 : Int32) (p3 : Int32) (p4 : Int32) (p5 : Int32) (out : Int) (hF : D_X7_ends (σ o0) p1.toInt p2.toInt p3.toInt p4.toInt p5.toInt = some out) : Met l yX7_ends (uw yX7_ends cX7_ends 6 (some .boolean)) (rmF 2 85) (PcW z [.ref h0, .int p1, .int p2, .int p3, .int p4, .int p5] (fun H => TY z (zA z) σ H)) (QcI z (fun r H => some r.toInt = some out ∧ TY z (zA z) σ H ∧ (0 ≤ r.toInt ∧ r.toInt ≤ 1))) 0 0 (zA z) := by
  refine Met.ofW (cc := cX7_ends) (maxL := 6) (ret := (some .boolean)) (by decide) rfl ?_
  intro p e s m args below meth c s₁ B hml hv
  obtain ⟨rfl, hT, hK, hSK⟩ := hv
  have hx := B.exec
  have hb := B.bytes
  have hr := B.returns
  have hts : ∀ w ∈ lw_ok, w.before ([.ref h0, .int p1, .int p2, .int p3, .int p4, .int p5] : List Value).toArray s = true := fun w hw => atoms_spec (ws := uw yX7_ends cX7_ends 6 (some .boolean)) B.pre w (List.mem_cons_of_mem _ hw)
  have hown : s.vm.findClass RX7 = some m.cls := findClass_of_methodNamed B.named
  have hlk := B.notSynchronized
  have hC : CallFix p m c cX7_ends 6 s ([.ref h0, .int p1, .int p2, .int p3, .int p4, .int p5] : List Value).toArray lw_ok RX7 := ⟨hx, hb, hml, hown, hts⟩
  have hS : va_S (zA z) s.heap s.heap [] := va_S.rf
  have hl := lv_entry ([.ref h0, .int p1, .int p2, .int p3, .int p4, .int p5]) (n := 6) (Nat.le_of_ble_eq_true rfl)
  rw [lg_entry_eq]
  generalize (lg_sl ([.ref h0, .int p1, .int p2, .int p3, .int p4, .int p5]) ++ List.replicate (6 - (lg_sl ([.ref h0, .int p1, .int p2, .int p3, .int p4, .int p5])).length) Slot.unset).toArray = ls at hl ⊢
  have hl : lv_has ls 6 [(0, .ref h0), (1, .int p1), (2, .int p2), (3, .int p3), (4, .int p4), (5, .int p5)] := hl
  show W p l e (rmF 2 85) s m ([.ref h0, .int p1, .int p2, .int p3, .int p4, .int p5] : List Value).toArray below meth c s.heap [] 0 0 (MQ below (QcI z (fun r H => some r.toInt = some out ∧ TY z (zA z) σ H ∧ (0 ≤ r.toInt ∧ r.toInt ≤ 1))) ([.ref h0, .int p1, .int p2, .int p3, .int p4, .int p5] : List Value).toArray s 0 0 (zA z)) (F0 m 0 ls [])
  unfold D_X7_ends at hF
  have mx_p1 := i_mx p1
  have mx_p2 := i_mx p2
  have mx_p3 := i_mx p3
  have mx_p4 := i_mx p4
  have mx_p5 := i_mx p5
  refine lv_aload_n hx hb dX7_ends_0 rfl (lv_at hl 0 rfl) ?_
  refine lv_aload_n hx hb dX7_ends_1 rfl (lv_at hl 0 rfl) ?_
  refine gt_Model_from hx hb hts ic_Model hown hK hT g0 (hts _ mw_4_82) dX7_ends_2 (fun x2 e2 f2 g2 => ?_)
  have hF := bn hF e2
  refine r_iconst hx hb dX7_ends_5 (by decide) (by decide) (fun x5 e5 => ?_)
  have hF := bn hF e5
  refine r_iadd hx hb dX7_ends_6 (by omega) (by omega) (fun x6 e6 => ?_)
  have hF := bn hF e6
  obtain ⟨v7, hd7, -⟩ := bd0_s hF
  refine cl_Vi (rest := []) hC hK hSK (c_X7_byteAt l z σ h0 (o0) g0 x6 v7 hd7 (by omega)) k_X7_byteAt mw_4_169 ⟨rfl, rfl, Nat.le_of_ble_eq_true rfl, Nat.le_of_ble_eq_true rfl⟩ (rv_Model hK hT g0) hT rfl hl.1 rfl (Nat.le_of_ble_eq_true rfl) dX7_ends_7 ⟨Nat.zero_le _, Nat.zero_le _⟩ hS (fun _ h => h) (fun _ _ h => h) (fun r7 H locs hpo hS => ?_)
  obtain ⟨he7, hT, u7_0⟩ := hpo
  have hF := bd0_r hF hd7 he7
  refine lv_iload_n hx hb dX7_ends_10 rfl (lv_at hl 1 rfl) ?_
  have J95 : ∀ (ls : Array Slot) (H : Heap) (locs : List Loc), D_X7_ends_95 = some out → TY z (zA z) σ H → va_S (zA z) s.heap H locs → lv_has ls 6 [(0, .ref h0), (1, .int p1), (2, .int p2), (3, .int p3), (4, .int p4), (5, .int p5)] → W p l e (rmF 2 85) s m ([.ref h0, .int p1, .int p2, .int p3, .int p4, .int p5] : List Value).toArray below meth c H locs 0 0 (MQ below (QcI z (fun r H => some r.toInt = some out ∧ TY z (zA z) σ H ∧ (0 ≤ r.toInt ∧ r.toInt ≤ 1))) ([.ref h0, .int p1, .int p2, .int p3, .int p4, .int p5] : List Value).toArray s 0 0 (zA z)) (F0 m 95 ls []) := by
    intro ls H locs hF hT hS hl
    unfold D_X7_ends_95 at hF
    refine r_iconst hx hb dX7_ends_95 (by decide) (by decide) (fun x95 e95 => ?_)
    have hF := bn hF e95
    exact rt_z hx hb hr hlk hS (by omega) (by omega) ⟨hF, hT, (by omega)⟩ dX7_ends_96
  refine r_icmp_ne (tgt := 95) hx hb dX7_ends_11 (by decide) (fun c11 => ?_) (fun c11 => ?_)
  · have hF := ifn hF c11
    exact J95 ls _ _ hF hT hS (lv_sub hl [0, 1, 2, 3, 4, 5] rfl)
  · have hF := ifp hF c11
    refine lv_iload_n hx hb dX7_ends_14 rfl (lv_at hl 2 rfl) ?_
    have J32 : ∀ (ls : Array Slot) (H : Heap) (locs : List Loc), (-1 ≤ p2.toInt ∧ p2.toInt ≤ 127) → D_X7_ends_32 p3.toInt p4.toInt p5.toInt (σ o0) = some out → TY z (zA z) σ H → va_S (zA z) s.heap H locs → lv_has ls 6 [(0, .ref h0), (1, .int p1), (2, .int p2), (3, .int p3), (4, .int p4), (5, .int p5)] → W p l e (rmF 2 85) s m ([.ref h0, .int p1, .int p2, .int p3, .int p4, .int p5] : List Value).toArray below meth c H locs 0 0 (MQ below (QcI z (fun r H => some r.toInt = some out ∧ TY z (zA z) σ H ∧ (0 ≤ r.toInt ∧ r.toInt ≤ 1))) ([.ref h0, .int p1, .int p2, .int p3, .int p4, .int p5] : List Value).toArray s 0 0 (zA z)) (F0 m 32 ls []) := by
      intro ls H locs j32_p2 hF hT hS hl
      unfold D_X7_ends_32 at hF
      refine lv_iload_n hx hb dX7_ends_32 rfl (lv_at hl 3 rfl) ?_
      have J50 : ∀ (ls : Array Slot) (H : Heap) (locs : List Loc), (-1 ≤ p3.toInt ∧ p3.toInt ≤ 127) → D_X7_ends_50 p4.toInt p5.toInt (σ o0) = some out → TY z (zA z) σ H → va_S (zA z) s.heap H locs → lv_has ls 6 [(0, .ref h0), (1, .int p1), (2, .int p2), (3, .int p3), (4, .int p4), (5, .int p5)] → W p l e (rmF 2 85) s m ([.ref h0, .int p1, .int p2, .int p3, .int p4, .int p5] : List Value).toArray below meth c H locs 0 0 (MQ below (QcI z (fun r H => some r.toInt = some out ∧ TY z (zA z) σ H ∧ (0 ≤ r.toInt ∧ r.toInt ≤ 1))) ([.ref h0, .int p1, .int p2, .int p3, .int p4, .int p5] : List Value).toArray s 0 0 (zA z)) (F0 m 50 ls []) := by
        intro ls H locs j50_p3 hF hT hS hl
        unfold D_X7_ends_50 at hF
        refine lv_iload hx hb dX7_ends_50 (lv_at hl 4 rfl) ?_
        have J70 : ∀ (ls : Array Slot) (H : Heap) (locs : List Loc), (-1 ≤ p4.toInt ∧ p4.toInt ≤ 127) → D_X7_ends_70 p5.toInt (σ o0) = some out → TY z (zA z) σ H → va_S (zA z) s.heap H locs → lv_has ls 6 [(0, .ref h0), (1, .int p1), (2, .int p2), (3, .int p3), (4, .int p4), (5, .int p5)] → W p l e (rmF 2 85) s m ([.ref h0, .int p1, .int p2, .int p3, .int p4, .int p5] : List Value).toArray below meth c H locs 0 0 (MQ below (QcI z (fun r H => some r.toInt = some out ∧ TY z (zA z) σ H ∧ (0 ≤ r.toInt ∧ r.toInt ≤ 1))) ([.ref h0, .int p1, .int p2, .int p3, .int p4, .int p5] : List Value).toArray s 0 0 (zA z)) (F0 m 70 ls []) := by
          intro ls H locs j70_p4 hF hT hS hl
          unfold D_X7_ends_70 at hF
          refine lv_iload hx hb dX7_ends_70 (lv_at hl 5 rfl) ?_
          have J91 : ∀ (ls : Array Slot) (H : Heap) (locs : List Loc), (-1 ≤ p5.toInt ∧ p5.toInt ≤ 127) → D_X7_ends_91 = some out → TY z (zA z) σ H → va_S (zA z) s.heap H locs → lv_has ls 6 [(0, .ref h0), (1, .int p1), (2, .int p2), (3, .int p3), (4, .int p4), (5, .int p5)] → W p l e (rmF 2 85) s m ([.ref h0, .int p1, .int p2, .int p3, .int p4, .int p5] : List Value).toArray below meth c H locs 0 0 (MQ below (QcI z (fun r H => some r.toInt = some out ∧ TY z (zA z) σ H ∧ (0 ≤ r.toInt ∧ r.toInt ≤ 1))) ([.ref h0, .int p1, .int p2, .int p3, .int p4, .int p5] : List Value).toArray s 0 0 (zA z)) (F0 m 91 ls []) := by
            intro ls H locs j91_p5 hF hT hS hl
            unfold D_X7_ends_91 at hF
            refine r_iconst hx hb dX7_ends_91 (by decide) (by decide) (fun x91 e91 => ?_)
            have hF := bn hF e91
            refine lv_goto (tgt := 96) hx hb dX7_ends_92 (by decide) ?_
            exact rt_z hx hb hr hlk hS (by omega) (by omega) ⟨hF, hT, (by omega)⟩ dX7_ends_96
          refine r_if_eq (tgt := 91) hx hb dX7_ends_72 (by decide) (fun c72 => ?_) (fun c72 => ?_)
          · have hF := ifp hF c72
            exact J91 ls _ _ (by omega) hF hT hS (lv_sub hl [0, 1, 2, 3, 4, 5] rfl)
          · have hF := ifn hF c72
            refine lv_aload_n hx hb dX7_ends_75 rfl (lv_at hl 0 rfl) ?_
            refine lv_aload_n hx hb dX7_ends_76 rfl (lv_at hl 0 rfl) ?_
            refine gt_Model_from hx hb hts ic_Model hown hK hT g0 (hts _ mw_4_82) dX7_ends_77 (fun x77 e77 f77 g77 => ?_)
            have hF := bn hF e77
            refine r_bipush hx hb dX7_ends_80 rfl (fun x80 e80 => ?_)
            have hF := bn hF e80
            refine r_iadd hx hb dX7_ends_82 (by omega) (by omega) (fun x82 e82 => ?_)
            have hF := bn hF e82
            obtain ⟨v83, hd83, -⟩ := bd0_s hF
            refine cl_Vi (rest := []) hC hK hSK (c_X7_byteAt l z σ h0 (o0) g0 x82 v83 hd83 (by omega)) k_X7_byteAt mw_4_169 ⟨rfl, rfl, Nat.le_of_ble_eq_true rfl, Nat.le_of_ble_eq_true rfl⟩ (rv_Model hK hT g0) hT rfl hl.1 rfl (Nat.le_of_ble_eq_true rfl) dX7_ends_83 ⟨Nat.zero_le _, Nat.zero_le _⟩ hS (fun _ h => h) (fun _ _ h => h) (fun r83 H locs hpo hS => ?_)
            obtain ⟨he83, hT, u83_0⟩ := hpo
            have hF := bd0_r hF hd83 he83
            refine lv_iload hx hb dX7_ends_86 (lv_at hl 5 rfl) ?_
            refine r_icmp_ne (tgt := 95) hx hb dX7_ends_88 (by decide) (fun c88 => ?_) (fun c88 => ?_)
            · have hF := ifn hF c88
              exact J95 ls _ _ hF hT hS (lv_sub hl [0, 1, 2, 3, 4, 5] rfl)
            · have hF := ifp hF c88
              exact J91 ls _ _ (by omega) hF hT hS (lv_sub hl [0, 1, 2, 3, 4, 5] rfl)
        refine r_if_eq (tgt := 70) hx hb dX7_ends_52 (by decide) (fun c52 => ?_) (fun c52 => ?_)
        · have hF := ifp hF c52
          exact J70 ls _ _ (by omega) hF hT hS (lv_sub hl [0, 1, 2, 3, 4, 5] rfl)
        · have hF := ifn hF c52
          refine lv_aload_n hx hb dX7_ends_55 rfl (lv_at hl 0 rfl) ?_
          refine lv_aload_n hx hb dX7_ends_56 rfl (lv_at hl 0 rfl) ?_
          refine gt_Model_from hx hb hts ic_Model hown hK hT g0 (hts _ mw_4_82) dX7_ends_57 (fun x57 e57 f57 g57 => ?_)
          have hF := bn hF e57
          refine r_iconst hx hb dX7_ends_60 (by decide) (by decide) (fun x60 e60 => ?_)
          have hF := bn hF e60
          refine r_iadd hx hb dX7_ends_61 (by omega) (by omega) (fun x61 e61 => ?_)
          have hF := bn hF e61
          obtain ⟨v62, hd62, -⟩ := bd0_s hF
          refine cl_Vi (rest := []) hC hK hSK (c_X7_byteAt l z σ h0 (o0) g0 x61 v62 hd62 (by omega)) k_X7_byteAt mw_4_169 ⟨rfl, rfl, Nat.le_of_ble_eq_true rfl, Nat.le_of_ble_eq_true rfl⟩ (rv_Model hK hT g0) hT rfl hl.1 rfl (Nat.le_of_ble_eq_true rfl) dX7_ends_62 ⟨Nat.zero_le _, Nat.zero_le _⟩ hS (fun _ h => h) (fun _ _ h => h) (fun r62 H locs hpo hS => ?_)
          obtain ⟨he62, hT, u62_0⟩ := hpo
          have hF := bd0_r hF hd62 he62
          refine lv_iload hx hb dX7_ends_65 (lv_at hl 4 rfl) ?_
          refine r_icmp_ne (tgt := 95) hx hb dX7_ends_67 (by decide) (fun c67 => ?_) (fun c67 => ?_)
          · have hF := ifn hF c67
            exact J95 ls _ _ hF hT hS (lv_sub hl [0, 1, 2, 3, 4, 5] rfl)
          · have hF := ifp hF c67
            exact J70 ls _ _ (by omega) hF hT hS (lv_sub hl [0, 1, 2, 3, 4, 5] rfl)
      refine r_if_eq (tgt := 50) hx hb dX7_ends_33 (by decide) (fun c33 => ?_) (fun c33 => ?_)
      · have hF := ifp hF c33
        exact J50 ls _ _ (by omega) hF hT hS (lv_sub hl [0, 1, 2, 3, 4, 5] rfl)
      · have hF := ifn hF c33
        refine lv_aload_n hx hb dX7_ends_36 rfl (lv_at hl 0 rfl) ?_
        refine lv_aload_n hx hb dX7_ends_37 rfl (lv_at hl 0 rfl) ?_
        refine gt_Model_from hx hb hts ic_Model hown hK hT g0 (hts _ mw_4_82) dX7_ends_38 (fun x38 e38 f38 g38 => ?_)
        have hF := bn hF e38
        refine r_iconst hx hb dX7_ends_41 (by decide) (by decide) (fun x41 e41 => ?_)
        have hF := bn hF e41
        refine r_iadd hx hb dX7_ends_42 (by omega) (by omega) (fun x42 e42 => ?_)
        have hF := bn hF e42
        obtain ⟨v43, hd43, -⟩ := bd0_s hF
        refine cl_Vi (rest := []) hC hK hSK (c_X7_byteAt l z σ h0 (o0) g0 x42 v43 hd43 (by omega)) k_X7_byteAt mw_4_169 ⟨rfl, rfl, Nat.le_of_ble_eq_true rfl, Nat.le_of_ble_eq_true rfl⟩ (rv_Model hK hT g0) hT rfl hl.1 rfl (Nat.le_of_ble_eq_true rfl) dX7_ends_43 ⟨Nat.zero_le _, Nat.zero_le _⟩ hS (fun _ h => h) (fun _ _ h => h) (fun r43 H locs hpo hS => ?_)
        obtain ⟨he43, hT, u43_0⟩ := hpo
        have hF := bd0_r hF hd43 he43
        refine lv_iload_n hx hb dX7_ends_46 rfl (lv_at hl 3 rfl) ?_
        refine r_icmp_ne (tgt := 95) hx hb dX7_ends_47 (by decide) (fun c47 => ?_) (fun c47 => ?_)
        · have hF := ifn hF c47
          exact J95 ls _ _ hF hT hS (lv_sub hl [0, 1, 2, 3, 4, 5] rfl)
        · have hF := ifp hF c47
          exact J50 ls _ _ (by omega) hF hT hS (lv_sub hl [0, 1, 2, 3, 4, 5] rfl)
    refine r_if_eq (tgt := 32) hx hb dX7_ends_15 (by decide) (fun c15 => ?_) (fun c15 => ?_)
    · have hF := ifp hF c15
      exact J32 ls _ _ (by omega) hF hT hS (lv_sub hl [0, 1, 2, 3, 4, 5] rfl)
    · have hF := ifn hF c15
      refine lv_aload_n hx hb dX7_ends_18 rfl (lv_at hl 0 rfl) ?_
      refine lv_aload_n hx hb dX7_ends_19 rfl (lv_at hl 0 rfl) ?_
      refine gt_Model_from hx hb hts ic_Model hown hK hT g0 (hts _ mw_4_82) dX7_ends_20 (fun x20 e20 f20 g20 => ?_)
      have hF := bn hF e20
      refine r_iconst hx hb dX7_ends_23 (by decide) (by decide) (fun x23 e23 => ?_)
      have hF := bn hF e23
      refine r_iadd hx hb dX7_ends_24 (by omega) (by omega) (fun x24 e24 => ?_)
      have hF := bn hF e24
      obtain ⟨v25, hd25, -⟩ := bd0_s hF
      refine cl_Vi (rest := []) hC hK hSK (c_X7_byteAt l z σ h0 (o0) g0 x24 v25 hd25 (by omega)) k_X7_byteAt mw_4_169 ⟨rfl, rfl, Nat.le_of_ble_eq_true rfl, Nat.le_of_ble_eq_true rfl⟩ (rv_Model hK hT g0) hT rfl hl.1 rfl (Nat.le_of_ble_eq_true rfl) dX7_ends_25 ⟨Nat.zero_le _, Nat.zero_le _⟩ hS (fun _ h => h) (fun _ _ h => h) (fun r25 H locs hpo hS => ?_)
      obtain ⟨he25, hT, u25_0⟩ := hpo
      have hF := bd0_r hF hd25 he25
      refine lv_iload_n hx hb dX7_ends_28 rfl (lv_at hl 2 rfl) ?_
      refine r_icmp_ne (tgt := 95) hx hb dX7_ends_29 (by decide) (fun c29 => ?_) (fun c29 => ?_)
      · have hF := ifn hF c29
        exact J95 ls _ _ hF hT hS (lv_sub hl [0, 1, 2, 3, 4, 5] rfl)
      · have hF := ifp hF c29
        exact J32 ls _ _ (by omega) hF hT hS (lv_sub hl [0, 1, 2, 3, 4, 5] rfl)
theorem k_X7_is : cBV yX7_is cX7_is 4 (some .boolean) 3 := ⟨mw_4_191, ms_2_3, mw_1_8, mw_4_192, ⟨by decide, by decide, by decide⟩⟩
set_option maxHeartbeats 4000000 in
set_option maxRecDepth 100000 in
theorem c_X7_is (l : Launch) (z : Zt) (σ : Sg) (h0 o0 : Nat) (g0 : zG z h0 = (17, o0)) (p1 : Int32) (p2 : Int32) (p3 : Int32) (out : Int) (hF : D_X7_is (σ o0) p1.toInt p2.toInt p3.toInt = some out) : Met l yX7_is (uw yX7_is cX7_is 4 (some .boolean)) (rmF 2 85) (PcW z [.ref h0, .int p1, .int p2, .int p3] (fun H => TY z (zA z) σ H)) (QcI z (fun r H => some r.toInt = some out ∧ TY z (zA z) σ H ∧ (0 ≤ r.toInt ∧ r.toInt ≤ 1))) 0 0 (zA z) := by
  refine Met.ofW (cc := cX7_is) (maxL := 4) (ret := (some .boolean)) (by decide) rfl ?_
  intro p e s m args below meth c s₁ B hml hv
  obtain ⟨rfl, hT, hK, hSK⟩ := hv
  have hx := B.exec
  have hb := B.bytes
  have hr := B.returns
  have hts : ∀ w ∈ lw_ok, w.before ([.ref h0, .int p1, .int p2, .int p3] : List Value).toArray s = true := fun w hw => atoms_spec (ws := uw yX7_is cX7_is 4 (some .boolean)) B.pre w (List.mem_cons_of_mem _ hw)
  have hown : s.vm.findClass RX7 = some m.cls := findClass_of_methodNamed B.named
  have hlk := B.notSynchronized
  have hC : CallFix p m c cX7_is 4 s ([.ref h0, .int p1, .int p2, .int p3] : List Value).toArray lw_ok RX7 := ⟨hx, hb, hml, hown, hts⟩
  have hS : va_S (zA z) s.heap s.heap [] := va_S.rf
  have hl := lv_entry ([.ref h0, .int p1, .int p2, .int p3]) (n := 4) (Nat.le_of_ble_eq_true rfl)
  rw [lg_entry_eq]
  generalize (lg_sl ([.ref h0, .int p1, .int p2, .int p3]) ++ List.replicate (4 - (lg_sl ([.ref h0, .int p1, .int p2, .int p3])).length) Slot.unset).toArray = ls at hl ⊢
  have hl : lv_has ls 4 [(0, .ref h0), (1, .int p1), (2, .int p2), (3, .int p3)] := hl
  show W p l e (rmF 2 85) s m ([.ref h0, .int p1, .int p2, .int p3] : List Value).toArray below meth c s.heap [] 0 0 (MQ below (QcI z (fun r H => some r.toInt = some out ∧ TY z (zA z) σ H ∧ (0 ≤ r.toInt ∧ r.toInt ≤ 1))) ([.ref h0, .int p1, .int p2, .int p3] : List Value).toArray s 0 0 (zA z)) (F0 m 0 ls [])
  unfold D_X7_is at hF
  have mx_p1 := i_mx p1
  have mx_p2 := i_mx p2
  have mx_p3 := i_mx p3
  refine lv_aload_n hx hb dX7_is_0 rfl (lv_at hl 0 rfl) ?_
  refine gt_Model_pos hx hb hts ic_Model hown hK hT g0 (hts _ mw_4_81) dX7_is_1 (fun x1 e1 f1 g1 => ?_)
  have hF := bn hF e1
  refine lv_aload_n hx hb dX7_is_4 rfl (lv_at hl 0 rfl) ?_
  refine gt_Model_from hx hb hts ic_Model hown hK hT g0 (hts _ mw_4_82) dX7_is_5 (fun x5 e5 f5 g5 => ?_)
  have hF := bn hF e5
  refine r_isub hx hb dX7_is_8 (by omega) (by omega) (fun x8 e8 => ?_)
  have hF := bn hF e8
  refine lv_iload_n hx hb dX7_is_9 rfl (lv_at hl 1 rfl) ?_
  have J43 : ∀ (ls : Array Slot) (H : Heap) (locs : List Loc), D_X7_is_43 = some out → TY z (zA z) σ H → va_S (zA z) s.heap H locs → lv_has ls 4 [(0, .ref h0), (1, .int p1), (2, .int p2), (3, .int p3)] → W p l e (rmF 2 85) s m ([.ref h0, .int p1, .int p2, .int p3] : List Value).toArray below meth c H locs 0 0 (MQ below (QcI z (fun r H => some r.toInt = some out ∧ TY z (zA z) σ H ∧ (0 ≤ r.toInt ∧ r.toInt ≤ 1))) ([.ref h0, .int p1, .int p2, .int p3] : List Value).toArray s 0 0 (zA z)) (F0 m 43 ls []) := by
    intro ls H locs hF hT hS hl
    unfold D_X7_is_43 at hF
    refine r_iconst hx hb dX7_is_43 (by decide) (by decide) (fun x43 e43 => ?_)
    have hF := bn hF e43
    exact rt_z hx hb hr hlk hS (by omega) (by omega) ⟨hF, hT, (by omega)⟩ dX7_is_44
  refine r_icmp_ne (tgt := 43) hx hb dX7_is_10 (by decide) (fun c10 => ?_) (fun c10 => ?_)
  · have hF := ifn hF c10
    exact J43 ls _ _ hF hT hS (lv_sub hl [0, 1, 2, 3] rfl)
  · have hF := ifp hF c10
    refine lv_aload_n hx hb dX7_is_13 rfl (lv_at hl 0 rfl) ?_
    refine lv_aload_n hx hb dX7_is_14 rfl (lv_at hl 0 rfl) ?_
    refine gt_Model_from hx hb hts ic_Model hown hK hT g0 (hts _ mw_4_82) dX7_is_15 (fun x15 e15 f15 g15 => ?_)
    have hF := bn hF e15
    obtain ⟨v18, hd18, -⟩ := bd0_s hF
    refine cl_Vi (rest := []) hC hK hSK (c_X7_byteAt l z σ h0 (o0) g0 x15 v18 hd18 (by omega)) k_X7_byteAt mw_4_169 ⟨rfl, rfl, Nat.le_of_ble_eq_true rfl, Nat.le_of_ble_eq_true rfl⟩ (rv_Model hK hT g0) hT rfl hl.1 rfl (Nat.le_of_ble_eq_true rfl) dX7_is_18 ⟨Nat.zero_le _, Nat.zero_le _⟩ hS (fun _ h => h) (fun _ _ h => h) (fun r18 H locs hpo hS => ?_)
    obtain ⟨he18, hT, u18_0⟩ := hpo
    have hF := bd0_r hF hd18 he18
    refine lv_iload_n hx hb dX7_is_21 rfl (lv_at hl 2 rfl) ?_
    refine r_icmp_ne (tgt := 43) hx hb dX7_is_22 (by decide) (fun c22 => ?_) (fun c22 => ?_)
    · have hF := ifn hF c22
      exact J43 ls _ _ hF hT hS (lv_sub hl [0, 1, 2, 3] rfl)
    · have hF := ifp hF c22
      refine lv_aload_n hx hb dX7_is_25 rfl (lv_at hl 0 rfl) ?_
      refine lv_aload_n hx hb dX7_is_26 rfl (lv_at hl 0 rfl) ?_
      refine gt_Model_from hx hb hts ic_Model hown hK hT g0 (hts _ mw_4_82) dX7_is_27 (fun x27 e27 f27 g27 => ?_)
      have hF := bn hF e27
      refine r_iconst hx hb dX7_is_30 (by decide) (by decide) (fun x30 e30 => ?_)
      have hF := bn hF e30
      refine r_iadd hx hb dX7_is_31 (by omega) (by omega) (fun x31 e31 => ?_)
      have hF := bn hF e31
      obtain ⟨v32, hd32, -⟩ := bd0_s hF
      refine cl_Vi (rest := []) hC hK hSK (c_X7_byteAt l z σ h0 (o0) g0 x31 v32 hd32 (by omega)) k_X7_byteAt mw_4_169 ⟨rfl, rfl, Nat.le_of_ble_eq_true rfl, Nat.le_of_ble_eq_true rfl⟩ (rv_Model hK hT g0) hT rfl hl.1 rfl (Nat.le_of_ble_eq_true rfl) dX7_is_32 ⟨Nat.zero_le _, Nat.zero_le _⟩ hS (fun _ h => h) (fun _ _ h => h) (fun r32 H locs hpo hS => ?_)
      obtain ⟨he32, hT, u32_0⟩ := hpo
      have hF := bd0_r hF hd32 he32
      refine lv_iload_n hx hb dX7_is_35 rfl (lv_at hl 3 rfl) ?_
      refine r_icmp_ne (tgt := 43) hx hb dX7_is_36 (by decide) (fun c36 => ?_) (fun c36 => ?_)
      · have hF := ifn hF c36
        exact J43 ls _ _ hF hT hS (lv_sub hl [0, 1, 2, 3] rfl)
      · have hF := ifp hF c36
        refine r_iconst hx hb dX7_is_39 (by decide) (by decide) (fun x39 e39 => ?_)
        have hF := bn hF e39
        refine lv_goto (tgt := 44) hx hb dX7_is_40 (by decide) ?_
        exact rt_z hx hb hr hlk hS (by omega) (by omega) ⟨hF, hT, (by omega)⟩ dX7_is_44
theorem k_X7_lineNow : cBV yX7_lineNow cX7_lineNow 1 (some .int) 0 := ⟨mw_4_187, ms_2_2, mw_1_8, mw_4_188, ⟨by decide, by decide, by decide⟩⟩
set_option maxHeartbeats 4000000 in
set_option maxRecDepth 100000 in
theorem c_X7_lineNow (l : Launch) (z : Zt) (σ : Sg) (h0 o0 : Nat) (g0 : zG z h0 = (17, o0)) (out : Int) (hF : D_X7_lineNow (σ o0) = some out) : Met l yX7_lineNow (uw yX7_lineNow cX7_lineNow 1 (some .int)) (rmF 3 110) (PcW z [.ref h0] (fun H => TY z (zA z) σ H)) (QcI z (fun r H => some r.toInt = some out ∧ TY z (zA z) σ H ∧ (-4 ≤ r.toInt ∧ r.toInt ≤ 5))) 0 0 (zA z) := by
  refine Met.ofW (cc := cX7_lineNow) (maxL := 1) (ret := (some .int)) (by decide) rfl ?_
  intro p e s m args below meth c s₁ B hml hv
  obtain ⟨rfl, hT, hK, hSK⟩ := hv
  have hx := B.exec
  have hb := B.bytes
  have hr := B.returns
  have hts : ∀ w ∈ lw_ok, w.before ([.ref h0] : List Value).toArray s = true := fun w hw => atoms_spec (ws := uw yX7_lineNow cX7_lineNow 1 (some .int)) B.pre w (List.mem_cons_of_mem _ hw)
  have hown : s.vm.findClass RX7 = some m.cls := findClass_of_methodNamed B.named
  have hlk := B.notSynchronized
  have hC : CallFix p m c cX7_lineNow 1 s ([.ref h0] : List Value).toArray lw_ok RX7 := ⟨hx, hb, hml, hown, hts⟩
  have hS : va_S (zA z) s.heap s.heap [] := va_S.rf
  have hl := lv_entry ([.ref h0]) (n := 1) (Nat.le_of_ble_eq_true rfl)
  rw [lg_entry_eq]
  generalize (lg_sl ([.ref h0]) ++ List.replicate (1 - (lg_sl ([.ref h0])).length) Slot.unset).toArray = ls at hl ⊢
  have hl : lv_has ls 1 [(0, .ref h0)] := hl
  show W p l e (rmF 3 110) s m ([.ref h0] : List Value).toArray below meth c s.heap [] 0 0 (MQ below (QcI z (fun r H => some r.toInt = some out ∧ TY z (zA z) σ H ∧ (-4 ≤ r.toInt ∧ r.toInt ≤ 5))) ([.ref h0] : List Value).toArray s 0 0 (zA z)) (F0 m 0 ls [])
  unfold D_X7_lineNow at hF
  refine lv_aload_n hx hb dX7_lineNow_0 rfl (lv_at hl 0 rfl) ?_
  refine r_iconst hx hb dX7_lineNow_1 (by decide) (by decide) (fun x1 e1 => ?_)
  have hF := bn hF e1
  refine r_bipush hx hb dX7_lineNow_2 rfl (fun x2 e2 => ?_)
  have hF := bn hF e2
  refine r_bipush hx hb dX7_lineNow_4 rfl (fun x4 e4 => ?_)
  have hF := bn hF e4
  obtain ⟨v6, hd6, -⟩ := bd0_s hF
  refine cl_Vi (rest := []) hC hK hSK (c_X7_is l z σ h0 (o0) g0 x1 x2 x4 v6 hd6) k_X7_is mw_4_189 ⟨rfl, rfl, Nat.le_of_ble_eq_true rfl, Nat.le_of_ble_eq_true rfl⟩ (rv_Model hK hT g0) hT rfl hl.1 rfl (Nat.le_of_ble_eq_true rfl) dX7_lineNow_6 ⟨Nat.zero_le _, Nat.zero_le _⟩ hS (fun _ h => h) (fun _ _ h => h) (fun r6 H locs hpo hS => ?_)
  obtain ⟨he6, hT, u6_0⟩ := hpo
  have hF := bd0_r hF hd6 he6
  have J29 : ∀ (ls : Array Slot) (H : Heap) (locs : List Loc), D_X7_lineNow_29 (σ o0) = some out → TY z (zA z) σ H → va_S (zA z) s.heap H locs → lv_has ls 1 [(0, .ref h0)] → W p l e (rmF 3 110) s m ([.ref h0] : List Value).toArray below meth c H locs 0 0 (MQ below (QcI z (fun r H => some r.toInt = some out ∧ TY z (zA z) σ H ∧ (-4 ≤ r.toInt ∧ r.toInt ≤ 5))) ([.ref h0] : List Value).toArray s 0 0 (zA z)) (F0 m 29 ls []) := by
    intro ls H locs hF hT hS hl
    unfold D_X7_lineNow_29 at hF
    refine lv_aload_n hx hb dX7_lineNow_29 rfl (lv_at hl 0 rfl) ?_
    refine r_bipush hx hb dX7_lineNow_30 rfl (fun x30 e30 => ?_)
    have hF := bn hF e30
    refine r_bipush hx hb dX7_lineNow_32 rfl (fun x32 e32 => ?_)
    have hF := bn hF e32
    refine r_bipush hx hb dX7_lineNow_34 rfl (fun x34 e34 => ?_)
    have hF := bn hF e34
    obtain ⟨v36, hd36, -⟩ := bd0_s hF
    refine cl_Vi (rest := []) hC hK hSK (c_X7_is l z σ h0 (o0) g0 x30 x32 x34 v36 hd36) k_X7_is mw_4_189 ⟨rfl, rfl, Nat.le_of_ble_eq_true rfl, Nat.le_of_ble_eq_true rfl⟩ (rv_Model hK hT g0) hT rfl hl.1 rfl (Nat.le_of_ble_eq_true rfl) dX7_lineNow_36 ⟨Nat.zero_le _, Nat.zero_le _⟩ hS (fun _ h => h) (fun _ _ h => h) (fun r36 H locs hpo hS => ?_)
    obtain ⟨he36, hT, u36_0⟩ := hpo
    have hF := bd0_r hF hd36 he36
    have J60 : ∀ (ls : Array Slot) (H : Heap) (locs : List Loc), D_X7_lineNow_60 (σ o0) = some out → TY z (zA z) σ H → va_S (zA z) s.heap H locs → lv_has ls 1 [(0, .ref h0)] → W p l e (rmF 3 110) s m ([.ref h0] : List Value).toArray below meth c H locs 0 0 (MQ below (QcI z (fun r H => some r.toInt = some out ∧ TY z (zA z) σ H ∧ (-4 ≤ r.toInt ∧ r.toInt ≤ 5))) ([.ref h0] : List Value).toArray s 0 0 (zA z)) (F0 m 60 ls []) := by
      intro ls H locs hF hT hS hl
      unfold D_X7_lineNow_60 at hF
      refine lv_aload_n hx hb dX7_lineNow_60 rfl (lv_at hl 0 rfl) ?_
      refine r_iconst hx hb dX7_lineNow_61 (by decide) (by decide) (fun x61 e61 => ?_)
      have hF := bn hF e61
      refine r_bipush hx hb dX7_lineNow_62 rfl (fun x62 e62 => ?_)
      have hF := bn hF e62
      refine r_bipush hx hb dX7_lineNow_64 rfl (fun x64 e64 => ?_)
      have hF := bn hF e64
      obtain ⟨v66, hd66, -⟩ := bd0_s hF
      refine cl_Vi (rest := []) hC hK hSK (c_X7_is l z σ h0 (o0) g0 x61 x62 x64 v66 hd66) k_X7_is mw_4_189 ⟨rfl, rfl, Nat.le_of_ble_eq_true rfl, Nat.le_of_ble_eq_true rfl⟩ (rv_Model hK hT g0) hT rfl hl.1 rfl (Nat.le_of_ble_eq_true rfl) dX7_lineNow_66 ⟨Nat.zero_le _, Nat.zero_le _⟩ hS (fun _ h => h) (fun _ _ h => h) (fun r66 H locs hpo hS => ?_)
      obtain ⟨he66, hT, u66_0⟩ := hpo
      have hF := bd0_r hF hd66 he66
      have J88 : ∀ (ls : Array Slot) (H : Heap) (locs : List Loc), D_X7_lineNow_88 (σ o0) = some out → TY z (zA z) σ H → va_S (zA z) s.heap H locs → lv_has ls 1 [(0, .ref h0)] → W p l e (rmF 3 110) s m ([.ref h0] : List Value).toArray below meth c H locs 0 0 (MQ below (QcI z (fun r H => some r.toInt = some out ∧ TY z (zA z) σ H ∧ (-4 ≤ r.toInt ∧ r.toInt ≤ 5))) ([.ref h0] : List Value).toArray s 0 0 (zA z)) (F0 m 88 ls []) := by
        intro ls H locs hF hT hS hl
        unfold D_X7_lineNow_88 at hF
        refine lv_aload_n hx hb dX7_lineNow_88 rfl (lv_at hl 0 rfl) ?_
        refine r_bipush hx hb dX7_lineNow_89 rfl (fun x89 e89 => ?_)
        have hF := bn hF e89
        refine r_bipush hx hb dX7_lineNow_91 rfl (fun x91 e91 => ?_)
        have hF := bn hF e91
        refine r_bipush hx hb dX7_lineNow_93 rfl (fun x93 e93 => ?_)
        have hF := bn hF e93
        obtain ⟨v95, hd95, -⟩ := bd0_s hF
        refine cl_Vi (rest := []) hC hK hSK (c_X7_is l z σ h0 (o0) g0 x89 x91 x93 v95 hd95) k_X7_is mw_4_189 ⟨rfl, rfl, Nat.le_of_ble_eq_true rfl, Nat.le_of_ble_eq_true rfl⟩ (rv_Model hK hT g0) hT rfl hl.1 rfl (Nat.le_of_ble_eq_true rfl) dX7_lineNow_95 ⟨Nat.zero_le _, Nat.zero_le _⟩ hS (fun _ h => h) (fun _ _ h => h) (fun r95 H locs hpo hS => ?_)
        obtain ⟨he95, hT, u95_0⟩ := hpo
        have hF := bd0_r hF hd95 he95
        have J119 : ∀ (ls : Array Slot) (H : Heap) (locs : List Loc), D_X7_lineNow_119 (σ o0) = some out → TY z (zA z) σ H → va_S (zA z) s.heap H locs → lv_has ls 1 [(0, .ref h0)] → W p l e (rmF 3 110) s m ([.ref h0] : List Value).toArray below meth c H locs 0 0 (MQ below (QcI z (fun r H => some r.toInt = some out ∧ TY z (zA z) σ H ∧ (-4 ≤ r.toInt ∧ r.toInt ≤ 5))) ([.ref h0] : List Value).toArray s 0 0 (zA z)) (F0 m 119 ls []) := by
          intro ls H locs hF hT hS hl
          unfold D_X7_lineNow_119 at hF
          refine lv_aload_n hx hb dX7_lineNow_119 rfl (lv_at hl 0 rfl) ?_
          refine r_bipush hx hb dX7_lineNow_120 rfl (fun x120 e120 => ?_)
          have hF := bn hF e120
          refine r_bipush hx hb dX7_lineNow_122 rfl (fun x122 e122 => ?_)
          have hF := bn hF e122
          refine r_bipush hx hb dX7_lineNow_124 rfl (fun x124 e124 => ?_)
          have hF := bn hF e124
          obtain ⟨v126, hd126, -⟩ := bd0_s hF
          refine cl_Vi (rest := []) hC hK hSK (c_X7_is l z σ h0 (o0) g0 x120 x122 x124 v126 hd126) k_X7_is mw_4_189 ⟨rfl, rfl, Nat.le_of_ble_eq_true rfl, Nat.le_of_ble_eq_true rfl⟩ (rv_Model hK hT g0) hT rfl hl.1 rfl (Nat.le_of_ble_eq_true rfl) dX7_lineNow_126 ⟨Nat.zero_le _, Nat.zero_le _⟩ hS (fun _ h => h) (fun _ _ h => h) (fun r126 H locs hpo hS => ?_)
          obtain ⟨he126, hT, u126_0⟩ := hpo
          have hF := bd0_r hF hd126 he126
          have J153 : ∀ (ls : Array Slot) (H : Heap) (locs : List Loc), D_X7_lineNow_153 (σ o0) = some out → TY z (zA z) σ H → va_S (zA z) s.heap H locs → lv_has ls 1 [(0, .ref h0)] → W p l e (rmF 3 110) s m ([.ref h0] : List Value).toArray below meth c H locs 0 0 (MQ below (QcI z (fun r H => some r.toInt = some out ∧ TY z (zA z) σ H ∧ (-4 ≤ r.toInt ∧ r.toInt ≤ 5))) ([.ref h0] : List Value).toArray s 0 0 (zA z)) (F0 m 153 ls []) := by
            intro ls H locs hF hT hS hl
            unfold D_X7_lineNow_153 at hF
            refine lv_aload_n hx hb dX7_lineNow_153 rfl (lv_at hl 0 rfl) ?_
            refine r_bipush hx hb dX7_lineNow_154 rfl (fun x154 e154 => ?_)
            have hF := bn hF e154
            refine r_bipush hx hb dX7_lineNow_156 rfl (fun x156 e156 => ?_)
            have hF := bn hF e156
            refine r_bipush hx hb dX7_lineNow_158 rfl (fun x158 e158 => ?_)
            have hF := bn hF e158
            obtain ⟨v160, hd160, -⟩ := bd0_s hF
            refine cl_Vi (rest := []) hC hK hSK (c_X7_is l z σ h0 (o0) g0 x154 x156 x158 v160 hd160) k_X7_is mw_4_189 ⟨rfl, rfl, Nat.le_of_ble_eq_true rfl, Nat.le_of_ble_eq_true rfl⟩ (rv_Model hK hT g0) hT rfl hl.1 rfl (Nat.le_of_ble_eq_true rfl) dX7_lineNow_160 ⟨Nat.zero_le _, Nat.zero_le _⟩ hS (fun _ h => h) (fun _ _ h => h) (fun r160 H locs hpo hS => ?_)
            obtain ⟨he160, hT, u160_0⟩ := hpo
            have hF := bd0_r hF hd160 he160
            have J187 : ∀ (ls : Array Slot) (H : Heap) (locs : List Loc), D_X7_lineNow_187 = some out → TY z (zA z) σ H → va_S (zA z) s.heap H locs → lv_has ls 1 [(0, .ref h0)] → W p l e (rmF 3 110) s m ([.ref h0] : List Value).toArray below meth c H locs 0 0 (MQ below (QcI z (fun r H => some r.toInt = some out ∧ TY z (zA z) σ H ∧ (-4 ≤ r.toInt ∧ r.toInt ≤ 5))) ([.ref h0] : List Value).toArray s 0 0 (zA z)) (F0 m 187 ls []) := by
              intro ls H locs hF hT hS hl
              unfold D_X7_lineNow_187 at hF
              refine r_bipush hx hb dX7_lineNow_187 rfl (fun x187 e187 => ?_)
              have hF := bn hF e187
              exact rt_i hx hb hr hlk hS ⟨hF, hT, (by omega)⟩ dX7_lineNow_189
            refine r_if_eq (tgt := 187) hx hb dX7_lineNow_163 (by decide) (fun c163 => ?_) (fun c163 => ?_)
            · have hF := ifp hF c163
              exact J187 ls _ _ hF hT hS (lv_sub hl [0] rfl)
            · have hF := ifn hF c163
              refine lv_aload_n hx hb dX7_lineNow_166 rfl (lv_at hl 0 rfl) ?_
              refine r_bipush hx hb dX7_lineNow_167 rfl (fun x167 e167 => ?_)
              have hF := bn hF e167
              refine r_bipush hx hb dX7_lineNow_169 rfl (fun x169 e169 => ?_)
              have hF := bn hF e169
              refine r_bipush hx hb dX7_lineNow_171 rfl (fun x171 e171 => ?_)
              have hF := bn hF e171
              refine r_bipush hx hb dX7_lineNow_173 rfl (fun x173 e173 => ?_)
              have hF := bn hF e173
              refine r_bipush hx hb dX7_lineNow_175 rfl (fun x175 e175 => ?_)
              have hF := bn hF e175
              obtain ⟨v177, hd177, -⟩ := bd0_s hF
              refine cl_Vi (rest := []) hC hK hSK (c_X7_ends l z σ h0 (o0) g0 x167 x169 x171 x173 x175 v177 hd177) k_X7_ends mw_4_193 ⟨rfl, rfl, Nat.le_of_ble_eq_true rfl, Nat.le_of_ble_eq_true rfl⟩ (rv_Model hK hT g0) hT rfl hl.1 rfl (Nat.le_of_ble_eq_true rfl) dX7_lineNow_177 ⟨Nat.zero_le _, Nat.zero_le _⟩ hS (fun _ h => h) (fun _ _ h => h) (fun r177 H locs hpo hS => ?_)
              obtain ⟨he177, hT, u177_0⟩ := hpo
              have hF := bd0_r hF hd177 he177
              refine r_if_eq (tgt := 187) hx hb dX7_lineNow_180 (by decide) (fun c180 => ?_) (fun c180 => ?_)
              · have hF := ifp hF c180
                exact J187 ls _ _ hF hT hS (lv_sub hl [0] rfl)
              · have hF := ifn hF c180
                refine r_iconst hx hb dX7_lineNow_183 (by decide) (by decide) (fun x183 e183 => ?_)
                have hF := bn hF e183
                refine lv_goto (tgt := 189) hx hb dX7_lineNow_184 (by decide) ?_
                exact rt_i hx hb hr hlk hS ⟨hF, hT, (by omega)⟩ dX7_lineNow_189
          refine r_if_eq (tgt := 153) hx hb dX7_lineNow_129 (by decide) (fun c129 => ?_) (fun c129 => ?_)
          · have hF := ifp hF c129
            exact J153 ls _ _ hF hT hS (lv_sub hl [0] rfl)
          · have hF := ifn hF c129
            refine lv_aload_n hx hb dX7_lineNow_132 rfl (lv_at hl 0 rfl) ?_
            refine r_bipush hx hb dX7_lineNow_133 rfl (fun x133 e133 => ?_)
            have hF := bn hF e133
            refine r_bipush hx hb dX7_lineNow_135 rfl (fun x135 e135 => ?_)
            have hF := bn hF e135
            refine r_bipush hx hb dX7_lineNow_137 rfl (fun x137 e137 => ?_)
            have hF := bn hF e137
            refine r_bipush hx hb dX7_lineNow_139 rfl (fun x139 e139 => ?_)
            have hF := bn hF e139
            refine r_bipush hx hb dX7_lineNow_141 rfl (fun x141 e141 => ?_)
            have hF := bn hF e141
            obtain ⟨v143, hd143, -⟩ := bd0_s hF
            refine cl_Vi (rest := []) hC hK hSK (c_X7_ends l z σ h0 (o0) g0 x133 x135 x137 x139 x141 v143 hd143) k_X7_ends mw_4_193 ⟨rfl, rfl, Nat.le_of_ble_eq_true rfl, Nat.le_of_ble_eq_true rfl⟩ (rv_Model hK hT g0) hT rfl hl.1 rfl (Nat.le_of_ble_eq_true rfl) dX7_lineNow_143 ⟨Nat.zero_le _, Nat.zero_le _⟩ hS (fun _ h => h) (fun _ _ h => h) (fun r143 H locs hpo hS => ?_)
            obtain ⟨he143, hT, u143_0⟩ := hpo
            have hF := bd0_r hF hd143 he143
            refine r_if_eq (tgt := 153) hx hb dX7_lineNow_146 (by decide) (fun c146 => ?_) (fun c146 => ?_)
            · have hF := ifp hF c146
              exact J153 ls _ _ hF hT hS (lv_sub hl [0] rfl)
            · have hF := ifn hF c146
              refine r_iconst hx hb dX7_lineNow_149 (by decide) (by decide) (fun x149 e149 => ?_)
              have hF := bn hF e149
              refine lv_goto (tgt := 189) hx hb dX7_lineNow_150 (by decide) ?_
              exact rt_i hx hb hr hlk hS ⟨hF, hT, (by omega)⟩ dX7_lineNow_189
        refine r_if_eq (tgt := 119) hx hb dX7_lineNow_98 (by decide) (fun c98 => ?_) (fun c98 => ?_)
        · have hF := ifp hF c98
          exact J119 ls _ _ hF hT hS (lv_sub hl [0] rfl)
        · have hF := ifn hF c98
          refine lv_aload_n hx hb dX7_lineNow_101 rfl (lv_at hl 0 rfl) ?_
          refine r_bipush hx hb dX7_lineNow_102 rfl (fun x102 e102 => ?_)
          have hF := bn hF e102
          refine r_bipush hx hb dX7_lineNow_104 rfl (fun x104 e104 => ?_)
          have hF := bn hF e104
          refine r_bipush hx hb dX7_lineNow_106 rfl (fun x106 e106 => ?_)
          have hF := bn hF e106
          refine r_bipush hx hb dX7_lineNow_108 rfl (fun x108 e108 => ?_)
          have hF := bn hF e108
          refine r_iconst hx hb dX7_lineNow_110 (by decide) (by decide) (fun x110 e110 => ?_)
          have hF := bn hF e110
          obtain ⟨v111, hd111, -⟩ := bd0_s hF
          refine cl_Vi (rest := []) hC hK hSK (c_X7_ends l z σ h0 (o0) g0 x102 x104 x106 x108 x110 v111 hd111) k_X7_ends mw_4_193 ⟨rfl, rfl, Nat.le_of_ble_eq_true rfl, Nat.le_of_ble_eq_true rfl⟩ (rv_Model hK hT g0) hT rfl hl.1 rfl (Nat.le_of_ble_eq_true rfl) dX7_lineNow_111 ⟨Nat.zero_le _, Nat.zero_le _⟩ hS (fun _ h => h) (fun _ _ h => h) (fun r111 H locs hpo hS => ?_)
          obtain ⟨he111, hT, u111_0⟩ := hpo
          have hF := bd0_r hF hd111 he111
          refine r_if_eq (tgt := 119) hx hb dX7_lineNow_114 (by decide) (fun c114 => ?_) (fun c114 => ?_)
          · have hF := ifp hF c114
            exact J119 ls _ _ hF hT hS (lv_sub hl [0] rfl)
          · have hF := ifn hF c114
            refine r_iconst hx hb dX7_lineNow_117 (by decide) (by decide) (fun x117 e117 => ?_)
            have hF := bn hF e117
            exact rt_i hx hb hr hlk hS ⟨hF, hT, (by omega)⟩ dX7_lineNow_118
      refine r_if_eq (tgt := 88) hx hb dX7_lineNow_69 (by decide) (fun c69 => ?_) (fun c69 => ?_)
      · have hF := ifp hF c69
        exact J88 ls _ _ hF hT hS (lv_sub hl [0] rfl)
      · have hF := ifn hF c69
        refine lv_aload_n hx hb dX7_lineNow_72 rfl (lv_at hl 0 rfl) ?_
        refine r_bipush hx hb dX7_lineNow_73 rfl (fun x73 e73 => ?_)
        have hF := bn hF e73
        refine r_bipush hx hb dX7_lineNow_75 rfl (fun x75 e75 => ?_)
        have hF := bn hF e75
        refine r_iconst hx hb dX7_lineNow_77 (by decide) (by decide) (fun x77 e77 => ?_)
        have hF := bn hF e77
        refine r_iconst hx hb dX7_lineNow_78 (by decide) (by decide) (fun x78 e78 => ?_)
        have hF := bn hF e78
        refine r_iconst hx hb dX7_lineNow_79 (by decide) (by decide) (fun x79 e79 => ?_)
        have hF := bn hF e79
        obtain ⟨v80, hd80, -⟩ := bd0_s hF
        refine cl_Vi (rest := []) hC hK hSK (c_X7_ends l z σ h0 (o0) g0 x73 x75 x77 x78 x79 v80 hd80) k_X7_ends mw_4_193 ⟨rfl, rfl, Nat.le_of_ble_eq_true rfl, Nat.le_of_ble_eq_true rfl⟩ (rv_Model hK hT g0) hT rfl hl.1 rfl (Nat.le_of_ble_eq_true rfl) dX7_lineNow_80 ⟨Nat.zero_le _, Nat.zero_le _⟩ hS (fun _ h => h) (fun _ _ h => h) (fun r80 H locs hpo hS => ?_)
        obtain ⟨he80, hT, u80_0⟩ := hpo
        have hF := bd0_r hF hd80 he80
        refine r_if_eq (tgt := 88) hx hb dX7_lineNow_83 (by decide) (fun c83 => ?_) (fun c83 => ?_)
        · have hF := ifp hF c83
          exact J88 ls _ _ hF hT hS (lv_sub hl [0] rfl)
        · have hF := ifn hF c83
          refine r_iconst hx hb dX7_lineNow_86 (by decide) (by decide) (fun x86 e86 => ?_)
          have hF := bn hF e86
          exact rt_i hx hb hr hlk hS ⟨hF, hT, (by omega)⟩ dX7_lineNow_87
    refine r_if_eq (tgt := 60) hx hb dX7_lineNow_39 (by decide) (fun c39 => ?_) (fun c39 => ?_)
    · have hF := ifp hF c39
      exact J60 ls _ _ hF hT hS (lv_sub hl [0] rfl)
    · have hF := ifn hF c39
      refine lv_aload_n hx hb dX7_lineNow_42 rfl (lv_at hl 0 rfl) ?_
      refine r_bipush hx hb dX7_lineNow_43 rfl (fun x43 e43 => ?_)
      have hF := bn hF e43
      refine r_bipush hx hb dX7_lineNow_45 rfl (fun x45 e45 => ?_)
      have hF := bn hF e45
      refine r_bipush hx hb dX7_lineNow_47 rfl (fun x47 e47 => ?_)
      have hF := bn hF e47
      refine r_bipush hx hb dX7_lineNow_49 rfl (fun x49 e49 => ?_)
      have hF := bn hF e49
      refine r_iconst hx hb dX7_lineNow_51 (by decide) (by decide) (fun x51 e51 => ?_)
      have hF := bn hF e51
      obtain ⟨v52, hd52, -⟩ := bd0_s hF
      refine cl_Vi (rest := []) hC hK hSK (c_X7_ends l z σ h0 (o0) g0 x43 x45 x47 x49 x51 v52 hd52) k_X7_ends mw_4_193 ⟨rfl, rfl, Nat.le_of_ble_eq_true rfl, Nat.le_of_ble_eq_true rfl⟩ (rv_Model hK hT g0) hT rfl hl.1 rfl (Nat.le_of_ble_eq_true rfl) dX7_lineNow_52 ⟨Nat.zero_le _, Nat.zero_le _⟩ hS (fun _ h => h) (fun _ _ h => h) (fun r52 H locs hpo hS => ?_)
      obtain ⟨he52, hT, u52_0⟩ := hpo
      have hF := bd0_r hF hd52 he52
      refine r_if_eq (tgt := 60) hx hb dX7_lineNow_55 (by decide) (fun c55 => ?_) (fun c55 => ?_)
      · have hF := ifp hF c55
        exact J60 ls _ _ hF hT hS (lv_sub hl [0] rfl)
      · have hF := ifn hF c55
        refine r_iconst hx hb dX7_lineNow_58 (by decide) (by decide) (fun x58 e58 => ?_)
        have hF := bn hF e58
        exact rt_i hx hb hr hlk hS ⟨hF, hT, (by omega)⟩ dX7_lineNow_59
  refine r_if_eq (tgt := 29) hx hb dX7_lineNow_9 (by decide) (fun c9 => ?_) (fun c9 => ?_)
  · have hF := ifp hF c9
    exact J29 ls _ _ hF hT hS (lv_sub hl [0] rfl)
  · have hF := ifn hF c9
    refine lv_aload_n hx hb dX7_lineNow_12 rfl (lv_at hl 0 rfl) ?_
    refine r_bipush hx hb dX7_lineNow_13 rfl (fun x13 e13 => ?_)
    have hF := bn hF e13
    refine r_bipush hx hb dX7_lineNow_15 rfl (fun x15 e15 => ?_)
    have hF := bn hF e15
    refine r_bipush hx hb dX7_lineNow_17 rfl (fun x17 e17 => ?_)
    have hF := bn hF e17
    refine r_iconst hx hb dX7_lineNow_19 (by decide) (by decide) (fun x19 e19 => ?_)
    have hF := bn hF e19
    refine r_iconst hx hb dX7_lineNow_20 (by decide) (by decide) (fun x20 e20 => ?_)
    have hF := bn hF e20
    obtain ⟨v21, hd21, -⟩ := bd0_s hF
    refine cl_Vi (rest := []) hC hK hSK (c_X7_ends l z σ h0 (o0) g0 x13 x15 x17 x19 x20 v21 hd21) k_X7_ends mw_4_193 ⟨rfl, rfl, Nat.le_of_ble_eq_true rfl, Nat.le_of_ble_eq_true rfl⟩ (rv_Model hK hT g0) hT rfl hl.1 rfl (Nat.le_of_ble_eq_true rfl) dX7_lineNow_21 ⟨Nat.zero_le _, Nat.zero_le _⟩ hS (fun _ h => h) (fun _ _ h => h) (fun r21 H locs hpo hS => ?_)
    obtain ⟨he21, hT, u21_0⟩ := hpo
    have hF := bd0_r hF hd21 he21
    refine r_if_eq (tgt := 29) hx hb dX7_lineNow_24 (by decide) (fun c24 => ?_) (fun c24 => ?_)
    · have hF := ifp hF c24
      exact J29 ls _ _ hF hT hS (lv_sub hl [0] rfl)
    · have hF := ifn hF c24
      refine r_iconst hx hb dX7_lineNow_27 (by decide) (by decide) (fun x27 e27 => ?_)
      have hF := bn hF e27
      exact rt_i hx hb hr hlk hS ⟨hF, hT, (by omega)⟩ dX7_lineNow_28
theorem k_X7_figureNow : cBV yX7_figureNow cX7_figureNow 1 (some .int) 0 := ⟨mw_4_215, ms_2_9, mw_1_8, mw_4_216, ⟨by decide, by decide, by decide⟩⟩
set_option maxHeartbeats 4000000 in
set_option maxRecDepth 100000 in
theorem c_X7_figureNow (l : Launch) (z : Zt) (σ : Sg) (h0 o0 : Nat) (g0 : zG z h0 = (17, o0)) (out : Int) (hF : D_X7_figureNow (σ o0) = some out) : Met l yX7_figureNow (uw yX7_figureNow cX7_figureNow 1 (some .int)) (rmF 3 110) (PcW z [.ref h0] (fun H => TY z (zA z) σ H)) (QcI z (fun r H => some r.toInt = some out ∧ TY z (zA z) σ H ∧ (-4 ≤ r.toInt ∧ r.toInt ≤ 3))) 0 0 (zA z) := by
  refine Met.ofW (cc := cX7_figureNow) (maxL := 1) (ret := (some .int)) (by decide) rfl ?_
  intro p e s m args below meth c s₁ B hml hv
  obtain ⟨rfl, hT, hK, hSK⟩ := hv
  have hx := B.exec
  have hb := B.bytes
  have hr := B.returns
  have hts : ∀ w ∈ lw_ok, w.before ([.ref h0] : List Value).toArray s = true := fun w hw => atoms_spec (ws := uw yX7_figureNow cX7_figureNow 1 (some .int)) B.pre w (List.mem_cons_of_mem _ hw)
  have hown : s.vm.findClass RX7 = some m.cls := findClass_of_methodNamed B.named
  have hlk := B.notSynchronized
  have hC : CallFix p m c cX7_figureNow 1 s ([.ref h0] : List Value).toArray lw_ok RX7 := ⟨hx, hb, hml, hown, hts⟩
  have hS : va_S (zA z) s.heap s.heap [] := va_S.rf
  have hl := lv_entry ([.ref h0]) (n := 1) (Nat.le_of_ble_eq_true rfl)
  rw [lg_entry_eq]
  generalize (lg_sl ([.ref h0]) ++ List.replicate (1 - (lg_sl ([.ref h0])).length) Slot.unset).toArray = ls at hl ⊢
  have hl : lv_has ls 1 [(0, .ref h0)] := hl
  show W p l e (rmF 3 110) s m ([.ref h0] : List Value).toArray below meth c s.heap [] 0 0 (MQ below (QcI z (fun r H => some r.toInt = some out ∧ TY z (zA z) σ H ∧ (-4 ≤ r.toInt ∧ r.toInt ≤ 3))) ([.ref h0] : List Value).toArray s 0 0 (zA z)) (F0 m 0 ls [])
  unfold D_X7_figureNow at hF
  refine lv_aload_n hx hb dX7_figureNow_0 rfl (lv_at hl 0 rfl) ?_
  refine r_iconst hx hb dX7_figureNow_1 (by decide) (by decide) (fun x1 e1 => ?_)
  have hF := bn hF e1
  refine r_bipush hx hb dX7_figureNow_2 rfl (fun x2 e2 => ?_)
  have hF := bn hF e2
  refine r_bipush hx hb dX7_figureNow_4 rfl (fun x4 e4 => ?_)
  have hF := bn hF e4
  obtain ⟨v6, hd6, -⟩ := bd0_s hF
  refine cl_Vi (rest := []) hC hK hSK (c_X7_is l z σ h0 (o0) g0 x1 x2 x4 v6 hd6) k_X7_is mw_4_189 ⟨rfl, rfl, Nat.le_of_ble_eq_true rfl, Nat.le_of_ble_eq_true rfl⟩ (rv_Model hK hT g0) hT rfl hl.1 rfl (Nat.le_of_ble_eq_true rfl) dX7_figureNow_6 ⟨Nat.zero_le _, Nat.zero_le _⟩ hS (fun _ h => h) (fun _ _ h => h) (fun r6 H locs hpo hS => ?_)
  obtain ⟨he6, hT, u6_0⟩ := hpo
  have hF := bd0_r hF hd6 he6
  refine r_if_eq (tgt := 14) hx hb dX7_figureNow_9 (by decide) (fun c9 => ?_) (fun c9 => ?_)
  · have hF := ifp hF c9
    refine lv_aload_n hx hb dX7_figureNow_14 rfl (lv_at hl 0 rfl) ?_
    refine r_iconst hx hb dX7_figureNow_15 (by decide) (by decide) (fun x15 e15 => ?_)
    have hF := bn hF e15
    refine r_bipush hx hb dX7_figureNow_16 rfl (fun x16 e16 => ?_)
    have hF := bn hF e16
    refine r_bipush hx hb dX7_figureNow_18 rfl (fun x18 e18 => ?_)
    have hF := bn hF e18
    obtain ⟨v20, hd20, -⟩ := bd0_s hF
    refine cl_Vi (rest := []) hC hK hSK (c_X7_is l z σ h0 (o0) g0 x15 x16 x18 v20 hd20) k_X7_is mw_4_189 ⟨rfl, rfl, Nat.le_of_ble_eq_true rfl, Nat.le_of_ble_eq_true rfl⟩ (rv_Model hK hT g0) hT rfl hl.1 rfl (Nat.le_of_ble_eq_true rfl) dX7_figureNow_20 ⟨Nat.zero_le _, Nat.zero_le _⟩ hS (fun _ h => h) (fun _ _ h => h) (fun r20 H locs hpo hS => ?_)
    obtain ⟨he20, hT, u20_0⟩ := hpo
    have hF := bd0_r hF hd20 he20
    have J42 : ∀ (ls : Array Slot) (H : Heap) (locs : List Loc), D_X7_figureNow_42 (σ o0) = some out → TY z (zA z) σ H → va_S (zA z) s.heap H locs → lv_has ls 1 [(0, .ref h0)] → W p l e (rmF 3 110) s m ([.ref h0] : List Value).toArray below meth c H locs 0 0 (MQ below (QcI z (fun r H => some r.toInt = some out ∧ TY z (zA z) σ H ∧ (-4 ≤ r.toInt ∧ r.toInt ≤ 3))) ([.ref h0] : List Value).toArray s 0 0 (zA z)) (F0 m 42 ls []) := by
      intro ls H locs hF hT hS hl
      unfold D_X7_figureNow_42 at hF
      refine lv_aload_n hx hb dX7_figureNow_42 rfl (lv_at hl 0 rfl) ?_
      refine r_iconst hx hb dX7_figureNow_43 (by decide) (by decide) (fun x43 e43 => ?_)
      have hF := bn hF e43
      refine r_bipush hx hb dX7_figureNow_44 rfl (fun x44 e44 => ?_)
      have hF := bn hF e44
      refine r_bipush hx hb dX7_figureNow_46 rfl (fun x46 e46 => ?_)
      have hF := bn hF e46
      obtain ⟨v48, hd48, -⟩ := bd0_s hF
      refine cl_Vi (rest := []) hC hK hSK (c_X7_is l z σ h0 (o0) g0 x43 x44 x46 v48 hd48) k_X7_is mw_4_189 ⟨rfl, rfl, Nat.le_of_ble_eq_true rfl, Nat.le_of_ble_eq_true rfl⟩ (rv_Model hK hT g0) hT rfl hl.1 rfl (Nat.le_of_ble_eq_true rfl) dX7_figureNow_48 ⟨Nat.zero_le _, Nat.zero_le _⟩ hS (fun _ h => h) (fun _ _ h => h) (fun r48 H locs hpo hS => ?_)
      obtain ⟨he48, hT, u48_0⟩ := hpo
      have hF := bd0_r hF hd48 he48
      have J73 : ∀ (ls : Array Slot) (H : Heap) (locs : List Loc), D_X7_figureNow_73 (σ o0) = some out → TY z (zA z) σ H → va_S (zA z) s.heap H locs → lv_has ls 1 [(0, .ref h0)] → W p l e (rmF 3 110) s m ([.ref h0] : List Value).toArray below meth c H locs 0 0 (MQ below (QcI z (fun r H => some r.toInt = some out ∧ TY z (zA z) σ H ∧ (-4 ≤ r.toInt ∧ r.toInt ≤ 3))) ([.ref h0] : List Value).toArray s 0 0 (zA z)) (F0 m 73 ls []) := by
        intro ls H locs hF hT hS hl
        unfold D_X7_figureNow_73 at hF
        refine lv_aload_n hx hb dX7_figureNow_73 rfl (lv_at hl 0 rfl) ?_
        refine r_bipush hx hb dX7_figureNow_74 rfl (fun x74 e74 => ?_)
        have hF := bn hF e74
        refine r_bipush hx hb dX7_figureNow_76 rfl (fun x76 e76 => ?_)
        have hF := bn hF e76
        refine r_bipush hx hb dX7_figureNow_78 rfl (fun x78 e78 => ?_)
        have hF := bn hF e78
        obtain ⟨v80, hd80, -⟩ := bd0_s hF
        refine cl_Vi (rest := []) hC hK hSK (c_X7_is l z σ h0 (o0) g0 x74 x76 x78 v80 hd80) k_X7_is mw_4_189 ⟨rfl, rfl, Nat.le_of_ble_eq_true rfl, Nat.le_of_ble_eq_true rfl⟩ (rv_Model hK hT g0) hT rfl hl.1 rfl (Nat.le_of_ble_eq_true rfl) dX7_figureNow_80 ⟨Nat.zero_le _, Nat.zero_le _⟩ hS (fun _ h => h) (fun _ _ h => h) (fun r80 H locs hpo hS => ?_)
        obtain ⟨he80, hT, u80_0⟩ := hpo
        have hF := bd0_r hF hd80 he80
        have J106 : ∀ (ls : Array Slot) (H : Heap) (locs : List Loc), D_X7_figureNow_106 = some out → TY z (zA z) σ H → va_S (zA z) s.heap H locs → lv_has ls 1 [(0, .ref h0)] → W p l e (rmF 3 110) s m ([.ref h0] : List Value).toArray below meth c H locs 0 0 (MQ below (QcI z (fun r H => some r.toInt = some out ∧ TY z (zA z) σ H ∧ (-4 ≤ r.toInt ∧ r.toInt ≤ 3))) ([.ref h0] : List Value).toArray s 0 0 (zA z)) (F0 m 106 ls []) := by
          intro ls H locs hF hT hS hl
          unfold D_X7_figureNow_106 at hF
          refine r_bipush hx hb dX7_figureNow_106 rfl (fun x106 e106 => ?_)
          have hF := bn hF e106
          exact rt_i hx hb hr hlk hS ⟨hF, hT, (by omega)⟩ dX7_figureNow_108
        refine r_if_eq (tgt := 106) hx hb dX7_figureNow_83 (by decide) (fun c83 => ?_) (fun c83 => ?_)
        · have hF := ifp hF c83
          exact J106 ls _ _ hF hT hS (lv_sub hl [0] rfl)
        · have hF := ifn hF c83
          refine lv_aload_n hx hb dX7_figureNow_86 rfl (lv_at hl 0 rfl) ?_
          refine r_bipush hx hb dX7_figureNow_87 rfl (fun x87 e87 => ?_)
          have hF := bn hF e87
          refine r_bipush hx hb dX7_figureNow_89 rfl (fun x89 e89 => ?_)
          have hF := bn hF e89
          refine r_bipush hx hb dX7_figureNow_91 rfl (fun x91 e91 => ?_)
          have hF := bn hF e91
          refine r_bipush hx hb dX7_figureNow_93 rfl (fun x93 e93 => ?_)
          have hF := bn hF e93
          refine r_iconst hx hb dX7_figureNow_95 (by decide) (by decide) (fun x95 e95 => ?_)
          have hF := bn hF e95
          obtain ⟨v96, hd96, -⟩ := bd0_s hF
          refine cl_Vi (rest := []) hC hK hSK (c_X7_ends l z σ h0 (o0) g0 x87 x89 x91 x93 x95 v96 hd96) k_X7_ends mw_4_193 ⟨rfl, rfl, Nat.le_of_ble_eq_true rfl, Nat.le_of_ble_eq_true rfl⟩ (rv_Model hK hT g0) hT rfl hl.1 rfl (Nat.le_of_ble_eq_true rfl) dX7_figureNow_96 ⟨Nat.zero_le _, Nat.zero_le _⟩ hS (fun _ h => h) (fun _ _ h => h) (fun r96 H locs hpo hS => ?_)
          obtain ⟨he96, hT, u96_0⟩ := hpo
          have hF := bd0_r hF hd96 he96
          refine r_if_eq (tgt := 106) hx hb dX7_figureNow_99 (by decide) (fun c99 => ?_) (fun c99 => ?_)
          · have hF := ifp hF c99
            exact J106 ls _ _ hF hT hS (lv_sub hl [0] rfl)
          · have hF := ifn hF c99
            refine r_iconst hx hb dX7_figureNow_102 (by decide) (by decide) (fun x102 e102 => ?_)
            have hF := bn hF e102
            refine lv_goto (tgt := 108) hx hb dX7_figureNow_103 (by decide) ?_
            exact rt_i hx hb hr hlk hS ⟨hF, hT, (by omega)⟩ dX7_figureNow_108
      refine r_if_eq (tgt := 73) hx hb dX7_figureNow_51 (by decide) (fun c51 => ?_) (fun c51 => ?_)
      · have hF := ifp hF c51
        exact J73 ls _ _ hF hT hS (lv_sub hl [0] rfl)
      · have hF := ifn hF c51
        refine lv_aload_n hx hb dX7_figureNow_54 rfl (lv_at hl 0 rfl) ?_
        refine r_bipush hx hb dX7_figureNow_55 rfl (fun x55 e55 => ?_)
        have hF := bn hF e55
        refine r_bipush hx hb dX7_figureNow_57 rfl (fun x57 e57 => ?_)
        have hF := bn hF e57
        refine r_bipush hx hb dX7_figureNow_59 rfl (fun x59 e59 => ?_)
        have hF := bn hF e59
        refine r_iconst hx hb dX7_figureNow_61 (by decide) (by decide) (fun x61 e61 => ?_)
        have hF := bn hF e61
        refine r_iconst hx hb dX7_figureNow_62 (by decide) (by decide) (fun x62 e62 => ?_)
        have hF := bn hF e62
        obtain ⟨v63, hd63, -⟩ := bd0_s hF
        refine cl_Vi (rest := []) hC hK hSK (c_X7_ends l z σ h0 (o0) g0 x55 x57 x59 x61 x62 v63 hd63) k_X7_ends mw_4_193 ⟨rfl, rfl, Nat.le_of_ble_eq_true rfl, Nat.le_of_ble_eq_true rfl⟩ (rv_Model hK hT g0) hT rfl hl.1 rfl (Nat.le_of_ble_eq_true rfl) dX7_figureNow_63 ⟨Nat.zero_le _, Nat.zero_le _⟩ hS (fun _ h => h) (fun _ _ h => h) (fun r63 H locs hpo hS => ?_)
        obtain ⟨he63, hT, u63_0⟩ := hpo
        have hF := bd0_r hF hd63 he63
        refine r_if_eq (tgt := 73) hx hb dX7_figureNow_66 (by decide) (fun c66 => ?_) (fun c66 => ?_)
        · have hF := ifp hF c66
          exact J73 ls _ _ hF hT hS (lv_sub hl [0] rfl)
        · have hF := ifn hF c66
          refine r_iconst hx hb dX7_figureNow_69 (by decide) (by decide) (fun x69 e69 => ?_)
          have hF := bn hF e69
          refine lv_goto (tgt := 108) hx hb dX7_figureNow_70 (by decide) ?_
          exact rt_i hx hb hr hlk hS ⟨hF, hT, (by omega)⟩ dX7_figureNow_108
    refine r_if_eq (tgt := 42) hx hb dX7_figureNow_23 (by decide) (fun c23 => ?_) (fun c23 => ?_)
    · have hF := ifp hF c23
      exact J42 ls _ _ hF hT hS (lv_sub hl [0] rfl)
    · have hF := ifn hF c23
      refine lv_aload_n hx hb dX7_figureNow_26 rfl (lv_at hl 0 rfl) ?_
      refine r_bipush hx hb dX7_figureNow_27 rfl (fun x27 e27 => ?_)
      have hF := bn hF e27
      refine r_bipush hx hb dX7_figureNow_29 rfl (fun x29 e29 => ?_)
      have hF := bn hF e29
      refine r_iconst hx hb dX7_figureNow_31 (by decide) (by decide) (fun x31 e31 => ?_)
      have hF := bn hF e31
      refine r_iconst hx hb dX7_figureNow_32 (by decide) (by decide) (fun x32 e32 => ?_)
      have hF := bn hF e32
      refine r_iconst hx hb dX7_figureNow_33 (by decide) (by decide) (fun x33 e33 => ?_)
      have hF := bn hF e33
      obtain ⟨v34, hd34, -⟩ := bd0_s hF
      refine cl_Vi (rest := []) hC hK hSK (c_X7_ends l z σ h0 (o0) g0 x27 x29 x31 x32 x33 v34 hd34) k_X7_ends mw_4_193 ⟨rfl, rfl, Nat.le_of_ble_eq_true rfl, Nat.le_of_ble_eq_true rfl⟩ (rv_Model hK hT g0) hT rfl hl.1 rfl (Nat.le_of_ble_eq_true rfl) dX7_figureNow_34 ⟨Nat.zero_le _, Nat.zero_le _⟩ hS (fun _ h => h) (fun _ _ h => h) (fun r34 H locs hpo hS => ?_)
      obtain ⟨he34, hT, u34_0⟩ := hpo
      have hF := bd0_r hF hd34 he34
      refine r_if_eq (tgt := 42) hx hb dX7_figureNow_37 (by decide) (fun c37 => ?_) (fun c37 => ?_)
      · have hF := ifp hF c37
        exact J42 ls _ _ hF hT hS (lv_sub hl [0] rfl)
      · have hF := ifn hF c37
        refine r_iconst hx hb dX7_figureNow_40 (by decide) (by decide) (fun x40 e40 => ?_)
        have hF := bn hF e40
        exact rt_i hx hb hr hlk hS ⟨hF, hT, (by omega)⟩ dX7_figureNow_41
  · have hF := ifn hF c9
    refine r_iconst hx hb dX7_figureNow_12 (by decide) (by decide) (fun x12 e12 => ?_)
    have hF := bn hF e12
    exact rt_i hx hb hr hlk hS ⟨hF, hT, (by omega)⟩ dX7_figureNow_13
theorem k_X7_looked : cBV yX7_looked cX7_looked 3 (some .int) 2 := ⟨mw_4_207, ms_2_7, mw_1_8, mw_4_208, ⟨by decide, by decide, by decide⟩⟩
set_option maxHeartbeats 4000000 in
set_option maxRecDepth 100000 in
theorem c_X7_looked (l : Launch) (z : Zt) (σ : Sg) (h0 o0 : Nat) (g0 : zG z h0 = (17, o0)) (p1 : Int32) (p2 : Int32) (out : (Int × Lo)) (hF : D_X7_looked (σ o0) p1.toInt p2.toInt = some out) : Met l yX7_looked (uw yX7_looked cX7_looked 3 (some .int)) (rmF 2 89) (PcW z [.ref h0, .int p1, .int p2] (fun H => TY z (zA z) σ H)) (QcI z (fun r H => ∃ σ' : Sg, some (r.toInt, σ' o0) = some out ∧ FR σ σ' o0 ∧ TY z (zA z) σ' H ∧ (0 ≤ r.toInt ∧ r.toInt ≤ 999))) 0 0 (zA z) := by
  refine Met.ofW (cc := cX7_looked) (maxL := 3) (ret := (some .int)) (by decide) rfl ?_
  intro p e s m args below meth c s₁ B hml hv
  obtain ⟨rfl, hT, hK, hSK⟩ := hv
  have hx := B.exec
  have hb := B.bytes
  have hr := B.returns
  have hts : ∀ w ∈ lw_ok, w.before ([.ref h0, .int p1, .int p2] : List Value).toArray s = true := fun w hw => atoms_spec (ws := uw yX7_looked cX7_looked 3 (some .int)) B.pre w (List.mem_cons_of_mem _ hw)
  have hown : s.vm.findClass RX7 = some m.cls := findClass_of_methodNamed B.named
  have hlk := B.notSynchronized
  have hC : CallFix p m c cX7_looked 3 s ([.ref h0, .int p1, .int p2] : List Value).toArray lw_ok RX7 := ⟨hx, hb, hml, hown, hts⟩
  have hS : va_S (zA z) s.heap s.heap [] := va_S.rf
  have hl := lv_entry ([.ref h0, .int p1, .int p2]) (n := 3) (Nat.le_of_ble_eq_true rfl)
  rw [lg_entry_eq]
  generalize (lg_sl ([.ref h0, .int p1, .int p2]) ++ List.replicate (3 - (lg_sl ([.ref h0, .int p1, .int p2])).length) Slot.unset).toArray = ls at hl ⊢
  have hl : lv_has ls 3 [(0, .ref h0), (1, .int p1), (2, .int p2)] := hl
  show W p l e (rmF 2 89) s m ([.ref h0, .int p1, .int p2] : List Value).toArray below meth c s.heap [] 0 0 (MQ below (QcI z (fun r H => ∃ σ' : Sg, some (r.toInt, σ' o0) = some out ∧ FR σ σ' o0 ∧ TY z (zA z) σ' H ∧ (0 ≤ r.toInt ∧ r.toInt ≤ 999))) ([.ref h0, .int p1, .int p2] : List Value).toArray s 0 0 (zA z)) (F0 m 0 ls [])
  have hfr : FR σ σ o0 := FR_rf σ o0
  unfold D_X7_looked at hF
  have mx_p1 := i_mx p1
  have mx_p2 := i_mx p2
  refine lv_aload_n hx hb dX7_looked_0 rfl (lv_at hl 0 rfl) ?_
  refine gt_Model_fault hx hb hts ic_Model hown hK hT g0 (hts _ mw_4_85) dX7_looked_1 (fun x1 e1 f1 g1 => ?_)
  have hF := bn hF e1
  have J25 : ∀ (ls : Array Slot) (H : Heap) (locs : List Loc) (σj25 : Sg), D_X7_looked_25 p1.toInt p2.toInt (σj25 o0) = some out → FR σ σj25 o0 → TY z (zA z) σj25 H → va_S (zA z) s.heap H locs → lv_has ls 3 [(0, .ref h0), (1, .int p1), (2, .int p2)] → W p l e (rmF 2 89) s m ([.ref h0, .int p1, .int p2] : List Value).toArray below meth c H locs 0 0 (MQ below (QcI z (fun r H => ∃ σ' : Sg, some (r.toInt, σ' o0) = some out ∧ FR σ σ' o0 ∧ TY z (zA z) σ' H ∧ (0 ≤ r.toInt ∧ r.toInt ≤ 999))) ([.ref h0, .int p1, .int p2] : List Value).toArray s 0 0 (zA z)) (F0 m 25 ls []) := by
    intro ls H locs σj25 hF hfr hT hS hl
    unfold D_X7_looked_25 at hF
    refine lv_aload_n hx hb dX7_looked_25 rfl (lv_at hl 0 rfl) ?_
    refine gt_Model_fault hx hb hts ic_Model hown hK hT g0 (hts _ mw_4_85) dX7_looked_26 (fun x26 e26 f26 g26 => ?_)
    have hF := bn hF e26
    have J49 : ∀ (ls : Array Slot) (H : Heap) (locs : List Loc) (σj49 : Sg), D_X7_looked_49 (σj49 o0) = some out → FR σ σj49 o0 → TY z (zA z) σj49 H → va_S (zA z) s.heap H locs → lv_has ls 3 [(0, .ref h0), (1, .int p1), (2, .int p2)] → W p l e (rmF 2 89) s m ([.ref h0, .int p1, .int p2] : List Value).toArray below meth c H locs 0 0 (MQ below (QcI z (fun r H => ∃ σ' : Sg, some (r.toInt, σ' o0) = some out ∧ FR σ σ' o0 ∧ TY z (zA z) σ' H ∧ (0 ≤ r.toInt ∧ r.toInt ≤ 999))) ([.ref h0, .int p1, .int p2] : List Value).toArray s 0 0 (zA z)) (F0 m 49 ls []) := by
      intro ls H locs σj49 hF hfr hT hS hl
      unfold D_X7_looked_49 at hF
      refine lv_aload_n hx hb dX7_looked_49 rfl (lv_at hl 0 rfl) ?_
      refine gt_Model_fault hx hb hts ic_Model hown hK hT g0 (hts _ mw_4_85) dX7_looked_50 (fun x50 e50 f50 g50 => ?_)
      have hF := bn hF e50
      refine r_if_ne (tgt := 63) hx hb dX7_looked_53 (by decide) (fun c53 => ?_) (fun c53 => ?_)
      · have hF := ifn hF c53
        refine r_iconst hx hb dX7_looked_63 (by decide) (by decide) (fun x63 e63 => ?_)
        have hF := bn hF e63
        exact rt_i hx hb hr hlk hS ⟨σj49, hF, hfr, hT, (by omega)⟩ dX7_looked_64
      · have hF := ifp hF c53
        refine lv_aload_n hx hb dX7_looked_56 rfl (lv_at hl 0 rfl) ?_
        refine gt_Model_value hx hb hts ic_Model hown hK hT g0 (hts _ mw_4_84) dX7_looked_57 (fun x57 e57 f57 g57 => ?_)
        have hF := bn hF e57
        refine lv_goto (tgt := 64) hx hb dX7_looked_60 (by decide) ?_
        exact rt_i hx hb hr hlk hS ⟨σj49, hF, hfr, hT, (by omega)⟩ dX7_looked_64
    refine r_if_ne (tgt := 49) hx hb dX7_looked_29 (by decide) (fun c29 => ?_) (fun c29 => ?_)
    · have hF := ifn hF c29
      exact J49 ls _ _ σj25 hF hfr hT hS (lv_sub hl [0, 1, 2] rfl)
    · have hF := ifp hF c29
      refine lv_aload_n hx hb dX7_looked_32 rfl (lv_at hl 0 rfl) ?_
      refine lv_aload_n hx hb dX7_looked_33 rfl (lv_at hl 0 rfl) ?_
      refine gt_Model_value hx hb hts ic_Model hown hK hT g0 (hts _ mw_4_84) dX7_looked_34 (fun x34 e34 f34 g34 => ?_)
      have hF := bn hF e34
      refine r_i2l hx hb dX7_looked_37 (fun x37 e37 => ?_)
      have hF := bn hF e37
      refine lv_iload_n hx hb dX7_looked_38 rfl (lv_at hl 1 rfl) ?_
      refine r_i2l hx hb dX7_looked_39 (fun x39 e39 => ?_)
      have hF := bn hF e39
      refine lv_iload_n hx hb dX7_looked_40 rfl (lv_at hl 2 rfl) ?_
      refine r_i2l hx hb dX7_looked_41 (fun x41 e41 => ?_)
      have hF := bn hF e41
      obtain ⟨v42, hd42, -⟩ := bd0_s hF
      refine cl_Si (rest := [.ref h0]) hC hK hSK (c_X7_in l z σj25 x37 x39 x41 v42 hd42) k_X7_in mw_4_154 ⟨rfl, rfl, Nat.le_of_ble_eq_true rfl, Nat.le_of_ble_eq_true rfl⟩ hT rfl hl.1 rfl (Nat.le_of_ble_eq_true rfl) dX7_looked_42 ⟨Nat.zero_le _, Nat.zero_le _⟩ hS (fun _ h => h) (fun _ _ h => h) (fun r42 H locs hpo hS => ?_)
      obtain ⟨he42, hT, u42_0, u42_1⟩ := hpo
      have hF := bd0_r hF hd42 he42
      refine r_iconst hx hb dX7_looked_45 (by decide) (by decide) (fun x45 e45 => ?_)
      have hF := bn hF e45
      obtain ⟨s46, hd46, -⟩ := bd1_s hF
      refine cl_Vv (rest := []) hC hK hSK (c_X7_needs l z σj25 h0 (o0) g0 r42 x45 s46 hd46 (by omega) (by omega)) k_X7_needs mw_4_177 ⟨rfl, rfl, Nat.le_of_ble_eq_true rfl, Nat.le_of_ble_eq_true rfl⟩ (rv_Model hK hT g0) hT rfl hl.1 rfl (Nat.le_of_ble_eq_true rfl) dX7_looked_46 ⟨Nat.zero_le _, Nat.zero_le _⟩ hS (fun _ h => h) (fun _ _ h => h) (fun H locs hpo hS => ?_)
      obtain ⟨σ46, he46, hf46, hT⟩ := hpo
      have hF := bd1_r hF hd46 he46
      have hfr := FR_tr hf46 hfr
      exact J49 ls _ _ σ46 hF hfr hT hS (lv_sub hl [0, 1, 2] rfl)
  refine r_if_ne (tgt := 25) hx hb dX7_looked_4 (by decide) (fun c4 => ?_) (fun c4 => ?_)
  · have hF := ifn hF c4
    exact J25 ls _ _ σ hF hfr hT hS (lv_sub hl [0, 1, 2] rfl)
  · have hF := ifp hF c4
    refine lv_aload_n hx hb dX7_looked_7 rfl (lv_at hl 0 rfl) ?_
    refine lv_aload_n hx hb dX7_looked_8 rfl (lv_at hl 0 rfl) ?_
    refine gt_Model_sort hx hb hts ic_Model hown hK hT g0 (hts _ mw_4_83) dX7_looked_9 (fun x9 e9 f9 g9 => ?_)
    have hF := bn hF e9
    refine r_iconst hx hb dX7_looked_12 (by decide) (by decide) (fun x12 e12 => ?_)
    have hF := bn hF e12
    have J21 : ∀ (ls : Array Slot) (H : Heap) (locs : List Loc) (t21_1 : Int32) (σj21 : Sg), (0 ≤ t21_1.toInt ∧ t21_1.toInt ≤ 1) → D_X7_looked_21 p1.toInt p2.toInt (σj21 o0) t21_1.toInt = some out → FR σ σj21 o0 → TY z (zA z) σj21 H → va_S (zA z) s.heap H locs → lv_has ls 3 [(0, .ref h0), (1, .int p1), (2, .int p2)] → W p l e (rmF 2 89) s m ([.ref h0, .int p1, .int p2] : List Value).toArray below meth c H locs 0 0 (MQ below (QcI z (fun r H => ∃ σ' : Sg, some (r.toInt, σ' o0) = some out ∧ FR σ σ' o0 ∧ TY z (zA z) σ' H ∧ (0 ≤ r.toInt ∧ r.toInt ≤ 999))) ([.ref h0, .int p1, .int p2] : List Value).toArray s 0 0 (zA z)) (F0 m 21 ls [.int t21_1, .ref h0]) := by
      intro ls H locs t21_1 σj21 j21_t21_1 hF hfr hT hS hl
      unfold D_X7_looked_21 at hF
      refine r_iconst hx hb dX7_looked_21 (by decide) (by decide) (fun x21 e21 => ?_)
      have hF := bn hF e21
      obtain ⟨s22, hd22, -⟩ := bd1_s hF
      refine cl_Vv (rest := []) hC hK hSK (c_X7_needs l z σj21 h0 (o0) g0 t21_1 x21 s22 hd22 (by omega) (by omega)) k_X7_needs mw_4_177 ⟨rfl, rfl, Nat.le_of_ble_eq_true rfl, Nat.le_of_ble_eq_true rfl⟩ (rv_Model hK hT g0) hT rfl hl.1 rfl (Nat.le_of_ble_eq_true rfl) dX7_looked_22 ⟨Nat.zero_le _, Nat.zero_le _⟩ hS (fun _ h => h) (fun _ _ h => h) (fun H locs hpo hS => ?_)
      obtain ⟨σ22, he22, hf22, hT⟩ := hpo
      have hF := bd1_r hF hd22 he22
      have hfr := FR_tr hf22 hfr
      exact J25 ls _ _ σ22 hF hfr hT hS (lv_sub hl [0, 1, 2] rfl)
    refine r_icmp_ne (tgt := 20) hx hb dX7_looked_13 (by decide) (fun c13 => ?_) (fun c13 => ?_)
    · have hF := ifn hF c13
      refine r_iconst hx hb dX7_looked_20 (by decide) (by decide) (fun x20 e20 => ?_)
      have hF := bn hF e20
      exact J21 ls _ _ x20 σ (by omega) hF hfr hT hS (lv_sub hl [0, 1, 2] rfl)
    · have hF := ifp hF c13
      refine r_iconst hx hb dX7_looked_16 (by decide) (by decide) (fun x16 e16 => ?_)
      have hF := bn hF e16
      refine lv_goto (tgt := 21) hx hb dX7_looked_17 (by decide) ?_
      exact J21 ls _ _ x16 σ (by omega) hF hfr hT hS (lv_sub hl [0, 1, 2] rfl)
theorem k_X7_readNumber : cBV yX7_readNumber cX7_readNumber 4 (some .int) 2 := ⟨mw_4_203, ms_2_6, mw_1_8, mw_4_204, ⟨by decide, by decide, by decide⟩⟩
set_option maxHeartbeats 4000000 in
set_option maxRecDepth 100000 in
theorem c_X7_readNumber (l : Launch) (z : Zt) (σ : Sg) (h0 o0 : Nat) (g0 : zG z h0 = (17, o0)) (p1 : Int32) (p2 : Int32) (out : (Int × Lo)) (hF : D_X7_readNumber (σ o0) p1.toInt p2.toInt = some out) : Met l yX7_readNumber (uw yX7_readNumber cX7_readNumber 4 (some .int)) (rmF 3 111) (PcW z [.ref h0, .int p1, .int p2] (fun H => TY z (zA z) σ H)) (QcI z (fun r H => ∃ σ' : Sg, some (r.toInt, σ' o0) = some out ∧ FR σ σ' o0 ∧ TY z (zA z) σ' H ∧ (0 ≤ r.toInt ∧ r.toInt ≤ 999))) 0 0 (zA z) := by
  refine Met.ofW (cc := cX7_readNumber) (maxL := 4) (ret := (some .int)) (by decide) rfl ?_
  intro p e s m args below meth c s₁ B hml hv
  obtain ⟨rfl, hT, hK, hSK⟩ := hv
  have hx := B.exec
  have hb := B.bytes
  have hr := B.returns
  have hts : ∀ w ∈ lw_ok, w.before ([.ref h0, .int p1, .int p2] : List Value).toArray s = true := fun w hw => atoms_spec (ws := uw yX7_readNumber cX7_readNumber 4 (some .int)) B.pre w (List.mem_cons_of_mem _ hw)
  have hown : s.vm.findClass RX7 = some m.cls := findClass_of_methodNamed B.named
  have hlk := B.notSynchronized
  have hC : CallFix p m c cX7_readNumber 4 s ([.ref h0, .int p1, .int p2] : List Value).toArray lw_ok RX7 := ⟨hx, hb, hml, hown, hts⟩
  have hS : va_S (zA z) s.heap s.heap [] := va_S.rf
  have hl := lv_entry ([.ref h0, .int p1, .int p2]) (n := 4) (Nat.le_of_ble_eq_true rfl)
  rw [lg_entry_eq]
  generalize (lg_sl ([.ref h0, .int p1, .int p2]) ++ List.replicate (4 - (lg_sl ([.ref h0, .int p1, .int p2])).length) Slot.unset).toArray = ls at hl ⊢
  have hl : lv_has ls 4 [(0, .ref h0), (1, .int p1), (2, .int p2)] := hl
  show W p l e (rmF 3 111) s m ([.ref h0, .int p1, .int p2] : List Value).toArray below meth c s.heap [] 0 0 (MQ below (QcI z (fun r H => ∃ σ' : Sg, some (r.toInt, σ' o0) = some out ∧ FR σ σ' o0 ∧ TY z (zA z) σ' H ∧ (0 ≤ r.toInt ∧ r.toInt ≤ 999))) ([.ref h0, .int p1, .int p2] : List Value).toArray s 0 0 (zA z)) (F0 m 0 ls [])
  have hfr : FR σ σ o0 := FR_rf σ o0
  unfold D_X7_readNumber at hF
  have mx_p1 := i_mx p1
  have mx_p2 := i_mx p2
  refine lv_aload_n hx hb dX7_readNumber_0 rfl (lv_at hl 0 rfl) ?_
  refine lv_iload_n hx hb dX7_readNumber_1 rfl (lv_at hl 1 rfl) ?_
  refine lv_iload_n hx hb dX7_readNumber_2 rfl (lv_at hl 2 rfl) ?_
  obtain ⟨v3, s3, hd3, -⟩ := bd2_s hF
  refine cl_Vi (rest := []) hC hK hSK (c_X7_looked l z σ h0 (o0) g0 p1 p2 (v3, s3) hd3) k_X7_looked mw_4_205 ⟨rfl, rfl, Nat.le_of_ble_eq_true rfl, Nat.le_of_ble_eq_true rfl⟩ (rv_Model hK hT g0) hT rfl hl.1 rfl (Nat.le_of_ble_eq_true rfl) dX7_readNumber_3 ⟨Nat.zero_le _, Nat.zero_le _⟩ hS (fun _ h => h) (fun _ _ h => h) (fun r3 H locs hpo hS => ?_)
  obtain ⟨σ3, he3, hf3, hT, u3_0⟩ := hpo
  have hF := bd2_r hF hd3 he3
  have hfr := FR_tr hf3 hfr
  refine lv_istore_n (lv' := [(3, .int r3), (0, .ref h0), (1, .int p1), (2, .int p2)]) hx hb dX7_readNumber_6 rfl hl (by decide) rfl (fun ls hl => ?_)
  refine lv_aload_n hx hb dX7_readNumber_7 rfl (lv_at hl 1 rfl) ?_
  obtain ⟨s8, hd8, -⟩ := bd1_s hF
  refine cl_Vv (rest := []) hC hK hSK (c_X7_next l z σ3 h0 (o0) g0 s8 hd8) k_X7_next mw_4_165 ⟨rfl, rfl, Nat.le_of_ble_eq_true rfl, Nat.le_of_ble_eq_true rfl⟩ (rv_Model hK hT g0) hT rfl hl.1 rfl (Nat.le_of_ble_eq_true rfl) dX7_readNumber_8 ⟨Nat.zero_le _, Nat.zero_le _⟩ hS (fun _ h => h) (fun _ _ h => h) (fun H locs hpo hS => ?_)
  obtain ⟨σ8, he8, hf8, hT⟩ := hpo
  have hF := bd1_r hF hd8 he8
  have hfr := FR_tr hf8 hfr
  refine lv_iload_n hx hb dX7_readNumber_11 rfl (lv_at hl 0 rfl) ?_
  exact rt_i hx hb hr hlk hS ⟨σ8, hF, hfr, hT, (by omega)⟩ dX7_readNumber_12
theorem k_X7_readMan : cBV yX7_readMan cX7_readMan 3 none 1 := ⟨mw_4_219, ms_2_10, mw_1_8, mw_4_220, ⟨by decide, by decide, by decide⟩⟩
set_option maxHeartbeats 4000000 in
set_option maxRecDepth 100000 in
theorem c_X7_readMan (l : Launch) (z : Zt) (σ : Sg) (h0 o0 : Nat) (g0 : zG z h0 = (17, o0)) (p1 : Int32) (out : Lo) (hF : D_X7_readMan (σ o0) p1.toInt = some out) : Met l yX7_readMan (uw yX7_readMan cX7_readMan 3 none) (rmF 4 134) (PcW z [.ref h0, .int p1] (fun H => TY z (zA z) σ H)) (QcV z (fun H => ∃ σ' : Sg, some (σ' o0) = some out ∧ FR σ σ' o0 ∧ TY z (zA z) σ' H)) 0 0 (zA z) := by
  refine Met.ofW (cc := cX7_readMan) (maxL := 3) (ret := none) (by decide) rfl ?_
  intro p e s m args below meth c s₁ B hml hv
  obtain ⟨rfl, hT, hK, hSK⟩ := hv
  have hx := B.exec
  have hb := B.bytes
  have hr := B.returns
  have hts : ∀ w ∈ lw_ok, w.before ([.ref h0, .int p1] : List Value).toArray s = true := fun w hw => atoms_spec (ws := uw yX7_readMan cX7_readMan 3 none) B.pre w (List.mem_cons_of_mem _ hw)
  have hown : s.vm.findClass RX7 = some m.cls := findClass_of_methodNamed B.named
  have hlk := B.notSynchronized
  have hC : CallFix p m c cX7_readMan 3 s ([.ref h0, .int p1] : List Value).toArray lw_ok RX7 := ⟨hx, hb, hml, hown, hts⟩
  have hS : va_S (zA z) s.heap s.heap [] := va_S.rf
  have hl := lv_entry ([.ref h0, .int p1]) (n := 3) (Nat.le_of_ble_eq_true rfl)
  rw [lg_entry_eq]
  generalize (lg_sl ([.ref h0, .int p1]) ++ List.replicate (3 - (lg_sl ([.ref h0, .int p1])).length) Slot.unset).toArray = ls at hl ⊢
  have hl : lv_has ls 3 [(0, .ref h0), (1, .int p1)] := hl
  show W p l e (rmF 4 134) s m ([.ref h0, .int p1] : List Value).toArray below meth c s.heap [] 0 0 (MQ below (QcV z (fun H => ∃ σ' : Sg, some (σ' o0) = some out ∧ FR σ σ' o0 ∧ TY z (zA z) σ' H)) ([.ref h0, .int p1] : List Value).toArray s 0 0 (zA z)) (F0 m 0 ls [])
  have hfr : FR σ σ o0 := FR_rf σ o0
  unfold D_X7_readMan at hF
  have mx_p1 := i_mx p1
  refine r_iconst hx hb dX7_readMan_0 (by decide) (by decide) (fun x0 e0 => ?_)
  have hF := bn hF e0
  refine lv_aload_n hx hb dX7_readMan_1 rfl (lv_at hl 0 rfl) ?_
  refine gt_Model_dMen hx hb hts ic_Model hown hK hT g0 (hts _ mw_4_75) dX7_readMan_2 (fun x2 e2 f2 g2 => ?_)
  have hF := bn hF e2
  refine r_imulL (4) (by omega) hx hb dX7_readMan_5 (by omega) (by omega) (fun x5 e5 => ?_)
  have hF := bn hF e5
  refine lv_istore_n (lv' := [(2, .int x5), (0, .ref h0), (1, .int p1)]) hx hb dX7_readMan_6 rfl hl (by decide) rfl (fun ls hl => ?_)
  refine lv_aload_n hx hb dX7_readMan_7 rfl (lv_at hl 1 rfl) ?_
  refine gt_Model_draft hx hb hts ic_Model hown hK hT g0 (hts _ mw_4_74) dX7_readMan_8 (fun q8 hq8 => ?_)
  refine lv_iload_n hx hb dX7_readMan_11 rfl (lv_at hl 0 rfl) ?_
  refine r_iconst hx hb dX7_readMan_12 (by decide) (by decide) (fun x12 e12 => ?_)
  have hF := bn hF e12
  refine r_iadd hx hb dX7_readMan_13 (by omega) (by omega) (fun x13 e13 => ?_)
  have hF := bn hF e13
  refine lv_iload_n hx hb dX7_readMan_14 rfl (lv_at hl 2 rfl) ?_
  obtain ⟨kv15, hF⟩ := ckd hF
  refine as_43 hx hb hK hT hS hq8 (by omega) (by omega) kv15 dX7_readMan_15 (fun H locs hT hS => ?_)
  obtain ⟨σ15, hF, hfr, hT⟩ := wrL hF hfr hT
  refine lv_aload_n hx hb dX7_readMan_16 rfl (lv_at hl 1 rfl) ?_
  refine gt_Model_draft hx hb hts ic_Model hown hK hT g0 (hts _ mw_4_74) dX7_readMan_17 (fun q17 hq17 => ?_)
  refine lv_iload_n hx hb dX7_readMan_20 rfl (lv_at hl 0 rfl) ?_
  refine r_iconst hx hb dX7_readMan_21 (by decide) (by decide) (fun x21 e21 => ?_)
  have hF := bn hF e21
  refine r_iadd hx hb dX7_readMan_22 (by omega) (by omega) (fun x22 e22 => ?_)
  have hF := bn hF e22
  refine lv_aload_n hx hb dX7_readMan_23 rfl (lv_at hl 1 rfl) ?_
  refine r_iconst hx hb dX7_readMan_24 (by decide) (by decide) (fun x24 e24 => ?_)
  have hF := bn hF e24
  refine r_bipush hx hb dX7_readMan_25 rfl (fun x25 e25 => ?_)
  have hF := bn hF e25
  obtain ⟨v27, s27, hd27, -⟩ := bd2_s hF
  refine cl_Vi (rest := [.int x22, .ref q17]) hC hK hSK (c_X7_readNumber l z σ15 h0 (o0) g0 x24 x25 (v27, s27) hd27) k_X7_readNumber mw_4_201 ⟨rfl, rfl, Nat.le_of_ble_eq_true rfl, Nat.le_of_ble_eq_true rfl⟩ (rv_Model hK hT g0) hT rfl hl.1 rfl (Nat.le_of_ble_eq_true rfl) dX7_readMan_27 ⟨Nat.zero_le _, Nat.zero_le _⟩ hS (fun _ h => h) (fun _ _ h => h) (fun r27 H locs hpo hS => ?_)
  obtain ⟨σ27, he27, hf27, hT, u27_0⟩ := hpo
  have hF := bd2_r hF hd27 he27
  have hfr := FR_tr hf27 hfr
  obtain ⟨kv30, hF⟩ := ckd hF
  refine as_43 hx hb hK hT hS hq17 (by omega) (by omega) kv30 dX7_readMan_30 (fun H locs hT hS => ?_)
  obtain ⟨σ30, hF, hfr, hT⟩ := wrL hF hfr hT
  refine lv_aload_n hx hb dX7_readMan_31 rfl (lv_at hl 1 rfl) ?_
  refine gt_Model_draft hx hb hts ic_Model hown hK hT g0 (hts _ mw_4_74) dX7_readMan_32 (fun q32 hq32 => ?_)
  refine lv_iload_n hx hb dX7_readMan_35 rfl (lv_at hl 0 rfl) ?_
  refine r_iconst hx hb dX7_readMan_36 (by decide) (by decide) (fun x36 e36 => ?_)
  have hF := bn hF e36
  refine r_iadd hx hb dX7_readMan_37 (by omega) (by omega) (fun x37 e37 => ?_)
  have hF := bn hF e37
  refine lv_aload_n hx hb dX7_readMan_38 rfl (lv_at hl 1 rfl) ?_
  refine r_iconst hx hb dX7_readMan_39 (by decide) (by decide) (fun x39 e39 => ?_)
  have hF := bn hF e39
  refine r_bipush hx hb dX7_readMan_40 rfl (fun x40 e40 => ?_)
  have hF := bn hF e40
  obtain ⟨v42, s42, hd42, -⟩ := bd2_s hF
  refine cl_Vi (rest := [.int x37, .ref q32]) hC hK hSK (c_X7_readNumber l z σ30 h0 (o0) g0 x39 x40 (v42, s42) hd42) k_X7_readNumber mw_4_201 ⟨rfl, rfl, Nat.le_of_ble_eq_true rfl, Nat.le_of_ble_eq_true rfl⟩ (rv_Model hK hT g0) hT rfl hl.1 rfl (Nat.le_of_ble_eq_true rfl) dX7_readMan_42 ⟨Nat.zero_le _, Nat.zero_le _⟩ hS (fun _ h => h) (fun _ _ h => h) (fun r42 H locs hpo hS => ?_)
  obtain ⟨σ42, he42, hf42, hT, u42_0⟩ := hpo
  have hF := bd2_r hF hd42 he42
  have hfr := FR_tr hf42 hfr
  obtain ⟨kv45, hF⟩ := ckd hF
  refine as_43 hx hb hK hT hS hq32 (by omega) (by omega) kv45 dX7_readMan_45 (fun H locs hT hS => ?_)
  obtain ⟨σ45, hF, hfr, hT⟩ := wrL hF hfr hT
  refine lv_aload_n hx hb dX7_readMan_46 rfl (lv_at hl 1 rfl) ?_
  refine lv_dup hx hb dX7_readMan_47 rfl ?_
  refine gt_Model_dMen hx hb hts ic_Model hown hK hT g0 (hts _ mw_4_75) dX7_readMan_48 (fun x48 e48 f48 g48 => ?_)
  have hF := bn hF e48
  refine r_iconst hx hb dX7_readMan_51 (by decide) (by decide) (fun x51 e51 => ?_)
  have hF := bn hF e51
  refine r_iadd hx hb dX7_readMan_52 (by omega) (by omega) (fun x52 e52 => ?_)
  have hF := bn hF e52
  obtain ⟨k53, hF⟩ := ck hF
  refine pt_Model_dMen hx hb hts ic_Model hown hK hT hS g0 (hts _ mw_4_75) (by omega) (by omega) dX7_readMan_53 (fun H locs hT hS => ?_)
  obtain ⟨σ53, hF, hfr, hT⟩ := wrL hF hfr hT
  exact rt_v hx hb hr hlk hS ⟨σ53, hF, hfr, hT⟩ dX7_readMan_56
theorem k_X7_readCousins : cBV yX7_readCousins cX7_readCousins 3 none 0 := ⟨mw_4_199, ms_2_5, mw_1_8, mw_4_200, ⟨by decide, by decide, by decide⟩⟩
set_option maxHeartbeats 4000000 in
set_option maxRecDepth 100000 in
theorem c_X7_readCousins (l : Launch) (z : Zt) (σ : Sg) (h0 o0 : Nat) (g0 : zG z h0 = (17, o0)) (out : Lo) (hF : D_X7_readCousins (σ o0) = some out) : Met l yX7_readCousins (uw yX7_readCousins cX7_readCousins 3 none) (rmF 4 134) (PcW z [.ref h0] (fun H => TY z (zA z) σ H)) (QcV z (fun H => ∃ σ' : Sg, some (σ' o0) = some out ∧ FR σ σ' o0 ∧ TY z (zA z) σ' H)) 0 0 (zA z) := by
  refine Met.ofW (cc := cX7_readCousins) (maxL := 3) (ret := none) (by decide) rfl ?_
  intro p e s m args below meth c s₁ B hml hv
  obtain ⟨rfl, hT, hK, hSK⟩ := hv
  have hx := B.exec
  have hb := B.bytes
  have hr := B.returns
  have hts : ∀ w ∈ lw_ok, w.before ([.ref h0] : List Value).toArray s = true := fun w hw => atoms_spec (ws := uw yX7_readCousins cX7_readCousins 3 none) B.pre w (List.mem_cons_of_mem _ hw)
  have hown : s.vm.findClass RX7 = some m.cls := findClass_of_methodNamed B.named
  have hlk := B.notSynchronized
  have hC : CallFix p m c cX7_readCousins 3 s ([.ref h0] : List Value).toArray lw_ok RX7 := ⟨hx, hb, hml, hown, hts⟩
  have hS : va_S (zA z) s.heap s.heap [] := va_S.rf
  have hl := lv_entry ([.ref h0]) (n := 3) (Nat.le_of_ble_eq_true rfl)
  rw [lg_entry_eq]
  generalize (lg_sl ([.ref h0]) ++ List.replicate (3 - (lg_sl ([.ref h0])).length) Slot.unset).toArray = ls at hl ⊢
  have hl : lv_has ls 3 [(0, .ref h0)] := hl
  show W p l e (rmF 4 134) s m ([.ref h0] : List Value).toArray below meth c s.heap [] 0 0 (MQ below (QcV z (fun H => ∃ σ' : Sg, some (σ' o0) = some out ∧ FR σ σ' o0 ∧ TY z (zA z) σ' H)) ([.ref h0] : List Value).toArray s 0 0 (zA z)) (F0 m 0 ls [])
  have hfr : FR σ σ o0 := FR_rf σ o0
  unfold D_X7_readCousins at hF
  refine lv_aload_n hx hb dX7_readCousins_0 rfl (lv_at hl 0 rfl) ?_
  refine r_iconst hx hb dX7_readCousins_1 (by decide) (by decide) (fun x1 e1 => ?_)
  have hF := bn hF e1
  refine r_iconst hx hb dX7_readCousins_2 (by decide) (by decide) (fun x2 e2 => ?_)
  have hF := bn hF e2
  obtain ⟨v3, s3, hd3, -⟩ := bd2_s hF
  refine cl_Vi (rest := []) hC hK hSK (c_X7_readNumber l z σ h0 (o0) g0 x1 x2 (v3, s3) hd3) k_X7_readNumber mw_4_201 ⟨rfl, rfl, Nat.le_of_ble_eq_true rfl, Nat.le_of_ble_eq_true rfl⟩ (rv_Model hK hT g0) hT rfl hl.1 rfl (Nat.le_of_ble_eq_true rfl) dX7_readCousins_3 ⟨Nat.zero_le _, Nat.zero_le _⟩ hS (fun _ h => h) (fun _ _ h => h) (fun r3 H locs hpo hS => ?_)
  obtain ⟨σ3, he3, hf3, hT, u3_0⟩ := hpo
  have hF := bd2_r hF hd3 he3
  have hfr := FR_tr hf3 hfr
  refine lv_istore_n (lv' := [(1, .int r3), (0, .ref h0)]) hx hb dX7_readCousins_6 rfl hl (by decide) rfl (fun ls hl => ?_)
  refine lv_aload_n hx hb dX7_readCousins_7 rfl (lv_at hl 1 rfl) ?_
  refine r_iconst hx hb dX7_readCousins_8 (by decide) (by decide) (fun x8 e8 => ?_)
  have hF := bn hF e8
  refine r_iconst hx hb dX7_readCousins_9 (by decide) (by decide) (fun x9 e9 => ?_)
  have hF := bn hF e9
  obtain ⟨v10, s10, hd10, -⟩ := bd2_s hF
  refine cl_Vi (rest := []) hC hK hSK (c_X7_looked l z σ3 h0 (o0) g0 x8 x9 (v10, s10) hd10) k_X7_looked mw_4_205 ⟨rfl, rfl, Nat.le_of_ble_eq_true rfl, Nat.le_of_ble_eq_true rfl⟩ (rv_Model hK hT g0) hT rfl hl.1 rfl (Nat.le_of_ble_eq_true rfl) dX7_readCousins_10 ⟨Nat.zero_le _, Nat.zero_le _⟩ hS (fun _ h => h) (fun _ _ h => h) (fun r10 H locs hpo hS => ?_)
  obtain ⟨σ10, he10, hf10, hT, u10_0⟩ := hpo
  have hF := bd2_r hF hd10 he10
  have hfr := FR_tr hf10 hfr
  refine lv_istore_n (lv' := [(2, .int r10), (1, .int r3), (0, .ref h0)]) hx hb dX7_readCousins_13 rfl hl (by decide) rfl (fun ls hl => ?_)
  refine lv_aload_n hx hb dX7_readCousins_14 rfl (lv_at hl 2 rfl) ?_
  refine gt_Model_fault hx hb hts ic_Model hown hK hT g0 (hts _ mw_4_85) dX7_readCousins_15 (fun x15 e15 f15 g15 => ?_)
  have hF := bn hF e15
  have J112 : ∀ (ls : Array Slot) (H : Heap) (locs : List Loc) (σj112 : Sg), D_X7_readCousins_112 (σj112 o0) = some out → FR σ σj112 o0 → TY z (zA z) σj112 H → va_S (zA z) s.heap H locs → lv_has ls 3 [(0, .ref h0), (1, .int r3), (2, .int r10)] → W p l e (rmF 4 134) s m ([.ref h0] : List Value).toArray below meth c H locs 0 0 (MQ below (QcV z (fun H => ∃ σ' : Sg, some (σ' o0) = some out ∧ FR σ σ' o0 ∧ TY z (zA z) σ' H)) ([.ref h0] : List Value).toArray s 0 0 (zA z)) (F0 m 112 ls []) := by
    intro ls H locs σj112 hF hfr hT hS hl
    unfold D_X7_readCousins_112 at hF
    refine lv_aload_n hx hb dX7_readCousins_112 rfl (lv_at hl 0 rfl) ?_
    obtain ⟨s113, hd113, -⟩ := bd1_s hF
    refine cl_Vv (rest := []) hC hK hSK (c_X7_next l z σj112 h0 (o0) g0 s113 hd113) k_X7_next mw_4_165 ⟨rfl, rfl, Nat.le_of_ble_eq_true rfl, Nat.le_of_ble_eq_true rfl⟩ (rv_Model hK hT g0) hT rfl hl.1 rfl (Nat.le_of_ble_eq_true rfl) dX7_readCousins_113 ⟨Nat.zero_le _, Nat.zero_le _⟩ hS (fun _ h => h) (fun _ _ h => h) (fun H locs hpo hS => ?_)
    obtain ⟨σ113, he113, hf113, hT⟩ := hpo
    have hF := bd1_r hF hd113 he113
    have hfr := FR_tr hf113 hfr
    exact rt_v hx hb hr hlk hS ⟨σ113, hF, hfr, hT⟩ dX7_readCousins_116
  refine r_if_ne (tgt := 112) hx hb dX7_readCousins_18 (by decide) (fun c18 => ?_) (fun c18 => ?_)
  · have hF := ifn hF c18
    exact J112 ls _ _ σ10 hF hfr hT hS (lv_sub hl [2, 1, 0] rfl)
  · have hF := ifp hF c18
    refine lv_aload_n hx hb dX7_readCousins_21 rfl (lv_at hl 2 rfl) ?_
    refine lv_aload_n hx hb dX7_readCousins_22 rfl (lv_at hl 2 rfl) ?_
    refine gt_Model_draft hx hb hts ic_Model hown hK hT g0 (hts _ mw_4_74) dX7_readCousins_23 (fun q23 hq23 => ?_)
    refine r_bipush hx hb dX7_readCousins_26 rfl (fun x26 e26 => ?_)
    have hF := bn hF e26
    refine lv_iload_n hx hb dX7_readCousins_28 rfl (lv_at hl 1 rfl) ?_
    refine r_iadd hx hb dX7_readCousins_29 (by omega) (by omega) (fun x29 e29 => ?_)
    have hF := bn hF e29
    obtain ⟨kb30, hF⟩ := ck hF
    refine al_43 hx hb hK hT hq23 (by omega) (by omega) dX7_readCousins_30 (fun x30 e30 g30 => ?_)
    have hF := bn hF e30
    refine lv_iload_n hx hb dX7_readCousins_31 rfl (lv_at hl 0 rfl) ?_
    refine x_ishr hx hb dX7_readCousins_32 (fun x32 e32 => ?_)
    have hF := bn hF e32
    refine r_iconst hx hb dX7_readCousins_33 (by decide) (by decide) (fun x33 e33 => ?_)
    have hF := bn hF e33
    refine x_iandr hx hb dX7_readCousins_34 (by omega) (fun x34 e34 g34 h34 => ?_)
    have hF := bn hF e34
    have J43 : ∀ (ls : Array Slot) (H : Heap) (locs : List Loc) (t43_1 : Int32) (σj43 : Sg), (0 ≤ t43_1.toInt ∧ t43_1.toInt ≤ 1) → D_X7_readCousins_43 r10.toInt r3.toInt (σj43 o0) t43_1.toInt = some out → FR σ σj43 o0 → TY z (zA z) σj43 H → va_S (zA z) s.heap H locs → lv_has ls 3 [(0, .ref h0), (1, .int r3), (2, .int r10)] → W p l e (rmF 4 134) s m ([.ref h0] : List Value).toArray below meth c H locs 0 0 (MQ below (QcV z (fun H => ∃ σ' : Sg, some (σ' o0) = some out ∧ FR σ σ' o0 ∧ TY z (zA z) σ' H)) ([.ref h0] : List Value).toArray s 0 0 (zA z)) (F0 m 43 ls [.int t43_1, .ref h0]) := by
      intro ls H locs t43_1 σj43 j43_t43_1 hF hfr hT hS hl
      unfold D_X7_readCousins_43 at hF
      refine r_iconst hx hb dX7_readCousins_43 (by decide) (by decide) (fun x43 e43 => ?_)
      have hF := bn hF e43
      obtain ⟨s44, hd44, -⟩ := bd1_s hF
      refine cl_Vv (rest := []) hC hK hSK (c_X7_needs l z σj43 h0 (o0) g0 t43_1 x43 s44 hd44 (by omega) (by omega)) k_X7_needs mw_4_177 ⟨rfl, rfl, Nat.le_of_ble_eq_true rfl, Nat.le_of_ble_eq_true rfl⟩ (rv_Model hK hT g0) hT rfl hl.1 rfl (Nat.le_of_ble_eq_true rfl) dX7_readCousins_44 ⟨Nat.zero_le _, Nat.zero_le _⟩ hS (fun _ h => h) (fun _ _ h => h) (fun H locs hpo hS => ?_)
      obtain ⟨σ44, he44, hf44, hT⟩ := hpo
      have hF := bd1_r hF hd44 he44
      have hfr := FR_tr hf44 hfr
      refine lv_aload_n hx hb dX7_readCousins_47 rfl (lv_at hl 0 rfl) ?_
      refine gt_Model_draft hx hb hts ic_Model hown hK hT g0 (hts _ mw_4_74) dX7_readCousins_48 (fun q48 hq48 => ?_)
      refine r_bipush hx hb dX7_readCousins_51 rfl (fun x51 e51 => ?_)
      have hF := bn hF e51
      refine lv_iload_n hx hb dX7_readCousins_53 rfl (lv_at hl 1 rfl) ?_
      refine r_iadd hx hb dX7_readCousins_54 (by omega) (by omega) (fun x54 e54 => ?_)
      have hF := bn hF e54
      refine lv_dup2_11 hx hb dX7_readCousins_55 rfl rfl ?_
      obtain ⟨kb56, hF⟩ := ck hF
      refine al_43 hx hb hK hT hq48 (by omega) (by omega) dX7_readCousins_56 (fun x56 e56 g56 => ?_)
      have hF := bn hF e56
      refine r_iconst hx hb dX7_readCousins_57 (by decide) (by decide) (fun x57 e57 => ?_)
      have hF := bn hF e57
      refine lv_iload_n hx hb dX7_readCousins_58 rfl (lv_at hl 2 rfl) ?_
      refine x_ishl hx hb dX7_readCousins_59 (fun x59 e59 => ?_)
      have hF := bn hF e59
      refine x_ior hx hb dX7_readCousins_60 (fun x60 e60 => ?_)
      have hF := bn hF e60
      obtain ⟨kv61, hF⟩ := ckd hF
      refine as_43 hx hb hK hT hS hq48 (by omega) (by omega) kv61 dX7_readCousins_61 (fun H locs hT hS => ?_)
      obtain ⟨σ61, hF, hfr, hT⟩ := wrL hF hfr hT
      refine lv_aload_n hx hb dX7_readCousins_62 rfl (lv_at hl 0 rfl) ?_
      refine lv_dup hx hb dX7_readCousins_63 rfl ?_
      refine gt_Model_dKin hx hb hts ic_Model hown hK hT g0 (hts _ mw_4_76) dX7_readCousins_64 (fun x64 e64 f64 g64 => ?_)
      have hF := bn hF e64
      refine r_iconst hx hb dX7_readCousins_67 (by decide) (by decide) (fun x67 e67 => ?_)
      have hF := bn hF e67
      refine r_iadd hx hb dX7_readCousins_68 (by omega) (by omega) (fun x68 e68 => ?_)
      have hF := bn hF e68
      obtain ⟨k69, hF⟩ := ck hF
      refine pt_Model_dKin hx hb hts ic_Model hown hK hT hS g0 (hts _ mw_4_76) (by omega) (by omega) dX7_readCousins_69 (fun H locs hT hS => ?_)
      obtain ⟨σ69, hF, hfr, hT⟩ := wrL hF hfr hT
      refine lv_aload_n hx hb dX7_readCousins_72 rfl (lv_at hl 0 rfl) ?_
      refine lv_iload_n hx hb dX7_readCousins_73 rfl (lv_at hl 1 rfl) ?_
      refine lv_aload_n hx hb dX7_readCousins_74 rfl (lv_at hl 0 rfl) ?_
      refine gt_Model_highest hx hb hts ic_Model hown hK hT g0 (hts _ mw_4_78) dX7_readCousins_75 (fun x75 e75 f75 g75 => ?_)
      have hF := bn hF e75
      have J89 : ∀ (ls : Array Slot) (H : Heap) (locs : List Loc) (t89_1 : Int32) (σj89 : Sg), (-4 ≤ t89_1.toInt ∧ t89_1.toInt ≤ 999) → D_X7_readCousins_89 r10.toInt (σj89 o0) t89_1.toInt = some out → FR σ σj89 o0 → TY z (zA z) σj89 H → va_S (zA z) s.heap H locs → lv_has ls 3 [(0, .ref h0), (1, .int r3), (2, .int r10)] → W p l e (rmF 4 134) s m ([.ref h0] : List Value).toArray below meth c H locs 0 0 (MQ below (QcV z (fun H => ∃ σ' : Sg, some (σ' o0) = some out ∧ FR σ σ' o0 ∧ TY z (zA z) σ' H)) ([.ref h0] : List Value).toArray s 0 0 (zA z)) (F0 m 89 ls [.int t89_1, .ref h0]) := by
        intro ls H locs t89_1 σj89 j89_t89_1 hF hfr hT hS hl
        unfold D_X7_readCousins_89 at hF
        obtain ⟨k89, hF⟩ := ck hF
        refine pt_Model_highest hx hb hts ic_Model hown hK hT hS g0 (hts _ mw_4_78) (by omega) (by omega) dX7_readCousins_89 (fun H locs hT hS => ?_)
        obtain ⟨σ89, hF, hfr, hT⟩ := wrL hF hfr hT
        refine lv_aload_n hx hb dX7_readCousins_92 rfl (lv_at hl 0 rfl) ?_
        refine lv_iload_n hx hb dX7_readCousins_93 rfl (lv_at hl 2 rfl) ?_
        refine lv_aload_n hx hb dX7_readCousins_94 rfl (lv_at hl 0 rfl) ?_
        refine gt_Model_highest hx hb hts ic_Model hown hK hT g0 (hts _ mw_4_78) dX7_readCousins_95 (fun x95 e95 f95 g95 => ?_)
        have hF := bn hF e95
        have J109 : ∀ (ls : Array Slot) (H : Heap) (locs : List Loc) (t109_1 : Int32) (σj109 : Sg), (-4 ≤ t109_1.toInt ∧ t109_1.toInt ≤ 999) → D_X7_readCousins_109 (σj109 o0) t109_1.toInt = some out → FR σ σj109 o0 → TY z (zA z) σj109 H → va_S (zA z) s.heap H locs → lv_has ls 3 [(0, .ref h0), (1, .int r3), (2, .int r10)] → W p l e (rmF 4 134) s m ([.ref h0] : List Value).toArray below meth c H locs 0 0 (MQ below (QcV z (fun H => ∃ σ' : Sg, some (σ' o0) = some out ∧ FR σ σ' o0 ∧ TY z (zA z) σ' H)) ([.ref h0] : List Value).toArray s 0 0 (zA z)) (F0 m 109 ls [.int t109_1, .ref h0]) := by
          intro ls H locs t109_1 σj109 j109_t109_1 hF hfr hT hS hl
          unfold D_X7_readCousins_109 at hF
          obtain ⟨k109, hF⟩ := ck hF
          refine pt_Model_highest hx hb hts ic_Model hown hK hT hS g0 (hts _ mw_4_78) (by omega) (by omega) dX7_readCousins_109 (fun H locs hT hS => ?_)
          obtain ⟨σ109, hF, hfr, hT⟩ := wrL hF hfr hT
          exact J112 ls _ _ σ109 hF hfr hT hS (lv_sub hl [0, 1, 2] rfl)
        refine r_icmp_le (tgt := 105) hx hb dX7_readCousins_98 (by decide) (fun c98 => ?_) (fun c98 => ?_)
        · have hF := ifn hF (Int.not_lt.mpr c98)
          refine lv_aload_n hx hb dX7_readCousins_105 rfl (lv_at hl 0 rfl) ?_
          refine gt_Model_highest hx hb hts ic_Model hown hK hT g0 (hts _ mw_4_78) dX7_readCousins_106 (fun x106 e106 f106 g106 => ?_)
          have hF := bn hF e106
          exact J109 ls _ _ x106 σ89 (by omega) hF hfr hT hS (lv_sub hl [0, 1, 2] rfl)
        · have hF := ifp hF c98
          refine lv_iload_n hx hb dX7_readCousins_101 rfl (lv_at hl 2 rfl) ?_
          refine lv_goto (tgt := 109) hx hb dX7_readCousins_102 (by decide) ?_
          exact J109 ls _ _ r10 σ89 (by omega) hF hfr hT hS (lv_sub hl [0, 1, 2] rfl)
      refine r_icmp_le (tgt := 85) hx hb dX7_readCousins_78 (by decide) (fun c78 => ?_) (fun c78 => ?_)
      · have hF := ifn hF (Int.not_lt.mpr c78)
        refine lv_aload_n hx hb dX7_readCousins_85 rfl (lv_at hl 0 rfl) ?_
        refine gt_Model_highest hx hb hts ic_Model hown hK hT g0 (hts _ mw_4_78) dX7_readCousins_86 (fun x86 e86 f86 g86 => ?_)
        have hF := bn hF e86
        exact J89 ls _ _ x86 σ69 (by omega) hF hfr hT hS (lv_sub hl [0, 1, 2] rfl)
      · have hF := ifp hF c78
        refine lv_iload_n hx hb dX7_readCousins_81 rfl (lv_at hl 1 rfl) ?_
        refine lv_goto (tgt := 89) hx hb dX7_readCousins_82 (by decide) ?_
        exact J89 ls _ _ r3 σ69 (by omega) hF hfr hT hS (lv_sub hl [0, 1, 2] rfl)
    refine r_if_ne (tgt := 42) hx hb dX7_readCousins_35 (by decide) (fun c35 => ?_) (fun c35 => ?_)
    · have hF := ifn hF c35
      refine r_iconst hx hb dX7_readCousins_42 (by decide) (by decide) (fun x42 e42 => ?_)
      have hF := bn hF e42
      exact J43 ls _ _ x42 σ10 (by omega) hF hfr hT hS (lv_sub hl [2, 1, 0] rfl)
    · have hF := ifp hF c35
      refine r_iconst hx hb dX7_readCousins_38 (by decide) (by decide) (fun x38 e38 => ?_)
      have hF := bn hF e38
      refine lv_goto (tgt := 43) hx hb dX7_readCousins_39 (by decide) ?_
      exact J43 ls _ _ x38 σ10 (by omega) hF hfr hT hS (lv_sub hl [2, 1, 0] rfl)
theorem k_X7_readProgram : cBV yX7_readProgram cX7_readProgram 2 none 0 := ⟨mw_4_211, ms_2_8, mw_1_8, mw_4_212, ⟨by decide, by decide, by decide⟩⟩
set_option maxHeartbeats 4000000 in
set_option maxRecDepth 100000 in
theorem c_X7_readProgram (l : Launch) (z : Zt) (σ : Sg) (h0 o0 : Nat) (g0 : zG z h0 = (17, o0)) (out : Lo) (hF : D_X7_readProgram (σ o0) = some out) : Met l yX7_readProgram (uw yX7_readProgram cX7_readProgram 2 none) (rmF 4 130) (PcW z [.ref h0] (fun H => TY z (zA z) σ H)) (QcV z (fun H => ∃ σ' : Sg, some (σ' o0) = some out ∧ FR σ σ' o0 ∧ TY z (zA z) σ' H)) 0 0 (zA z) := by
  refine Met.ofW (cc := cX7_readProgram) (maxL := 2) (ret := none) (by decide) rfl ?_
  intro p e s m args below meth c s₁ B hml hv
  obtain ⟨rfl, hT, hK, hSK⟩ := hv
  have hx := B.exec
  have hb := B.bytes
  have hr := B.returns
  have hts : ∀ w ∈ lw_ok, w.before ([.ref h0] : List Value).toArray s = true := fun w hw => atoms_spec (ws := uw yX7_readProgram cX7_readProgram 2 none) B.pre w (List.mem_cons_of_mem _ hw)
  have hown : s.vm.findClass RX7 = some m.cls := findClass_of_methodNamed B.named
  have hlk := B.notSynchronized
  have hC : CallFix p m c cX7_readProgram 2 s ([.ref h0] : List Value).toArray lw_ok RX7 := ⟨hx, hb, hml, hown, hts⟩
  have hS : va_S (zA z) s.heap s.heap [] := va_S.rf
  have hl := lv_entry ([.ref h0]) (n := 2) (Nat.le_of_ble_eq_true rfl)
  rw [lg_entry_eq]
  generalize (lg_sl ([.ref h0]) ++ List.replicate (2 - (lg_sl ([.ref h0])).length) Slot.unset).toArray = ls at hl ⊢
  have hl : lv_has ls 2 [(0, .ref h0)] := hl
  show W p l e (rmF 4 130) s m ([.ref h0] : List Value).toArray below meth c s.heap [] 0 0 (MQ below (QcV z (fun H => ∃ σ' : Sg, some (σ' o0) = some out ∧ FR σ σ' o0 ∧ TY z (zA z) σ' H)) ([.ref h0] : List Value).toArray s 0 0 (zA z)) (F0 m 0 ls [])
  have hfr : FR σ σ o0 := FR_rf σ o0
  unfold D_X7_readProgram at hF
  have J0 : ∀ (n0 : Nat) (ls : Array Slot) (H : Heap) (locs : List Loc) (σj0 : Sg), D_X7_readProgram_0 n0 (σj0 o0) = some out → FR σ σj0 o0 → TY z (zA z) σj0 H → va_S (zA z) s.heap H locs → lv_has ls 2 [(0, .ref h0)] → W p l e (rmF 4 130) s m ([.ref h0] : List Value).toArray below meth c H locs 0 0 (MQ below (QcV z (fun H => ∃ σ' : Sg, some (σ' o0) = some out ∧ FR σ σ' o0 ∧ TY z (zA z) σ' H)) ([.ref h0] : List Value).toArray s 0 0 (zA z)) (F0 m 0 ls []) := by
    intro n0
    induction n0 with
    | zero => intro ls H locs σj0 hF hfr hT hS hl; exact (no_s hF).elim
    | succ n0 ih0 =>
      intro ls H locs σj0 hF hfr hT hS hl
      rw [D_X7_readProgram_0.eq_2] at hF
      refine lv_aload_n hx hb dX7_readProgram_0 rfl (lv_at hl 0 rfl) ?_
      refine gt_Model_fault hx hb hts ic_Model hown hK hT g0 (hts _ mw_4_85) dX7_readProgram_1 (fun x1 e1 f1 g1 => ?_)
      have hF := bn hF e1
      refine r_if_ne (tgt := 99) hx hb dX7_readProgram_4 (by decide) (fun c4 => ?_) (fun c4 => ?_)
      · have hF := ifn hF c4
        exact rt_v hx hb hr hlk hS ⟨σj0, hF, hfr, hT⟩ dX7_readProgram_99
      · have hF := ifp hF c4
        refine lv_aload_n hx hb dX7_readProgram_7 rfl (lv_at hl 0 rfl) ?_
        refine gt_Model_sort hx hb hts ic_Model hown hK hT g0 (hts _ mw_4_83) dX7_readProgram_8 (fun x8 e8 f8 g8 => ?_)
        have hF := bn hF e8
        refine r_iconst hx hb dX7_readProgram_11 (by decide) (by decide) (fun x11 e11 => ?_)
        have hF := bn hF e11
        refine r_icmp_ne (tgt := 99) hx hb dX7_readProgram_12 (by decide) (fun c12 => ?_) (fun c12 => ?_)
        · have hF := ifn hF c12
          exact rt_v hx hb hr hlk hS ⟨σj0, hF, hfr, hT⟩ dX7_readProgram_99
        · have hF := ifp hF c12
          refine lv_aload_n hx hb dX7_readProgram_15 rfl (lv_at hl 0 rfl) ?_
          obtain ⟨v16, hd16, -⟩ := bd0_s hF
          refine cl_Vi (rest := []) hC hK hSK (c_X7_figureNow l z σj0 h0 (o0) g0 v16 hd16) k_X7_figureNow mw_4_213 ⟨rfl, rfl, Nat.le_of_ble_eq_true rfl, Nat.le_of_ble_eq_true rfl⟩ (rv_Model hK hT g0) hT rfl hl.1 rfl (Nat.le_of_ble_eq_true rfl) dX7_readProgram_16 ⟨Nat.zero_le _, Nat.zero_le _⟩ hS (fun _ h => h) (fun _ _ h => h) (fun r16 H locs hpo hS => ?_)
          obtain ⟨he16, hT, u16_0⟩ := hpo
          have hF := bd0_r hF hd16 he16
          refine lv_istore_n (lv' := [(1, .int r16), (0, .ref h0)]) hx hb dX7_readProgram_19 rfl hl (by decide) rfl (fun ls hl => ?_)
          refine lv_aload_n hx hb dX7_readProgram_20 rfl (lv_at hl 1 rfl) ?_
          refine lv_aload_n hx hb dX7_readProgram_21 rfl (lv_at hl 1 rfl) ?_
          refine gt_Model_draft hx hb hts ic_Model hown hK hT g0 (hts _ mw_4_74) dX7_readProgram_22 (fun q22 hq22 => ?_)
          refine r_bipush hx hb dX7_readProgram_25 rfl (fun x25 e25 => ?_)
          have hF := bn hF e25
          refine al_43 hx hb hK hT hq22 (by omega) (by omega) dX7_readProgram_27 (fun x27 e27 g27 => ?_)
          have hF := bn hF e27
          have f27 := gd59_31 g27 (by omega)
          refine r_bipush hx hb dX7_readProgram_28 rfl (fun x28 e28 => ?_)
          have hF := bn hF e28
          have J38 : ∀ (ls : Array Slot) (H : Heap) (locs : List Loc) (t38_1 : Int32) (σj38 : Sg), (0 ≤ t38_1.toInt ∧ t38_1.toInt ≤ 1) → D_X7_readProgram_38 (D_X7_readProgram_0 n0) r16.toInt (σj38 o0) t38_1.toInt = some out → FR σ σj38 o0 → TY z (zA z) σj38 H → va_S (zA z) s.heap H locs → lv_has ls 2 [(0, .ref h0), (1, .int r16)] → W p l e (rmF 4 130) s m ([.ref h0] : List Value).toArray below meth c H locs 0 0 (MQ below (QcV z (fun H => ∃ σ' : Sg, some (σ' o0) = some out ∧ FR σ σ' o0 ∧ TY z (zA z) σ' H)) ([.ref h0] : List Value).toArray s 0 0 (zA z)) (F0 m 38 ls [.int t38_1, .ref h0]) := by
            intro ls H locs t38_1 σj38 j38_t38_1 hF hfr hT hS hl
            unfold D_X7_readProgram_38 at hF
            refine r_iconst hx hb dX7_readProgram_38 (by decide) (by decide) (fun x38 e38 => ?_)
            have hF := bn hF e38
            obtain ⟨s39, hd39, -⟩ := bd1_s hF
            refine cl_Vv (rest := []) hC hK hSK (c_X7_needs l z σj38 h0 (o0) g0 t38_1 x38 s39 hd39 (by omega) (by omega)) k_X7_needs mw_4_177 ⟨rfl, rfl, Nat.le_of_ble_eq_true rfl, Nat.le_of_ble_eq_true rfl⟩ (rv_Model hK hT g0) hT rfl hl.1 rfl (Nat.le_of_ble_eq_true rfl) dX7_readProgram_39 ⟨Nat.zero_le _, Nat.zero_le _⟩ hS (fun _ h => h) (fun _ _ h => h) (fun H locs hpo hS => ?_)
            obtain ⟨σ39, he39, hf39, hT⟩ := hpo
            have hF := bd1_r hF hd39 he39
            have hfr := FR_tr hf39 hfr
            refine lv_aload_n hx hb dX7_readProgram_42 rfl (lv_at hl 0 rfl) ?_
            refine lv_iload_n hx hb dX7_readProgram_43 rfl (lv_at hl 1 rfl) ?_
            refine r_bipush hx hb dX7_readProgram_44 rfl (fun x44 e44 => ?_)
            have hF := bn hF e44
            have J54 : ∀ (ls : Array Slot) (H : Heap) (locs : List Loc) (t54_1 : Int32) (σj54 : Sg), (0 ≤ t54_1.toInt ∧ t54_1.toInt ≤ 1) → D_X7_readProgram_54 (D_X7_readProgram_0 n0) r16.toInt (σj54 o0) t54_1.toInt = some out → FR σ σj54 o0 → TY z (zA z) σj54 H → va_S (zA z) s.heap H locs → lv_has ls 2 [(0, .ref h0), (1, .int r16)] → W p l e (rmF 4 130) s m ([.ref h0] : List Value).toArray below meth c H locs 0 0 (MQ below (QcV z (fun H => ∃ σ' : Sg, some (σ' o0) = some out ∧ FR σ σ' o0 ∧ TY z (zA z) σ' H)) ([.ref h0] : List Value).toArray s 0 0 (zA z)) (F0 m 54 ls [.int t54_1, .ref h0]) := by
              intro ls H locs t54_1 σj54 j54_t54_1 hF hfr hT hS hl
              unfold D_X7_readProgram_54 at hF
              refine r_iconst hx hb dX7_readProgram_54 (by decide) (by decide) (fun x54 e54 => ?_)
              have hF := bn hF e54
              obtain ⟨s55, hd55, -⟩ := bd1_s hF
              refine cl_Vv (rest := []) hC hK hSK (c_X7_needs l z σj54 h0 (o0) g0 t54_1 x54 s55 hd55 (by omega) (by omega)) k_X7_needs mw_4_177 ⟨rfl, rfl, Nat.le_of_ble_eq_true rfl, Nat.le_of_ble_eq_true rfl⟩ (rv_Model hK hT g0) hT rfl hl.1 rfl (Nat.le_of_ble_eq_true rfl) dX7_readProgram_55 ⟨Nat.zero_le _, Nat.zero_le _⟩ hS (fun _ h => h) (fun _ _ h => h) (fun H locs hpo hS => ?_)
              obtain ⟨σ55, he55, hf55, hT⟩ := hpo
              have hF := bd1_r hF hd55 he55
              have hfr := FR_tr hf55 hfr
              refine lv_aload_n hx hb dX7_readProgram_58 rfl (lv_at hl 0 rfl) ?_
              refine gt_Model_fault hx hb hts ic_Model hown hK hT g0 (hts _ mw_4_85) dX7_readProgram_59 (fun x59 e59 f59 g59 => ?_)
              have hF := bn hF e59
              have J92 : ∀ (ls : Array Slot) (H : Heap) (locs : List Loc) (σj92 : Sg), D_X7_readProgram_92 (D_X7_readProgram_0 n0) (σj92 o0) = some out → FR σ σj92 o0 → TY z (zA z) σj92 H → va_S (zA z) s.heap H locs → lv_has ls 2 [(0, .ref h0), (1, .int r16)] → W p l e (rmF 4 130) s m ([.ref h0] : List Value).toArray below meth c H locs 0 0 (MQ below (QcV z (fun H => ∃ σ' : Sg, some (σ' o0) = some out ∧ FR σ σ' o0 ∧ TY z (zA z) σ' H)) ([.ref h0] : List Value).toArray s 0 0 (zA z)) (F0 m 92 ls []) := by
                intro ls H locs σj92 hF hfr hT hS hl
                unfold D_X7_readProgram_92 at hF
                refine lv_aload_n hx hb dX7_readProgram_92 rfl (lv_at hl 0 rfl) ?_
                obtain ⟨s93, hd93, -⟩ := bd1_s hF
                refine cl_Vv (rest := []) hC hK hSK (c_X7_next l z σj92 h0 (o0) g0 s93 hd93) k_X7_next mw_4_165 ⟨rfl, rfl, Nat.le_of_ble_eq_true rfl, Nat.le_of_ble_eq_true rfl⟩ (rv_Model hK hT g0) hT rfl hl.1 rfl (Nat.le_of_ble_eq_true rfl) dX7_readProgram_93 ⟨Nat.zero_le _, Nat.zero_le _⟩ hS (fun _ h => h) (fun _ _ h => h) (fun H locs hpo hS => ?_)
                obtain ⟨σ93, he93, hf93, hT⟩ := hpo
                have hF := bd1_r hF hd93 he93
                have hfr := FR_tr hf93 hfr
                refine lv_goto (tgt := 0) hx hb dX7_readProgram_96 (by decide) ?_
                exact ih0 ls _ _ σ93 hF hfr hT hS (lv_sub hl [0] rfl)
              refine r_if_ne (tgt := 92) hx hb dX7_readProgram_62 (by decide) (fun c62 => ?_) (fun c62 => ?_)
              · have hF := ifn hF c62
                exact J92 ls _ _ σ55 hF hfr hT hS (lv_sub hl [0, 1] rfl)
              · have hF := ifp hF c62
                refine lv_aload_n hx hb dX7_readProgram_65 rfl (lv_at hl 0 rfl) ?_
                refine gt_Model_draft hx hb hts ic_Model hown hK hT g0 (hts _ mw_4_74) dX7_readProgram_66 (fun q66 hq66 => ?_)
                refine r_bipush hx hb dX7_readProgram_69 rfl (fun x69 e69 => ?_)
                have hF := bn hF e69
                refine lv_aload_n hx hb dX7_readProgram_71 rfl (lv_at hl 0 rfl) ?_
                refine gt_Model_draft hx hb hts ic_Model hown hK hT g0 (hts _ mw_4_74) dX7_readProgram_72 (fun q72 hq72 => ?_)
                refine r_bipush hx hb dX7_readProgram_75 rfl (fun x75 e75 => ?_)
                have hF := bn hF e75
                refine al_43 hx hb hK hT hq72 (by omega) (by omega) dX7_readProgram_77 (fun x77 e77 g77 => ?_)
                have hF := bn hF e77
                have f77 := gd59_31 g77 (by omega)
                refine r_iadd hx hb dX7_readProgram_78 (by omega) (by omega) (fun x78 e78 => ?_)
                have hF := bn hF e78
                refine lv_iload_n hx hb dX7_readProgram_79 rfl (lv_at hl 1 rfl) ?_
                obtain ⟨kv80, hF⟩ := ckd hF
                refine as_43 hx hb hK hT hS hq66 (by omega) (by omega) kv80 dX7_readProgram_80 (fun H locs hT hS => ?_)
                obtain ⟨σ80, hF, hfr, hT⟩ := wrL hF hfr hT
                refine lv_aload_n hx hb dX7_readProgram_81 rfl (lv_at hl 0 rfl) ?_
                refine gt_Model_draft hx hb hts ic_Model hown hK hT g0 (hts _ mw_4_74) dX7_readProgram_82 (fun q82 hq82 => ?_)
                refine r_bipush hx hb dX7_readProgram_85 rfl (fun x85 e85 => ?_)
                have hF := bn hF e85
                refine lv_dup2_11 hx hb dX7_readProgram_87 rfl rfl ?_
                refine al_43 hx hb hK hT hq82 (by omega) (by omega) dX7_readProgram_88 (fun x88 e88 g88 => ?_)
                have hF := bn hF e88
                have f88 := gd59_31 g88 (by omega)
                refine r_iconst hx hb dX7_readProgram_89 (by decide) (by decide) (fun x89 e89 => ?_)
                have hF := bn hF e89
                refine r_iadd hx hb dX7_readProgram_90 (by omega) (by omega) (fun x90 e90 => ?_)
                have hF := bn hF e90
                obtain ⟨kv91, hF⟩ := ckd hF
                refine as_43 hx hb hK hT hS hq82 (by omega) (by omega) kv91 dX7_readProgram_91 (fun H locs hT hS => ?_)
                obtain ⟨σ91, hF, hfr, hT⟩ := wrL hF hfr hT
                exact J92 ls _ _ σ91 hF hfr hT hS (lv_sub hl [0, 1] rfl)
            refine r_icmp_eq (tgt := 53) hx hb dX7_readProgram_46 (by decide) (fun c46 => ?_) (fun c46 => ?_)
            · have hF := ifp hF c46
              refine r_iconst hx hb dX7_readProgram_53 (by decide) (by decide) (fun x53 e53 => ?_)
              have hF := bn hF e53
              exact J54 ls _ _ x53 σ39 (by omega) hF hfr hT hS (lv_sub hl [0, 1] rfl)
            · have hF := ifn hF c46
              refine r_iconst hx hb dX7_readProgram_49 (by decide) (by decide) (fun x49 e49 => ?_)
              have hF := bn hF e49
              refine lv_goto (tgt := 54) hx hb dX7_readProgram_50 (by decide) ?_
              exact J54 ls _ _ x49 σ39 (by omega) hF hfr hT hS (lv_sub hl [0, 1] rfl)
          refine r_icmp_ge (tgt := 37) hx hb dX7_readProgram_30 (by decide) (fun c30 => ?_) (fun c30 => ?_)
          · have hF := ifn hF (Int.not_lt.mpr c30)
            refine r_iconst hx hb dX7_readProgram_37 (by decide) (by decide) (fun x37 e37 => ?_)
            have hF := bn hF e37
            exact J38 ls _ _ x37 σj0 (by omega) hF hfr hT hS (lv_sub hl [1, 0] rfl)
          · have hF := ifp hF c30
            refine r_iconst hx hb dX7_readProgram_33 (by decide) (by decide) (fun x33 e33 => ?_)
            have hF := bn hF e33
            refine lv_goto (tgt := 38) hx hb dX7_readProgram_34 (by decide) ?_
            exact J38 ls _ _ x33 σj0 (by omega) hF hfr hT hS (lv_sub hl [1, 0] rfl)
  exact J0 5000 ls _ _ σ hF hfr hT hS (lv_sub hl [0] rfl)
theorem k_X7_readLine : cBV yX7_readLine cX7_readLine 2 none 0 := ⟨mw_4_183, ms_2_1, mw_1_8, mw_4_184, ⟨by decide, by decide, by decide⟩⟩
set_option maxHeartbeats 4000000 in
set_option maxRecDepth 100000 in
theorem c_X7_readLine (l : Launch) (z : Zt) (σ : Sg) (h0 o0 : Nat) (g0 : zG z h0 = (17, o0)) (out : Lo) (hF : D_X7_readLine (σ o0) = some out) : Met l yX7_readLine (uw yX7_readLine cX7_readLine 2 none) (rmF 5 156) (PcW z [.ref h0] (fun H => TY z (zA z) σ H)) (QcV z (fun H => ∃ σ' : Sg, some (σ' o0) = some out ∧ FR σ σ' o0 ∧ TY z (zA z) σ' H)) 0 0 (zA z) := by
  refine Met.ofW (cc := cX7_readLine) (maxL := 2) (ret := none) (by decide) rfl ?_
  intro p e s m args below meth c s₁ B hml hv
  obtain ⟨rfl, hT, hK, hSK⟩ := hv
  have hx := B.exec
  have hb := B.bytes
  have hr := B.returns
  have hts : ∀ w ∈ lw_ok, w.before ([.ref h0] : List Value).toArray s = true := fun w hw => atoms_spec (ws := uw yX7_readLine cX7_readLine 2 none) B.pre w (List.mem_cons_of_mem _ hw)
  have hown : s.vm.findClass RX7 = some m.cls := findClass_of_methodNamed B.named
  have hlk := B.notSynchronized
  have hC : CallFix p m c cX7_readLine 2 s ([.ref h0] : List Value).toArray lw_ok RX7 := ⟨hx, hb, hml, hown, hts⟩
  have hS : va_S (zA z) s.heap s.heap [] := va_S.rf
  have hl := lv_entry ([.ref h0]) (n := 2) (Nat.le_of_ble_eq_true rfl)
  rw [lg_entry_eq]
  generalize (lg_sl ([.ref h0]) ++ List.replicate (2 - (lg_sl ([.ref h0])).length) Slot.unset).toArray = ls at hl ⊢
  have hl : lv_has ls 2 [(0, .ref h0)] := hl
  show W p l e (rmF 5 156) s m ([.ref h0] : List Value).toArray below meth c s.heap [] 0 0 (MQ below (QcV z (fun H => ∃ σ' : Sg, some (σ' o0) = some out ∧ FR σ σ' o0 ∧ TY z (zA z) σ' H)) ([.ref h0] : List Value).toArray s 0 0 (zA z)) (F0 m 0 ls [])
  have hfr : FR σ σ o0 := FR_rf σ o0
  unfold D_X7_readLine at hF
  refine lv_aload_n hx hb dX7_readLine_0 rfl (lv_at hl 0 rfl) ?_
  refine gt_Model_sort hx hb hts ic_Model hown hK hT g0 (hts _ mw_4_83) dX7_readLine_1 (fun x1 e1 f1 g1 => ?_)
  have hF := bn hF e1
  refine r_iconst hx hb dX7_readLine_4 (by decide) (by decide) (fun x4 e4 => ?_)
  have hF := bn hF e4
  have J17 : ∀ (ls : Array Slot) (H : Heap) (locs : List Loc) (t17_0 : Int32) (σj17 : Sg), (-4 ≤ t17_0.toInt ∧ t17_0.toInt ≤ 5) → D_X7_readLine_17 (σj17 o0) t17_0.toInt = some out → FR σ σj17 o0 → TY z (zA z) σj17 H → va_S (zA z) s.heap H locs → lv_has ls 2 [(0, .ref h0)] → W p l e (rmF 5 156) s m ([.ref h0] : List Value).toArray below meth c H locs 0 0 (MQ below (QcV z (fun H => ∃ σ' : Sg, some (σ' o0) = some out ∧ FR σ σ' o0 ∧ TY z (zA z) σ' H)) ([.ref h0] : List Value).toArray s 0 0 (zA z)) (F0 m 17 ls [.int t17_0]) := by
    intro ls H locs t17_0 σj17 j17_t17_0 hF hfr hT hS hl
    unfold D_X7_readLine_17 at hF
    refine lv_istore_n (lv' := [(1, .int t17_0), (0, .ref h0)]) hx hb dX7_readLine_17 rfl hl (by decide) rfl (fun ls hl => ?_)
    refine lv_aload_n hx hb dX7_readLine_18 rfl (lv_at hl 1 rfl) ?_
    refine lv_iload_n hx hb dX7_readLine_19 rfl (lv_at hl 0 rfl) ?_
    refine r_bipush hx hb dX7_readLine_20 rfl (fun x20 e20 => ?_)
    have hF := bn hF e20
    have J30 : ∀ (ls : Array Slot) (H : Heap) (locs : List Loc) (t30_1 : Int32) (σj30 : Sg), (0 ≤ t30_1.toInt ∧ t30_1.toInt ≤ 1) → D_X7_readLine_30 t17_0.toInt (σj30 o0) t30_1.toInt = some out → FR σ σj30 o0 → TY z (zA z) σj30 H → va_S (zA z) s.heap H locs → lv_has ls 2 [(0, .ref h0), (1, .int t17_0)] → W p l e (rmF 5 156) s m ([.ref h0] : List Value).toArray below meth c H locs 0 0 (MQ below (QcV z (fun H => ∃ σ' : Sg, some (σ' o0) = some out ∧ FR σ σ' o0 ∧ TY z (zA z) σ' H)) ([.ref h0] : List Value).toArray s 0 0 (zA z)) (F0 m 30 ls [.int t30_1, .ref h0]) := by
      intro ls H locs t30_1 σj30 j30_t30_1 hF hfr hT hS hl
      unfold D_X7_readLine_30 at hF
      refine r_iconst hx hb dX7_readLine_30 (by decide) (by decide) (fun x30 e30 => ?_)
      have hF := bn hF e30
      obtain ⟨s31, hd31, -⟩ := bd1_s hF
      refine cl_Vv (rest := []) hC hK hSK (c_X7_needs l z σj30 h0 (o0) g0 t30_1 x30 s31 hd31 (by omega) (by omega)) k_X7_needs mw_4_177 ⟨rfl, rfl, Nat.le_of_ble_eq_true rfl, Nat.le_of_ble_eq_true rfl⟩ (rv_Model hK hT g0) hT rfl hl.1 rfl (Nat.le_of_ble_eq_true rfl) dX7_readLine_31 ⟨Nat.zero_le _, Nat.zero_le _⟩ hS (fun _ h => h) (fun _ _ h => h) (fun H locs hpo hS => ?_)
      obtain ⟨σ31, he31, hf31, hT⟩ := hpo
      have hF := bd1_r hF hd31 he31
      have hfr := FR_tr hf31 hfr
      refine lv_aload_n hx hb dX7_readLine_34 rfl (lv_at hl 0 rfl) ?_
      refine lv_iload_n hx hb dX7_readLine_35 rfl (lv_at hl 1 rfl) ?_
      refine r_iconst hx hb dX7_readLine_36 (by decide) (by decide) (fun x36 e36 => ?_)
      have hF := bn hF e36
      have J75 : ∀ (ls : Array Slot) (H : Heap) (locs : List Loc) (t75_1 : Int32) (σj75 : Sg), (0 ≤ t75_1.toInt ∧ t75_1.toInt ≤ 1) → D_X7_readLine_75 t17_0.toInt (σj75 o0) t75_1.toInt = some out → FR σ σj75 o0 → TY z (zA z) σj75 H → va_S (zA z) s.heap H locs → lv_has ls 2 [(0, .ref h0), (1, .int t17_0)] → W p l e (rmF 5 156) s m ([.ref h0] : List Value).toArray below meth c H locs 0 0 (MQ below (QcV z (fun H => ∃ σ' : Sg, some (σ' o0) = some out ∧ FR σ σ' o0 ∧ TY z (zA z) σ' H)) ([.ref h0] : List Value).toArray s 0 0 (zA z)) (F0 m 75 ls [.int t75_1, .ref h0]) := by
        intro ls H locs t75_1 σj75 j75_t75_1 hF hfr hT hS hl
        unfold D_X7_readLine_75 at hF
        refine r_iconst hx hb dX7_readLine_75 (by decide) (by decide) (fun x75 e75 => ?_)
        have hF := bn hF e75
        obtain ⟨s76, hd76, -⟩ := bd1_s hF
        refine cl_Vv (rest := []) hC hK hSK (c_X7_needs l z σj75 h0 (o0) g0 t75_1 x75 s76 hd76 (by omega) (by omega)) k_X7_needs mw_4_177 ⟨rfl, rfl, Nat.le_of_ble_eq_true rfl, Nat.le_of_ble_eq_true rfl⟩ (rv_Model hK hT g0) hT rfl hl.1 rfl (Nat.le_of_ble_eq_true rfl) dX7_readLine_76 ⟨Nat.zero_le _, Nat.zero_le _⟩ hS (fun _ h => h) (fun _ _ h => h) (fun H locs hpo hS => ?_)
        obtain ⟨σ76, he76, hf76, hT⟩ := hpo
        have hF := bd1_r hF hd76 he76
        have hfr := FR_tr hf76 hfr
        refine lv_aload_n hx hb dX7_readLine_79 rfl (lv_at hl 0 rfl) ?_
        refine lv_iload_n hx hb dX7_readLine_80 rfl (lv_at hl 1 rfl) ?_
        refine r_iconst hx hb dX7_readLine_81 (by decide) (by decide) (fun x81 e81 => ?_)
        have hF := bn hF e81
        have J97 : ∀ (ls : Array Slot) (H : Heap) (locs : List Loc) (t97_1 : Int32) (σj97 : Sg), (0 ≤ t97_1.toInt ∧ t97_1.toInt ≤ 1) → D_X7_readLine_97 t17_0.toInt (σj97 o0) t97_1.toInt = some out → FR σ σj97 o0 → TY z (zA z) σj97 H → va_S (zA z) s.heap H locs → lv_has ls 2 [(0, .ref h0), (1, .int t17_0)] → W p l e (rmF 5 156) s m ([.ref h0] : List Value).toArray below meth c H locs 0 0 (MQ below (QcV z (fun H => ∃ σ' : Sg, some (σ' o0) = some out ∧ FR σ σ' o0 ∧ TY z (zA z) σ' H)) ([.ref h0] : List Value).toArray s 0 0 (zA z)) (F0 m 97 ls [.int t97_1, .ref h0]) := by
          intro ls H locs t97_1 σj97 j97_t97_1 hF hfr hT hS hl
          unfold D_X7_readLine_97 at hF
          refine r_iconst hx hb dX7_readLine_97 (by decide) (by decide) (fun x97 e97 => ?_)
          have hF := bn hF e97
          obtain ⟨s98, hd98, -⟩ := bd1_s hF
          refine cl_Vv (rest := []) hC hK hSK (c_X7_needs l z σj97 h0 (o0) g0 t97_1 x97 s98 hd98 (by omega) (by omega)) k_X7_needs mw_4_177 ⟨rfl, rfl, Nat.le_of_ble_eq_true rfl, Nat.le_of_ble_eq_true rfl⟩ (rv_Model hK hT g0) hT rfl hl.1 rfl (Nat.le_of_ble_eq_true rfl) dX7_readLine_98 ⟨Nat.zero_le _, Nat.zero_le _⟩ hS (fun _ h => h) (fun _ _ h => h) (fun H locs hpo hS => ?_)
          obtain ⟨σ98, he98, hf98, hT⟩ := hpo
          have hF := bd1_r hF hd98 he98
          have hfr := FR_tr hf98 hfr
          refine lv_aload_n hx hb dX7_readLine_101 rfl (lv_at hl 0 rfl) ?_
          refine lv_aload_n hx hb dX7_readLine_102 rfl (lv_at hl 0 rfl) ?_
          refine gt_Model_hasProgram hx hb hts ic_Model hown hK hT g0 (hts _ mw_4_77) dX7_readLine_103 (fun x103 e103 f103 g103 => ?_)
          have hF := bn hF e103
          have J119 : ∀ (ls : Array Slot) (H : Heap) (locs : List Loc) (t119_1 : Int32) (σj119 : Sg), (0 ≤ t119_1.toInt ∧ t119_1.toInt ≤ 1) → D_X7_readLine_119 t17_0.toInt (σj119 o0) t119_1.toInt = some out → FR σ σj119 o0 → TY z (zA z) σj119 H → va_S (zA z) s.heap H locs → lv_has ls 2 [(0, .ref h0), (1, .int t17_0)] → W p l e (rmF 5 156) s m ([.ref h0] : List Value).toArray below meth c H locs 0 0 (MQ below (QcV z (fun H => ∃ σ' : Sg, some (σ' o0) = some out ∧ FR σ σ' o0 ∧ TY z (zA z) σ' H)) ([.ref h0] : List Value).toArray s 0 0 (zA z)) (F0 m 119 ls [.int t119_1, .ref h0]) := by
            intro ls H locs t119_1 σj119 j119_t119_1 hF hfr hT hS hl
            unfold D_X7_readLine_119 at hF
            refine pt_Model_hasProgram hx hb hts ic_Model hown hK hT hS g0 (hts _ mw_4_77) (by omega) (by omega) dX7_readLine_119 (fun H locs hT hS => ?_)
            obtain ⟨σ119, hF, hfr, hT⟩ := wrL hF hfr hT
            refine lv_aload_n hx hb dX7_readLine_122 rfl (lv_at hl 0 rfl) ?_
            obtain ⟨s123, hd123, -⟩ := bd1_s hF
            refine cl_Vv (rest := []) hC hK hSK (c_X7_next l z σ119 h0 (o0) g0 s123 hd123) k_X7_next mw_4_165 ⟨rfl, rfl, Nat.le_of_ble_eq_true rfl, Nat.le_of_ble_eq_true rfl⟩ (rv_Model hK hT g0) hT rfl hl.1 rfl (Nat.le_of_ble_eq_true rfl) dX7_readLine_123 ⟨Nat.zero_le _, Nat.zero_le _⟩ hS (fun _ h => h) (fun _ _ h => h) (fun H locs hpo hS => ?_)
            obtain ⟨σ123, he123, hf123, hT⟩ := hpo
            have hF := bd1_r hF hd123 he123
            have hfr := FR_tr hf123 hfr
            refine lv_aload_n hx hb dX7_readLine_126 rfl (lv_at hl 0 rfl) ?_
            refine gt_Model_fault hx hb hts ic_Model hown hK hT g0 (hts _ mw_4_85) dX7_readLine_127 (fun x127 e127 f127 g127 => ?_)
            have hF := bn hF e127
            refine r_if_le (tgt := 134) hx hb dX7_readLine_130 (by decide) (fun c130 => ?_) (fun c130 => ?_)
            · have hF := ifn hF (Int.not_lt.mpr c130)
              refine lv_iload_n hx hb dX7_readLine_134 rfl (lv_at hl 1 rfl) ?_
              refine r_iconst hx hb dX7_readLine_135 (by decide) (by decide) (fun x135 e135 => ?_)
              have hF := bn hF e135
              have J163 : ∀ (ls : Array Slot) (H : Heap) (locs : List Loc) (σj163 : Sg), D_X7_readLine_163 (σj163 o0) = some out → FR σ σj163 o0 → TY z (zA z) σj163 H → va_S (zA z) s.heap H locs → lv_has ls 2 [(0, .ref h0), (1, .int t17_0)] → W p l e (rmF 5 156) s m ([.ref h0] : List Value).toArray below meth c H locs 0 0 (MQ below (QcV z (fun H => ∃ σ' : Sg, some (σ' o0) = some out ∧ FR σ σ' o0 ∧ TY z (zA z) σ' H)) ([.ref h0] : List Value).toArray s 0 0 (zA z)) (F0 m 163 ls []) := by
                intro ls H locs σj163 hF hfr hT hS hl
                unfold D_X7_readLine_163 at hF
                refine lv_aload_n hx hb dX7_readLine_163 rfl (lv_at hl 0 rfl) ?_
                refine gt_Model_fault hx hb hts ic_Model hown hK hT g0 (hts _ mw_4_85) dX7_readLine_164 (fun x164 e164 f164 g164 => ?_)
                have hF := bn hF e164
                have J188 : ∀ (ls : Array Slot) (H : Heap) (locs : List Loc) (σj188 : Sg), D_X7_readLine_188 (σj188 o0) = some out → FR σ σj188 o0 → TY z (zA z) σj188 H → va_S (zA z) s.heap H locs → lv_has ls 2 [(0, .ref h0), (1, .int t17_0)] → W p l e (rmF 5 156) s m ([.ref h0] : List Value).toArray below meth c H locs 0 0 (MQ below (QcV z (fun H => ∃ σ' : Sg, some (σ' o0) = some out ∧ FR σ σ' o0 ∧ TY z (zA z) σ' H)) ([.ref h0] : List Value).toArray s 0 0 (zA z)) (F0 m 188 ls []) := by
                  intro ls H locs σj188 hF hfr hT hS hl
                  unfold D_X7_readLine_188 at hF
                  refine lv_aload_n hx hb dX7_readLine_188 rfl (lv_at hl 0 rfl) ?_
                  obtain ⟨s189, hd189, -⟩ := bd1_s hF
                  refine cl_Vv (rest := []) hC hK hSK (c_X7_next l z σj188 h0 (o0) g0 s189 hd189) k_X7_next mw_4_165 ⟨rfl, rfl, Nat.le_of_ble_eq_true rfl, Nat.le_of_ble_eq_true rfl⟩ (rv_Model hK hT g0) hT rfl hl.1 rfl (Nat.le_of_ble_eq_true rfl) dX7_readLine_189 ⟨Nat.zero_le _, Nat.zero_le _⟩ hS (fun _ h => h) (fun _ _ h => h) (fun H locs hpo hS => ?_)
                  obtain ⟨σ189, he189, hf189, hT⟩ := hpo
                  have hF := bd1_r hF hd189 he189
                  have hfr := FR_tr hf189 hfr
                  exact rt_v hx hb hr hlk hS ⟨σ189, hF, hfr, hT⟩ dX7_readLine_192
                refine r_if_ne (tgt := 188) hx hb dX7_readLine_167 (by decide) (fun c167 => ?_) (fun c167 => ?_)
                · have hF := ifn hF c167
                  exact J188 ls _ _ σj163 hF hfr hT hS (lv_sub hl [0, 1] rfl)
                · have hF := ifp hF c167
                  refine lv_aload_n hx hb dX7_readLine_170 rfl (lv_at hl 0 rfl) ?_
                  refine lv_aload_n hx hb dX7_readLine_171 rfl (lv_at hl 0 rfl) ?_
                  refine gt_Model_sort hx hb hts ic_Model hown hK hT g0 (hts _ mw_4_83) dX7_readLine_172 (fun x172 e172 f172 g172 => ?_)
                  have hF := bn hF e172
                  refine r_iconst hx hb dX7_readLine_175 (by decide) (by decide) (fun x175 e175 => ?_)
                  have hF := bn hF e175
                  have J184 : ∀ (ls : Array Slot) (H : Heap) (locs : List Loc) (t184_1 : Int32) (σj184 : Sg), (0 ≤ t184_1.toInt ∧ t184_1.toInt ≤ 1) → D_X7_readLine_184 (σj184 o0) t184_1.toInt = some out → FR σ σj184 o0 → TY z (zA z) σj184 H → va_S (zA z) s.heap H locs → lv_has ls 2 [(0, .ref h0), (1, .int t17_0)] → W p l e (rmF 5 156) s m ([.ref h0] : List Value).toArray below meth c H locs 0 0 (MQ below (QcV z (fun H => ∃ σ' : Sg, some (σ' o0) = some out ∧ FR σ σ' o0 ∧ TY z (zA z) σ' H)) ([.ref h0] : List Value).toArray s 0 0 (zA z)) (F0 m 184 ls [.int t184_1, .ref h0]) := by
                    intro ls H locs t184_1 σj184 j184_t184_1 hF hfr hT hS hl
                    unfold D_X7_readLine_184 at hF
                    refine r_iconst hx hb dX7_readLine_184 (by decide) (by decide) (fun x184 e184 => ?_)
                    have hF := bn hF e184
                    obtain ⟨s185, hd185, -⟩ := bd1_s hF
                    refine cl_Vv (rest := []) hC hK hSK (c_X7_needs l z σj184 h0 (o0) g0 t184_1 x184 s185 hd185 (by omega) (by omega)) k_X7_needs mw_4_177 ⟨rfl, rfl, Nat.le_of_ble_eq_true rfl, Nat.le_of_ble_eq_true rfl⟩ (rv_Model hK hT g0) hT rfl hl.1 rfl (Nat.le_of_ble_eq_true rfl) dX7_readLine_185 ⟨Nat.zero_le _, Nat.zero_le _⟩ hS (fun _ h => h) (fun _ _ h => h) (fun H locs hpo hS => ?_)
                    obtain ⟨σ185, he185, hf185, hT⟩ := hpo
                    have hF := bd1_r hF hd185 he185
                    have hfr := FR_tr hf185 hfr
                    exact J188 ls _ _ σ185 hF hfr hT hS (lv_sub hl [0, 1] rfl)
                  refine r_icmp_ne (tgt := 183) hx hb dX7_readLine_176 (by decide) (fun c176 => ?_) (fun c176 => ?_)
                  · have hF := ifn hF c176
                    refine r_iconst hx hb dX7_readLine_183 (by decide) (by decide) (fun x183 e183 => ?_)
                    have hF := bn hF e183
                    exact J184 ls _ _ x183 σj163 (by omega) hF hfr hT hS (lv_sub hl [0, 1] rfl)
                  · have hF := ifp hF c176
                    refine r_iconst hx hb dX7_readLine_179 (by decide) (by decide) (fun x179 e179 => ?_)
                    have hF := bn hF e179
                    refine lv_goto (tgt := 184) hx hb dX7_readLine_180 (by decide) ?_
                    exact J184 ls _ _ x179 σj163 (by omega) hF hfr hT hS (lv_sub hl [0, 1] rfl)
              refine r_icmp_ne (tgt := 146) hx hb dX7_readLine_136 (by decide) (fun c136 => ?_) (fun c136 => ?_)
              · have hF := ifn hF c136
                refine lv_iload_n hx hb dX7_readLine_146 rfl (lv_at hl 1 rfl) ?_
                refine r_iconst hx hb dX7_readLine_147 (by decide) (by decide) (fun x147 e147 => ?_)
                have hF := bn hF e147
                refine r_icmp_ne (tgt := 158) hx hb dX7_readLine_148 (by decide) (fun c148 => ?_) (fun c148 => ?_)
                · have hF := ifn hF c148
                  refine lv_aload_n hx hb dX7_readLine_158 rfl (lv_at hl 0 rfl) ?_
                  refine lv_iload_n hx hb dX7_readLine_159 rfl (lv_at hl 1 rfl) ?_
                  obtain ⟨s160, hd160, -⟩ := bd1_s hF
                  refine cl_Vv (rest := []) hC hK hSK (c_X7_readMan l z σ123 h0 (o0) g0 t17_0 s160 hd160) k_X7_readMan mw_4_217 ⟨rfl, rfl, Nat.le_of_ble_eq_true rfl, Nat.le_of_ble_eq_true rfl⟩ (rv_Model hK hT g0) hT rfl hl.1 rfl (Nat.le_of_ble_eq_true rfl) dX7_readLine_160 ⟨Nat.zero_le _, Nat.zero_le _⟩ hS (fun _ h => h) (fun _ _ h => h) (fun H locs hpo hS => ?_)
                  obtain ⟨σ160, he160, hf160, hT⟩ := hpo
                  have hF := bd1_r hF hd160 he160
                  have hfr := FR_tr hf160 hfr
                  exact J163 ls _ _ σ160 hF hfr hT hS (lv_sub hl [0, 1] rfl)
                · have hF := ifp hF c148
                  refine lv_aload_n hx hb dX7_readLine_151 rfl (lv_at hl 0 rfl) ?_
                  obtain ⟨s152, hd152, -⟩ := bd1_s hF
                  refine cl_Vv (rest := []) hC hK hSK (c_X7_readProgram l z σ123 h0 (o0) g0 s152 hd152) k_X7_readProgram mw_4_209 ⟨rfl, rfl, Nat.le_of_ble_eq_true rfl, Nat.le_of_ble_eq_true rfl⟩ (rv_Model hK hT g0) hT rfl hl.1 rfl (Nat.le_of_ble_eq_true rfl) dX7_readLine_152 ⟨Nat.zero_le _, Nat.zero_le _⟩ hS (fun _ h => h) (fun _ _ h => h) (fun H locs hpo hS => ?_)
                  obtain ⟨σ152, he152, hf152, hT⟩ := hpo
                  have hF := bd1_r hF hd152 he152
                  have hfr := FR_tr hf152 hfr
                  refine lv_goto (tgt := 163) hx hb dX7_readLine_155 (by decide) ?_
                  exact J163 ls _ _ σ152 hF hfr hT hS (lv_sub hl [0, 1] rfl)
              · have hF := ifp hF c136
                refine lv_aload_n hx hb dX7_readLine_139 rfl (lv_at hl 0 rfl) ?_
                obtain ⟨s140, hd140, -⟩ := bd1_s hF
                refine cl_Vv (rest := []) hC hK hSK (c_X7_readCousins l z σ123 h0 (o0) g0 s140 hd140) k_X7_readCousins mw_4_197 ⟨rfl, rfl, Nat.le_of_ble_eq_true rfl, Nat.le_of_ble_eq_true rfl⟩ (rv_Model hK hT g0) hT rfl hl.1 rfl (Nat.le_of_ble_eq_true rfl) dX7_readLine_140 ⟨Nat.zero_le _, Nat.zero_le _⟩ hS (fun _ h => h) (fun _ _ h => h) (fun H locs hpo hS => ?_)
                obtain ⟨σ140, he140, hf140, hT⟩ := hpo
                have hF := bd1_r hF hd140 he140
                have hfr := FR_tr hf140 hfr
                refine lv_goto (tgt := 163) hx hb dX7_readLine_143 (by decide) ?_
                exact J163 ls _ _ σ140 hF hfr hT hS (lv_sub hl [0, 1] rfl)
            · have hF := ifp hF c130
              exact rt_v hx hb hr hlk hS ⟨σ123, hF, hfr, hT⟩ dX7_readLine_133
          have J114 : ∀ (ls : Array Slot) (H : Heap) (locs : List Loc) (σj114 : Sg), D_X7_readLine_114 t17_0.toInt (σj114 o0) = some out → FR σ σj114 o0 → TY z (zA z) σj114 H → va_S (zA z) s.heap H locs → lv_has ls 2 [(0, .ref h0), (1, .int t17_0)] → W p l e (rmF 5 156) s m ([.ref h0] : List Value).toArray below meth c H locs 0 0 (MQ below (QcV z (fun H => ∃ σ' : Sg, some (σ' o0) = some out ∧ FR σ σ' o0 ∧ TY z (zA z) σ' H)) ([.ref h0] : List Value).toArray s 0 0 (zA z)) (F0 m 114 ls [.ref h0]) := by
            intro ls H locs σj114 hF hfr hT hS hl
            unfold D_X7_readLine_114 at hF
            refine r_iconst hx hb dX7_readLine_114 (by decide) (by decide) (fun x114 e114 => ?_)
            have hF := bn hF e114
            refine lv_goto (tgt := 119) hx hb dX7_readLine_115 (by decide) ?_
            exact J119 ls _ _ x114 σj114 (by omega) hF hfr hT hS (lv_sub hl [0, 1] rfl)
          refine r_if_ne (tgt := 114) hx hb dX7_readLine_106 (by decide) (fun c106 => ?_) (fun c106 => ?_)
          · have hF := ifn hF c106
            exact J114 ls _ _ σ98 hF hfr hT hS (lv_sub hl [0, 1] rfl)
          · have hF := ifp hF c106
            refine lv_iload_n hx hb dX7_readLine_109 rfl (lv_at hl 1 rfl) ?_
            refine r_iconst hx hb dX7_readLine_110 (by decide) (by decide) (fun x110 e110 => ?_)
            have hF := bn hF e110
            refine r_icmp_ne (tgt := 118) hx hb dX7_readLine_111 (by decide) (fun c111 => ?_) (fun c111 => ?_)
            · have hF := ifn hF c111
              refine r_iconst hx hb dX7_readLine_118 (by decide) (by decide) (fun x118 e118 => ?_)
              have hF := bn hF e118
              exact J119 ls _ _ x118 σ98 (by omega) hF hfr hT hS (lv_sub hl [0, 1] rfl)
            · have hF := ifp hF c111
              exact J114 ls _ _ σ98 hF hfr hT hS (lv_sub hl [0, 1] rfl)
        have J92 : ∀ (ls : Array Slot) (H : Heap) (locs : List Loc) (σj92 : Sg), D_X7_readLine_92 t17_0.toInt (σj92 o0) = some out → FR σ σj92 o0 → TY z (zA z) σj92 H → va_S (zA z) s.heap H locs → lv_has ls 2 [(0, .ref h0), (1, .int t17_0)] → W p l e (rmF 5 156) s m ([.ref h0] : List Value).toArray below meth c H locs 0 0 (MQ below (QcV z (fun H => ∃ σ' : Sg, some (σ' o0) = some out ∧ FR σ σ' o0 ∧ TY z (zA z) σ' H)) ([.ref h0] : List Value).toArray s 0 0 (zA z)) (F0 m 92 ls [.ref h0]) := by
          intro ls H locs σj92 hF hfr hT hS hl
          unfold D_X7_readLine_92 at hF
          refine r_iconst hx hb dX7_readLine_92 (by decide) (by decide) (fun x92 e92 => ?_)
          have hF := bn hF e92
          refine lv_goto (tgt := 97) hx hb dX7_readLine_93 (by decide) ?_
          exact J97 ls _ _ x92 σj92 (by omega) hF hfr hT hS (lv_sub hl [0, 1] rfl)
        refine r_icmp_ne (tgt := 92) hx hb dX7_readLine_82 (by decide) (fun c82 => ?_) (fun c82 => ?_)
        · have hF := ifn hF c82
          exact J92 ls _ _ σ76 hF hfr hT hS (lv_sub hl [0, 1] rfl)
        · have hF := ifp hF c82
          refine lv_aload_n hx hb dX7_readLine_85 rfl (lv_at hl 0 rfl) ?_
          refine gt_Model_hasProgram hx hb hts ic_Model hown hK hT g0 (hts _ mw_4_77) dX7_readLine_86 (fun x86 e86 f86 g86 => ?_)
          have hF := bn hF e86
          refine r_if_ne (tgt := 96) hx hb dX7_readLine_89 (by decide) (fun c89 => ?_) (fun c89 => ?_)
          · have hF := ifn hF c89
            refine r_iconst hx hb dX7_readLine_96 (by decide) (by decide) (fun x96 e96 => ?_)
            have hF := bn hF e96
            exact J97 ls _ _ x96 σ76 (by omega) hF hfr hT hS (lv_sub hl [0, 1] rfl)
          · have hF := ifp hF c89
            exact J92 ls _ _ σ76 hF hfr hT hS (lv_sub hl [0, 1] rfl)
      refine r_icmp_ne (tgt := 57) hx hb dX7_readLine_37 (by decide) (fun c37 => ?_) (fun c37 => ?_)
      · have hF := ifn hF c37
        refine lv_iload_n hx hb dX7_readLine_57 rfl (lv_at hl 1 rfl) ?_
        refine r_iconst hx hb dX7_readLine_58 (by decide) (by decide) (fun x58 e58 => ?_)
        have hF := bn hF e58
        have J70 : ∀ (ls : Array Slot) (H : Heap) (locs : List Loc) (σj70 : Sg), D_X7_readLine_70 t17_0.toInt (σj70 o0) = some out → FR σ σj70 o0 → TY z (zA z) σj70 H → va_S (zA z) s.heap H locs → lv_has ls 2 [(0, .ref h0), (1, .int t17_0)] → W p l e (rmF 5 156) s m ([.ref h0] : List Value).toArray below meth c H locs 0 0 (MQ below (QcV z (fun H => ∃ σ' : Sg, some (σ' o0) = some out ∧ FR σ σ' o0 ∧ TY z (zA z) σ' H)) ([.ref h0] : List Value).toArray s 0 0 (zA z)) (F0 m 70 ls [.ref h0]) := by
          intro ls H locs σj70 hF hfr hT hS hl
          unfold D_X7_readLine_70 at hF
          refine r_iconst hx hb dX7_readLine_70 (by decide) (by decide) (fun x70 e70 => ?_)
          have hF := bn hF e70
          refine lv_goto (tgt := 75) hx hb dX7_readLine_71 (by decide) ?_
          exact J75 ls _ _ x70 σj70 (by omega) hF hfr hT hS (lv_sub hl [0, 1] rfl)
        refine r_icmp_eq (tgt := 70) hx hb dX7_readLine_59 (by decide) (fun c59 => ?_) (fun c59 => ?_)
        · have hF := ifp hF c59
          exact J70 ls _ _ σ31 hF hfr hT hS (lv_sub hl [0, 1] rfl)
        · have hF := ifn hF c59
          refine lv_aload_n hx hb dX7_readLine_62 rfl (lv_at hl 0 rfl) ?_
          refine gt_Model_dMen hx hb hts ic_Model hown hK hT g0 (hts _ mw_4_75) dX7_readLine_63 (fun x63 e63 f63 g63 => ?_)
          have hF := bn hF e63
          refine r_iconst hx hb dX7_readLine_66 (by decide) (by decide) (fun x66 e66 => ?_)
          have hF := bn hF e66
          refine r_icmp_ge (tgt := 74) hx hb dX7_readLine_67 (by decide) (fun c67 => ?_) (fun c67 => ?_)
          · have hF := ifn hF (Int.not_lt.mpr c67)
            refine r_iconst hx hb dX7_readLine_74 (by decide) (by decide) (fun x74 e74 => ?_)
            have hF := bn hF e74
            exact J75 ls _ _ x74 σ31 (by omega) hF hfr hT hS (lv_sub hl [0, 1] rfl)
          · have hF := ifp hF c67
            exact J70 ls _ _ σ31 hF hfr hT hS (lv_sub hl [0, 1] rfl)
      · have hF := ifp hF c37
        refine lv_aload_n hx hb dX7_readLine_40 rfl (lv_at hl 0 rfl) ?_
        refine gt_Model_dKin hx hb hts ic_Model hown hK hT g0 (hts _ mw_4_76) dX7_readLine_41 (fun x41 e41 f41 g41 => ?_)
        have hF := bn hF e41
        refine r_bipush hx hb dX7_readLine_44 rfl (fun x44 e44 => ?_)
        have hF := bn hF e44
        refine r_icmp_ge (tgt := 53) hx hb dX7_readLine_46 (by decide) (fun c46 => ?_) (fun c46 => ?_)
        · have hF := ifn hF (Int.not_lt.mpr c46)
          refine r_iconst hx hb dX7_readLine_53 (by decide) (by decide) (fun x53 e53 => ?_)
          have hF := bn hF e53
          refine lv_goto (tgt := 75) hx hb dX7_readLine_54 (by decide) ?_
          exact J75 ls _ _ x53 σ31 (by omega) hF hfr hT hS (lv_sub hl [0, 1] rfl)
        · have hF := ifp hF c46
          refine r_iconst hx hb dX7_readLine_49 (by decide) (by decide) (fun x49 e49 => ?_)
          have hF := bn hF e49
          refine lv_goto (tgt := 75) hx hb dX7_readLine_50 (by decide) ?_
          exact J75 ls _ _ x49 σ31 (by omega) hF hfr hT hS (lv_sub hl [0, 1] rfl)
    refine r_icmp_eq (tgt := 29) hx hb dX7_readLine_22 (by decide) (fun c22 => ?_) (fun c22 => ?_)
    · have hF := ifp hF c22
      refine r_iconst hx hb dX7_readLine_29 (by decide) (by decide) (fun x29 e29 => ?_)
      have hF := bn hF e29
      exact J30 ls _ _ x29 σj17 (by omega) hF hfr hT hS (lv_sub hl [1, 0] rfl)
    · have hF := ifn hF c22
      refine r_iconst hx hb dX7_readLine_25 (by decide) (by decide) (fun x25 e25 => ?_)
      have hF := bn hF e25
      refine lv_goto (tgt := 30) hx hb dX7_readLine_26 (by decide) ?_
      exact J30 ls _ _ x25 σj17 (by omega) hF hfr hT hS (lv_sub hl [1, 0] rfl)
  refine r_icmp_ne (tgt := 15) hx hb dX7_readLine_5 (by decide) (fun c5 => ?_) (fun c5 => ?_)
  · have hF := ifn hF c5
    refine r_bipush hx hb dX7_readLine_15 rfl (fun x15 e15 => ?_)
    have hF := bn hF e15
    exact J17 ls _ _ x15 σ (by omega) hF hfr hT hS (lv_sub hl [0] rfl)
  · have hF := ifp hF c5
    refine lv_aload_n hx hb dX7_readLine_8 rfl (lv_at hl 0 rfl) ?_
    obtain ⟨v9, hd9, -⟩ := bd0_s hF
    refine cl_Vi (rest := []) hC hK hSK (c_X7_lineNow l z σ h0 (o0) g0 v9 hd9) k_X7_lineNow mw_4_185 ⟨rfl, rfl, Nat.le_of_ble_eq_true rfl, Nat.le_of_ble_eq_true rfl⟩ (rv_Model hK hT g0) hT rfl hl.1 rfl (Nat.le_of_ble_eq_true rfl) dX7_readLine_9 ⟨Nat.zero_le _, Nat.zero_le _⟩ hS (fun _ h => h) (fun _ _ h => h) (fun r9 H locs hpo hS => ?_)
    obtain ⟨he9, hT, u9_0⟩ := hpo
    have hF := bd0_r hF hd9 he9
    refine lv_goto (tgt := 17) hx hb dX7_readLine_12 (by decide) ?_
    exact J17 ls _ _ r9 σ (by omega) hF hfr hT hS (lv_sub hl [0] rfl)
theorem k_X7_text : cBV yX7_text cX7_text 2 (some .int) 0 := ⟨mw_4_162, mw_4_163, mw_1_8, mw_4_164, ⟨by decide, by decide, by decide⟩⟩
set_option maxHeartbeats 4000000 in
set_option maxRecDepth 100000 in
theorem c_X7_text (l : Launch) (z : Zt) (σ : Sg) (h0 o0 : Nat) (g0 : zG z h0 = (17, o0)) (out : (Int × Lo)) (hF : D_X7_text (σ o0) = some out) : Met l yX7_text (uw yX7_text cX7_text 2 (some .int)) (rmF 6 177) (PcW z [.ref h0] (fun H => TY z (zA z) σ H)) (QcI z (fun r H => ∃ σ' : Sg, some (r.toInt, σ' o0) = some out ∧ FR σ σ' o0 ∧ TY z (zA z) σ' H)) 0 0 (zA z) := by
  refine Met.ofW (cc := cX7_text) (maxL := 2) (ret := (some .int)) (by decide) rfl ?_
  intro p e s m args below meth c s₁ B hml hv
  obtain ⟨rfl, hT, hK, hSK⟩ := hv
  have hx := B.exec
  have hb := B.bytes
  have hr := B.returns
  have hts : ∀ w ∈ lw_ok, w.before ([.ref h0] : List Value).toArray s = true := fun w hw => atoms_spec (ws := uw yX7_text cX7_text 2 (some .int)) B.pre w (List.mem_cons_of_mem _ hw)
  have hown : s.vm.findClass RX7 = some m.cls := findClass_of_methodNamed B.named
  have hlk := B.notSynchronized
  have hC : CallFix p m c cX7_text 2 s ([.ref h0] : List Value).toArray lw_ok RX7 := ⟨hx, hb, hml, hown, hts⟩
  have hS : va_S (zA z) s.heap s.heap [] := va_S.rf
  have hl := lv_entry ([.ref h0]) (n := 2) (Nat.le_of_ble_eq_true rfl)
  rw [lg_entry_eq]
  generalize (lg_sl ([.ref h0]) ++ List.replicate (2 - (lg_sl ([.ref h0])).length) Slot.unset).toArray = ls at hl ⊢
  have hl : lv_has ls 2 [(0, .ref h0)] := hl
  show W p l e (rmF 6 177) s m ([.ref h0] : List Value).toArray below meth c s.heap [] 0 0 (MQ below (QcI z (fun r H => ∃ σ' : Sg, some (r.toInt, σ' o0) = some out ∧ FR σ σ' o0 ∧ TY z (zA z) σ' H)) ([.ref h0] : List Value).toArray s 0 0 (zA z)) (F0 m 0 ls [])
  have hfr : FR σ σ o0 := FR_rf σ o0
  unfold D_X7_text at hF
  refine r_iconst hx hb dX7_text_0 (by decide) (by decide) (fun x0 e0 => ?_)
  have hF := bn hF e0
  refine lv_istore_n (lv' := [(1, .int x0), (0, .ref h0)]) hx hb dX7_text_1 rfl hl (by decide) rfl (fun ls hl => ?_)
  refine lv_aload_n hx hb dX7_text_2 rfl (lv_at hl 1 rfl) ?_
  refine r_iconst hx hb dX7_text_3 (by decide) (by decide) (fun x3 e3 => ?_)
  have hF := bn hF e3
  refine pt_Model_fault hx hb hts ic_Model hown hK hT hS g0 (hts _ mw_4_85) (by omega) (by omega) dX7_text_4 (fun H locs hT hS => ?_)
  obtain ⟨σ4, hF, hfr, hT⟩ := wrL hF hfr hT
  refine lv_aload_n hx hb dX7_text_7 rfl (lv_at hl 1 rfl) ?_
  refine r_iconst hx hb dX7_text_8 (by decide) (by decide) (fun x8 e8 => ?_)
  have hF := bn hF e8
  refine pt_Model_pos hx hb hts ic_Model hown hK hT hS g0 (hts _ mw_4_81) (by omega) (by omega) dX7_text_9 (fun H locs hT hS => ?_)
  obtain ⟨σ9, hF, hfr, hT⟩ := wrL hF hfr hT
  refine lv_aload_n hx hb dX7_text_12 rfl (lv_at hl 1 rfl) ?_
  obtain ⟨s13, hd13, -⟩ := bd1_s hF
  refine cl_Vv (rest := []) hC hK hSK (c_X7_firstDraft l z σ9 h0 (o0) g0 s13 hd13) k_X7_firstDraft mw_4_62 ⟨rfl, rfl, Nat.le_of_ble_eq_true rfl, Nat.le_of_ble_eq_true rfl⟩ (rv_Model hK hT g0) hT rfl hl.1 rfl (Nat.le_of_ble_eq_true rfl) dX7_text_13 ⟨Nat.zero_le _, Nat.zero_le _⟩ hS (fun _ h => h) (fun _ _ h => h) (fun H locs hpo hS => ?_)
  obtain ⟨σ13, he13, hf13, hT⟩ := hpo
  have hF := bd1_r hF hd13 he13
  have hfr := FR_tr hf13 hfr
  refine lv_aload_n hx hb dX7_text_16 rfl (lv_at hl 1 rfl) ?_
  obtain ⟨s17, hd17, -⟩ := bd1_s hF
  refine cl_Vv (rest := []) hC hK hSK (c_X7_next l z σ13 h0 (o0) g0 s17 hd17) k_X7_next mw_4_165 ⟨rfl, rfl, Nat.le_of_ble_eq_true rfl, Nat.le_of_ble_eq_true rfl⟩ (rv_Model hK hT g0) hT rfl hl.1 rfl (Nat.le_of_ble_eq_true rfl) dX7_text_17 ⟨Nat.zero_le _, Nat.zero_le _⟩ hS (fun _ h => h) (fun _ _ h => h) (fun H locs hpo hS => ?_)
  obtain ⟨σ17, he17, hf17, hT⟩ := hpo
  have hF := bd1_r hF hd17 he17
  have hfr := FR_tr hf17 hfr
  have J20 : ∀ (n20 : Nat) (ls : Array Slot) (H : Heap) (locs : List Loc) (y20_1 : Int32) (σj20 : Sg), D_X7_text_20 n20 (σj20 o0) y20_1.toInt = some out → FR σ σj20 o0 → TY z (zA z) σj20 H → va_S (zA z) s.heap H locs → lv_has ls 2 [(0, .ref h0), (1, .int y20_1)] → W p l e (rmF 6 177) s m ([.ref h0] : List Value).toArray below meth c H locs 0 0 (MQ below (QcI z (fun r H => ∃ σ' : Sg, some (r.toInt, σ' o0) = some out ∧ FR σ σ' o0 ∧ TY z (zA z) σ' H)) ([.ref h0] : List Value).toArray s 0 0 (zA z)) (F0 m 20 ls []) := by
    intro n20
    induction n20 with
    | zero => intro ls H locs y20_1 σj20 hF hfr hT hS hl; exact (no_s hF).elim
    | succ n20 ih20 =>
      intro ls H locs y20_1 σj20 hF hfr hT hS hl
      rw [D_X7_text_20.eq_2] at hF
      refine lv_aload_n hx hb dX7_text_20 rfl (lv_at hl 0 rfl) ?_
      refine gt_Model_fault hx hb hts ic_Model hown hK hT g0 (hts _ mw_4_85) dX7_text_21 (fun x21 e21 f21 g21 => ?_)
      have hF := bn hF e21
      have J44 : ∀ (ls : Array Slot) (H : Heap) (locs : List Loc) (σj44 : Sg), D_X7_text_44 y20_1.toInt (σj44 o0) = some out → FR σ σj44 o0 → TY z (zA z) σj44 H → va_S (zA z) s.heap H locs → lv_has ls 2 [(0, .ref h0), (1, .int y20_1)] → W p l e (rmF 6 177) s m ([.ref h0] : List Value).toArray below meth c H locs 0 0 (MQ below (QcI z (fun r H => ∃ σ' : Sg, some (r.toInt, σ' o0) = some out ∧ FR σ σ' o0 ∧ TY z (zA z) σ' H)) ([.ref h0] : List Value).toArray s 0 0 (zA z)) (F0 m 44 ls []) := by
        intro ls H locs σj44 hF hfr hT hS hl
        unfold D_X7_text_44 at hF
        refine lv_aload_n hx hb dX7_text_44 rfl (lv_at hl 0 rfl) ?_
        refine gt_Model_fault hx hb hts ic_Model hown hK hT g0 (hts _ mw_4_85) dX7_text_45 (fun x45 e45 f45 g45 => ?_)
        have hF := bn hF e45
        have J73 : ∀ (ls : Array Slot) (H : Heap) (locs : List Loc) (σj73 : Sg), D_X7_text_73 y20_1.toInt (σj73 o0) = some out → FR σ σj73 o0 → TY z (zA z) σj73 H → va_S (zA z) s.heap H locs → lv_has ls 2 [(0, .ref h0), (1, .int y20_1)] → W p l e (rmF 6 177) s m ([.ref h0] : List Value).toArray below meth c H locs 0 0 (MQ below (QcI z (fun r H => ∃ σ' : Sg, some (r.toInt, σ' o0) = some out ∧ FR σ σ' o0 ∧ TY z (zA z) σ' H)) ([.ref h0] : List Value).toArray s 0 0 (zA z)) (F0 m 73 ls []) := by
          intro ls H locs σj73 hF hfr hT hS hl
          unfold D_X7_text_73 at hF
          refine lv_aload_n hx hb dX7_text_73 rfl (lv_at hl 0 rfl) ?_
          refine r_iconst hx hb dX7_text_74 (by decide) (by decide) (fun x74 e74 => ?_)
          have hF := bn hF e74
          refine pt_Model_taped hx hb hts ic_Model hown hK hT hS g0 (hts _ mw_4_80) (by omega) (by omega) dX7_text_75 (fun H locs hT hS => ?_)
          obtain ⟨σ75, hF, hfr, hT⟩ := wrL hF hfr hT
          refine lv_aload_n hx hb dX7_text_78 rfl (lv_at hl 0 rfl) ?_
          refine gt_Model_fault hx hb hts ic_Model hown hK hT g0 (hts _ mw_4_85) dX7_text_79 (fun x79 e79 f79 g79 => ?_)
          have hF := bn hF e79
          refine r_if_le (tgt := 93) hx hb dX7_text_82 (by decide) (fun c82 => ?_) (fun c82 => ?_)
          · have hF := ifn hF (Int.not_lt.mpr c82)
            refine lv_aload_n hx hb dX7_text_93 rfl (lv_at hl 0 rfl) ?_
            obtain ⟨s94, hd94, -⟩ := bd1_s hF
            refine cl_Vv (rest := []) hC hK hSK (c_X7_keepDraft l z σ75 h0 (o0) g0 s94 hd94) k_X7_keepDraft mw_4_66 ⟨rfl, rfl, Nat.le_of_ble_eq_true rfl, Nat.le_of_ble_eq_true rfl⟩ (rv_Model hK hT g0) hT rfl hl.1 rfl (Nat.le_of_ble_eq_true rfl) dX7_text_94 ⟨Nat.zero_le _, Nat.zero_le _⟩ hS (fun _ h => h) (fun _ _ h => h) (fun H locs hpo hS => ?_)
            obtain ⟨σ94, he94, hf94, hT⟩ := hpo
            have hF := bd1_r hF hd94 he94
            have hfr := FR_tr hf94 hfr
            refine lv_iload_n hx hb dX7_text_97 rfl (lv_at hl 1 rfl) ?_
            exact rt_i hx hb hr hlk hS ⟨σ94, hF, hfr, hT⟩ dX7_text_98
          · have hF := ifp hF c82
            refine r_bipush hx hb dX7_text_85 rfl (fun x85 e85 => ?_)
            have hF := bn hF e85
            refine lv_aload_n hx hb dX7_text_87 rfl (lv_at hl 0 rfl) ?_
            refine gt_Model_wrongAt hx hb hts ic_Model hown hK hT g0 (hts _ mw_4_86) dX7_text_88 (fun x88 e88 f88 g88 => ?_)
            have hF := bn hF e88
            refine r_isub hx hb dX7_text_91 (by omega) (by omega) (fun x91 e91 => ?_)
            have hF := bn hF e91
            exact rt_i hx hb hr hlk hS ⟨σ75, hF, hfr, hT⟩ dX7_text_92
        refine r_if_ne (tgt := 73) hx hb dX7_text_48 (by decide) (fun c48 => ?_) (fun c48 => ?_)
        · have hF := ifn hF c48
          exact J73 ls _ _ σj44 hF hfr hT hS (lv_sub hl [0, 1] rfl)
        · have hF := ifp hF c48
          refine lv_aload_n hx hb dX7_text_51 rfl (lv_at hl 0 rfl) ?_
          refine lv_aload_n hx hb dX7_text_52 rfl (lv_at hl 0 rfl) ?_
          refine gt_Model_highest hx hb hts ic_Model hown hK hT g0 (hts _ mw_4_78) dX7_text_53 (fun x53 e53 f53 g53 => ?_)
          have hF := bn hF e53
          refine lv_aload_n hx hb dX7_text_56 rfl (lv_at hl 0 rfl) ?_
          refine gt_Model_dMen hx hb hts ic_Model hown hK hT g0 (hts _ mw_4_75) dX7_text_57 (fun x57 e57 f57 g57 => ?_)
          have hF := bn hF e57
          have J68 : ∀ (ls : Array Slot) (H : Heap) (locs : List Loc) (t68_1 : Int32) (σj68 : Sg), (0 ≤ t68_1.toInt ∧ t68_1.toInt ≤ 1) → D_X7_text_68 y20_1.toInt (σj68 o0) t68_1.toInt = some out → FR σ σj68 o0 → TY z (zA z) σj68 H → va_S (zA z) s.heap H locs → lv_has ls 2 [(0, .ref h0), (1, .int y20_1)] → W p l e (rmF 6 177) s m ([.ref h0] : List Value).toArray below meth c H locs 0 0 (MQ below (QcI z (fun r H => ∃ σ' : Sg, some (r.toInt, σ' o0) = some out ∧ FR σ σ' o0 ∧ TY z (zA z) σ' H)) ([.ref h0] : List Value).toArray s 0 0 (zA z)) (F0 m 68 ls [.int t68_1, .ref h0]) := by
            intro ls H locs t68_1 σj68 j68_t68_1 hF hfr hT hS hl
            unfold D_X7_text_68 at hF
            refine r_bipush hx hb dX7_text_68 rfl (fun x68 e68 => ?_)
            have hF := bn hF e68
            obtain ⟨s70, hd70, -⟩ := bd1_s hF
            refine cl_Vv (rest := []) hC hK hSK (c_X7_needs l z σj68 h0 (o0) g0 t68_1 x68 s70 hd70 (by omega) (by omega)) k_X7_needs mw_4_177 ⟨rfl, rfl, Nat.le_of_ble_eq_true rfl, Nat.le_of_ble_eq_true rfl⟩ (rv_Model hK hT g0) hT rfl hl.1 rfl (Nat.le_of_ble_eq_true rfl) dX7_text_70 ⟨Nat.zero_le _, Nat.zero_le _⟩ hS (fun _ h => h) (fun _ _ h => h) (fun H locs hpo hS => ?_)
            obtain ⟨σ70, he70, hf70, hT⟩ := hpo
            have hF := bd1_r hF hd70 he70
            have hfr := FR_tr hf70 hfr
            exact J73 ls _ _ σ70 hF hfr hT hS (lv_sub hl [0, 1] rfl)
          refine r_icmp_ge (tgt := 67) hx hb dX7_text_60 (by decide) (fun c60 => ?_) (fun c60 => ?_)
          · have hF := ifn hF (Int.not_lt.mpr c60)
            refine r_iconst hx hb dX7_text_67 (by decide) (by decide) (fun x67 e67 => ?_)
            have hF := bn hF e67
            exact J68 ls _ _ x67 σj44 (by omega) hF hfr hT hS (lv_sub hl [0, 1] rfl)
          · have hF := ifp hF c60
            refine r_iconst hx hb dX7_text_63 (by decide) (by decide) (fun x63 e63 => ?_)
            have hF := bn hF e63
            refine lv_goto (tgt := 68) hx hb dX7_text_64 (by decide) ?_
            exact J68 ls _ _ x63 σj44 (by omega) hF hfr hT hS (lv_sub hl [0, 1] rfl)
      refine r_if_ne (tgt := 44) hx hb dX7_text_24 (by decide) (fun c24 => ?_) (fun c24 => ?_)
      · have hF := ifn hF c24
        exact J44 ls _ _ σj20 hF hfr hT hS (lv_sub hl [0, 1] rfl)
      · have hF := ifp hF c24
        refine lv_aload_n hx hb dX7_text_27 rfl (lv_at hl 0 rfl) ?_
        refine gt_Model_sort hx hb hts ic_Model hown hK hT g0 (hts _ mw_4_83) dX7_text_28 (fun x28 e28 f28 g28 => ?_)
        have hF := bn hF e28
        refine r_if_eq (tgt := 44) hx hb dX7_text_31 (by decide) (fun c31 => ?_) (fun c31 => ?_)
        · have hF := ifp hF c31
          exact J44 ls _ _ σj20 hF hfr hT hS (lv_sub hl [0, 1] rfl)
        · have hF := ifn hF c31
          refine lv_aload_n hx hb dX7_text_34 rfl (lv_at hl 0 rfl) ?_
          obtain ⟨s35, hd35, -⟩ := bd1_s hF
          refine cl_Vv (rest := []) hC hK hSK (c_X7_readLine l z σj20 h0 (o0) g0 s35 hd35) k_X7_readLine mw_4_181 ⟨rfl, rfl, Nat.le_of_ble_eq_true rfl, Nat.le_of_ble_eq_true rfl⟩ (rv_Model hK hT g0) hT rfl hl.1 rfl (Nat.le_of_ble_eq_true rfl) dX7_text_35 ⟨Nat.zero_le _, Nat.zero_le _⟩ hS (fun _ h => h) (fun _ _ h => h) (fun H locs hpo hS => ?_)
          obtain ⟨σ35, he35, hf35, hT⟩ := hpo
          have hF := bd1_r hF hd35 he35
          have hfr := FR_tr hf35 hfr
          refine x_iinc (lv' := fun v__ => [(1, .int v__), (0, .ref h0)]) hx hb dX7_text_38 hl (k := 1) rfl (by decide) (fun _ => rfl) ⟨by decide, by decide⟩ (fun x38 ls e38 hl => ?_)
          have hF := bn hF e38
          refine lv_goto (tgt := 20) hx hb dX7_text_41 (by decide) ?_
          exact ih20 ls _ _ x38 σ35 hF hfr hT hS (lv_sub hl [1, 0] rfl)
  exact J20 5000 ls _ _ x0 σ17 hF hfr hT hS (lv_sub hl [1, 0] rfl)
