theorem k_X1_lineUp : cBV yX1_lineUp cX1_lineUp 3 none 0 := ⟨mw_2_234, mw_2_235, mw_1_4, mw_2_236, ⟨by decide, by decide, by decide⟩⟩
set_option maxHeartbeats 4000000 in
set_option maxRecDepth 100000 in
theorem c_X1_lineUp (l : Launch) (z : Zt) (gh : Gh) (h0 o0 : Nat) (g0 : zG z h0 = (11, o0)) (pr0 : zu z) : Met l yX1_lineUp (uw yX1_lineUp cX1_lineUp 3 none) (rmF 2 87) (PcW z [.ref h0] (fun H => TY z (zA z) gh H)) (QcV z (fun H => ∃ gk : Gh, deq z gk gh ∧ TY z (zA z) gk H ∧ (rkF z gk h0))) 0 0 (zA z) := by
  refine Met.ofW (cc := cX1_lineUp) (maxL := 3) (ret := none) (by decide) rfl ?_
  intro p e s m args below meth c s₁ B hml hv
  obtain ⟨rfl, hW, hK, hSK⟩ := hv
  have hx := B.exec
  have hb := B.bytes
  have hr := B.returns
  have hts : ∀ w ∈ lw_ok, w.before ([.ref h0] : List Value).toArray s = true := fun w hw => atoms_spec (ws := uw yX1_lineUp cX1_lineUp 3 none) B.pre w (List.mem_cons_of_mem _ hw)
  have hown : s.vm.findClass RX1 = some m.cls := findClass_of_methodNamed B.named
  have hlk := B.notSynchronized
  have hC : CallFix p m c cX1_lineUp 3 s ([.ref h0] : List Value).toArray lw_ok RX1 := ⟨hx, hb, hml, hown, hts⟩
  have hS : va_S (zA z) s.heap s.heap [] := va_S.rf
  have hl := lv_entry ([.ref h0]) (n := 3) (Nat.le_of_ble_eq_true rfl)
  rw [lg_entry_eq]
  generalize (lg_sl ([.ref h0]) ++ List.replicate (3 - (lg_sl ([.ref h0])).length) Slot.unset).toArray = ls at hl ⊢
  have hl : lv_has ls 3 [(0, .ref h0)] := hl
  show W p l e (rmF 2 87) s m ([.ref h0] : List Value).toArray below meth c s.heap [] 0 0 (MQ below (QcV z (fun H => ∃ gk : Gh, deq z gk gh ∧ TY z (zA z) gk H ∧ (rkF z gk h0))) ([.ref h0] : List Value).toArray s 0 0 (zA z)) (F0 m 0 ls [])
  have hT : TY z (zA z) gh s.heap := hW
  have hg1 : deq z gh gh := deq_rf z gh
  have hM := (ty_fl hT g0).1
  have hM0 := deq_r hg1 h0 0
  refine r_iconst hx hb dX1_lineUp_0 (by decide) (by decide) (fun x0 e0 => ?_)
  refine lv_istore_n (lv' := [(1, .int x0), (0, .ref h0)]) hx hb dX1_lineUp_1 rfl hl (by decide) rfl (fun ls hl => ?_)
  have J2 : ∀ (n2 : Nat) (ls : Array Slot) (H : Heap) (locs : List Loc) (y2_1 : Int32) (gk : Gh), (0 ≤ y2_1.toInt ∧ y2_1.toInt ≤ 5) → (∀ q, zG z q = (28, h0) → luA (gk.2 q) y2_1.toNatClampNeg) → (y2_1.toInt ≤ gh.1 h0 0) → (5 - y2_1.toInt) < (n2 : Int) → deq z gk gh → TY z (zA z) gk H → va_S (zA z) s.heap H locs → lv_has ls 3 [(0, .ref h0), (1, .int y2_1)] → W p l e (rmF 2 87) s m ([.ref h0] : List Value).toArray below meth c H locs 0 0 (MQ below (QcV z (fun H => ∃ gk : Gh, deq z gk gh ∧ TY z (zA z) gk H ∧ (rkF z gk h0))) ([.ref h0] : List Value).toArray s 0 0 (zA z)) (F0 m 2 ls []) := by
    intro n2
    induction n2 with
    | zero => intro ls H locs y2_1 gk j2_y2_1 ex2_0 ex2_1 mm2 hg1 hT hS hl; exfalso; omega
    | succ n2 ih2 =>
      intro ls H locs y2_1 gk j2_y2_1 ex2_0 ex2_1 mm2 hg1 hT hS hl
      refine lv_iload_n hx hb dX1_lineUp_2 rfl (lv_at hl 1 rfl) ?_
      refine lv_aload_n hx hb dX1_lineUp_3 rfl (lv_at hl 0 rfl) ?_
      refine gt_Floor_men hx hb hts ic_Floor hown hK hT g0 (hts _ mw_1_60) dX1_lineUp_4 (fun x4 i4 e4 g4 => ?_)
      have i4 := i4.trans (deq_r hg1 _ _)
      refine r_icmp_ge (tgt := 76) hx hb dX1_lineUp_7 (by decide) (fun c7 => ?_) (fun c7 => ?_)
      · refine r_iconst hx hb dX1_lineUp_76 (by decide) (by decide) (fun x76 e76 => ?_)
        refine lv_istore_n (lv' := [(1, .int x76), (0, .ref h0)]) hx hb dX1_lineUp_77 rfl hl (by decide) rfl (fun ls hl => ?_)
        have J78 : ∀ (n78 : Nat) (ls : Array Slot) (H : Heap) (locs : List Loc) (y78_1 : Int32) (gk : Gh), (0 ≤ y78_1.toInt ∧ y78_1.toInt ≤ 5) → (∀ q q2, zG z q = (28, h0) → zG z q2 = (29, h0) → luC (gk.2 q) (gk.2 q2) (gh.1 h0 0).toNat y78_1.toNatClampNeg) → (∀ q, zG z q = (28, h0) → luA (gk.2 q) (gh.1 h0 0).toNat) → (y78_1.toInt ≤ gh.1 h0 0) → (5 - y78_1.toInt) < (n78 : Int) → deq z gk gh → TY z (zA z) gk H → va_S (zA z) s.heap H locs → lv_has ls 3 [(0, .ref h0), (1, .int y78_1)] → W p l e (rmF 2 87) s m ([.ref h0] : List Value).toArray below meth c H locs 0 0 (MQ below (QcV z (fun H => ∃ gk : Gh, deq z gk gh ∧ TY z (zA z) gk H ∧ (rkF z gk h0))) ([.ref h0] : List Value).toArray s 0 0 (zA z)) (F0 m 78 ls []) := by
          intro n78
          induction n78 with
          | zero => intro ls H locs y78_1 gk j78_y78_1 ex78_0 ex78_1 ex78_2 mm78 hg1 hT hS hl; exfalso; omega
          | succ n78 ih78 =>
            intro ls H locs y78_1 gk j78_y78_1 ex78_0 ex78_1 ex78_2 mm78 hg1 hT hS hl
            refine lv_iload_n hx hb dX1_lineUp_78 rfl (lv_at hl 1 rfl) ?_
            refine lv_aload_n hx hb dX1_lineUp_79 rfl (lv_at hl 0 rfl) ?_
            refine gt_Floor_men hx hb hts ic_Floor hown hK hT g0 (hts _ mw_1_60) dX1_lineUp_80 (fun x80 i80 e80 g80 => ?_)
            have i80 := i80.trans (deq_r hg1 _ _)
            refine r_icmp_ge (tgt := 104) hx hb dX1_lineUp_83 (by decide) (fun c83 => ?_) (fun c83 => ?_)
            · exact rt_v hx hb hr hlk hS ⟨_, hg1, hT, by
      have e0 := deq_r hg1 h0 0
      have a1 := ix_nat (i := y78_1) (by omega)
      have hM := (ty_fl hT g0).1
      refine ⟨fun q9 h9 i hi => ?_, fun q9 h9 i hi => ?_⟩
      · have h5 := (ex78_1 q9 h9).1 i (by omega)
        omega
      · obtain ⟨q8, h8⟩ := (ty_fl hT g0).2.1
        have e5 : y78_1.toNatClampNeg = (gh.1 h0 0).toNat := by omega
        have h6 := ex78_0 q8 q9 h8 h9
        rw [e5] at h6
        have h5 := luC_all h6 (ex78_1 q8 h8) i (by omega)
        omega⟩ dX1_lineUp_104
            · refine lv_aload_n hx hb dX1_lineUp_86 rfl (lv_at hl 0 rfl) ?_
              refine gt_Floor_rankOf hx hb hts ic_Floor hown hK hT g0 (hts _ mw_1_58) dX1_lineUp_87 (fun q87 hq87 => ?_)
              refine lv_aload_n hx hb dX1_lineUp_90 rfl (lv_at hl 0 rfl) ?_
              refine gt_Floor_byRank hx hb hts ic_Floor hown hK hT g0 (hts _ mw_1_56) dX1_lineUp_91 (fun q91 hq91 => ?_)
              refine lv_iload_n hx hb dX1_lineUp_94 rfl (lv_at hl 1 rfl) ?_
              refine al_28 hx hb hK hT hq91 (by omega) (by omega) dX1_lineUp_95 (fun x95 i95 e95 => ?_)
              have n95 := ix_nat (i := y78_1) (by omega)
              unfold p28 at e95
              refine lv_iload_n hx hb dX1_lineUp_96 rfl (lv_at hl 1 rfl) ?_
              refine as_29 hx hb hK hT hS hq87 (by omega) (by omega) ⟨by omega, by omega⟩ dX1_lineUp_97 (fun H locs hT hS => ?_)
              obtain ⟨gk97, w97, hg1, hT⟩ : ∃ g : Gh, g.2 = (gc gk q87 (upd (gk.2 q87) x95.toNatClampNeg y78_1)).2 ∧ deq z g gh ∧ TY z (zA z) g H := ⟨_, rfl, deq_gc hg1 hq87 (by decide), hT⟩
              refine r_iinc (lv' := fun v__ => [(1, .int v__), (0, .ref h0)]) hx hb dX1_lineUp_98 hl (k := 1) rfl (by decide) (fun _ => rfl) ⟨by decide, by decide⟩ (by omega) (by omega) (fun x98 ls e98 hl => ?_)
              refine lv_goto (tgt := 78) hx hb dX1_lineUp_101 (by decide) ?_
              exact ih78 ls _ _ x98 _ (by omega) (by intro q9 q10 h9 h10; have e9 := zu_at pr0 rfl h9 hq91; have e10 := zu_at pr0 rfl h10 hq87; have hne : q91 ≠ q87 := ro_ne hq91 hq87 (by decide); rw [e9, e10, w97, gc_at, gc_na _ _ _ hne]; have a1 := ix_nat (i := x98) (by omega); have a2 := ix_nat (i := y78_1) (by omega); have e1 : x98.toNatClampNeg = y78_1.toNatClampNeg + 1 := (by omega); rw [e1, i95]; exact luC_s (ex78_0 _ _ hq91 hq87) (by omega) (by omega)) (by intro q9 h9; have hne : q9 ≠ q87 := ro_ne h9 hq87 (by decide); rw [w97, gc_na _ _ _ hne]; exact ex78_1 q9 h9) (by omega) (by omega) hg1 hT hS (lv_sub hl [1, 0] rfl)
        exact J78 (((5 - x76.toInt)).toNat + 1) ls _ _ x76 _ (by omega) (by intro q9 q10 h9 h10; have e9 : x76.toNatClampNeg = 0 := (by have a1 := ix_nat (i := x76) (by omega); omega); rw [e9]; exact luC_0 _ _ _) (by intro q9 h9; have e9 : (gh.1 h0 0).toNat = y2_1.toNatClampNeg := (by have a1 := ix_nat (i := y2_1) (by omega); omega); rw [e9]; exact ex2_0 q9 h9) (by omega) (by omega) hg1 hT hS (lv_sub hl [1, 0] rfl)
      · refine lv_aload_n hx hb dX1_lineUp_10 rfl (lv_at hl 0 rfl) ?_
        refine gt_Floor_statures hx hb hts ic_Floor hown hK hT g0 (hts _ mw_1_55) dX1_lineUp_11 (fun q11 hq11 => ?_)
        refine lv_iload_n hx hb dX1_lineUp_14 rfl (lv_at hl 1 rfl) ?_
        refine lv_aload_n hx hb dX1_lineUp_15 rfl (lv_at hl 0 rfl) ?_
        refine lv_iload_n hx hb dX1_lineUp_16 rfl (lv_at hl 1 rfl) ?_
        refine cl_Vi (rest := [.int y2_1, .ref q11]) hC hK hSK (c_X1_stature l z gk h0 (o0) g0 y2_1 (by omega)) k_X1_stature mw_2_237 ⟨rfl, rfl, Nat.le_of_ble_eq_true rfl, Nat.le_of_ble_eq_true rfl⟩ (rv_Floor hK hT g0) hT rfl hl.1 rfl (Nat.le_of_ble_eq_true rfl) dX1_lineUp_17 ⟨Nat.zero_le _, Nat.zero_le _⟩ hS (fun _ h => h) (fun _ _ h => h) (fun r17 H locs hpo hS => ?_)
        have hT := hpo
        refine as_20 hx hb hK hT hS hq11 (by omega) (by omega) dX1_lineUp_20 (fun H locs hT hS => ?_)
        refine lv_iload_n hx hb dX1_lineUp_21 rfl (lv_at hl 1 rfl) ?_
        refine lv_istore_n (lv' := [(2, .int y2_1), (0, .ref h0), (1, .int y2_1)]) hx hb dX1_lineUp_22 rfl hl (by decide) rfl (fun ls hl => ?_)
        have J23 : ∀ (n23 : Nat) (ls : Array Slot) (H : Heap) (locs : List Loc) (y23_2 : Int32) (gk : Gh), (0 ≤ y23_2.toInt ∧ y23_2.toInt ≤ 4) → (∀ q, zG z q = (28, h0) → luB (gk.2 q) y2_1.toNatClampNeg y23_2.toNatClampNeg) → (y2_1.toInt < gh.1 h0 0) → (y23_2.toInt ≤ y2_1.toInt) → (5 - y2_1.toInt) < ((n2 + 1 : Nat) : Int) → (y23_2.toInt - (0)) < (n23 : Int) → deq z gk gh → TY z (zA z) gk H → va_S (zA z) s.heap H locs → lv_has ls 3 [(0, .ref h0), (1, .int y2_1), (2, .int y23_2)] → W p l e (rmF 2 87) s m ([.ref h0] : List Value).toArray below meth c H locs 0 0 (MQ below (QcV z (fun H => ∃ gk : Gh, deq z gk gh ∧ TY z (zA z) gk H ∧ (rkF z gk h0))) ([.ref h0] : List Value).toArray s 0 0 (zA z)) (F0 m 23 ls []) := by
          intro n23
          induction n23 with
          | zero => intro ls H locs y23_2 gk j23_y23_2 ex23_0 ex23_1 ex23_2 mf23_2 mm23 hg1 hT hS hl; exfalso; omega
          | succ n23 ih23 =>
            intro ls H locs y23_2 gk j23_y23_2 ex23_0 ex23_1 ex23_2 mf23_2 mm23 hg1 hT hS hl
            refine lv_iload_n hx hb dX1_lineUp_23 rfl (lv_at hl 2 rfl) ?_
            have J63 : ∀ (ls : Array Slot) (H : Heap) (locs : List Loc) (gk : Gh), (∀ q, zG z q = (28, h0) → luB (gk.2 q) y2_1.toNatClampNeg y23_2.toNatClampNeg) → (y2_1.toInt < gh.1 h0 0) → (y23_2.toInt ≤ y2_1.toInt) → (5 - y2_1.toInt) < ((n2 + 1 : Nat) : Int) → deq z gk gh → TY z (zA z) gk H → va_S (zA z) s.heap H locs → lv_has ls 3 [(0, .ref h0), (1, .int y2_1), (2, .int y23_2)] → W p l e (rmF 2 87) s m ([.ref h0] : List Value).toArray below meth c H locs 0 0 (MQ below (QcV z (fun H => ∃ gk : Gh, deq z gk gh ∧ TY z (zA z) gk H ∧ (rkF z gk h0))) ([.ref h0] : List Value).toArray s 0 0 (zA z)) (F0 m 63 ls []) := by
              intro ls H locs gk ex63_0 ex63_1 ex63_2 mf63_2 hg1 hT hS hl
              refine lv_aload_n hx hb dX1_lineUp_63 rfl (lv_at hl 0 rfl) ?_
              refine gt_Floor_byRank hx hb hts ic_Floor hown hK hT g0 (hts _ mw_1_56) dX1_lineUp_64 (fun q64 hq64 => ?_)
              refine lv_iload_n hx hb dX1_lineUp_67 rfl (lv_at hl 2 rfl) ?_
              refine lv_iload_n hx hb dX1_lineUp_68 rfl (lv_at hl 1 rfl) ?_
              refine as_28 hx hb hK hT hS hq64 (by omega) (by omega) ⟨by omega, by omega⟩ dX1_lineUp_69 (fun H locs hT hS => ?_)
              obtain ⟨gk69, w69, hg1, hT⟩ : ∃ g : Gh, g.2 = (gc gk q64 (upd (gk.2 q64) y23_2.toNatClampNeg y2_1)).2 ∧ deq z g gh ∧ TY z (zA z) g H := ⟨_, rfl, deq_gc hg1 hq64 (by decide), hT⟩
              refine r_iinc (lv' := fun v__ => [(1, .int v__), (0, .ref h0), (2, .int y23_2)]) hx hb dX1_lineUp_70 hl (k := 1) rfl (by decide) (fun _ => rfl) ⟨by decide, by decide⟩ (by omega) (by omega) (fun x70 ls e70 hl => ?_)
              refine lv_goto (tgt := 2) hx hb dX1_lineUp_73 (by decide) ?_
              exact ih2 ls _ _ x70 _ (by omega) (by intro q9 h9; have e9 := zu_at pr0 rfl h9 hq64; rw [e9, w69, gc_at]; have e1 : x70.toNatClampNeg = y2_1.toNatClampNeg + 1 := (by have a1 := ix_nat (i := x70) (by omega); have a2 := ix_nat (i := y2_1) (by omega); omega); rw [e1]; exact luA_of (ex63_0 _ hq64) (by have a2 := ix_nat (i := y2_1) (by omega); omega)) (by omega) (by omega) hg1 hT hS (lv_sub hl [1, 0] rfl)
            refine r_if_le (tgt := 63) hx hb dX1_lineUp_24 (by decide) (fun c24 => ?_) (fun c24 => ?_)
            · exact J63 ls _ _ _ (by exact ex23_0) (by omega) (by omega) (by omega) hg1 hT hS (lv_sub hl [0, 1, 2] rfl)
            · refine lv_aload_n hx hb dX1_lineUp_27 rfl (lv_at hl 0 rfl) ?_
              refine lv_iload_n hx hb dX1_lineUp_28 rfl (lv_at hl 1 rfl) ?_
              refine lv_aload_n hx hb dX1_lineUp_29 rfl (lv_at hl 0 rfl) ?_
              refine gt_Floor_byRank hx hb hts ic_Floor hown hK hT g0 (hts _ mw_1_56) dX1_lineUp_30 (fun q30 hq30 => ?_)
              refine lv_iload_n hx hb dX1_lineUp_33 rfl (lv_at hl 2 rfl) ?_
              refine r_iconst hx hb dX1_lineUp_34 (by decide) (by decide) (fun x34 e34 => ?_)
              refine r_isub hx hb dX1_lineUp_35 (by omega) (by omega) (fun x35 e35 => ?_)
              refine al_28 hx hb hK hT hq30 (by omega) (by omega) dX1_lineUp_36 (fun x36 i36 e36 => ?_)
              have n36 := ix_nat (i := x35) (by omega)
              unfold p28 at e36
              refine cl_Vi (rest := []) hC hK hSK (c_X1_standsAhead l z gk h0 (o0) g0 y2_1 x36 (by omega) (by omega)) k_X1_standsAhead mw_2_238 ⟨rfl, rfl, Nat.le_of_ble_eq_true rfl, Nat.le_of_ble_eq_true rfl⟩ (rv_Floor hK hT g0) hT rfl hl.1 rfl (Nat.le_of_ble_eq_true rfl) dX1_lineUp_37 ⟨Nat.zero_le _, Nat.zero_le _⟩ hS (fun _ h => h) (fun _ _ h => h) (fun r37 H locs hpo hS => ?_)
              obtain ⟨hT, u37_0⟩ := hpo
              refine r_if_eq (tgt := 63) hx hb dX1_lineUp_40 (by decide) (fun c40 => ?_) (fun c40 => ?_)
              · exact J63 ls _ _ _ (by exact ex23_0) (by omega) (by omega) (by omega) hg1 hT hS (lv_sub hl [0, 1, 2] rfl)
              · refine lv_aload_n hx hb dX1_lineUp_43 rfl (lv_at hl 0 rfl) ?_
                refine gt_Floor_byRank hx hb hts ic_Floor hown hK hT g0 (hts _ mw_1_56) dX1_lineUp_44 (fun q44 hq44 => ?_)
                refine lv_iload_n hx hb dX1_lineUp_47 rfl (lv_at hl 2 rfl) ?_
                refine lv_aload_n hx hb dX1_lineUp_48 rfl (lv_at hl 0 rfl) ?_
                refine gt_Floor_byRank hx hb hts ic_Floor hown hK hT g0 (hts _ mw_1_56) dX1_lineUp_49 (fun q49 hq49 => ?_)
                refine lv_iload_n hx hb dX1_lineUp_52 rfl (lv_at hl 2 rfl) ?_
                refine r_iconst hx hb dX1_lineUp_53 (by decide) (by decide) (fun x53 e53 => ?_)
                refine r_isub hx hb dX1_lineUp_54 (by omega) (by omega) (fun x54 e54 => ?_)
                refine al_28 hx hb hK hT hq49 (by omega) (by omega) dX1_lineUp_55 (fun x55 i55 e55 => ?_)
                have n55 := ix_nat (i := x54) (by omega)
                unfold p28 at e55
                refine as_28 hx hb hK hT hS hq44 (by omega) (by omega) ⟨by omega, by omega⟩ dX1_lineUp_56 (fun H locs hT hS => ?_)
                obtain ⟨gk56, w56, hg1, hT⟩ : ∃ g : Gh, g.2 = (gc gk q44 (upd (gk.2 q44) y23_2.toNatClampNeg x55)).2 ∧ deq z g gh ∧ TY z (zA z) g H := ⟨_, rfl, deq_gc hg1 hq44 (by decide), hT⟩
                refine r_iinc (lv' := fun v__ => [(2, .int v__), (0, .ref h0), (1, .int y2_1)]) hx hb dX1_lineUp_57 hl (k := 2) rfl (by decide) (fun _ => rfl) ⟨by decide, by decide⟩ (by omega) (by omega) (fun x57 ls e57 hl => ?_)
                refine lv_goto (tgt := 23) hx hb dX1_lineUp_60 (by decide) ?_
                exact ih23 ls _ _ x57 _ (by omega) (by intro q9 h9; have e9 := zu_at pr0 rfl h9 hq44; have e8 := zu_at pr0 rfl hq49 hq44; rw [e9, w56, gc_at]; have a1 := ix_nat (i := x57) (by omega); have a2 := ix_nat (i := y23_2) (by omega); have a3 := ix_nat (i := x54) (by omega); have e1 : x57.toNatClampNeg = y23_2.toNatClampNeg - 1 := (by omega); have e2 : x54.toNatClampNeg = y23_2.toNatClampNeg - 1 := (by omega); rw [e1]; exact luB_sh (ex23_0 _ hq44) (by omega) (by rw [i55, e8, e2])) (by omega) (by omega) (by omega) (by omega) hg1 hT hS (lv_sub hl [1, 2, 0] rfl)
        exact J23 (((y2_1.toInt - (0))).toNat + 1) ls _ _ y2_1 _ (by omega) (by intro q9 h9; exact luB_of (ex2_0 q9 h9)) (by omega) (by omega) (by omega) (by omega) hg1 hT hS (lv_sub hl [1, 2, 0] rfl)
  exact J2 (((5 - x0.toInt)).toNat + 1) ls _ _ x0 _ (by omega) (by intro q9 h9; have e9 : x0.toNatClampNeg = 0 := (by have a1 := ix_nat (i := x0) (by omega); omega); rw [e9]; exact luA_0 _) (by omega) (by omega) hg1 hT hS (lv_sub hl [1, 0] rfl)
theorem k_X1_change : cBV yX1_change cX1_change 3 none 1 := ⟨mw_3_61, mw_3_62, mw_1_4, mw_3_63, ⟨by decide, by decide, by decide⟩⟩
set_option maxHeartbeats 4000000 in
set_option maxRecDepth 100000 in
theorem c_X1_change (l : Launch) (z : Zt) (gh : Gh) (h0 o0 : Nat) (g0 : zG z h0 = (11, o0)) (p1 : Int32) (pr0 : wfF (gh.1 h0)) (pr1 : rkF z gh h0) : Met l yX1_change (uw yX1_change cX1_change 3 none) (rmF 2 86) (PcW z [.ref h0, .int p1] (fun H => TY z (zA z) gh H)) (QcV z (fun H => TY z (zA z) gh H)) 0 0 (zA z) := by
  refine Met.ofW (cc := cX1_change) (maxL := 3) (ret := none) (by decide) rfl ?_
  intro p e s m args below meth c s₁ B hml hv
  obtain ⟨rfl, hW, hK, hSK⟩ := hv
  have hx := B.exec
  have hb := B.bytes
  have hr := B.returns
  have hts : ∀ w ∈ lw_ok, w.before ([.ref h0, .int p1] : List Value).toArray s = true := fun w hw => atoms_spec (ws := uw yX1_change cX1_change 3 none) B.pre w (List.mem_cons_of_mem _ hw)
  have hown : s.vm.findClass RX1 = some m.cls := findClass_of_methodNamed B.named
  have hlk := B.notSynchronized
  have hC : CallFix p m c cX1_change 3 s ([.ref h0, .int p1] : List Value).toArray lw_ok RX1 := ⟨hx, hb, hml, hown, hts⟩
  have hS : va_S (zA z) s.heap s.heap [] := va_S.rf
  have hl := lv_entry ([.ref h0, .int p1]) (n := 3) (Nat.le_of_ble_eq_true rfl)
  rw [lg_entry_eq]
  generalize (lg_sl ([.ref h0, .int p1]) ++ List.replicate (3 - (lg_sl ([.ref h0, .int p1])).length) Slot.unset).toArray = ls at hl ⊢
  have hl : lv_has ls 3 [(0, .ref h0), (1, .int p1)] := hl
  show W p l e (rmF 2 86) s m ([.ref h0, .int p1] : List Value).toArray below meth c s.heap [] 0 0 (MQ below (QcV z (fun H => TY z (zA z) gh H)) ([.ref h0, .int p1] : List Value).toArray s 0 0 (zA z)) (F0 m 0 ls [])
  have hT : TY z (zA z) gh s.heap := hW
  obtain ⟨wa, wb, wc, wd⟩ := id pr0
  have mx_p1 := i_mx p1
  refine r_iconst hx hb dX1_change_0 (by decide) (by decide) (fun x0 e0 => ?_)
  refine lv_istore_n (lv' := [(2, .int x0), (0, .ref h0), (1, .int p1)]) hx hb dX1_change_1 rfl hl (by decide) rfl (fun ls hl => ?_)
  have J2 : ∀ (n2 : Nat) (ls : Array Slot) (H : Heap) (locs : List Loc) (y2_2 : Int32), (0 ≤ y2_2.toInt ∧ y2_2.toInt ≤ 5) → (5 - y2_2.toInt) < (n2 : Int) → TY z (zA z) gh H → va_S (zA z) s.heap H locs → lv_has ls 3 [(0, .ref h0), (1, .int p1), (2, .int y2_2)] → W p l e (rmF 2 86) s m ([.ref h0, .int p1] : List Value).toArray below meth c H locs 0 0 (MQ below (QcV z (fun H => TY z (zA z) gh H)) ([.ref h0, .int p1] : List Value).toArray s 0 0 (zA z)) (F0 m 2 ls []) := by
    intro n2
    induction n2 with
    | zero => intro ls H locs y2_2 j2_y2_2 mm2 hT hS hl; exfalso; omega
    | succ n2 ih2 =>
      intro ls H locs y2_2 j2_y2_2 mm2 hT hS hl
      refine lv_iload_n hx hb dX1_change_2 rfl (lv_at hl 2 rfl) ?_
      refine lv_aload_n hx hb dX1_change_3 rfl (lv_at hl 0 rfl) ?_
      refine gt_Floor_men hx hb hts ic_Floor hown hK hT g0 (hts _ mw_1_60) dX1_change_4 (fun x4 i4 e4 g4 => ?_)
      refine r_icmp_ge (tgt := 43) hx hb dX1_change_7 (by decide) (fun c7 => ?_) (fun c7 => ?_)
      · exact rt_v hx hb hr hlk hS hT dX1_change_43
      · refine lv_aload_n hx hb dX1_change_10 rfl (lv_at hl 0 rfl) ?_
        refine gt_Floor_partner hx hb hts ic_Floor hown hK hT g0 (hts _ mw_1_51) dX1_change_11 (fun q11 hq11 => ?_)
        refine lv_iload_n hx hb dX1_change_14 rfl (lv_at hl 2 rfl) ?_
        refine lv_aload_n hx hb dX1_change_15 rfl (lv_at hl 0 rfl) ?_
        refine gt_Floor_byRank hx hb hts ic_Floor hown hK hT g0 (hts _ mw_1_56) dX1_change_16 (fun q16 hq16 => ?_)
        refine lv_aload_n hx hb dX1_change_19 rfl (lv_at hl 0 rfl) ?_
        refine lv_iload_n hx hb dX1_change_20 rfl (lv_at hl 1 rfl) ?_
        refine lv_aload_n hx hb dX1_change_21 rfl (lv_at hl 0 rfl) ?_
        refine gt_Floor_rankOf hx hb hts ic_Floor hown hK hT g0 (hts _ mw_1_58) dX1_change_22 (fun q22 hq22 => ?_)
        refine lv_aload_n hx hb dX1_change_25 rfl (lv_at hl 0 rfl) ?_
        refine gt_Floor_partner hx hb hts ic_Floor hown hK hT g0 (hts _ mw_1_51) dX1_change_26 (fun q26 hq26 => ?_)
        refine lv_iload_n hx hb dX1_change_29 rfl (lv_at hl 2 rfl) ?_
        refine al_27 hx hb hK hT hq26 (by omega) (by omega) dX1_change_30 (fun x30 e30 => ?_)
        have n30 := ix_nat (i := y2_2) (by omega)
        unfold p27 at e30
        refine al_29 hx hb hK hT hq22 (by omega) (by omega) dX1_change_31 (fun x31 i31 e31 => ?_)
        have n31 := ix_nat (i := x30) (by omega)
        unfold p29 at e31
        have k31 := pr1.2 _ hq22 x30.toNatClampNeg (by have a1 := ix_nat (i := x30) (by omega); omega)
        rw [← i31] at k31
        refine cl_Vi (rest := [.ref q16, .int y2_2, .ref q11]) hC hK hSK (c_X1_nextRank l z gh h0 (o0) g0 p1 x31 (by omega) (by omega)) k_X1_nextRank mw_3_64 ⟨rfl, rfl, Nat.le_of_ble_eq_true rfl, Nat.le_of_ble_eq_true rfl⟩ (rv_Floor hK hT g0) hT rfl hl.1 rfl (Nat.le_of_ble_eq_true rfl) dX1_change_32 ⟨Nat.zero_le _, Nat.zero_le _⟩ hS (fun _ h => h) (fun _ _ h => h) (fun r32 H locs hpo hS => ?_)
        obtain ⟨hT, u32_0, u32_1⟩ := hpo
        refine al_28 hx hb hK hT hq16 (by omega) (by omega) dX1_change_35 (fun x35 i35 e35 => ?_)
        have n35 := ix_nat (i := r32) (by omega)
        unfold p28 at e35
        have k35 := pr1.1 _ hq16 r32.toNatClampNeg (by have a1 := ix_nat (i := r32) (by omega); omega)
        rw [← i35] at k35
        refine as_27 hx hb hK hT hS hq11 (by omega) (by omega) (by have n0 := ix_nat (i := y2_2) (by omega); unfold p27; omega) dX1_change_36 (fun H locs hT hS => ?_)
        refine r_iinc (lv' := fun v__ => [(2, .int v__), (0, .ref h0), (1, .int p1)]) hx hb dX1_change_37 hl (k := 2) rfl (by decide) (fun _ => rfl) ⟨by decide, by decide⟩ (by omega) (by omega) (fun x37 ls e37 hl => ?_)
        refine lv_goto (tgt := 2) hx hb dX1_change_40 (by decide) ?_
        exact ih2 ls _ _ x37 (by omega) (by omega) hT hS (lv_sub hl [1, 2, 0] rfl)
  exact J2 (((5 - x0.toInt)).toNat + 1) ls _ _ x0 (by omega) (by omega) hT hS (lv_sub hl [1, 2, 0] rfl)
theorem k_X1_step : cBV yX1_step cX1_step 2 none 1 := ⟨mw_3_56, mw_3_57, mw_1_4, mw_3_58, ⟨by decide, by decide, by decide⟩⟩
set_option maxHeartbeats 4000000 in
set_option maxRecDepth 100000 in
theorem c_X1_step (l : Launch) (z : Zt) (gh : Gh) (h0 o0 : Nat) (g0 : zG z h0 = (11, o0)) (p1 : Int32) (pr0 : wfF (gh.1 h0)) (pr1 : zu z) : Met l yX1_step (uw yX1_step cX1_step 2 none) (rmF 3 109) (PcW z [.ref h0, .int p1] (fun H => TY z (zA z) gh H)) (QcV z (fun H => ∃ gk : Gh, deq z gk gh ∧ TY z (zA z) gk H)) 0 0 (zA z) := by
  refine Met.ofW (cc := cX1_step) (maxL := 2) (ret := none) (by decide) rfl ?_
  intro p e s m args below meth c s₁ B hml hv
  obtain ⟨rfl, hW, hK, hSK⟩ := hv
  have hx := B.exec
  have hb := B.bytes
  have hr := B.returns
  have hts : ∀ w ∈ lw_ok, w.before ([.ref h0, .int p1] : List Value).toArray s = true := fun w hw => atoms_spec (ws := uw yX1_step cX1_step 2 none) B.pre w (List.mem_cons_of_mem _ hw)
  have hown : s.vm.findClass RX1 = some m.cls := findClass_of_methodNamed B.named
  have hlk := B.notSynchronized
  have hC : CallFix p m c cX1_step 2 s ([.ref h0, .int p1] : List Value).toArray lw_ok RX1 := ⟨hx, hb, hml, hown, hts⟩
  have hS : va_S (zA z) s.heap s.heap [] := va_S.rf
  have hl := lv_entry ([.ref h0, .int p1]) (n := 2) (Nat.le_of_ble_eq_true rfl)
  rw [lg_entry_eq]
  generalize (lg_sl ([.ref h0, .int p1]) ++ List.replicate (2 - (lg_sl ([.ref h0, .int p1])).length) Slot.unset).toArray = ls at hl ⊢
  have hl : lv_has ls 2 [(0, .ref h0), (1, .int p1)] := hl
  show W p l e (rmF 3 109) s m ([.ref h0, .int p1] : List Value).toArray below meth c s.heap [] 0 0 (MQ below (QcV z (fun H => ∃ gk : Gh, deq z gk gh ∧ TY z (zA z) gk H)) ([.ref h0, .int p1] : List Value).toArray s 0 0 (zA z)) (F0 m 0 ls [])
  have hT : TY z (zA z) gh s.heap := hW
  have hg1 : deq z gh gh := deq_rf z gh
  have mx_p1 := i_mx p1
  refine lv_aload_n hx hb dX1_step_0 rfl (lv_at hl 0 rfl) ?_
  refine cl_Vv (rest := []) hC hK hSK (c_X1_lineUp l z gh h0 (o0) g0 pr1) k_X1_lineUp mw_3_59 ⟨rfl, rfl, Nat.le_of_ble_eq_true rfl, Nat.le_of_ble_eq_true rfl⟩ (rv_Floor hK hT g0) hT rfl hl.1 rfl (Nat.le_of_ble_eq_true rfl) dX1_step_1 ⟨Nat.zero_le _, Nat.zero_le _⟩ hS (fun _ h => h) (fun _ _ h => h) (fun H locs hpo hS => ?_)
  obtain ⟨gk1, hz1, hT, u1_0⟩ := hpo
  have hg1 := deq_tr hz1 hg1
  refine lv_aload_n hx hb dX1_step_4 rfl (lv_at hl 0 rfl) ?_
  refine lv_iload_n hx hb dX1_step_5 rfl (lv_at hl 1 rfl) ?_
  refine cl_Vv (rest := []) hC hK hSK (c_X1_change l z gk1 h0 (o0) g0 p1 (by rw [hg1.1]; exact pr0) u1_0) k_X1_change mw_3_60 ⟨rfl, rfl, Nat.le_of_ble_eq_true rfl, Nat.le_of_ble_eq_true rfl⟩ (rv_Floor hK hT g0) hT rfl hl.1 rfl (Nat.le_of_ble_eq_true rfl) dX1_step_6 ⟨Nat.zero_le _, Nat.zero_le _⟩ hS (fun _ h => h) (fun _ _ h => h) (fun H locs hpo hS => ?_)
  have hT := hpo
  refine lv_aload_n hx hb dX1_step_9 rfl (lv_at hl 0 rfl) ?_
  refine cl_Vv (rest := []) hC hK hSK (c_X1_wear l z gk1 h0 (o0) g0) k_X1_wear mw_3_68 ⟨rfl, rfl, Nat.le_of_ble_eq_true rfl, Nat.le_of_ble_eq_true rfl⟩ (rv_Floor hK hT g0) hT rfl hl.1 rfl (Nat.le_of_ble_eq_true rfl) dX1_step_10 ⟨Nat.zero_le _, Nat.zero_le _⟩ hS (fun _ h => h) (fun _ _ h => h) (fun H locs hpo hS => ?_)
  have hT := hpo
  refine lv_aload_n hx hb dX1_step_13 rfl (lv_at hl 0 rfl) ?_
  refine cl_Vv (rest := []) hC hK hSK (c_X1_warm l z gk1 h0 (o0) g0) k_X1_warm mw_3_72 ⟨rfl, rfl, Nat.le_of_ble_eq_true rfl, Nat.le_of_ble_eq_true rfl⟩ (rv_Floor hK hT g0) hT rfl hl.1 rfl (Nat.le_of_ble_eq_true rfl) dX1_step_14 ⟨Nat.zero_le _, Nat.zero_le _⟩ hS (fun _ h => h) (fun _ _ h => h) (fun H locs hpo hS => ?_)
  have hT := hpo
  refine lv_aload_n hx hb dX1_step_17 rfl (lv_at hl 0 rfl) ?_
  refine lv_aload_n hx hb dX1_step_18 rfl (lv_at hl 0 rfl) ?_
  refine gt_Floor_danced hx hb hts ic_Floor hown hK hT g0 (hts _ mw_1_64) dX1_step_19 (fun x19 => ?_)
  refine r_iconst hx hb dX1_step_22 (by decide) (by decide) (fun x22 e22 => ?_)
  refine w_iadd hx hb dX1_step_23 (fun x23 => ?_)
  refine r_sipush hx hb dX1_step_24 rfl (fun x24 e24 => ?_)
  refine r_min hx hb (hml.trans hl.1.symm) hts hown mw_3_76 (Nat.le_of_ble_eq_true rfl) (Nat.le_of_ble_eq_true rfl) ⟨Nat.zero_le _, Nat.zero_le _⟩ dX1_step_27 (fun x27 e27 g27 k27 => ?_)
  refine pt_Floor_danced hx hb hts ic_Floor hown hK hT hS g0 (hts _ mw_1_64) dX1_step_30 (fun H locs hT hS => ?_)
  exact rt_v hx hb hr hlk hS ⟨_, hg1, hT⟩ dX1_step_33
theorem k_X1_copyFrom : cBV yX1_copyFrom cX1_copyFrom 3 none 1 := ⟨mw_2_201, mw_2_202, mw_1_4, mw_2_203, ⟨by decide, by decide, by decide⟩⟩
set_option maxHeartbeats 4000000 in
set_option maxRecDepth 100000 in
theorem c_X1_copyFrom (l : Launch) (z : Zt) (v : Nat → Nat → Int) (h0 o0 : Nat) (g0 : zG z h0 = (11, o0)) (ra1 ora1 : Nat) (hra1 : zG z ra1 = (11, ora1)) (pr0 : h0 ≠ ra1) : Met l yX1_copyFrom (uw yX1_copyFrom cX1_copyFrom 3 none) (rmF 1 64) (PcW z [.ref h0, .ref ra1] (fun H => WX z v H)) (QcV z (fun H => WX z v H)) 0 0 (zA z) := by
  refine Met.ofW (cc := cX1_copyFrom) (maxL := 3) (ret := none) (by decide) rfl ?_
  intro p e s m args below meth c s₁ B hml hv
  obtain ⟨rfl, hW, hK, hSK⟩ := hv
  have hx := B.exec
  have hb := B.bytes
  have hr := B.returns
  have hts : ∀ w ∈ lw_ok, w.before ([.ref h0, .ref ra1] : List Value).toArray s = true := fun w hw => atoms_spec (ws := uw yX1_copyFrom cX1_copyFrom 3 none) B.pre w (List.mem_cons_of_mem _ hw)
  have hown : s.vm.findClass RX1 = some m.cls := findClass_of_methodNamed B.named
  have hlk := B.notSynchronized
  have hC : CallFix p m c cX1_copyFrom 3 s ([.ref h0, .ref ra1] : List Value).toArray lw_ok RX1 := ⟨hx, hb, hml, hown, hts⟩
  have hS : va_S (zA z) s.heap s.heap [] := va_S.rf
  have hl := lv_entry ([.ref h0, .ref ra1]) (n := 3) (Nat.le_of_ble_eq_true rfl)
  rw [lg_entry_eq]
  generalize (lg_sl ([.ref h0, .ref ra1]) ++ List.replicate (3 - (lg_sl ([.ref h0, .ref ra1])).length) Slot.unset).toArray = ls at hl ⊢
  have hl : lv_has ls 3 [(0, .ref h0), (1, .ref ra1)] := hl
  show W p l e (rmF 1 64) s m ([.ref h0, .ref ra1] : List Value).toArray below meth c s.heap [] 0 0 (MQ below (QcV z (fun H => WX z v H)) ([.ref h0, .ref ra1] : List Value).toArray s 0 0 (zA z)) (F0 m 0 ls [])
  obtain ⟨gh, hwf, hvis, hT⟩ := hW
  refine lv_aload_n hx hb dX1_copyFrom_0 rfl (lv_at hl 0 rfl) ?_
  refine lv_aload_n hx hb dX1_copyFrom_1 rfl (lv_at hl 1 rfl) ?_
  refine gt_Floor_men hx hb hts ic_Floor hown hK hT hra1 (hts _ mw_1_60) dX1_copyFrom_2 (fun x2 i2 e2 g2 => ?_)
  have hzu := hwf.2.2
  have hT := gw_27 (o := h0) (j := 1) (v := 0) hT (Or.inl rfl) (p27_0 (by rw [gs_at]; omega))
  have hT := gw_27 (o := h0) (j := 2) (v := x2.toInt) hT (Or.inr rfl) (p27_0 (by rw [gs_nk _ _ _ _ (by decide), gs_at]; omega))
  refine pt_Floor_men hx hb hts ic_Floor hown hK hT hS g0 (hts _ mw_1_60) (by omega) (by omega) dX1_copyFrom_5 (fun H locs hT hS => ?_)
  obtain ⟨gh5, a0, a1, a2, hq5, hT⟩ : ∃ g : Gh, g.1 h0 0 = x2.toInt ∧ g.1 h0 1 = 0 ∧ g.1 h0 2 = x2.toInt ∧ (∀ b k, b ≠ h0 → g.1 b k = gh.1 b k) ∧ TY z (zA z) g H := ⟨_, gs_at _ _ _ _, by rw [gs_nk _ _ _ _ (by decide), gs_nk _ _ _ _ (by decide), gs_at], by rw [gs_nk _ _ _ _ (by decide), gs_at], fun b k hb9 => by rw [gs_na _ _ _ _ hb9, gs_na _ _ _ _ hb9, gs_na _ _ _ _ hb9], hT⟩
  have hwx := wfx_of hwf g0 hq5
  have hvis := vis_fl hvis g0 hq5
  have k5 := hq5 ra1 0 pr0.symm
  refine lv_aload_n hx hb dX1_copyFrom_8 rfl (lv_at hl 0 rfl) ?_
  refine lv_aload_n hx hb dX1_copyFrom_9 rfl (lv_at hl 1 rfl) ?_
  refine gt_Floor_danced hx hb hts ic_Floor hown hK hT hra1 (hts _ mw_1_64) dX1_copyFrom_10 (fun x10 => ?_)
  refine pt_Floor_danced hx hb hts ic_Floor hown hK hT hS g0 (hts _ mw_1_64) dX1_copyFrom_13 (fun H locs hT hS => ?_)
  refine r_iconst hx hb dX1_copyFrom_16 (by decide) (by decide) (fun x16 e16 => ?_)
  refine lv_istore_n (lv' := [(2, .int x16), (0, .ref h0), (1, .ref ra1)]) hx hb dX1_copyFrom_17 rfl hl (by decide) rfl (fun ls hl => ?_)
  have J18 : ∀ (n18 : Nat) (ls : Array Slot) (H : Heap) (locs : List Loc) (y18_2 : Int32) (gh : Gh), (0 ≤ y18_2.toInt ∧ y18_2.toInt ≤ 5) → (gh.1 h0 0 = gh.1 ra1 0) → (gh.1 h0 2 = gh.1 h0 0) → (gh.1 h0 1 = y18_2.toInt) → (5 - y18_2.toInt) < (n18 : Int) → wfx z gh h0 → vis z gh v → TY z (zA z) gh H → va_S (zA z) s.heap H locs → lv_has ls 3 [(0, .ref h0), (1, .ref ra1), (2, .int y18_2)] → W p l e (rmF 1 64) s m ([.ref h0, .ref ra1] : List Value).toArray below meth c H locs 0 0 (MQ below (QcV z (fun H => WX z v H)) ([.ref h0, .ref ra1] : List Value).toArray s 0 0 (zA z)) (F0 m 18 ls []) := by
    intro n18
    induction n18 with
    | zero => intro ls H locs y18_2 gh j18_y18_2 ex18_0 ex18_1 ex18_2 mm18 hwx hvis hT hS hl; exfalso; omega
    | succ n18 ih18 =>
      intro ls H locs y18_2 gh j18_y18_2 ex18_0 ex18_1 ex18_2 mm18 hwx hvis hT hS hl
      have hzu := hwx.2.2
      obtain ⟨wa, wb, wc, wd⟩ := hwx.1 ra1 _ hra1 pr0.symm
      refine lv_iload_n hx hb dX1_copyFrom_18 rfl (lv_at hl 2 rfl) ?_
      refine lv_aload_n hx hb dX1_copyFrom_19 rfl (lv_at hl 0 rfl) ?_
      refine gt_Floor_men hx hb hts ic_Floor hown hK hT g0 (hts _ mw_1_60) dX1_copyFrom_20 (fun x20 i20 e20 g20 => ?_)
      refine r_icmp_ge (tgt := 92) hx hb dX1_copyFrom_23 (by decide) (fun c23 => ?_) (fun c23 => ?_)
      · exact rt_v hx hb hr hlk hS ⟨_, wf_x hwx (by unfold wfF; omega), hvis, hT⟩ dX1_copyFrom_92
      · refine lv_aload_n hx hb dX1_copyFrom_26 rfl (lv_at hl 0 rfl) ?_
        refine gt_Floor_kind hx hb hts ic_Floor hown hK hT g0 (hts _ mw_1_43) dX1_copyFrom_27 (fun q27 hq27 => ?_)
        refine lv_iload_n hx hb dX1_copyFrom_30 rfl (lv_at hl 2 rfl) ?_
        refine lv_aload_n hx hb dX1_copyFrom_31 rfl (lv_at hl 1 rfl) ?_
        refine gt_Floor_kind hx hb hts ic_Floor hown hK hT hra1 (hts _ mw_1_43) dX1_copyFrom_32 (fun q32 hq32 => ?_)
        refine lv_iload_n hx hb dX1_copyFrom_35 rfl (lv_at hl 2 rfl) ?_
        refine al_20 hx hb hK hT hq32 (by omega) (by omega) dX1_copyFrom_36 (fun x36 => ?_)
        refine as_20 hx hb hK hT hS hq27 (by omega) (by omega) dX1_copyFrom_37 (fun H locs hT hS => ?_)
        refine lv_aload_n hx hb dX1_copyFrom_38 rfl (lv_at hl 0 rfl) ?_
        refine gt_Floor_height hx hb hts ic_Floor hown hK hT g0 (hts _ mw_1_45) dX1_copyFrom_39 (fun q39 hq39 => ?_)
        refine lv_iload_n hx hb dX1_copyFrom_42 rfl (lv_at hl 2 rfl) ?_
        refine lv_aload_n hx hb dX1_copyFrom_43 rfl (lv_at hl 1 rfl) ?_
        refine gt_Floor_height hx hb hts ic_Floor hown hK hT hra1 (hts _ mw_1_45) dX1_copyFrom_44 (fun q44 hq44 => ?_)
        refine lv_iload_n hx hb dX1_copyFrom_47 rfl (lv_at hl 2 rfl) ?_
        refine al_20 hx hb hK hT hq44 (by omega) (by omega) dX1_copyFrom_48 (fun x48 => ?_)
        refine as_20 hx hb hK hT hS hq39 (by omega) (by omega) dX1_copyFrom_49 (fun H locs hT hS => ?_)
        refine lv_aload_n hx hb dX1_copyFrom_50 rfl (lv_at hl 0 rfl) ?_
        refine gt_Floor_heels hx hb hts ic_Floor hown hK hT g0 (hts _ mw_1_47) dX1_copyFrom_51 (fun q51 hq51 => ?_)
        refine lv_iload_n hx hb dX1_copyFrom_54 rfl (lv_at hl 2 rfl) ?_
        refine lv_aload_n hx hb dX1_copyFrom_55 rfl (lv_at hl 1 rfl) ?_
        refine gt_Floor_heels hx hb hts ic_Floor hown hK hT hra1 (hts _ mw_1_47) dX1_copyFrom_56 (fun q56 hq56 => ?_)
        refine lv_iload_n hx hb dX1_copyFrom_59 rfl (lv_at hl 2 rfl) ?_
        refine al_20 hx hb hK hT hq56 (by omega) (by omega) dX1_copyFrom_60 (fun x60 => ?_)
        refine as_20 hx hb hK hT hS hq51 (by omega) (by omega) dX1_copyFrom_61 (fun H locs hT hS => ?_)
        refine lv_aload_n hx hb dX1_copyFrom_62 rfl (lv_at hl 0 rfl) ?_
        refine gt_Floor_heat hx hb hts ic_Floor hown hK hT g0 (hts _ mw_1_49) dX1_copyFrom_63 (fun q63 hq63 => ?_)
        refine lv_iload_n hx hb dX1_copyFrom_66 rfl (lv_at hl 2 rfl) ?_
        refine lv_aload_n hx hb dX1_copyFrom_67 rfl (lv_at hl 1 rfl) ?_
        refine gt_Floor_heat hx hb hts ic_Floor hown hK hT hra1 (hts _ mw_1_49) dX1_copyFrom_68 (fun q68 hq68 => ?_)
        refine lv_iload_n hx hb dX1_copyFrom_71 rfl (lv_at hl 2 rfl) ?_
        refine al_20 hx hb hK hT hq68 (by omega) (by omega) dX1_copyFrom_72 (fun x72 => ?_)
        refine as_20 hx hb hK hT hS hq63 (by omega) (by omega) dX1_copyFrom_73 (fun H locs hT hS => ?_)
        refine lv_aload_n hx hb dX1_copyFrom_74 rfl (lv_at hl 0 rfl) ?_
        refine gt_Floor_partner hx hb hts ic_Floor hown hK hT g0 (hts _ mw_1_51) dX1_copyFrom_75 (fun q75 hq75 => ?_)
        refine lv_iload_n hx hb dX1_copyFrom_78 rfl (lv_at hl 2 rfl) ?_
        refine lv_aload_n hx hb dX1_copyFrom_79 rfl (lv_at hl 1 rfl) ?_
        refine gt_Floor_partner hx hb hts ic_Floor hown hK hT hra1 (hts _ mw_1_51) dX1_copyFrom_80 (fun q80 hq80 => ?_)
        refine lv_iload_n hx hb dX1_copyFrom_83 rfl (lv_at hl 2 rfl) ?_
        refine al_27 hx hb hK hT hq80 (by omega) (by omega) dX1_copyFrom_84 (fun x84 e84 => ?_)
        have n84 := ix_nat (i := y18_2) (by omega)
        unfold p27 at e84
        refine as_27g (j := 1) (v := (y18_2.toInt + 1)) hx hb hK hT hS hq75 (fun b hb9 => zu_at hzu rfl hb9 hq75) (by omega) (by omega) (Or.inl rfl) (by have a1 := ix_nat (i := y18_2) (by omega); unfold p27; rw [gs_at, gs_nk _ _ _ _ (by decide)]; omega) (by intro k y hk h; have a1 := ix_nat (i := y18_2) (by omega); unfold p27 at h ⊢; rw [gs_at, gs_nk _ _ _ _ (by decide)]; omega) dX1_copyFrom_85 (fun H locs hT hS => ?_)
        obtain ⟨gh85, w85, hq85, hT⟩ : ∃ g : Gh, g.1 h0 1 = (y18_2.toInt + 1) ∧ (∀ b k, ¬ (b = h0 ∧ k = 1) → g.1 b k = gh.1 b k) ∧ TY z (zA z) g H := ⟨_, gs_at _ _ _ _, fun b k hk => if_neg hk, hT⟩
        have hwx := wfx_tr hwx g0 (fun b k hb9 => hq85 b k (fun q => hb9 q.1))
        have hvis := vis_fl hvis g0 (fun b k hb9 => hq85 b k (fun q => hb9 q.1))
        have k0 := hq85 h0 0 (fun q => absurd q.2 (by decide))
        have k2 := hq85 h0 2 (fun q => absurd q.2 (by decide))
        have k3 := hq85 ra1 0 (fun q => absurd q.2 (by decide))
        refine r_iinc (lv' := fun v__ => [(2, .int v__), (0, .ref h0), (1, .ref ra1)]) hx hb dX1_copyFrom_86 hl (k := 2) rfl (by decide) (fun _ => rfl) ⟨by decide, by decide⟩ (by omega) (by omega) (fun x86 ls e86 hl => ?_)
        refine lv_goto (tgt := 18) hx hb dX1_copyFrom_89 (by decide) ?_
        exact ih18 ls _ _ x86 _ (by omega) (by omega) (by omega) (by omega) (by omega) hwx hvis hT hS (lv_sub hl [1, 2, 0] rfl)
  exact J18 (((5 - x16.toInt)).toNat + 1) ls _ _ x16 _ (by omega) (by omega) (by omega) (by omega) (by omega) hwx hvis hT hS (lv_sub hl [1, 2, 0] rfl)
theorem k_X1_addMan : cBV yX1_addMan cX1_addMan 4 none 3 := ⟨mw_2_148, mw_2_149, mw_1_4, mw_2_150, ⟨by decide, by decide, by decide⟩⟩
set_option maxHeartbeats 4000000 in
set_option maxRecDepth 100000 in
theorem c_X1_addMan (l : Launch) (z : Zt) (v : Nat → Nat → Int) (h0 o0 : Nat) (g0 : zG z h0 = (11, o0)) (p1 : Int32) (p2 : Int32) (p3 : Int32) : Met l yX1_addMan (uw yX1_addMan cX1_addMan 4 none) (rmF 1 64) (PcW z [.ref h0, .int p1, .int p2, .int p3] (fun H => WX z v H)) (QcV z (fun H => WX z v H)) 0 0 (zA z) := by
  refine Met.ofW (cc := cX1_addMan) (maxL := 4) (ret := none) (by decide) rfl ?_
  intro p e s m args below meth c s₁ B hml hv
  obtain ⟨rfl, hW, hK, hSK⟩ := hv
  have hx := B.exec
  have hb := B.bytes
  have hr := B.returns
  have hts : ∀ w ∈ lw_ok, w.before ([.ref h0, .int p1, .int p2, .int p3] : List Value).toArray s = true := fun w hw => atoms_spec (ws := uw yX1_addMan cX1_addMan 4 none) B.pre w (List.mem_cons_of_mem _ hw)
  have hown : s.vm.findClass RX1 = some m.cls := findClass_of_methodNamed B.named
  have hlk := B.notSynchronized
  have hC : CallFix p m c cX1_addMan 4 s ([.ref h0, .int p1, .int p2, .int p3] : List Value).toArray lw_ok RX1 := ⟨hx, hb, hml, hown, hts⟩
  have hS : va_S (zA z) s.heap s.heap [] := va_S.rf
  have hl := lv_entry ([.ref h0, .int p1, .int p2, .int p3]) (n := 4) (Nat.le_of_ble_eq_true rfl)
  rw [lg_entry_eq]
  generalize (lg_sl ([.ref h0, .int p1, .int p2, .int p3]) ++ List.replicate (4 - (lg_sl ([.ref h0, .int p1, .int p2, .int p3])).length) Slot.unset).toArray = ls at hl ⊢
  have hl : lv_has ls 4 [(0, .ref h0), (1, .int p1), (2, .int p2), (3, .int p3)] := hl
  show W p l e (rmF 1 64) s m ([.ref h0, .int p1, .int p2, .int p3] : List Value).toArray below meth c s.heap [] 0 0 (MQ below (QcV z (fun H => WX z v H)) ([.ref h0, .int p1, .int p2, .int p3] : List Value).toArray s 0 0 (zA z)) (F0 m 0 ls [])
  obtain ⟨gh, hwf, hvis, hT⟩ := hW
  have mx_p1 := i_mx p1
  have mx_p2 := i_mx p2
  have mx_p3 := i_mx p3
  refine lv_aload_n hx hb dX1_addMan_0 rfl (lv_at hl 0 rfl) ?_
  refine gt_Floor_men hx hb hts ic_Floor hown hK hT g0 (hts _ mw_1_60) dX1_addMan_1 (fun x1 i1 e1 g1 => ?_)
  refine r_iconst hx hb dX1_addMan_4 (by decide) (by decide) (fun x4 e4 => ?_)
  refine r_icmp_ge (tgt := 71) hx hb dX1_addMan_5 (by decide) (fun c5 => ?_) (fun c5 => ?_)
  · exact rt_v hx hb hr hlk hS ⟨_, hwf, hvis, hT⟩ dX1_addMan_71
  · refine lv_aload_n hx hb dX1_addMan_8 rfl (lv_at hl 0 rfl) ?_
    refine gt_Floor_kind hx hb hts ic_Floor hown hK hT g0 (hts _ mw_1_43) dX1_addMan_9 (fun q9 hq9 => ?_)
    refine lv_aload_n hx hb dX1_addMan_12 rfl (lv_at hl 0 rfl) ?_
    refine gt_Floor_men hx hb hts ic_Floor hown hK hT g0 (hts _ mw_1_60) dX1_addMan_13 (fun x13 i13 e13 g13 => ?_)
    refine lv_iload_n hx hb dX1_addMan_16 rfl (lv_at hl 1 rfl) ?_
    refine as_20 hx hb hK hT hS hq9 (by omega) (by omega) dX1_addMan_17 (fun H locs hT hS => ?_)
    refine lv_aload_n hx hb dX1_addMan_18 rfl (lv_at hl 0 rfl) ?_
    refine gt_Floor_height hx hb hts ic_Floor hown hK hT g0 (hts _ mw_1_45) dX1_addMan_19 (fun q19 hq19 => ?_)
    refine lv_aload_n hx hb dX1_addMan_22 rfl (lv_at hl 0 rfl) ?_
    refine gt_Floor_men hx hb hts ic_Floor hown hK hT g0 (hts _ mw_1_60) dX1_addMan_23 (fun x23 i23 e23 g23 => ?_)
    refine lv_iload_n hx hb dX1_addMan_26 rfl (lv_at hl 2 rfl) ?_
    refine as_20 hx hb hK hT hS hq19 (by omega) (by omega) dX1_addMan_27 (fun H locs hT hS => ?_)
    refine lv_aload_n hx hb dX1_addMan_28 rfl (lv_at hl 0 rfl) ?_
    refine gt_Floor_heels hx hb hts ic_Floor hown hK hT g0 (hts _ mw_1_47) dX1_addMan_29 (fun q29 hq29 => ?_)
    refine lv_aload_n hx hb dX1_addMan_32 rfl (lv_at hl 0 rfl) ?_
    refine gt_Floor_men hx hb hts ic_Floor hown hK hT g0 (hts _ mw_1_60) dX1_addMan_33 (fun x33 i33 e33 g33 => ?_)
    refine lv_iload_n hx hb dX1_addMan_36 rfl (lv_at hl 3 rfl) ?_
    refine as_20 hx hb hK hT hS hq29 (by omega) (by omega) dX1_addMan_37 (fun H locs hT hS => ?_)
    refine lv_aload_n hx hb dX1_addMan_38 rfl (lv_at hl 0 rfl) ?_
    refine gt_Floor_heat hx hb hts ic_Floor hown hK hT g0 (hts _ mw_1_49) dX1_addMan_39 (fun q39 hq39 => ?_)
    refine lv_aload_n hx hb dX1_addMan_42 rfl (lv_at hl 0 rfl) ?_
    refine gt_Floor_men hx hb hts ic_Floor hown hK hT g0 (hts _ mw_1_60) dX1_addMan_43 (fun x43 i43 e43 g43 => ?_)
    refine r_iconst hx hb dX1_addMan_46 (by decide) (by decide) (fun x46 e46 => ?_)
    refine as_20 hx hb hK hT hS hq39 (by omega) (by omega) dX1_addMan_47 (fun H locs hT hS => ?_)
    refine lv_aload_n hx hb dX1_addMan_48 rfl (lv_at hl 0 rfl) ?_
    refine gt_Floor_partner hx hb hts ic_Floor hown hK hT g0 (hts _ mw_1_51) dX1_addMan_49 (fun q49 hq49 => ?_)
    refine lv_aload_n hx hb dX1_addMan_52 rfl (lv_at hl 0 rfl) ?_
    refine gt_Floor_men hx hb hts ic_Floor hown hK hT g0 (hts _ mw_1_60) dX1_addMan_53 (fun x53 i53 e53 g53 => ?_)
    refine lv_aload_n hx hb dX1_addMan_56 rfl (lv_at hl 0 rfl) ?_
    refine gt_Floor_men hx hb hts ic_Floor hown hK hT g0 (hts _ mw_1_60) dX1_addMan_57 (fun x57 i57 e57 g57 => ?_)
    have hzu := hwf.2.2
    obtain ⟨wa, wb, wc, wd⟩ := hwf.1 h0 _ g0
    have hT := gw_27 (o := h0) (j := 2) (v := x53.toInt + 1) hT (Or.inr rfl) (p27_b (by rw [gs_nk _ _ _ _ (by decide)]; omega) (by rw [gs_at]; omega))
    have hT := gw_27 (o := h0) (j := 1) (v := x53.toInt) hT (Or.inl rfl) (p27_b (by simp only [gs_at, gs_nk _ _ _ _ (show (1 : Nat) ≠ 2 by decide)]; omega) (by simp only [gs_at, gs_nk _ _ _ _ (show (2 : Nat) ≠ 1 by decide)]; omega))
    obtain ⟨gh59, b0, b1, b2, hq59, hT⟩ : ∃ g : Gh, g.1 h0 0 = gh.1 h0 0 ∧ g.1 h0 1 = x53.toInt ∧ g.1 h0 2 = x53.toInt + 1 ∧ (∀ b k, b ≠ h0 → g.1 b k = gh.1 b k) ∧ TY z (zA z) g H := ⟨_, by rw [gs_nk _ _ _ _ (by decide), gs_nk _ _ _ _ (by decide)], gs_at _ _ _ _, by rw [gs_nk _ _ _ _ (by decide), gs_at], fun b k hb9 => by rw [gs_na _ _ _ _ hb9, gs_na _ _ _ _ hb9], hT⟩
    have hwx := wfx_of hwf g0 hq59
    have hvis := vis_fl hvis g0 hq59
    refine as_27g (j := 1) (v := (x53.toInt + 1)) hx hb hK hT hS hq49 (fun b hb9 => zu_at hzu rfl hb9 hq49) (by omega) (by omega) (Or.inl rfl) (by have a1 := ix_nat (i := x53) (by omega); unfold p27; rw [gs_at, gs_nk _ _ _ _ (by decide)]; omega) (by intro k y hk h; have a1 := ix_nat (i := x53) (by omega); unfold p27 at h ⊢; rw [gs_at, gs_nk _ _ _ _ (by decide)]; omega) dX1_addMan_60 (fun H locs hT hS => ?_)
    obtain ⟨gh60, w60, hq60, hT⟩ : ∃ g : Gh, g.1 h0 1 = (x53.toInt + 1) ∧ (∀ b k, ¬ (b = h0 ∧ k = 1) → g.1 b k = gh59.1 b k) ∧ TY z (zA z) g H := ⟨_, gs_at _ _ _ _, fun b k hk => if_neg hk, hT⟩
    have hwx := wfx_tr hwx g0 (fun b k hb9 => hq60 b k (fun q => hb9 q.1))
    have hvis := vis_fl hvis g0 (fun b k hb9 => hq60 b k (fun q => hb9 q.1))
    have k0 := hq60 h0 0 (fun q => absurd q.2 (by decide))
    have k2 := hq60 h0 2 (fun q => absurd q.2 (by decide))
    refine lv_aload_n hx hb dX1_addMan_61 rfl (lv_at hl 0 rfl) ?_
    refine lv_dup hx hb dX1_addMan_62 rfl ?_
    refine gt_Floor_men hx hb hts ic_Floor hown hK hT g0 (hts _ mw_1_60) dX1_addMan_63 (fun x63 i63 e63 g63 => ?_)
    refine r_iconst hx hb dX1_addMan_66 (by decide) (by decide) (fun x66 e66 => ?_)
    refine r_iadd hx hb dX1_addMan_67 (by omega) (by omega) (fun x67 e67 => ?_)
    refine pt_Floor_men hx hb hts ic_Floor hown hK hT hS g0 (hts _ mw_1_60) (by omega) (by omega) dX1_addMan_68 (fun H locs hT hS => ?_)
    obtain ⟨gh68, a0, a1, a2, hq68, hT⟩ : ∃ g : Gh, g.1 h0 0 = x67.toInt ∧ g.1 h0 1 = gh60.1 h0 1 ∧ g.1 h0 2 = gh60.1 h0 2 ∧ (∀ b k, b ≠ h0 → g.1 b k = gh60.1 b k) ∧ TY z (zA z) g H := ⟨_, gs_at _ _ _ _, gs_nk _ _ _ _ (by decide), gs_nk _ _ _ _ (by decide), fun b k hb9 => gs_na _ _ _ _ hb9, hT⟩
    have hwx := wfx_tr hwx g0 hq68
    have hvis := vis_fl hvis g0 hq68
    have hwf := wf_x hwx (by unfold wfF; omega)
    exact rt_v hx hb hr hlk hS ⟨_, hwf, hvis, hT⟩ dX1_addMan_71
theorem k_J7_fill_53178 : cBS yJ7_fill_53178 cJ7_fill_53178 4 none 2 := ⟨mw_2_56, mw_1_9, mw_2_57, ⟨by decide, by decide, by decide⟩⟩
set_option maxHeartbeats 4000000 in
set_option maxRecDepth 100000 in
theorem c_J7_fill_53178 (l : Launch) (z : Zt) (gh : Gh) (ra1 ora1 : Nat) (hra1 : zG z ra1 = (20, ora1)) (p2 : Int32) : Met l yJ7_fill_53178 (uw yJ7_fill_53178 cJ7_fill_53178 4 none) (rmF 1 64) (PcW z [.ref ra1, .int p2] (fun H => TY z (zA z) gh H)) (QcV z (fun H => TY z (zA z) gh H)) 0 0 (zA z) := by
  refine Met.ofW (cc := cJ7_fill_53178) (maxL := 4) (ret := none) (by decide) rfl ?_
  intro p e s m args below meth c s₁ B hml hv
  obtain ⟨rfl, hW, hK, hSK⟩ := hv
  have hx := B.exec
  have hb := B.bytes
  have hr := B.returns
  have hts : ∀ w ∈ lw_ok, w.before ([.ref ra1, .int p2] : List Value).toArray s = true := fun w hw => atoms_spec (ws := uw yJ7_fill_53178 cJ7_fill_53178 4 none) B.pre w (List.mem_cons_of_mem _ hw)
  have hown : s.vm.findClass RJ7 = some m.cls := findClass_of_methodNamed B.named
  have hlk := B.notSynchronized
  have hC : CallFix p m c cJ7_fill_53178 4 s ([.ref ra1, .int p2] : List Value).toArray lw_ok RJ7 := ⟨hx, hb, hml, hown, hts⟩
  have hS : va_S (zA z) s.heap s.heap [] := va_S.rf
  have hl := lv_entry ([.ref ra1, .int p2]) (n := 4) (Nat.le_of_ble_eq_true rfl)
  rw [lg_entry_eq]
  generalize (lg_sl ([.ref ra1, .int p2]) ++ List.replicate (4 - (lg_sl ([.ref ra1, .int p2])).length) Slot.unset).toArray = ls at hl ⊢
  have hl : lv_has ls 4 [(0, .ref ra1), (1, .int p2)] := hl
  show W p l e (rmF 1 64) s m ([.ref ra1, .int p2] : List Value).toArray below meth c s.heap [] 0 0 (MQ below (QcV z (fun H => TY z (zA z) gh H)) ([.ref ra1, .int p2] : List Value).toArray s 0 0 (zA z)) (F0 m 0 ls [])
  have hT : TY z (zA z) gh s.heap := hW
  have mx_p2 := i_mx p2
  refine r_iconst hx hb dJ7_fill_53178_0 (by decide) (by decide) (fun x0 e0 => ?_)
  refine lv_istore_n (lv' := [(2, .int x0), (0, .ref ra1), (1, .int p2)]) hx hb dJ7_fill_53178_1 rfl hl (by decide) rfl (fun ls hl => ?_)
  refine lv_aload_n hx hb dJ7_fill_53178_2 rfl (lv_at hl 1 rfl) ?_
  refine an_20 hx hb hK hT hra1 dJ7_fill_53178_3 (fun x3 e3 => ?_)
  refine lv_istore_n (lv' := [(3, .int x3), (2, .int x0), (0, .ref ra1), (1, .int p2)]) hx hb dJ7_fill_53178_4 rfl hl (by decide) rfl (fun ls hl => ?_)
  have J5 : ∀ (n5 : Nat) (ls : Array Slot) (H : Heap) (locs : List Loc) (y5_2 : Int32), (0 ≤ y5_2.toInt ∧ y5_2.toInt ≤ 5) → (5 - y5_2.toInt) < (n5 : Int) → TY z (zA z) gh H → va_S (zA z) s.heap H locs → lv_has ls 4 [(0, .ref ra1), (1, .int p2), (2, .int y5_2), (3, .int x3)] → W p l e (rmF 1 64) s m ([.ref ra1, .int p2] : List Value).toArray below meth c H locs 0 0 (MQ below (QcV z (fun H => TY z (zA z) gh H)) ([.ref ra1, .int p2] : List Value).toArray s 0 0 (zA z)) (F0 m 5 ls []) := by
    intro n5
    induction n5 with
    | zero => intro ls H locs y5_2 j5_y5_2 mm5 hT hS hl; exfalso; omega
    | succ n5 ih5 =>
      intro ls H locs y5_2 j5_y5_2 mm5 hT hS hl
      refine lv_iload_n hx hb dJ7_fill_53178_5 rfl (lv_at hl 2 rfl) ?_
      refine lv_iload_n hx hb dJ7_fill_53178_6 rfl (lv_at hl 3 rfl) ?_
      refine r_icmp_ge (tgt := 20) hx hb dJ7_fill_53178_7 (by decide) (fun c7 => ?_) (fun c7 => ?_)
      · exact rt_v hx hb hr hlk hS hT dJ7_fill_53178_20
      · refine lv_aload_n hx hb dJ7_fill_53178_10 rfl (lv_at hl 0 rfl) ?_
        refine lv_iload_n hx hb dJ7_fill_53178_11 rfl (lv_at hl 2 rfl) ?_
        refine lv_iload_n hx hb dJ7_fill_53178_12 rfl (lv_at hl 1 rfl) ?_
        refine as_20 hx hb hK hT hS hra1 (by omega) (by omega) dJ7_fill_53178_13 (fun H locs hT hS => ?_)
        refine r_iinc (lv' := fun v__ => [(2, .int v__), (0, .ref ra1), (1, .int p2), (3, .int x3)]) hx hb dJ7_fill_53178_14 hl (k := 2) rfl (by decide) (fun _ => rfl) ⟨by decide, by decide⟩ (by omega) (by omega) (fun x14 ls e14 hl => ?_)
        refine lv_goto (tgt := 5) hx hb dJ7_fill_53178_17 (by decide) ?_
        exact ih5 ls _ _ x14 (by omega) (by omega) hT hS (lv_sub hl [1, 2, 0, 3] rfl)
  exact J5 (((5 - x0.toInt)).toNat + 1) ls _ _ x0 (by omega) (by omega) hT hS (lv_sub hl [2, 3, 1, 0] rfl)
set_option maxHeartbeats 4000000 in
set_option maxRecDepth 100000 in
theorem c_fill23 (l : Launch) (z : Zt) (gh : Gh) (ra1 ora1 : Nat) (hra1 : zG z ra1 = (23, ora1)) (p2 : Int32) : Met l yJ7_fill_53178 (uw yJ7_fill_53178 cJ7_fill_53178 4 none) (rmF 1 64) (PcW z [.ref ra1, .int p2] (fun H => TY z (zA z) gh H)) (QcV z (fun H => TY z (zA z) gh H)) 0 0 (zA z) := by
  refine Met.ofW (cc := cJ7_fill_53178) (maxL := 4) (ret := none) (by decide) rfl ?_
  intro p e s m args below meth c s₁ B hml hv
  obtain ⟨rfl, hW, hK, hSK⟩ := hv
  have hx := B.exec
  have hb := B.bytes
  have hr := B.returns
  have hts : ∀ w ∈ lw_ok, w.before ([.ref ra1, .int p2] : List Value).toArray s = true := fun w hw => atoms_spec (ws := uw yJ7_fill_53178 cJ7_fill_53178 4 none) B.pre w (List.mem_cons_of_mem _ hw)
  have hown : s.vm.findClass RJ7 = some m.cls := findClass_of_methodNamed B.named
  have hlk := B.notSynchronized
  have hC : CallFix p m c cJ7_fill_53178 4 s ([.ref ra1, .int p2] : List Value).toArray lw_ok RJ7 := ⟨hx, hb, hml, hown, hts⟩
  have hS : va_S (zA z) s.heap s.heap [] := va_S.rf
  have hl := lv_entry ([.ref ra1, .int p2]) (n := 4) (Nat.le_of_ble_eq_true rfl)
  rw [lg_entry_eq]
  generalize (lg_sl ([.ref ra1, .int p2]) ++ List.replicate (4 - (lg_sl ([.ref ra1, .int p2])).length) Slot.unset).toArray = ls at hl ⊢
  have hl : lv_has ls 4 [(0, .ref ra1), (1, .int p2)] := hl
  show W p l e (rmF 1 64) s m ([.ref ra1, .int p2] : List Value).toArray below meth c s.heap [] 0 0 (MQ below (QcV z (fun H => TY z (zA z) gh H)) ([.ref ra1, .int p2] : List Value).toArray s 0 0 (zA z)) (F0 m 0 ls [])
  have hT : TY z (zA z) gh s.heap := hW
  have mx_p2 := i_mx p2
  refine r_iconst hx hb dJ7_fill_53178_0 (by decide) (by decide) (fun x0 e0 => ?_)
  refine lv_istore_n (lv' := [(2, .int x0), (0, .ref ra1), (1, .int p2)]) hx hb dJ7_fill_53178_1 rfl hl (by decide) rfl (fun ls hl => ?_)
  refine lv_aload_n hx hb dJ7_fill_53178_2 rfl (lv_at hl 1 rfl) ?_
  refine an_23 hx hb hK hT hra1 dJ7_fill_53178_3 (fun x3 e3 => ?_)
  refine lv_istore_n (lv' := [(3, .int x3), (2, .int x0), (0, .ref ra1), (1, .int p2)]) hx hb dJ7_fill_53178_4 rfl hl (by decide) rfl (fun ls hl => ?_)
  have J5 : ∀ (n5 : Nat) (ls : Array Slot) (H : Heap) (locs : List Loc) (y5_2 : Int32), (0 ≤ y5_2.toInt ∧ y5_2.toInt ≤ 40) → (40 - y5_2.toInt) < (n5 : Int) → TY z (zA z) gh H → va_S (zA z) s.heap H locs → lv_has ls 4 [(0, .ref ra1), (1, .int p2), (2, .int y5_2), (3, .int x3)] → W p l e (rmF 1 64) s m ([.ref ra1, .int p2] : List Value).toArray below meth c H locs 0 0 (MQ below (QcV z (fun H => TY z (zA z) gh H)) ([.ref ra1, .int p2] : List Value).toArray s 0 0 (zA z)) (F0 m 5 ls []) := by
    intro n5
    induction n5 with
    | zero => intro ls H locs y5_2 j5_y5_2 mm5 hT hS hl; exfalso; omega
    | succ n5 ih5 =>
      intro ls H locs y5_2 j5_y5_2 mm5 hT hS hl
      refine lv_iload_n hx hb dJ7_fill_53178_5 rfl (lv_at hl 2 rfl) ?_
      refine lv_iload_n hx hb dJ7_fill_53178_6 rfl (lv_at hl 3 rfl) ?_
      refine r_icmp_ge (tgt := 20) hx hb dJ7_fill_53178_7 (by decide) (fun c7 => ?_) (fun c7 => ?_)
      · exact rt_v hx hb hr hlk hS hT dJ7_fill_53178_20
      · refine lv_aload_n hx hb dJ7_fill_53178_10 rfl (lv_at hl 0 rfl) ?_
        refine lv_iload_n hx hb dJ7_fill_53178_11 rfl (lv_at hl 2 rfl) ?_
        refine lv_iload_n hx hb dJ7_fill_53178_12 rfl (lv_at hl 1 rfl) ?_
        refine as_23 hx hb hK hT hS hra1 (by omega) (by omega) dJ7_fill_53178_13 (fun H locs hT hS => ?_)
        refine r_iinc (lv' := fun v__ => [(2, .int v__), (0, .ref ra1), (1, .int p2), (3, .int x3)]) hx hb dJ7_fill_53178_14 hl (k := 2) rfl (by decide) (fun _ => rfl) ⟨by decide, by decide⟩ (by omega) (by omega) (fun x14 ls e14 hl => ?_)
        refine lv_goto (tgt := 5) hx hb dJ7_fill_53178_17 (by decide) ?_
        exact ih5 ls _ _ x14 (by omega) (by omega) hT hS (lv_sub hl [1, 2, 0, 3] rfl)
  exact J5 (((40 - x0.toInt)).toNat + 1) ls _ _ x0 (by omega) (by omega) hT hS (lv_sub hl [2, 3, 1, 0] rfl)
theorem k_X0_copyFrom : cBV yX0_copyFrom cX0_copyFrom 2 none 1 := ⟨mw_2_197, mw_2_198, mw_1_3, mw_2_199, ⟨by decide, by decide, by decide⟩⟩
set_option maxHeartbeats 4000000 in
set_option maxRecDepth 100000 in
theorem c_X0_copyFrom (l : Launch) (z : Zt) (v : Nat → Nat → Int) (h0 o0 : Nat) (g0 : zG z h0 = (10, o0)) (ra1 ora1 : Nat) (hra1 : zG z ra1 = (10, ora1)) (pr0 : o0 ≠ ora1) : Met l yX0_copyFrom (uw yX0_copyFrom cX0_copyFrom 2 none) (rmF 2 86) (PcW z [.ref h0, .ref ra1] (fun H => WX z v H)) (QcV z (fun H => WX z v H)) 0 0 (zA z) := by
  refine Met.ofW (cc := cX0_copyFrom) (maxL := 2) (ret := none) (by decide) rfl ?_
  intro p e s m args below meth c s₁ B hml hv
  obtain ⟨rfl, hW, hK, hSK⟩ := hv
  have hx := B.exec
  have hb := B.bytes
  have hr := B.returns
  have hts : ∀ w ∈ lw_ok, w.before ([.ref h0, .ref ra1] : List Value).toArray s = true := fun w hw => atoms_spec (ws := uw yX0_copyFrom cX0_copyFrom 2 none) B.pre w (List.mem_cons_of_mem _ hw)
  have hown : s.vm.findClass RX0 = some m.cls := findClass_of_methodNamed B.named
  have hlk := B.notSynchronized
  have hC : CallFix p m c cX0_copyFrom 2 s ([.ref h0, .ref ra1] : List Value).toArray lw_ok RX0 := ⟨hx, hb, hml, hown, hts⟩
  have hS : va_S (zA z) s.heap s.heap [] := va_S.rf
  have hl := lv_entry ([.ref h0, .ref ra1]) (n := 2) (Nat.le_of_ble_eq_true rfl)
  rw [lg_entry_eq]
  generalize (lg_sl ([.ref h0, .ref ra1]) ++ List.replicate (2 - (lg_sl ([.ref h0, .ref ra1])).length) Slot.unset).toArray = ls at hl ⊢
  have hl : lv_has ls 2 [(0, .ref h0), (1, .ref ra1)] := hl
  show W p l e (rmF 2 86) s m ([.ref h0, .ref ra1] : List Value).toArray below meth c s.heap [] 0 0 (MQ below (QcV z (fun H => WX z v H)) ([.ref h0, .ref ra1] : List Value).toArray s 0 0 (zA z)) (F0 m 0 ls [])
  obtain ⟨gh, hwf, hvis, hT⟩ := hW
  refine lv_aload_n hx hb dX0_copyFrom_0 rfl (lv_at hl 0 rfl) ?_
  refine gt_Evening_floor hx hb hts ic_Evening hown hK hT g0 (hts _ mw_1_89) dX0_copyFrom_1 (fun q1 hq1 => ?_)
  refine lv_aload_n hx hb dX0_copyFrom_4 rfl (lv_at hl 1 rfl) ?_
  refine gt_Evening_floor hx hb hts ic_Evening hown hK hT hra1 (hts _ mw_1_89) dX0_copyFrom_5 (fun q5 hq5 => ?_)
  refine cl_Vv (rest := []) hC hK hSK (c_X1_copyFrom l z v q1 (o0) hq1 q5 (ora1) hq5 (fun q9 => by have h9 := hq1; rw [q9, hq5] at h9; have h8 := congrArg Prod.snd h9; dsimp only at h8; omega)) k_X1_copyFrom mw_2_200 ⟨rfl, rfl, Nat.le_of_ble_eq_true rfl, Nat.le_of_ble_eq_true rfl⟩ (rv_Floor hK hT hq1) ⟨_, hwf, hvis, hT⟩ rfl hl.1 rfl (Nat.le_of_ble_eq_true rfl) dX0_copyFrom_8 ⟨Nat.zero_le _, Nat.zero_le _⟩ hS (fun _ h => h) (fun _ _ h => h) (fun H locs hpo hS => ?_)
  obtain ⟨gh8, hwf, hvis, hT⟩ := hpo
  refine lv_aload_n hx hb dX0_copyFrom_11 rfl (lv_at hl 1 rfl) ?_
  refine gt_Evening_kin hx hb hts ic_Evening hown hK hT hra1 (hts _ mw_1_93) dX0_copyFrom_12 (fun q12 hq12 => ?_)
  refine r_iconst hx hb dX0_copyFrom_15 (by decide) (by decide) (fun x15 e15 => ?_)
  refine lv_aload_n hx hb dX0_copyFrom_16 rfl (lv_at hl 0 rfl) ?_
  refine gt_Evening_kin hx hb hts ic_Evening hown hK hT g0 (hts _ mw_1_93) dX0_copyFrom_17 (fun q17 hq17 => ?_)
  refine r_iconst hx hb dX0_copyFrom_20 (by decide) (by decide) (fun x20 e20 => ?_)
  refine r_iconst hx hb dX0_copyFrom_21 (by decide) (by decide) (fun x21 e21 => ?_)
  refine cp_20_20 hx hb (hml.trans hl.1.symm) hts hown mw_2_204 hK hT hS hq12 hq17 (by omega) (by omega) (by omega) (by omega) (by omega) (Nat.le_of_ble_eq_true rfl) (Nat.le_of_ble_eq_true rfl) dX0_copyFrom_22 (fun H locs hT hS => ?_)
  refine lv_aload_n hx hb dX0_copyFrom_25 rfl (lv_at hl 1 rfl) ?_
  refine gt_Evening_program hx hb hts ic_Evening hown hK hT hra1 (hts _ mw_1_96) dX0_copyFrom_26 (fun q26 hq26 => ?_)
  refine r_iconst hx hb dX0_copyFrom_29 (by decide) (by decide) (fun x29 e29 => ?_)
  refine lv_aload_n hx hb dX0_copyFrom_30 rfl (lv_at hl 0 rfl) ?_
  refine gt_Evening_program hx hb hts ic_Evening hown hK hT g0 (hts _ mw_1_96) dX0_copyFrom_31 (fun q31 hq31 => ?_)
  refine r_iconst hx hb dX0_copyFrom_34 (by decide) (by decide) (fun x34 e34 => ?_)
  refine r_bipush hx hb dX0_copyFrom_35 rfl (fun x35 e35 => ?_)
  refine cp_21_21 hx hb (hml.trans hl.1.symm) hts hown mw_2_204 hK hT hS hq26 hq31 (by omega) (by omega) (by omega) (by omega) (by omega) (Nat.le_of_ble_eq_true rfl) (Nat.le_of_ble_eq_true rfl) dX0_copyFrom_37 (fun H locs hT hS => ?_)
  refine lv_aload_n hx hb dX0_copyFrom_40 rfl (lv_at hl 1 rfl) ?_
  refine gt_Evening_seenWoman hx hb hts ic_Evening hown hK hT hra1 (hts _ mw_1_100) dX0_copyFrom_41 (fun q41 hq41 => ?_)
  refine r_iconst hx hb dX0_copyFrom_44 (by decide) (by decide) (fun x44 e44 => ?_)
  refine lv_aload_n hx hb dX0_copyFrom_45 rfl (lv_at hl 0 rfl) ?_
  refine gt_Evening_seenWoman hx hb hts ic_Evening hown hK hT g0 (hts _ mw_1_100) dX0_copyFrom_46 (fun q46 hq46 => ?_)
  refine r_iconst hx hb dX0_copyFrom_49 (by decide) (by decide) (fun x49 e49 => ?_)
  refine r_bipush hx hb dX0_copyFrom_50 rfl (fun x50 e50 => ?_)
  refine cp_25_25 hx hb (hml.trans hl.1.symm) hts hown mw_2_204 hK hT hS hq41 hq46 (by omega) (by omega) (by omega) (by omega) (by omega) (Nat.le_of_ble_eq_true rfl) (Nat.le_of_ble_eq_true rfl) dX0_copyFrom_52 (fun H locs hT hS => ?_)
  refine lv_aload_n hx hb dX0_copyFrom_55 rfl (lv_at hl 1 rfl) ?_
  refine gt_Evening_seenBehind hx hb hts ic_Evening hown hK hT hra1 (hts _ mw_1_102) dX0_copyFrom_56 (fun q56 hq56 => ?_)
  refine r_iconst hx hb dX0_copyFrom_59 (by decide) (by decide) (fun x59 e59 => ?_)
  refine lv_aload_n hx hb dX0_copyFrom_60 rfl (lv_at hl 0 rfl) ?_
  refine gt_Evening_seenBehind hx hb hts ic_Evening hown hK hT g0 (hts _ mw_1_102) dX0_copyFrom_61 (fun q61 hq61 => ?_)
  refine r_iconst hx hb dX0_copyFrom_64 (by decide) (by decide) (fun x64 e64 => ?_)
  refine r_bipush hx hb dX0_copyFrom_65 rfl (fun x65 e65 => ?_)
  refine cp_26_26 hx hb (hml.trans hl.1.symm) hts hown mw_2_204 hK hT hS hq56 hq61 (by omega) (by omega) (by omega) (by omega) (by omega) (Nat.le_of_ble_eq_true rfl) (Nat.le_of_ble_eq_true rfl) dX0_copyFrom_67 (fun H locs hT hS => ?_)
  refine lv_aload_n hx hb dX0_copyFrom_70 rfl (lv_at hl 1 rfl) ?_
  refine gt_Evening_seenMan hx hb hts ic_Evening hown hK hT hra1 (hts _ mw_1_104) dX0_copyFrom_71 (fun q71 hq71 => ?_)
  refine r_iconst hx hb dX0_copyFrom_74 (by decide) (by decide) (fun x74 e74 => ?_)
  refine lv_aload_n hx hb dX0_copyFrom_75 rfl (lv_at hl 0 rfl) ?_
  refine gt_Evening_seenMan hx hb hts ic_Evening hown hK hT g0 (hts _ mw_1_104) dX0_copyFrom_76 (fun q76 hq76 => ?_)
  refine r_iconst hx hb dX0_copyFrom_79 (by decide) (by decide) (fun x79 e79 => ?_)
  refine r_bipush hx hb dX0_copyFrom_80 rfl (fun x80 e80 => ?_)
  refine cp_22_22 hx hb (hml.trans hl.1.symm) hts hown mw_2_204 hK hT hS hq71 hq76 (by omega) (by omega) (by omega) (by omega) (by omega) (Nat.le_of_ble_eq_true rfl) (Nat.le_of_ble_eq_true rfl) dX0_copyFrom_82 (fun H locs hT hS => ?_)
  refine lv_aload_n hx hb dX0_copyFrom_85 rfl (lv_at hl 0 rfl) ?_
  refine lv_aload_n hx hb dX0_copyFrom_86 rfl (lv_at hl 1 rfl) ?_
  refine gt_Evening_figures hx hb hts ic_Evening hown hK hT hra1 (hts _ mw_1_107) dX0_copyFrom_87 (fun x87 i87 e87 g87 => ?_)
  refine pt_Evening_figures hx hb hts ic_Evening hown hK hT hS g0 (hts _ mw_1_107) (by omega) (by omega) dX0_copyFrom_90 (fun H locs hT hS => ?_)
  obtain ⟨gh90, w90, hq90, hwf, hvis, hT⟩ : ∃ g : Gh, g.1 h0 36 = x87.toInt ∧ (∀ b k, k ≠ 36 → g.1 b k = gh8.1 b k) ∧ wf z g ∧ vis z g v ∧ TY z (zA z) g H := ⟨_, gs_at _ _ _ _, fun b k hk => gs_nk _ _ _ _ hk, wf_of (eqv_gs rfl (eqv_rf _)) hwf, vis_of (eqv_gs rfl (eqv_rf _)) hvis, hT⟩
  refine lv_aload_n hx hb dX0_copyFrom_93 rfl (lv_at hl 0 rfl) ?_
  refine lv_aload_n hx hb dX0_copyFrom_94 rfl (lv_at hl 1 rfl) ?_
  refine gt_Evening_seen hx hb hts ic_Evening hown hK hT hra1 (hts _ mw_1_110) dX0_copyFrom_95 (fun x95 i95 e95 g95 => ?_)
  refine pt_Evening_seen hx hb hts ic_Evening hown hK hT hS g0 (hts _ mw_1_110) (by omega) (by omega) dX0_copyFrom_98 (fun H locs hT hS => ?_)
  obtain ⟨gh98, w98, hq98, hwf, hvis, hT⟩ : ∃ g : Gh, g.1 h0 37 = x95.toInt ∧ (∀ b k, k ≠ 37 → g.1 b k = gh90.1 b k) ∧ wf z g ∧ vis z g v ∧ TY z (zA z) g H := ⟨_, gs_at _ _ _ _, fun b k hk => gs_nk _ _ _ _ hk, wf_of (eqv_gs rfl (eqv_rf _)) hwf, vis_of (eqv_gs rfl (eqv_rf _)) hvis, hT⟩
  exact rt_v hx hb hr hlk hS ⟨_, hwf, hvis, hT⟩ dX0_copyFrom_101
theorem k_X0_empty : cBV yX0_empty cX0_empty 1 none 0 := ⟨mw_2_52, mw_2_53, mw_1_3, mw_2_54, ⟨by decide, by decide, by decide⟩⟩
set_option maxHeartbeats 4000000 in
set_option maxRecDepth 100000 in
theorem c_X0_empty (l : Launch) (z : Zt) (v : Nat → Nat → Int) (h0 o0 : Nat) (g0 : zG z h0 = (10, o0)) : Met l yX0_empty (uw yX0_empty cX0_empty 1 none) (rmF 2 87) (PcW z [.ref h0] (fun H => WX z v H)) (QcV z (fun H => WX z v H)) 0 0 (zA z) := by
  refine Met.ofW (cc := cX0_empty) (maxL := 1) (ret := none) (by decide) rfl ?_
  intro p e s m args below meth c s₁ B hml hv
  obtain ⟨rfl, hW, hK, hSK⟩ := hv
  have hx := B.exec
  have hb := B.bytes
  have hr := B.returns
  have hts : ∀ w ∈ lw_ok, w.before ([.ref h0] : List Value).toArray s = true := fun w hw => atoms_spec (ws := uw yX0_empty cX0_empty 1 none) B.pre w (List.mem_cons_of_mem _ hw)
  have hown : s.vm.findClass RX0 = some m.cls := findClass_of_methodNamed B.named
  have hlk := B.notSynchronized
  have hC : CallFix p m c cX0_empty 1 s ([.ref h0] : List Value).toArray lw_ok RX0 := ⟨hx, hb, hml, hown, hts⟩
  have hS : va_S (zA z) s.heap s.heap [] := va_S.rf
  have hl := lv_entry ([.ref h0]) (n := 1) (Nat.le_of_ble_eq_true rfl)
  rw [lg_entry_eq]
  generalize (lg_sl ([.ref h0]) ++ List.replicate (1 - (lg_sl ([.ref h0])).length) Slot.unset).toArray = ls at hl ⊢
  have hl : lv_has ls 1 [(0, .ref h0)] := hl
  show W p l e (rmF 2 87) s m ([.ref h0] : List Value).toArray below meth c s.heap [] 0 0 (MQ below (QcV z (fun H => WX z v H)) ([.ref h0] : List Value).toArray s 0 0 (zA z)) (F0 m 0 ls [])
  obtain ⟨gh, hwf, hvis, hT⟩ := hW
  refine lv_aload_n hx hb dX0_empty_0 rfl (lv_at hl 0 rfl) ?_
  refine gt_Evening_floor hx hb hts ic_Evening hown hK hT g0 (hts _ mw_1_89) dX0_empty_1 (fun q1 hq1 => ?_)
  refine r_iconst hx hb dX0_empty_4 (by decide) (by decide) (fun x4 e4 => ?_)
  have hT := gw_27 (o := q1) (j := 1) (v := 0) hT (Or.inl rfl) (p27_0 (by rw [gs_at]; omega))
  have hT := gw_27 (o := q1) (j := 2) (v := 0) hT (Or.inr rfl) (p27_0 (by rw [gs_nk _ _ _ _ (by decide), gs_at]; omega))
  refine pt_Floor_men hx hb hts ic_Floor hown hK hT hS hq1 (hts _ mw_1_61) (by omega) (by omega) dX0_empty_5 (fun H locs hT hS => ?_)
  obtain ⟨gh5, a0, a1, a2, hq5, hT⟩ : ∃ g : Gh, g.1 q1 0 = x4.toInt ∧ g.1 q1 1 = 0 ∧ g.1 q1 2 = 0 ∧ (∀ b k, b ≠ q1 → g.1 b k = gh.1 b k) ∧ TY z (zA z) g H := ⟨_, gs_at _ _ _ _, by rw [gs_nk _ _ _ _ (by decide), gs_nk _ _ _ _ (by decide), gs_at], by rw [gs_nk _ _ _ _ (by decide), gs_at], fun b k hb9 => by rw [gs_na _ _ _ _ hb9, gs_na _ _ _ _ hb9, gs_na _ _ _ _ hb9], hT⟩
  have hwx := wfx_of hwf hq1 hq5
  have hvis := vis_fl hvis hq1 hq5
  have hwf := wf_x hwx (by unfold wfF; omega)
  refine lv_aload_n hx hb dX0_empty_8 rfl (lv_at hl 0 rfl) ?_
  refine gt_Evening_floor hx hb hts ic_Evening hown hK hT g0 (hts _ mw_1_89) dX0_empty_9 (fun q9 hq9 => ?_)
  refine r_iconst hx hb dX0_empty_12 (by decide) (by decide) (fun x12 e12 => ?_)
  refine pt_Floor_danced hx hb hts ic_Floor hown hK hT hS hq9 (hts _ mw_1_65) dX0_empty_13 (fun H locs hT hS => ?_)
  refine lv_aload_n hx hb dX0_empty_16 rfl (lv_at hl 0 rfl) ?_
  refine gt_Evening_kin hx hb hts ic_Evening hown hK hT g0 (hts _ mw_1_93) dX0_empty_17 (fun q17 hq17 => ?_)
  refine r_iconst hx hb dX0_empty_20 (by decide) (by decide) (fun x20 e20 => ?_)
  refine cl_Sv (rest := []) hC hK hSK (c_J7_fill_53178 l z gh5 q17 (h0) hq17 x20) k_J7_fill_53178 mw_2_55 ⟨rfl, rfl, Nat.le_of_ble_eq_true rfl, Nat.le_of_ble_eq_true rfl⟩ hT rfl hl.1 rfl (Nat.le_of_ble_eq_true rfl) dX0_empty_21 ⟨Nat.zero_le _, Nat.zero_le _⟩ hS (fun _ h => h) (fun _ _ h => h) (fun H locs hpo hS => ?_)
  have hT := hpo
  refine lv_aload_n hx hb dX0_empty_24 rfl (lv_at hl 0 rfl) ?_
  refine r_iconst hx hb dX0_empty_25 (by decide) (by decide) (fun x25 e25 => ?_)
  refine pt_Evening_figures hx hb hts ic_Evening hown hK hT hS g0 (hts _ mw_1_107) (by omega) (by omega) dX0_empty_26 (fun H locs hT hS => ?_)
  obtain ⟨gh26, w26, hq26, hwf, hvis, hT⟩ : ∃ g : Gh, g.1 h0 36 = x25.toInt ∧ (∀ b k, k ≠ 36 → g.1 b k = gh5.1 b k) ∧ wf z g ∧ vis z g v ∧ TY z (zA z) g H := ⟨_, gs_at _ _ _ _, fun b k hk => gs_nk _ _ _ _ hk, wf_of (eqv_gs rfl (eqv_rf _)) hwf, vis_of (eqv_gs rfl (eqv_rf _)) hvis, hT⟩
  refine lv_aload_n hx hb dX0_empty_29 rfl (lv_at hl 0 rfl) ?_
  refine r_iconst hx hb dX0_empty_30 (by decide) (by decide) (fun x30 e30 => ?_)
  refine pt_Evening_seen hx hb hts ic_Evening hown hK hT hS g0 (hts _ mw_1_110) (by omega) (by omega) dX0_empty_31 (fun H locs hT hS => ?_)
  obtain ⟨gh31, w31, hq31, hwf, hvis, hT⟩ : ∃ g : Gh, g.1 h0 37 = x30.toInt ∧ (∀ b k, k ≠ 37 → g.1 b k = gh26.1 b k) ∧ wf z g ∧ vis z g v ∧ TY z (zA z) g H := ⟨_, gs_at _ _ _ _, fun b k hk => gs_nk _ _ _ _ hk, wf_of (eqv_gs rfl (eqv_rf _)) hwf, vis_of (eqv_gs rfl (eqv_rf _)) hvis, hT⟩
  exact rt_v hx hb hr hlk hS ⟨_, hwf, hvis, hT⟩ dX0_empty_34
theorem k_X5_follow : cBV yX5_follow cX5_follow 2 none 1 := ⟨mw_3_90, mw_3_91, mw_1_5, mw_3_92, ⟨by decide, by decide, by decide⟩⟩
set_option maxHeartbeats 4000000 in
set_option maxRecDepth 100000 in
theorem c_X5_follow (l : Launch) (z : Zt) (v : Nat → Nat → Int) (h0 o0 : Nat) (g0 : zG z h0 = (15, o0)) (ra1 ora1 : Nat) (hra1 : zG z ra1 = (10, ora1)) : Met l yX5_follow (uw yX5_follow cX5_follow 2 none) (rmF 4 130) (PcW z [.ref h0, .ref ra1] (fun H => WX z v H)) (QcV z (fun H => WX z v H)) 0 0 (zA z) := by
  refine Met.ofW (cc := cX5_follow) (maxL := 2) (ret := none) (by decide) rfl ?_
  intro p e s m args below meth c s₁ B hml hv
  obtain ⟨rfl, hW, hK, hSK⟩ := hv
  have hx := B.exec
  have hb := B.bytes
  have hr := B.returns
  have hts : ∀ w ∈ lw_ok, w.before ([.ref h0, .ref ra1] : List Value).toArray s = true := fun w hw => atoms_spec (ws := uw yX5_follow cX5_follow 2 none) B.pre w (List.mem_cons_of_mem _ hw)
  have hown : s.vm.findClass RX5 = some m.cls := findClass_of_methodNamed B.named
  have hlk := B.notSynchronized
  have hC : CallFix p m c cX5_follow 2 s ([.ref h0, .ref ra1] : List Value).toArray lw_ok RX5 := ⟨hx, hb, hml, hown, hts⟩
  have hS : va_S (zA z) s.heap s.heap [] := va_S.rf
  have hl := lv_entry ([.ref h0, .ref ra1]) (n := 2) (Nat.le_of_ble_eq_true rfl)
  rw [lg_entry_eq]
  generalize (lg_sl ([.ref h0, .ref ra1]) ++ List.replicate (2 - (lg_sl ([.ref h0, .ref ra1])).length) Slot.unset).toArray = ls at hl ⊢
  have hl : lv_has ls 2 [(0, .ref h0), (1, .ref ra1)] := hl
  show W p l e (rmF 4 130) s m ([.ref h0, .ref ra1] : List Value).toArray below meth c s.heap [] 0 0 (MQ below (QcV z (fun H => WX z v H)) ([.ref h0, .ref ra1] : List Value).toArray s 0 0 (zA z)) (F0 m 0 ls [])
  obtain ⟨gh, hwf, hvis, hT⟩ := hW
  refine lv_aload_n hx hb dX5_follow_0 rfl (lv_at hl 0 rfl) ?_
  refine r_iconst hx hb dX5_follow_1 (by decide) (by decide) (fun x1 e1 => ?_)
  refine pt_Walk_steps hx hb hts ic_Walk hown hK hT hS g0 (hts _ mw_1_179) (by omega) (by omega) dX5_follow_2 (fun H locs hT hS => ?_)
  obtain ⟨gh2, w2, hq2, hwf, hvis, hT⟩ : ∃ g : Gh, g.1 h0 38 = x1.toInt ∧ (∀ b k, k ≠ 38 → g.1 b k = gh.1 b k) ∧ wf z g ∧ vis z g v ∧ TY z (zA z) g H := ⟨_, gs_at _ _ _ _, fun b k hk => gs_nk _ _ _ _ hk, wf_of (eqv_gs rfl (eqv_rf _)) hwf, vis_of (eqv_gs rfl (eqv_rf _)) hvis, hT⟩
  refine lv_aload_n hx hb dX5_follow_5 rfl (lv_at hl 0 rfl) ?_
  refine cl_Vv (rest := []) hC hK hSK (c_X5_note l z gh2 h0 (o0) g0) k_X5_note mw_3_93 ⟨rfl, rfl, Nat.le_of_ble_eq_true rfl, Nat.le_of_ble_eq_true rfl⟩ (rv_Walk hK hT g0) hT rfl hl.1 rfl (Nat.le_of_ble_eq_true rfl) dX5_follow_6 ⟨Nat.zero_le _, Nat.zero_le _⟩ hS (fun _ h => h) (fun _ _ h => h) (fun H locs hpo hS => ?_)
  have hT := hpo
  have J9 : ∀ (n9 : Nat) (ls : Array Slot) (H : Heap) (locs : List Loc) (gh : Gh), (0 ≤ gh.1 h0 38 ∧ gh.1 h0 38 ≤ 8) → (8 - gh.1 h0 38) < (n9 : Int) → wf z gh → vis z gh v → TY z (zA z) gh H → va_S (zA z) s.heap H locs → lv_has ls 2 [(0, .ref h0), (1, .ref ra1)] → W p l e (rmF 4 130) s m ([.ref h0, .ref ra1] : List Value).toArray below meth c H locs 0 0 (MQ below (QcV z (fun H => WX z v H)) ([.ref h0, .ref ra1] : List Value).toArray s 0 0 (zA z)) (F0 m 9 ls []) := by
    intro n9
    induction n9 with
    | zero => intro ls H locs gh ex9_0 mm9 hwf hvis hT hS hl; exfalso; omega
    | succ n9 ih9 =>
      intro ls H locs gh ex9_0 mm9 hwf hvis hT hS hl
      refine lv_aload_n hx hb dX5_follow_9 rfl (lv_at hl 0 rfl) ?_
      refine gt_Walk_steps hx hb hts ic_Walk hown hK hT g0 (hts _ mw_1_179) dX5_follow_10 (fun x10 i10 e10 g10 => ?_)
      refine lv_aload_n hx hb dX5_follow_13 rfl (lv_at hl 1 rfl) ?_
      refine gt_Evening_figures hx hb hts ic_Evening hown hK hT hra1 (hts _ mw_1_106) dX5_follow_14 (fun x14 i14 e14 g14 => ?_)
      refine r_icmp_ge (tgt := 62) hx hb dX5_follow_17 (by decide) (fun c17 => ?_) (fun c17 => ?_)
      · exact rt_v hx hb hr hlk hS ⟨_, hwf, hvis, hT⟩ dX5_follow_62
      · refine lv_aload_n hx hb dX5_follow_20 rfl (lv_at hl 0 rfl) ?_
        refine gt_Walk_steps hx hb hts ic_Walk hown hK hT g0 (hts _ mw_1_179) dX5_follow_21 (fun x21 i21 e21 g21 => ?_)
        refine r_bipush hx hb dX5_follow_24 rfl (fun x24 e24 => ?_)
        refine r_icmp_ge (tgt := 62) hx hb dX5_follow_26 (by decide) (fun c26 => ?_) (fun c26 => ?_)
        · exact rt_v hx hb hr hlk hS ⟨_, hwf, hvis, hT⟩ dX5_follow_62
        · refine lv_aload_n hx hb dX5_follow_29 rfl (lv_at hl 0 rfl) ?_
          refine gt_Walk_floor hx hb hts ic_Walk hown hK hT g0 (hts _ mw_1_176) dX5_follow_30 (fun q30 hq30 => ?_)
          refine lv_aload_n hx hb dX5_follow_33 rfl (lv_at hl 1 rfl) ?_
          refine gt_Evening_program hx hb hts ic_Evening hown hK hT hra1 (hts _ mw_1_97) dX5_follow_34 (fun q34 hq34 => ?_)
          refine lv_aload_n hx hb dX5_follow_37 rfl (lv_at hl 0 rfl) ?_
          refine gt_Walk_steps hx hb hts ic_Walk hown hK hT g0 (hts _ mw_1_179) dX5_follow_38 (fun x38 i38 e38 g38 => ?_)
          refine al_21 hx hb hK hT hq34 (by omega) (by omega) dX5_follow_41 (fun x41 => ?_)
          refine cl_Vv (rest := []) hC hK hSK (c_X1_step l z gh q30 (5) hq30 x41 (hwf.1 q30 _ hq30) hwf.2.2) k_X1_step mw_3_98 ⟨rfl, rfl, Nat.le_of_ble_eq_true rfl, Nat.le_of_ble_eq_true rfl⟩ (rv_Floor hK hT hq30) hT rfl hl.1 rfl (Nat.le_of_ble_eq_true rfl) dX5_follow_42 ⟨Nat.zero_le _, Nat.zero_le _⟩ hS (fun _ h => h) (fun _ _ h => h) (fun H locs hpo hS => ?_)
          obtain ⟨gh42, hz42, hT⟩ := hpo
          have rr42_0 := deq_r hz42 h0 38
          have hst42 := hz42.2
          have hz42 := eqv_eq hz42.1
          have hwf := wf_of hz42 hwf
          have hvis := vis_of hz42 hvis
          refine lv_aload_n hx hb dX5_follow_45 rfl (lv_at hl 0 rfl) ?_
          refine lv_dup hx hb dX5_follow_46 rfl ?_
          refine gt_Walk_steps hx hb hts ic_Walk hown hK hT g0 (hts _ mw_1_179) dX5_follow_47 (fun x47 i47 e47 g47 => ?_)
          refine r_iconst hx hb dX5_follow_50 (by decide) (by decide) (fun x50 e50 => ?_)
          refine r_iadd hx hb dX5_follow_51 (by omega) (by omega) (fun x51 e51 => ?_)
          refine pt_Walk_steps hx hb hts ic_Walk hown hK hT hS g0 (hts _ mw_1_179) (by omega) (by omega) dX5_follow_52 (fun H locs hT hS => ?_)
          obtain ⟨gh52, w52, hq52, hwf, hvis, hT⟩ : ∃ g : Gh, g.1 h0 38 = x51.toInt ∧ (∀ b k, k ≠ 38 → g.1 b k = gh42.1 b k) ∧ wf z g ∧ vis z g v ∧ TY z (zA z) g H := ⟨_, gs_at _ _ _ _, fun b k hk => gs_nk _ _ _ _ hk, wf_of (eqv_gs rfl (eqv_rf _)) hwf, vis_of (eqv_gs rfl (eqv_rf _)) hvis, hT⟩
          refine lv_aload_n hx hb dX5_follow_55 rfl (lv_at hl 0 rfl) ?_
          refine cl_Vv (rest := []) hC hK hSK (c_X5_note l z gh52 h0 (o0) g0) k_X5_note mw_3_93 ⟨rfl, rfl, Nat.le_of_ble_eq_true rfl, Nat.le_of_ble_eq_true rfl⟩ (rv_Walk hK hT g0) hT rfl hl.1 rfl (Nat.le_of_ble_eq_true rfl) dX5_follow_56 ⟨Nat.zero_le _, Nat.zero_le _⟩ hS (fun _ h => h) (fun _ _ h => h) (fun H locs hpo hS => ?_)
          have hT := hpo
          refine lv_goto (tgt := 9) hx hb dX5_follow_59 (by decide) ?_
          exact ih9 ls _ _ _ (by omega) (by omega) hwf hvis hT hS (lv_sub hl [0, 1] rfl)
  exact J9 (((8 - gh2.1 h0 38)).toNat + 1) ls _ _ _ (by omega) (by omega) hwf hvis hT hS (lv_sub hl [0, 1] rfl)
theorem k_X2_descend : cBV yX2_descend cX2_descend 7 none 3 := ⟨mw_3_152, ms_1_6, mw_1_6, mw_3_153, ⟨by decide, by decide, by decide⟩⟩
set_option maxHeartbeats 4000000 in
set_option maxRecDepth 100000 in
theorem c_X2_descend (l : Launch) (z : Zt) (v : Nat → Nat → Int) (h0 o0 : Nat) (g0 : zG z h0 = (12, o0)) (ra1 ora1 : Nat) (hra1 : zG z ra1 = (10, ora1))  : ∀ (d : Nat) (p2 : Int32) (p3 : Int32) (bp2 : 0 ≤ p2.toInt ∧ p2.toInt ≤ 5) (pr0 : 5 ≤ p2.toInt + (d : Int)), Met l yX2_descend (uw yX2_descend cX2_descend 7 none) (rmF (4 + d) (130 + 26 * d)) (PcW z [.ref h0, .ref ra1, .int p2, .int p3] (fun H => WX z v H)) (QcV z (fun H => WX z v H)) 0 0 (zA z) := by
  intro d
  induction d using Nat.strongRecOn with
  | _ d ih =>
  intro p2 p3 bp2 pr0
  refine Met.ofW (cc := cX2_descend) (maxL := 7) (ret := none) (by decide) rfl ?_
  intro p e s m args below meth c s₁ B hml hv
  obtain ⟨rfl, hW, hK, hSK⟩ := hv
  have hx := B.exec
  have hb := B.bytes
  have hr := B.returns
  have hts : ∀ w ∈ lw_ok, w.before ([.ref h0, .ref ra1, .int p2, .int p3] : List Value).toArray s = true := fun w hw => atoms_spec (ws := uw yX2_descend cX2_descend 7 none) B.pre w (List.mem_cons_of_mem _ hw)
  have hown : s.vm.findClass RX2 = some m.cls := findClass_of_methodNamed B.named
  have hlk := B.notSynchronized
  have hC : CallFix p m c cX2_descend 7 s ([.ref h0, .ref ra1, .int p2, .int p3] : List Value).toArray lw_ok RX2 := ⟨hx, hb, hml, hown, hts⟩
  have hS : va_S (zA z) s.heap s.heap [] := va_S.rf
  have hl := lv_entry ([.ref h0, .ref ra1, .int p2, .int p3]) (n := 7) (Nat.le_of_ble_eq_true rfl)
  rw [lg_entry_eq]
  generalize (lg_sl ([.ref h0, .ref ra1, .int p2, .int p3]) ++ List.replicate (7 - (lg_sl ([.ref h0, .ref ra1, .int p2, .int p3])).length) Slot.unset).toArray = ls at hl ⊢
  have hl : lv_has ls 7 [(0, .ref h0), (1, .ref ra1), (2, .int p2), (3, .int p3)] := hl
  show W p l e (rmF (4 + d) (130 + 26 * d)) s m ([.ref h0, .ref ra1, .int p2, .int p3] : List Value).toArray below meth c s.heap [] 0 0 (MQ below (QcV z (fun H => WX z v H)) ([.ref h0, .ref ra1, .int p2, .int p3] : List Value).toArray s 0 0 (zA z)) (F0 m 0 ls [])
  obtain ⟨gh, hwf, hvis, hT⟩ := hW
  have mx_p3 := i_mx p3
  refine lv_iload_n hx hb dX2_descend_0 rfl (lv_at hl 2 rfl) ?_
  refine lv_aload_n hx hb dX2_descend_1 rfl (lv_at hl 0 rfl) ?_
  refine gt_Search_length hx hb hts ic_Search hown hK hT g0 (hts _ mw_1_205) dX2_descend_2 (fun x2 e2 g2 => ?_)
  refine r_icmp_lt (tgt := 13) hx hb dX2_descend_5 (by decide) (fun c5 => ?_) (fun c5 => ?_)
  · refine lv_aload_n hx hb dX2_descend_13 rfl (lv_at hl 0 rfl) ?_
    refine gt_Search_byPlaces hx hb hts ic_Search hown hK hT g0 (hts _ mw_1_204) dX2_descend_14 (fun x14 e14 g14 => ?_)
    have J28 : ∀ (ls : Array Slot) (H : Heap) (locs : List Loc) (t28_0 : Int32) (gh : Gh), (0 ≤ t28_0.toInt ∧ t28_0.toInt ≤ 5) → wf z gh → vis z gh v → TY z (zA z) gh H → va_S (zA z) s.heap H locs → lv_has ls 7 [(0, .ref h0), (1, .ref ra1), (2, .int p2), (3, .int p3)] → W p l e (rmF (4 + d) (130 + 26 * d)) s m ([.ref h0, .ref ra1, .int p2, .int p3] : List Value).toArray below meth c H locs 0 0 (MQ below (QcV z (fun H => WX z v H)) ([.ref h0, .ref ra1, .int p2, .int p3] : List Value).toArray s 0 0 (zA z)) (F0 m 28 ls [.int t28_0]) := by
      intro ls H locs t28_0 gh j28_t28_0 hwf hvis hT hS hl
      refine lv_istore (lv' := [(4, .int t28_0), (0, .ref h0), (1, .ref ra1), (2, .int p2), (3, .int p3)]) hx hb dX2_descend_28 hl (by decide) rfl (fun ls hl => ?_)
      refine lv_aload_n hx hb dX2_descend_30 rfl (lv_at hl 1 rfl) ?_
      refine gt_Search_behind hx hb hts ic_Search hown hK hT g0 (hts _ mw_1_198) dX2_descend_31 (fun q31 hq31 => ?_)
      refine lv_iload_n hx hb dX2_descend_34 rfl (lv_at hl 3 rfl) ?_
      refine r_iconst hx hb dX2_descend_35 (by decide) (by decide) (fun x35 e35 => ?_)
      refine r_iadd hx hb dX2_descend_36 (by omega) (by omega) (fun x36 e36 => ?_)
      refine al_35 hx hb hK hT hq31 (by omega) (by omega) dX2_descend_37 (fun q37 hq37 => ?_)
      refine lv_astore (lv' := [(5, .ref q37), (4, .int t28_0), (0, .ref h0), (1, .ref ra1), (2, .int p2), (3, .int p3)]) hx hb dX2_descend_38 hl (by decide) rfl (fun ls hl => ?_)
      refine r_iconst hx hb dX2_descend_40 (by decide) (by decide) (fun x40 e40 => ?_)
      refine lv_istore (lv' := [(6, .int x40), (5, .ref q37), (4, .int t28_0), (0, .ref h0), (1, .ref ra1), (2, .int p2), (3, .int p3)]) hx hb dX2_descend_41 hl (by decide) rfl (fun ls hl => ?_)
      have J43 : ∀ (n43 : Nat) (ls : Array Slot) (H : Heap) (locs : List Loc) (y43_6 : Int32) (gh : Gh), (0 ≤ y43_6.toInt ∧ y43_6.toInt ≤ 5) → (5 - y43_6.toInt) < (n43 : Int) → wf z gh → vis z gh v → TY z (zA z) gh H → va_S (zA z) s.heap H locs → lv_has ls 7 [(0, .ref h0), (1, .ref ra1), (2, .int p2), (3, .int p3), (4, .int t28_0), (5, .ref q37), (6, .int y43_6)] → W p l e (rmF (4 + d) (130 + 26 * d)) s m ([.ref h0, .ref ra1, .int p2, .int p3] : List Value).toArray below meth c H locs 0 0 (MQ below (QcV z (fun H => WX z v H)) ([.ref h0, .ref ra1, .int p2, .int p3] : List Value).toArray s 0 0 (zA z)) (F0 m 43 ls []) := by
        intro n43
        induction n43 with
        | zero => intro ls H locs y43_6 gh j43_y43_6 mm43 hwf hvis hT hS hl; exfalso; omega
        | succ n43 ih43 =>
          intro ls H locs y43_6 gh j43_y43_6 mm43 hwf hvis hT hS hl
          refine lv_iload hx hb dX2_descend_43 (lv_at hl 6 rfl) ?_
          refine lv_iload hx hb dX2_descend_45 (lv_at hl 4 rfl) ?_
          refine r_icmp_ge (tgt := 142) hx hb dX2_descend_47 (by decide) (fun c47 => ?_) (fun c47 => ?_)
          · exact rt_v hx hb hr hlk hS ⟨_, hwf, hvis, hT⟩ dX2_descend_142
          · refine lv_aload_n hx hb dX2_descend_50 rfl (lv_at hl 0 rfl) ?_
            refine gt_Search_byPlaces hx hb hts ic_Search hown hK hT g0 (hts _ mw_1_204) dX2_descend_51 (fun x51 e51 g51 => ?_)
            have J136 : ∀ (ls : Array Slot) (H : Heap) (locs : List Loc) (gh : Gh), (5 - y43_6.toInt) < ((n43 + 1 : Nat) : Int) → wf z gh → vis z gh v → TY z (zA z) gh H → va_S (zA z) s.heap H locs → lv_has ls 7 [(0, .ref h0), (1, .ref ra1), (2, .int p2), (3, .int p3), (4, .int t28_0), (5, .ref q37), (6, .int y43_6)] → W p l e (rmF (4 + d) (130 + 26 * d)) s m ([.ref h0, .ref ra1, .int p2, .int p3] : List Value).toArray below meth c H locs 0 0 (MQ below (QcV z (fun H => WX z v H)) ([.ref h0, .ref ra1, .int p2, .int p3] : List Value).toArray s 0 0 (zA z)) (F0 m 136 ls []) := by
              intro ls H locs gh mf136_43 hwf hvis hT hS hl
              refine r_iinc (lv' := fun v__ => [(6, .int v__), (0, .ref h0), (1, .ref ra1), (2, .int p2), (3, .int p3), (4, .int t28_0), (5, .ref q37)]) hx hb dX2_descend_136 hl (k := 6) rfl (by decide) (fun _ => rfl) ⟨by decide, by decide⟩ (by omega) (by omega) (fun x136 ls e136 hl => ?_)
              refine lv_goto (tgt := 43) hx hb dX2_descend_139 (by decide) ?_
              exact ih43 ls _ _ x136 _ (by omega) (by omega) hwf hvis hT hS (lv_sub hl [1, 2, 3, 4, 5, 6, 0] rfl)
            have J70 : ∀ (ls : Array Slot) (H : Heap) (locs : List Loc) (gh : Gh), (5 - y43_6.toInt) < ((n43 + 1 : Nat) : Int) → wf z gh → vis z gh v → TY z (zA z) gh H → va_S (zA z) s.heap H locs → lv_has ls 7 [(0, .ref h0), (1, .ref ra1), (2, .int p2), (3, .int p3), (4, .int t28_0), (5, .ref q37), (6, .int y43_6)] → W p l e (rmF (4 + d) (130 + 26 * d)) s m ([.ref h0, .ref ra1, .int p2, .int p3] : List Value).toArray below meth c H locs 0 0 (MQ below (QcV z (fun H => WX z v H)) ([.ref h0, .ref ra1, .int p2, .int p3] : List Value).toArray s 0 0 (zA z)) (F0 m 70 ls []) := by
              intro ls H locs gh mf70_43 hwf hvis hT hS hl
              refine lv_aload hx hb dX2_descend_70 (lv_at hl 5 rfl) ?_
              refine lv_aload_n hx hb dX2_descend_72 rfl (lv_at hl 0 rfl) ?_
              refine gt_Search_behind hx hb hts ic_Search hown hK hT g0 (hts _ mw_1_198) dX2_descend_73 (fun q73 hq73 => ?_)
              refine lv_iload_n hx hb dX2_descend_76 rfl (lv_at hl 2 rfl) ?_
              refine al_35 hx hb hK hT hq73 (by omega) (by omega) dX2_descend_77 (fun q77 hq77 => ?_)
              refine cl_Vv (rest := []) hC hK hSK (c_X1_copyFrom l z v q37 (6 + x36.toNatClampNeg) hq37 q77 (6 + p2.toNatClampNeg) hq77 (fun q9 => by have h9 := hq37; rw [q9, hq77] at h9; have h8 := congrArg Prod.snd h9; dsimp only at h8; have n90 := ix_nat (i := p2) (by omega); have n91 := ix_nat (i := x36) (by omega); omega)) k_X1_copyFrom mw_3_149 ⟨rfl, rfl, (show 1 + 1 ≤ 4 + d by omega), (show 8 + (3 + 11) + 64 ≤ 130 + 26 * d by omega)⟩ (rv_Floor hK hT hq37) ⟨_, hwf, hvis, hT⟩ rfl hl.1 rfl (Nat.le_of_ble_eq_true rfl) dX2_descend_78 ⟨Nat.zero_le _, Nat.zero_le _⟩ hS (fun _ h => h) (fun _ _ h => h) (fun H locs hpo hS => ?_)
              obtain ⟨gh78, hwf, hvis, hT⟩ := hpo
              refine lv_aload hx hb dX2_descend_81 (lv_at hl 5 rfl) ?_
              refine lv_aload_n hx hb dX2_descend_83 rfl (lv_at hl 0 rfl) ?_
              refine gt_Search_byPlaces hx hb hts ic_Search hown hK hT g0 (hts _ mw_1_204) dX2_descend_84 (fun x84 e84 g84 => ?_)
              have J102 : ∀ (ls : Array Slot) (H : Heap) (locs : List Loc) (t102_1 : Int32) (gh : Gh), (5 - y43_6.toInt) < ((n43 + 1 : Nat) : Int) → wf z gh → vis z gh v → TY z (zA z) gh H → va_S (zA z) s.heap H locs → lv_has ls 7 [(0, .ref h0), (1, .ref ra1), (2, .int p2), (3, .int p3), (4, .int t28_0), (5, .ref q37), (6, .int y43_6)] → W p l e (rmF (4 + d) (130 + 26 * d)) s m ([.ref h0, .ref ra1, .int p2, .int p3] : List Value).toArray below meth c H locs 0 0 (MQ below (QcV z (fun H => WX z v H)) ([.ref h0, .ref ra1, .int p2, .int p3] : List Value).toArray s 0 0 (zA z)) (F0 m 102 ls [.int t102_1, .ref q37]) := by
                intro ls H locs t102_1 gh mf102_43 hwf hvis hT hS hl
                refine cl_Vv (rest := []) hC hK hSK (c_X1_step l z gh q37 (6 + x36.toNatClampNeg) hq37 t102_1 (hwf.1 q37 _ hq37) hwf.2.2) k_X1_step mw_3_161 ⟨rfl, rfl, (show 3 + 1 ≤ 4 + d by omega), (show 8 + (2 + 11) + 109 ≤ 130 + 26 * d by omega)⟩ (rv_Floor hK hT hq37) hT rfl hl.1 rfl (Nat.le_of_ble_eq_true rfl) dX2_descend_102 ⟨Nat.zero_le _, Nat.zero_le _⟩ hS (fun _ h => h) (fun _ _ h => h) (fun H locs hpo hS => ?_)
                obtain ⟨gh102, hz102, hT⟩ := hpo
                have hst102 := hz102.2
                have hz102 := eqv_eq hz102.1
                have hwf := wf_of hz102 hwf
                have hvis := vis_of hz102 hvis
                refine lv_aload_n hx hb dX2_descend_105 rfl (lv_at hl 1 rfl) ?_
                refine lv_aload hx hb dX2_descend_106 (lv_at hl 5 rfl) ?_
                refine cl_Vi (rest := []) hC hK hSK (c_X0_cousinsMeet l z gh102 ra1 (ora1) hra1 q37 (6 + x36.toNatClampNeg) hq37) k_X0_cousinsMeet mw_3_162 ⟨rfl, rfl, (show 2 + 1 ≤ 4 + d by omega), (show 8 + (3 + 11) + 86 ≤ 130 + 26 * d by omega)⟩ (rv_Evening hK hT hra1) hT rfl hl.1 rfl (Nat.le_of_ble_eq_true rfl) dX2_descend_108 ⟨Nat.zero_le _, Nat.zero_le _⟩ hS (fun _ h => h) (fun _ _ h => h) (fun r108 H locs hpo hS => ?_)
                obtain ⟨hT, u108_0⟩ := hpo
                refine r_if_ne (tgt := 136) hx hb dX2_descend_111 (by decide) (fun c111 => ?_) (fun c111 => ?_)
                · exact J136 ls _ _ _ (by omega) hwf hvis hT hS (lv_sub hl [0, 1, 2, 3, 4, 5, 6] rfl)
                · refine lv_aload_n hx hb dX2_descend_114 rfl (lv_at hl 0 rfl) ?_
                  refine gt_Search_row hx hb hts ic_Search hown hK hT g0 (hts _ mw_1_199) dX2_descend_115 (fun q115 hq115 => ?_)
                  refine lv_iload_n hx hb dX2_descend_118 rfl (lv_at hl 2 rfl) ?_
                  refine lv_iload hx hb dX2_descend_119 (lv_at hl 6 rfl) ?_
                  refine as_20 hx hb hK hT hS hq115 (by omega) (by omega) dX2_descend_121 (fun H locs hT hS => ?_)
                  refine lv_aload_n hx hb dX2_descend_122 rfl (lv_at hl 0 rfl) ?_
                  refine lv_aload_n hx hb dX2_descend_123 rfl (lv_at hl 1 rfl) ?_
                  refine lv_iload_n hx hb dX2_descend_124 rfl (lv_at hl 2 rfl) ?_
                  refine r_iconst hx hb dX2_descend_125 (by decide) (by decide) (fun x125 e125 => ?_)
                  refine r_iadd hx hb dX2_descend_126 (by omega) (by omega) (fun x126 e126 => ?_)
                  refine lv_iload_n hx hb dX2_descend_127 rfl (lv_at hl 3 rfl) ?_
                  refine r_iconst hx hb dX2_descend_128 (by decide) (by decide) (fun x128 e128 => ?_)
                  refine lv_iload hx hb dX2_descend_129 (lv_at hl 6 rfl) ?_
                  refine r_shl1 hx hb dX2_descend_131 (by omega) (by omega) (by omega) (fun x131 e131 g131 k131 => ?_)
                  refine w_ior hx hb dX2_descend_132 (fun x132 => ?_)
                  refine cl_Vv (rest := []) hC hK hSK (ih (d - 1) (by omega) x126 x132 (by omega) (by omega)) k_X2_descend mw_3_150 ⟨rfl, rfl, (show 4 + (d - 1) + 1 ≤ 4 + d by omega), (show 8 + (7 + 11) + (130 + 26 * (d - 1)) ≤ 130 + 26 * d by omega)⟩ (rv_Search hK hT g0) ⟨_, hwf, hvis, hT⟩ rfl hl.1 rfl (Nat.le_of_ble_eq_true rfl) dX2_descend_133 ⟨Nat.zero_le _, Nat.zero_le _⟩ hS (fun _ h => h) (fun _ _ h => h) (fun H locs hpo hS => ?_)
                  obtain ⟨gh133, hwf, hvis, hT⟩ := hpo
                  exact J136 ls _ _ _ (by omega) hwf hvis hT hS (lv_sub hl [0, 1, 2, 3, 4, 5, 6] rfl)
              refine r_if_eq (tgt := 100) hx hb dX2_descend_87 (by decide) (fun c87 => ?_) (fun c87 => ?_)
              · refine lv_iload hx hb dX2_descend_100 (lv_at hl 6 rfl) ?_
                exact J102 ls _ _ y43_6 _ (by omega) hwf hvis hT hS (lv_sub hl [0, 1, 2, 3, 4, 5, 6] rfl)
              · refine lv_aload_n hx hb dX2_descend_90 rfl (lv_at hl 1 rfl) ?_
                refine gt_Evening_program hx hb hts ic_Evening hown hK hT hra1 (hts _ mw_1_98) dX2_descend_91 (fun q91 hq91 => ?_)
                refine lv_iload hx hb dX2_descend_94 (lv_at hl 6 rfl) ?_
                refine al_21 hx hb hK hT hq91 (by omega) (by omega) dX2_descend_96 (fun x96 => ?_)
                refine lv_goto (tgt := 102) hx hb dX2_descend_97 (by decide) ?_
                exact J102 ls _ _ x96 _ (by omega) hwf hvis hT hS (lv_sub hl [0, 1, 2, 3, 4, 5, 6] rfl)
            refine r_if_eq (tgt := 70) hx hb dX2_descend_54 (by decide) (fun c54 => ?_) (fun c54 => ?_)
            · exact J70 ls _ _ _ (by omega) hwf hvis hT hS (lv_sub hl [0, 1, 2, 3, 4, 5, 6] rfl)
            · refine lv_iload_n hx hb dX2_descend_57 rfl (lv_at hl 3 rfl) ?_
              refine lv_iload hx hb dX2_descend_58 (lv_at hl 6 rfl) ?_
              refine w_ishr hx hb dX2_descend_60 (fun x60 => ?_)
              refine r_iconst hx hb dX2_descend_61 (by decide) (by decide) (fun x61 e61 => ?_)
              refine w_iand hx hb dX2_descend_62 (fun x62 => ?_)
              refine r_iconst hx hb dX2_descend_63 (by decide) (by decide) (fun x63 e63 => ?_)
              refine r_icmp_ne (tgt := 70) hx hb dX2_descend_64 (by decide) (fun c64 => ?_) (fun c64 => ?_)
              · exact J70 ls _ _ _ (by omega) hwf hvis hT hS (lv_sub hl [0, 1, 2, 3, 4, 5, 6] rfl)
              · refine lv_goto (tgt := 136) hx hb dX2_descend_67 (by decide) ?_
                exact J136 ls _ _ _ (by omega) hwf hvis hT hS (lv_sub hl [0, 1, 2, 3, 4, 5, 6] rfl)
      exact J43 (((5 - x40.toInt)).toNat + 1) ls _ _ x40 _ (by omega) (by omega) hwf hvis hT hS (lv_sub hl [3, 4, 5, 6, 2, 1, 0] rfl)
    refine r_if_eq (tgt := 27) hx hb dX2_descend_17 (by decide) (fun c17 => ?_) (fun c17 => ?_)
    · refine r_iconst hx hb dX2_descend_27 (by decide) (by decide) (fun x27 e27 => ?_)
      exact J28 ls _ _ x27 _ (by omega) hwf hvis hT hS (lv_sub hl [0, 1, 2, 3] rfl)
    · refine lv_aload_n hx hb dX2_descend_20 rfl (lv_at hl 0 rfl) ?_
      refine gt_Search_length hx hb hts ic_Search hown hK hT g0 (hts _ mw_1_205) dX2_descend_21 (fun x21 e21 g21 => ?_)
      refine lv_goto (tgt := 28) hx hb dX2_descend_24 (by decide) ?_
      exact J28 ls _ _ x21 _ (by omega) hwf hvis hT hS (lv_sub hl [0, 1, 2, 3] rfl)
  · refine lv_aload_n hx hb dX2_descend_8 rfl (lv_at hl 0 rfl) ?_
    refine cl_Vv (rest := []) hC hK hSK (c_X2_take l z gh h0 (o0) g0) k_X2_take mw_3_154 ⟨rfl, rfl, (show 2 + 1 ≤ 4 + d by omega), (show 8 + (2 + 11) + 86 ≤ 130 + 26 * d by omega)⟩ (rv_Search hK hT g0) hT rfl hl.1 rfl (Nat.le_of_ble_eq_true rfl) dX2_descend_9 ⟨Nat.zero_le _, Nat.zero_le _⟩ hS (fun _ h => h) (fun _ _ h => h) (fun H locs hpo hS => ?_)
    have hT := hpo
    exact rt_v hx hb hr hlk hS ⟨_, hwf, hvis, hT⟩ dX2_descend_12
theorem k_X2_over : cBV yX2_over cX2_over 4 none 3 := ⟨mw_3_145, mw_3_146, mw_1_6, mw_3_147, ⟨by decide, by decide, by decide⟩⟩
set_option maxHeartbeats 4000000 in
set_option maxRecDepth 100000 in
theorem c_X2_over (l : Launch) (z : Zt) (v : Nat → Nat → Int) (h0 o0 : Nat) (g0 : zG z h0 = (12, o0)) (ra1 ora1 : Nat) (hra1 : zG z ra1 = (10, ora1)) (p2 : Int32) (p3 : Int32) (bp2 : 0 ≤ p2.toInt ∧ p2.toInt ≤ 8) (bp3 : 0 ≤ p3.toInt ∧ p3.toInt ≤ 1) (pr0 : ora1 ≤ 5) : Met l yX2_over (uw yX2_over cX2_over 4 none) (rmF 10 286) (PcW z [.ref h0, .ref ra1, .int p2, .int p3] (fun H => WX z v H)) (QcV z (fun H => WX z v H)) 0 0 (zA z) := by
  refine Met.ofW (cc := cX2_over) (maxL := 4) (ret := none) (by decide) rfl ?_
  intro p e s m args below meth c s₁ B hml hv
  obtain ⟨rfl, hW, hK, hSK⟩ := hv
  have hx := B.exec
  have hb := B.bytes
  have hr := B.returns
  have hts : ∀ w ∈ lw_ok, w.before ([.ref h0, .ref ra1, .int p2, .int p3] : List Value).toArray s = true := fun w hw => atoms_spec (ws := uw yX2_over cX2_over 4 none) B.pre w (List.mem_cons_of_mem _ hw)
  have hown : s.vm.findClass RX2 = some m.cls := findClass_of_methodNamed B.named
  have hlk := B.notSynchronized
  have hC : CallFix p m c cX2_over 4 s ([.ref h0, .ref ra1, .int p2, .int p3] : List Value).toArray lw_ok RX2 := ⟨hx, hb, hml, hown, hts⟩
  have hS : va_S (zA z) s.heap s.heap [] := va_S.rf
  have hl := lv_entry ([.ref h0, .ref ra1, .int p2, .int p3]) (n := 4) (Nat.le_of_ble_eq_true rfl)
  rw [lg_entry_eq]
  generalize (lg_sl ([.ref h0, .ref ra1, .int p2, .int p3]) ++ List.replicate (4 - (lg_sl ([.ref h0, .ref ra1, .int p2, .int p3])).length) Slot.unset).toArray = ls at hl ⊢
  have hl : lv_has ls 4 [(0, .ref h0), (1, .ref ra1), (2, .int p2), (3, .int p3)] := hl
  show W p l e (rmF 10 286) s m ([.ref h0, .ref ra1, .int p2, .int p3] : List Value).toArray below meth c s.heap [] 0 0 (MQ below (QcV z (fun H => WX z v H)) ([.ref h0, .ref ra1, .int p2, .int p3] : List Value).toArray s 0 0 (zA z)) (F0 m 0 ls [])
  obtain ⟨gh, hwf, hvis, hT⟩ := hW
  refine lv_aload_n hx hb dX2_over_0 rfl (lv_at hl 0 rfl) ?_
  refine lv_iload_n hx hb dX2_over_1 rfl (lv_at hl 3 rfl) ?_
  refine pt_Search_byPlaces hx hb hts ic_Search hown hK hT hS g0 (hts _ mw_1_204) (by omega) (by omega) dX2_over_2 (fun H locs hT hS => ?_)
  refine lv_aload_n hx hb dX2_over_5 rfl (lv_at hl 0 rfl) ?_
  refine lv_iload_n hx hb dX2_over_6 rfl (lv_at hl 2 rfl) ?_
  refine r_iconst hx hb dX2_over_7 (by decide) (by decide) (fun x7 e7 => ?_)
  refine r_min hx hb (hml.trans hl.1.symm) hts hown mw_3_148 (Nat.le_of_ble_eq_true rfl) (Nat.le_of_ble_eq_true rfl) ⟨Nat.zero_le _, Nat.zero_le _⟩ dX2_over_8 (fun x8 e8 g8 k8 => ?_)
  refine pt_Search_length hx hb hts ic_Search hown hK hT hS g0 (hts _ mw_1_205) (by omega) (by omega) dX2_over_11 (fun H locs hT hS => ?_)
  refine lv_aload_n hx hb dX2_over_14 rfl (lv_at hl 0 rfl) ?_
  refine r_iconst hx hb dX2_over_15 (by decide) (by decide) (fun x15 e15 => ?_)
  refine pt_Search_found hx hb hts ic_Search hown hK hT hS g0 (hts _ mw_1_206) dX2_over_16 (fun H locs hT hS => ?_)
  refine lv_aload_n hx hb dX2_over_19 rfl (lv_at hl 0 rfl) ?_
  refine r_bipush hx hb dX2_over_20 rfl (fun x20 e20 => ?_)
  refine pt_Search_most hx hb hts ic_Search hown hK hT hS g0 (hts _ mw_1_208) dX2_over_22 (fun H locs hT hS => ?_)
  refine lv_aload_n hx hb dX2_over_25 rfl (lv_at hl 0 rfl) ?_
  refine gt_Search_behind hx hb hts ic_Search hown hK hT g0 (hts _ mw_1_198) dX2_over_26 (fun q26 hq26 => ?_)
  refine r_iconst hx hb dX2_over_29 (by decide) (by decide) (fun x29 e29 => ?_)
  refine al_35 hx hb hK hT hq26 (by omega) (by omega) dX2_over_30 (fun q30 hq30 => ?_)
  refine lv_aload_n hx hb dX2_over_31 rfl (lv_at hl 1 rfl) ?_
  refine gt_Evening_floor hx hb hts ic_Evening hown hK hT hra1 (hts _ mw_1_90) dX2_over_32 (fun q32 hq32 => ?_)
  refine cl_Vv (rest := []) hC hK hSK (c_X1_copyFrom l z v q30 (6 + x29.toNatClampNeg) hq30 q32 (ora1) hq32 (fun q9 => by have h9 := hq30; rw [q9, hq32] at h9; have h8 := congrArg Prod.snd h9; dsimp only at h8; have n90 := ix_nat (i := x29) (by omega); omega)) k_X1_copyFrom mw_3_149 ⟨rfl, rfl, Nat.le_of_ble_eq_true rfl, Nat.le_of_ble_eq_true rfl⟩ (rv_Floor hK hT hq30) ⟨_, hwf, hvis, hT⟩ rfl hl.1 rfl (Nat.le_of_ble_eq_true rfl) dX2_over_35 ⟨Nat.zero_le _, Nat.zero_le _⟩ hS (fun _ h => h) (fun _ _ h => h) (fun H locs hpo hS => ?_)
  obtain ⟨gh35, hwf, hvis, hT⟩ := hpo
  refine lv_aload_n hx hb dX2_over_38 rfl (lv_at hl 0 rfl) ?_
  refine lv_aload_n hx hb dX2_over_39 rfl (lv_at hl 1 rfl) ?_
  refine r_iconst hx hb dX2_over_40 (by decide) (by decide) (fun x40 e40 => ?_)
  refine r_iconst hx hb dX2_over_41 (by decide) (by decide) (fun x41 e41 => ?_)
  refine cl_Vv (rest := []) hC hK hSK (c_X2_descend l z v h0 (o0) g0 ra1 (ora1) hra1 5 x40 x41 (by omega) (by omega)) k_X2_descend mw_3_150 ⟨rfl, rfl, Nat.le_of_ble_eq_true rfl, Nat.le_of_ble_eq_true rfl⟩ (rv_Search hK hT g0) ⟨_, hwf, hvis, hT⟩ rfl hl.1 rfl (Nat.le_of_ble_eq_true rfl) dX2_over_42 ⟨Nat.zero_le _, Nat.zero_le _⟩ hS (fun _ h => h) (fun _ _ h => h) (fun H locs hpo hS => ?_)
  obtain ⟨gh42, hwf, hvis, hT⟩ := hpo
  exact rt_v hx hb hr hlk hS ⟨_, hwf, hvis, hT⟩ dX2_over_45
