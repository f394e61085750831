theorem k_X1_lineUp : cBV yX1_lineUp cX1_lineUp 3 none 0 := ⟨mw_2_234, mw_2_235, mw_1_4, mw_2_236, ⟨by decide, by decide, by decide⟩⟩
set_option maxHeartbeats 4000000 in
set_option maxRecDepth 100000 in
theorem c_lineUp_v1 (l : Launch) (z : Zt) (gh : Gh) (h0 o0 : Nat) (g0 : zG z h0 = (11, o0)) (pr0 : zu z) : Met l yX1_lineUp (uw yX1_lineUp cX1_lineUp 3 none) (rmF 2 87) (PcW z [.ref h0] (fun H => TY z (zA z) gh H)) (QcV z (fun H => ∃ gk : Gh, deq z gk gh ∧ TY z (zA z) gk H ∧ (rkF z gk h0))) 0 0 (zA z) := by
  refine Met.ofW (cc := cX1_lineUp) (maxL := 3) (ret := none) (by decide) rfl ?_
  intro p e s m args below meth c s₁ B hml hv
  obtain ⟨rfl, hW, hK⟩ := hv
  have hx := B.exec
  have hb := B.bytes
  have hr := B.returns
  have hts : ∀ w ∈ lw_ok, w.before ([.ref h0] : List Value).toArray s = true := fun w hw => atoms_spec (ws := uw yX1_lineUp cX1_lineUp 3 none) B.pre w (List.mem_cons_of_mem _ hw)
  have hown : s.vm.findClass RX1 = some m.cls := findClass_of_methodNamed B.named
  have hlk := B.notSynchronized
  have hC : CallFix p m c cX1_lineUp 3 s ([.ref h0] : List Value).toArray lw_ok RX1 := ⟨hx, hb, hml, hown, hts⟩
  have hS : va_S (zA z) s.heap s.heap [] := va_S.rf
  have hl := lv_entry ([.ref h0]) (n := 3) (Nat.le_of_ble_eq_true rfl)
  rw [lg_entry_eq]
  generalize (lg_sl ([.ref h0]) ++ List.replicate (3 - (lg_sl ([.ref h0])).length) Slot.unset).toArray = ls at hl ⊢
  have hl : lv_has ls 3 [(0, .ref h0)] := hl
  show W p l e (rmF 2 87) s m ([.ref h0] : List Value).toArray below meth c s.heap [] 0 0 (MQ below (QcV z (fun H => ∃ gk : Gh, deq z gk gh ∧ TY z (zA z) gk H ∧ (rkF z gk h0))) ([.ref h0] : List Value).toArray s 0 0 (zA z)) (F0 m 0 ls [])
  have hT : TY z (zA z) gh s.heap := hW
  have hg1 : deq z gh gh := deq_rf z gh
  have hM := (ty_fl hT g0).1
  have hM0 := deq_r hg1 h0 0
  refine r_iconst hx hb dX1_lineUp_0 (by decide) (by decide) (fun x0 e0 => ?_)
  refine lv_istore_n (lv' := [(1, .int x0), (0, .ref h0)]) hx hb dX1_lineUp_1 rfl hl (by decide) rfl (fun ls hl => ?_)
  have J2 : ∀ (n2 : Nat) (ls : Array Slot) (H : Heap) (locs : List Loc) (y2_1 : Int32) (gk : Gh), (0 ≤ y2_1.toInt ∧ y2_1.toInt ≤ 5) → (∀ q, zG z q = (28, h0) → luA (gk.2 q) y2_1.toNatClampNeg) → (y2_1.toInt ≤ gh.1 h0 0) → (5 - y2_1.toInt) < (n2 : Int) → deq z gk gh → TY z (zA z) gk H → va_S (zA z) s.heap H locs → lv_has ls 3 [(0, .ref h0), (1, .int y2_1)] → W p l e (rmF 2 87) s m ([.ref h0] : List Value).toArray below meth c H locs 0 0 (MQ below (QcV z (fun H => ∃ gk : Gh, deq z gk gh ∧ TY z (zA z) gk H ∧ (rkF z gk h0))) ([.ref h0] : List Value).toArray s 0 0 (zA z)) (F0 m 2 ls []) := by
    intro n2
    induction n2 with
    | zero => intro ls H locs y2_1 gk j2_y2_1 ex2_0 ex2_1 mm2 hg1 hT hS hl; exfalso; omega
    | succ n2 ih2 =>
      intro ls H locs y2_1 gk j2_y2_1 ex2_0 ex2_1 mm2 hg1 hT hS hl
      refine lv_iload_n hx hb dX1_lineUp_2 rfl (lv_at hl 1 rfl) ?_
      refine lv_aload_n hx hb dX1_lineUp_3 rfl (lv_at hl 0 rfl) ?_
      refine gt_Floor_men hx hb hts ic_Floor hown hK hT g0 (hts _ mw_1_60) dX1_lineUp_4 (fun x4 i4 e4 g4 => ?_)
      have i4 := i4.trans (deq_r hg1 _ _)
      refine r_icmp_ge (tgt := 76) hx hb dX1_lineUp_7 (by decide) (fun c7 => ?_) (fun c7 => ?_)
      · refine r_iconst hx hb dX1_lineUp_76 (by decide) (by decide) (fun x76 e76 => ?_)
        refine lv_istore_n (lv' := [(1, .int x76), (0, .ref h0)]) hx hb dX1_lineUp_77 rfl hl (by decide) rfl (fun ls hl => ?_)
        have J78 : ∀ (n78 : Nat) (ls : Array Slot) (H : Heap) (locs : List Loc) (y78_1 : Int32) (gk : Gh), (0 ≤ y78_1.toInt ∧ y78_1.toInt ≤ 5) → (∀ q q2, zG z q = (28, h0) → zG z q2 = (29, h0) → luC (gk.2 q) (gk.2 q2) (gh.1 h0 0).toNat y78_1.toNatClampNeg) → (∀ q, zG z q = (28, h0) → luA (gk.2 q) (gh.1 h0 0).toNat) → (y78_1.toInt ≤ gh.1 h0 0) → (5 - y78_1.toInt) < (n78 : Int) → deq z gk gh → TY z (zA z) gk H → va_S (zA z) s.heap H locs → lv_has ls 3 [(0, .ref h0), (1, .int y78_1)] → W p l e (rmF 2 87) s m ([.ref h0] : List Value).toArray below meth c H locs 0 0 (MQ below (QcV z (fun H => ∃ gk : Gh, deq z gk gh ∧ TY z (zA z) gk H ∧ (rkF z gk h0))) ([.ref h0] : List Value).toArray s 0 0 (zA z)) (F0 m 78 ls []) := by
          intro n78
          induction n78 with
          | zero => intro ls H locs y78_1 gk j78_y78_1 ex78_0 ex78_1 ex78_2 mm78 hg1 hT hS hl; exfalso; omega
          | succ n78 ih78 =>
            intro ls H locs y78_1 gk j78_y78_1 ex78_0 ex78_1 ex78_2 mm78 hg1 hT hS hl
            sorry
        exact J78 (((5 - x76.toInt)).toNat + 1) ls _ _ x76 _ (by omega) (by intro q9 q10 h9 h10; have e9 : x76.toNatClampNeg = 0 := (by have a1 := ix_nat (i := x76) (by omega); omega); rw [e9]; exact luC_0 _ _ _) (by intro q9 h9; have e9 : (gh.1 h0 0).toNat = y2_1.toNatClampNeg := (by have a1 := ix_nat (i := y2_1) (by omega); omega); rw [e9]; exact ex2_0 q9 h9) (by omega) (by omega) hg1 hT hS (lv_sub hl [1, 0] rfl)
      · refine lv_aload_n hx hb dX1_lineUp_10 rfl (lv_at hl 0 rfl) ?_
        refine gt_Floor_statures hx hb hts ic_Floor hown hK hT g0 (hts _ mw_1_55) dX1_lineUp_11 (fun q11 hq11 => ?_)
        refine lv_iload_n hx hb dX1_lineUp_14 rfl (lv_at hl 1 rfl) ?_
        refine lv_aload_n hx hb dX1_lineUp_15 rfl (lv_at hl 0 rfl) ?_
        refine lv_iload_n hx hb dX1_lineUp_16 rfl (lv_at hl 1 rfl) ?_
        refine cl_Vi (rest := [.int y2_1, .ref q11]) hC hK (c_X1_stature l z gk h0 (o0) g0 y2_1 (by omega)) k_X1_stature mw_2_237 ⟨rfl, rfl, Nat.le_of_ble_eq_true rfl, Nat.le_of_ble_eq_true rfl⟩ (rv_Floor hK hT g0) hT rfl hl.1 rfl (Nat.le_of_ble_eq_true rfl) dX1_lineUp_17 ⟨Nat.zero_le _, Nat.zero_le _⟩ hS (fun _ h => h) (fun r17 H locs hpo hS => ?_)
        have hT := hpo
        refine as_20 hx hb hK hT hS hq11 (by omega) (by omega) dX1_lineUp_20 (fun H locs hT hS => ?_)
        refine lv_iload_n hx hb dX1_lineUp_21 rfl (lv_at hl 1 rfl) ?_
        refine lv_istore_n (lv' := [(2, .int y2_1), (0, .ref h0), (1, .int y2_1)]) hx hb dX1_lineUp_22 rfl hl (by decide) rfl (fun ls hl => ?_)
        have J23 : ∀ (n23 : Nat) (ls : Array Slot) (H : Heap) (locs : List Loc) (y23_2 : Int32) (gk : Gh), (0 ≤ y23_2.toInt ∧ y23_2.toInt ≤ 4) → (∀ q, zG z q = (28, h0) → luB (gk.2 q) y2_1.toNatClampNeg y23_2.toNatClampNeg) → (y2_1.toInt < gh.1 h0 0) → (y23_2.toInt ≤ y2_1.toInt) → (5 - y2_1.toInt) < ((n2 + 1 : Nat) : Int) → (y23_2.toInt - (0)) < (n23 : Int) → deq z gk gh → TY z (zA z) gk H → va_S (zA z) s.heap H locs → lv_has ls 3 [(0, .ref h0), (1, .int y2_1), (2, .int y23_2)] → W p l e (rmF 2 87) s m ([.ref h0] : List Value).toArray below meth c H locs 0 0 (MQ below (QcV z (fun H => ∃ gk : Gh, deq z gk gh ∧ TY z (zA z) gk H ∧ (rkF z gk h0))) ([.ref h0] : List Value).toArray s 0 0 (zA z)) (F0 m 23 ls []) := by
          intro n23
          induction n23 with
          | zero => intro ls H locs y23_2 gk j23_y23_2 ex23_0 ex23_1 ex23_2 mf23_2 mm23 hg1 hT hS hl; exfalso; omega
          | succ n23 ih23 =>
            intro ls H locs y23_2 gk j23_y23_2 ex23_0 ex23_1 ex23_2 mf23_2 mm23 hg1 hT hS hl
            refine lv_iload_n hx hb dX1_lineUp_23 rfl (lv_at hl 2 rfl) ?_
            have J63 : ∀ (ls : Array Slot) (H : Heap) (locs : List Loc) (gk : Gh), (∀ q, zG z q = (28, h0) → luB (gk.2 q) y2_1.toNatClampNeg y23_2.toNatClampNeg) → (y2_1.toInt < gh.1 h0 0) → (y23_2.toInt ≤ y2_1.toInt) → (5 - y2_1.toInt) < ((n2 + 1 : Nat) : Int) → deq z gk gh → TY z (zA z) gk H → va_S (zA z) s.heap H locs → lv_has ls 3 [(0, .ref h0), (1, .int y2_1), (2, .int y23_2)] → W p l e (rmF 2 87) s m ([.ref h0] : List Value).toArray below meth c H locs 0 0 (MQ below (QcV z (fun H => ∃ gk : Gh, deq z gk gh ∧ TY z (zA z) gk H ∧ (rkF z gk h0))) ([.ref h0] : List Value).toArray s 0 0 (zA z)) (F0 m 63 ls []) := by
              intro ls H locs gk ex63_0 ex63_1 ex63_2 mf63_2 hg1 hT hS hl
              refine lv_aload_n hx hb dX1_lineUp_63 rfl (lv_at hl 0 rfl) ?_
              refine gt_Floor_byRank hx hb hts ic_Floor hown hK hT g0 (hts _ mw_1_56) dX1_lineUp_64 (fun q64 hq64 => ?_)
              refine lv_iload_n hx hb dX1_lineUp_67 rfl (lv_at hl 2 rfl) ?_
              refine lv_iload_n hx hb dX1_lineUp_68 rfl (lv_at hl 1 rfl) ?_
              refine as_28 hx hb hK hT hS hq64 (by omega) (by omega) (by have n0 := ix_nat (i := y23_2) (by omega); unfold p28; omega) dX1_lineUp_69 (fun H locs hT hS => ?_)
              obtain ⟨gk69, w69, hg1, hT⟩ : ∃ g : Gh, g.2 = (gc gk q64 (upd (gk.2 q64) y23_2.toNatClampNeg y2_1)).2 ∧ deq z g gh ∧ TY z (zA z) g H := ⟨_, rfl, deq_gc hg1 hq64 (by decide), hT⟩
              refine r_iinc (lv' := fun v__ => [(1, .int v__), (0, .ref h0), (2, .int y23_2)]) hx hb dX1_lineUp_70 hl (k := 1) rfl (by decide) (fun _ => rfl) ⟨by decide, by decide⟩ (by omega) (by omega) (fun x70 ls e70 hl => ?_)
              refine lv_goto (tgt := 2) hx hb dX1_lineUp_73 (by decide) ?_
              exact ih2 ls _ _ x70 _ (by omega) (by intro q9 h9; have e9 := zu_at pr0 rfl h9 hq64; rw [e9, w69, gc_at]; have e1 : x70.toNatClampNeg = y2_1.toNatClampNeg + 1 := (by have a1 := ix_nat (i := x70) (by omega); have a2 := ix_nat (i := y2_1) (by omega); omega); rw [e1]; exact luA_of (ex63_0 _ hq64) (by have a2 := ix_nat (i := y2_1) (by omega); omega)) (by omega) (by omega) hg1 hT hS (lv_sub hl [1, 0] rfl)
            refine r_if_le (tgt := 63) hx hb dX1_lineUp_24 (by decide) (fun c24 => ?_) (fun c24 => ?_)
            · exact J63 ls _ _ _ (by exact ex23_0) (by omega) (by omega) (by omega) hg1 hT hS (lv_sub hl [0, 1, 2] rfl)
            · refine lv_aload_n hx hb dX1_lineUp_27 rfl (lv_at hl 0 rfl) ?_
              refine lv_iload_n hx hb dX1_lineUp_28 rfl (lv_at hl 1 rfl) ?_
              refine lv_aload_n hx hb dX1_lineUp_29 rfl (lv_at hl 0 rfl) ?_
              refine gt_Floor_byRank hx hb hts ic_Floor hown hK hT g0 (hts _ mw_1_56) dX1_lineUp_30 (fun q30 hq30 => ?_)
              refine lv_iload_n hx hb dX1_lineUp_33 rfl (lv_at hl 2 rfl) ?_
              refine r_iconst hx hb dX1_lineUp_34 (by decide) (by decide) (fun x34 e34 => ?_)
              refine r_isub hx hb dX1_lineUp_35 (by omega) (by omega) (fun x35 e35 => ?_)
              refine al_28 hx hb hK hT hq30 (by omega) (by omega) dX1_lineUp_36 (fun x36 i36 e36 => ?_)
              have n36 := ix_nat (i := x35) (by omega)
              unfold p28 at e36
              refine cl_Vi (rest := []) hC hK (c_X1_standsAhead l z gk h0 (o0) g0 y2_1 x36 (by omega) (by omega)) k_X1_standsAhead mw_2_238 ⟨rfl, rfl, Nat.le_of_ble_eq_true rfl, Nat.le_of_ble_eq_true rfl⟩ (rv_Floor hK hT g0) hT rfl hl.1 rfl (Nat.le_of_ble_eq_true rfl) dX1_lineUp_37 ⟨Nat.zero_le _, Nat.zero_le _⟩ hS (fun _ h => h) (fun r37 H locs hpo hS => ?_)
              have hT := hpo
              refine r_if_eq (tgt := 63) hx hb dX1_lineUp_40 (by decide) (fun c40 => ?_) (fun c40 => ?_)
              · exact J63 ls _ _ _ (by exact ex23_0) (by omega) (by omega) (by omega) hg1 hT hS (lv_sub hl [0, 1, 2] rfl)
              · refine lv_aload_n hx hb dX1_lineUp_43 rfl (lv_at hl 0 rfl) ?_
                refine gt_Floor_byRank hx hb hts ic_Floor hown hK hT g0 (hts _ mw_1_56) dX1_lineUp_44 (fun q44 hq44 => ?_)
                refine lv_iload_n hx hb dX1_lineUp_47 rfl (lv_at hl 2 rfl) ?_
                refine lv_aload_n hx hb dX1_lineUp_48 rfl (lv_at hl 0 rfl) ?_
                refine gt_Floor_byRank hx hb hts ic_Floor hown hK hT g0 (hts _ mw_1_56) dX1_lineUp_49 (fun q49 hq49 => ?_)
                refine lv_iload_n hx hb dX1_lineUp_52 rfl (lv_at hl 2 rfl) ?_
                refine r_iconst hx hb dX1_lineUp_53 (by decide) (by decide) (fun x53 e53 => ?_)
                refine r_isub hx hb dX1_lineUp_54 (by omega) (by omega) (fun x54 e54 => ?_)
                refine al_28 hx hb hK hT hq49 (by omega) (by omega) dX1_lineUp_55 (fun x55 i55 e55 => ?_)
                have n55 := ix_nat (i := x54) (by omega)
                unfold p28 at e55
                refine as_28 hx hb hK hT hS hq44 (by omega) (by omega) (by have n0 := ix_nat (i := y23_2) (by omega); unfold p28; omega) dX1_lineUp_56 (fun H locs hT hS => ?_)
                obtain ⟨gk56, w56, hg1, hT⟩ : ∃ g : Gh, g.2 = (gc gk q44 (upd (gk.2 q44) y23_2.toNatClampNeg x55)).2 ∧ deq z g gh ∧ TY z (zA z) g H := ⟨_, rfl, deq_gc hg1 hq44 (by decide), hT⟩
                refine r_iinc (lv' := fun v__ => [(2, .int v__), (0, .ref h0), (1, .int y2_1)]) hx hb dX1_lineUp_57 hl (k := 2) rfl (by decide) (fun _ => rfl) ⟨by decide, by decide⟩ (by omega) (by omega) (fun x57 ls e57 hl => ?_)
                refine lv_goto (tgt := 23) hx hb dX1_lineUp_60 (by decide) ?_
                exact ih23 ls _ _ x57 _ (by omega) (by intro q9 h9; have e9 := zu_at pr0 rfl h9 hq44; have e8 := zu_at pr0 rfl hq49 hq44; rw [e9, w56, gc_at]; have a1 := ix_nat (i := x57) (by omega); have a2 := ix_nat (i := y23_2) (by omega); have a3 := ix_nat (i := x54) (by omega); have e1 : x57.toNatClampNeg = y23_2.toNatClampNeg - 1 := (by omega); have e2 : x54.toNatClampNeg = y23_2.toNatClampNeg - 1 := (by omega); rw [e1]; exact luB_sh (ex23_0 _ hq44) (by omega) (by rw [i55, e8, e2])) (by omega) (by omega) (by omega) (by omega) hg1 hT hS (lv_sub hl [1, 2, 0] rfl)
        exact J23 (((y2_1.toInt - (0))).toNat + 1) ls _ _ y2_1 _ (by omega) (by intro q9 h9; exact luB_of (ex2_0 q9 h9)) (by omega) (by omega) (by omega) (by omega) hg1 hT hS (lv_sub hl [1, 2, 0] rfl)
  exact J2 (((5 - x0.toInt)).toNat + 1) ls _ _ x0 _ (by omega) (by intro q9 h9; have e9 : x0.toNatClampNeg = 0 := (by have a1 := ix_nat (i := x0) (by omega); omega); rw [e9]; exact luA_0 _) (by omega) (by omega) hg1 hT hS (lv_sub hl [1, 0] rfl)
set_option maxHeartbeats 4000000 in
set_option maxRecDepth 100000 in
theorem c_lineUp_v2 (l : Launch) (z : Zt) (gh : Gh) (h0 o0 : Nat) (g0 : zG z h0 = (11, o0)) (pr0 : zu z) : Met l yX1_lineUp (uw yX1_lineUp cX1_lineUp 3 none) (rmF 2 87) (PcW z [.ref h0] (fun H => TY z (zA z) gh H)) (QcV z (fun H => ∃ gk : Gh, deq z gk gh ∧ TY z (zA z) gk H ∧ (rkF z gk h0))) 0 0 (zA z) := by
  refine Met.ofW (cc := cX1_lineUp) (maxL := 3) (ret := none) (by decide) rfl ?_
  intro p e s m args below meth c s₁ B hml hv
  obtain ⟨rfl, hW, hK⟩ := hv
  have hx := B.exec
  have hb := B.bytes
  have hr := B.returns
  have hts : ∀ w ∈ lw_ok, w.before ([.ref h0] : List Value).toArray s = true := fun w hw => atoms_spec (ws := uw yX1_lineUp cX1_lineUp 3 none) B.pre w (List.mem_cons_of_mem _ hw)
  have hown : s.vm.findClass RX1 = some m.cls := findClass_of_methodNamed B.named
  have hlk := B.notSynchronized
  have hC : CallFix p m c cX1_lineUp 3 s ([.ref h0] : List Value).toArray lw_ok RX1 := ⟨hx, hb, hml, hown, hts⟩
  have hS : va_S (zA z) s.heap s.heap [] := va_S.rf
  have hl := lv_entry ([.ref h0]) (n := 3) (Nat.le_of_ble_eq_true rfl)
  rw [lg_entry_eq]
  generalize (lg_sl ([.ref h0]) ++ List.replicate (3 - (lg_sl ([.ref h0])).length) Slot.unset).toArray = ls at hl ⊢
  have hl : lv_has ls 3 [(0, .ref h0)] := hl
  show W p l e (rmF 2 87) s m ([.ref h0] : List Value).toArray below meth c s.heap [] 0 0 (MQ below (QcV z (fun H => ∃ gk : Gh, deq z gk gh ∧ TY z (zA z) gk H ∧ (rkF z gk h0))) ([.ref h0] : List Value).toArray s 0 0 (zA z)) (F0 m 0 ls [])
  have hT : TY z (zA z) gh s.heap := hW
  have hg1 : deq z gh gh := deq_rf z gh
  have hM := (ty_fl hT g0).1
  have hM0 := deq_r hg1 h0 0
  refine r_iconst hx hb dX1_lineUp_0 (by decide) (by decide) (fun x0 e0 => ?_)
  refine lv_istore_n (lv' := [(1, .int x0), (0, .ref h0)]) hx hb dX1_lineUp_1 rfl hl (by decide) rfl (fun ls hl => ?_)
  have J2 : ∀ (n2 : Nat) (ls : Array Slot) (H : Heap) (locs : List Loc) (y2_1 : Int32) (gk : Gh), (0 ≤ y2_1.toInt ∧ y2_1.toInt ≤ 5) → (∀ q, zG z q = (28, h0) → luA (gk.2 q) y2_1.toNatClampNeg) → (y2_1.toInt ≤ gh.1 h0 0) → (5 - y2_1.toInt) < (n2 : Int) → deq z gk gh → TY z (zA z) gk H → va_S (zA z) s.heap H locs → lv_has ls 3 [(0, .ref h0), (1, .int y2_1)] → W p l e (rmF 2 87) s m ([.ref h0] : List Value).toArray below meth c H locs 0 0 (MQ below (QcV z (fun H => ∃ gk : Gh, deq z gk gh ∧ TY z (zA z) gk H ∧ (rkF z gk h0))) ([.ref h0] : List Value).toArray s 0 0 (zA z)) (F0 m 2 ls []) := by
    intro n2
    induction n2 with
    | zero => intro ls H locs y2_1 gk j2_y2_1 ex2_0 ex2_1 mm2 hg1 hT hS hl; exfalso; omega
    | succ n2 ih2 =>
      intro ls H locs y2_1 gk j2_y2_1 ex2_0 ex2_1 mm2 hg1 hT hS hl
      refine lv_iload_n hx hb dX1_lineUp_2 rfl (lv_at hl 1 rfl) ?_
      refine lv_aload_n hx hb dX1_lineUp_3 rfl (lv_at hl 0 rfl) ?_
      refine gt_Floor_men hx hb hts ic_Floor hown hK hT g0 (hts _ mw_1_60) dX1_lineUp_4 (fun x4 i4 e4 g4 => ?_)
      have i4 := i4.trans (deq_r hg1 _ _)
      refine r_icmp_ge (tgt := 76) hx hb dX1_lineUp_7 (by decide) (fun c7 => ?_) (fun c7 => ?_)
      · refine r_iconst hx hb dX1_lineUp_76 (by decide) (by decide) (fun x76 e76 => ?_)
        refine lv_istore_n (lv' := [(1, .int x76), (0, .ref h0)]) hx hb dX1_lineUp_77 rfl hl (by decide) rfl (fun ls hl => ?_)
        have J78 : ∀ (n78 : Nat) (ls : Array Slot) (H : Heap) (locs : List Loc) (y78_1 : Int32) (gk : Gh), (0 ≤ y78_1.toInt ∧ y78_1.toInt ≤ 5) → (∀ q q2, zG z q = (28, h0) → zG z q2 = (29, h0) → luC (gk.2 q) (gk.2 q2) (gh.1 h0 0).toNat y78_1.toNatClampNeg) → (∀ q, zG z q = (28, h0) → luA (gk.2 q) (gh.1 h0 0).toNat) → (y78_1.toInt ≤ gh.1 h0 0) → (5 - y78_1.toInt) < (n78 : Int) → deq z gk gh → TY z (zA z) gk H → va_S (zA z) s.heap H locs → lv_has ls 3 [(0, .ref h0), (1, .int y78_1)] → W p l e (rmF 2 87) s m ([.ref h0] : List Value).toArray below meth c H locs 0 0 (MQ below (QcV z (fun H => ∃ gk : Gh, deq z gk gh ∧ TY z (zA z) gk H ∧ (rkF z gk h0))) ([.ref h0] : List Value).toArray s 0 0 (zA z)) (F0 m 78 ls []) := by
          intro n78
          induction n78 with
          | zero => intro ls H locs y78_1 gk j78_y78_1 ex78_0 ex78_1 ex78_2 mm78 hg1 hT hS hl; exfalso; omega
          | succ n78 ih78 =>
            intro ls H locs y78_1 gk j78_y78_1 ex78_0 ex78_1 ex78_2 mm78 hg1 hT hS hl
            refine lv_iload_n hx hb dX1_lineUp_78 rfl (lv_at hl 1 rfl) ?_
            refine lv_aload_n hx hb dX1_lineUp_79 rfl (lv_at hl 0 rfl) ?_
            refine gt_Floor_men hx hb hts ic_Floor hown hK hT g0 (hts _ mw_1_60) dX1_lineUp_80 (fun x80 i80 e80 g80 => ?_)
            have i80 := i80.trans (deq_r hg1 _ _)
            refine r_icmp_ge (tgt := 104) hx hb dX1_lineUp_83 (by decide) (fun c83 => ?_) (fun c83 => ?_)
            · exact rt_v hx hb hr hlk hS ⟨_, hg1, hT, by
      have e0 := deq_r hg1 h0 0
      have a1 := ix_nat (i := y78_1) (by omega)
      have hM := (ty_fl hT g0).1
      refine ⟨fun q9 h9 i hi => ?_, fun q9 h9 i hi => ?_⟩
      · have h5 := (ex78_1 q9 h9).1 i (by omega)
        omega
      · obtain ⟨q8, h8⟩ := (ty_fl hT g0).2.1
        have e5 : y78_1.toNatClampNeg = (gh.1 h0 0).toNat := by omega
        have h6 := ex78_0 q8 q9 h8 h9
        rw [e5] at h6
        have h5 := luC_all h6 (ex78_1 q8 h8) i (by omega)
        omega⟩ dX1_lineUp_104
            · refine lv_aload_n hx hb dX1_lineUp_86 rfl (lv_at hl 0 rfl) ?_
              refine gt_Floor_rankOf hx hb hts ic_Floor hown hK hT g0 (hts _ mw_1_58) dX1_lineUp_87 (fun q87 hq87 => ?_)
              refine lv_aload_n hx hb dX1_lineUp_90 rfl (lv_at hl 0 rfl) ?_
              refine gt_Floor_byRank hx hb hts ic_Floor hown hK hT g0 (hts _ mw_1_56) dX1_lineUp_91 (fun q91 hq91 => ?_)
              refine lv_iload_n hx hb dX1_lineUp_94 rfl (lv_at hl 1 rfl) ?_
              refine al_28 hx hb hK hT hq91 (by omega) (by omega) dX1_lineUp_95 (fun x95 i95 e95 => ?_)
              have n95 := ix_nat (i := y78_1) (by omega)
              unfold p28 at e95
              refine lv_iload_n hx hb dX1_lineUp_96 rfl (lv_at hl 1 rfl) ?_
              refine as_29 hx hb hK hT hS hq87 (by omega) (by omega) (by have n0 := ix_nat (i := x95) (by omega); unfold p29; omega) dX1_lineUp_97 (fun H locs hT hS => ?_)
              obtain ⟨gk97, w97, hg1, hT⟩ : ∃ g : Gh, g.2 = (gc gk q87 (upd (gk.2 q87) x95.toNatClampNeg y78_1)).2 ∧ deq z g gh ∧ TY z (zA z) g H := ⟨_, rfl, deq_gc hg1 hq87 (by decide), hT⟩
              refine r_iinc (lv' := fun v__ => [(1, .int v__), (0, .ref h0)]) hx hb dX1_lineUp_98 hl (k := 1) rfl (by decide) (fun _ => rfl) ⟨by decide, by decide⟩ (by omega) (by omega) (fun x98 ls e98 hl => ?_)
              refine lv_goto (tgt := 78) hx hb dX1_lineUp_101 (by decide) ?_
              exact ih78 ls _ _ x98 _ (by omega) (by intro q9 q10 h9 h10; have e9 := zu_at pr0 rfl h9 hq91; have e10 := zu_at pr0 rfl h10 hq87; have hne : q91 ≠ q87 := ro_ne hq91 hq87 (by decide); rw [e9, e10, w97, gc_at, gc_na _ _ _ hne]; have a1 := ix_nat (i := x98) (by omega); have a2 := ix_nat (i := y78_1) (by omega); have e1 : x98.toNatClampNeg = y78_1.toNatClampNeg + 1 := (by omega); rw [e1, i95]; exact luC_s (ex78_0 _ _ hq91 hq87) (by omega) (by omega)) (by intro q9 h9; have hne : q9 ≠ q87 := ro_ne h9 hq87 (by decide); rw [w97, gc_na _ _ _ hne]; exact ex78_1 q9 h9) (by omega) (by omega) hg1 hT hS (lv_sub hl [1, 0] rfl)
        exact J78 (((5 - x76.toInt)).toNat + 1) ls _ _ x76 _ (by omega) (by intro q9 q10 h9 h10; have e9 : x76.toNatClampNeg = 0 := (by have a1 := ix_nat (i := x76) (by omega); omega); rw [e9]; exact luC_0 _ _ _) (by intro q9 h9; have e9 : (gh.1 h0 0).toNat = y2_1.toNatClampNeg := (by have a1 := ix_nat (i := y2_1) (by omega); omega); rw [e9]; exact ex2_0 q9 h9) (by omega) (by omega) hg1 hT hS (lv_sub hl [1, 0] rfl)
      · refine lv_aload_n hx hb dX1_lineUp_10 rfl (lv_at hl 0 rfl) ?_
        refine gt_Floor_statures hx hb hts ic_Floor hown hK hT g0 (hts _ mw_1_55) dX1_lineUp_11 (fun q11 hq11 => ?_)
        refine lv_iload_n hx hb dX1_lineUp_14 rfl (lv_at hl 1 rfl) ?_
        refine lv_aload_n hx hb dX1_lineUp_15 rfl (lv_at hl 0 rfl) ?_
        refine lv_iload_n hx hb dX1_lineUp_16 rfl (lv_at hl 1 rfl) ?_
        refine cl_Vi (rest := [.int y2_1, .ref q11]) hC hK (c_X1_stature l z gk h0 (o0) g0 y2_1 (by omega)) k_X1_stature mw_2_237 ⟨rfl, rfl, Nat.le_of_ble_eq_true rfl, Nat.le_of_ble_eq_true rfl⟩ (rv_Floor hK hT g0) hT rfl hl.1 rfl (Nat.le_of_ble_eq_true rfl) dX1_lineUp_17 ⟨Nat.zero_le _, Nat.zero_le _⟩ hS (fun _ h => h) (fun r17 H locs hpo hS => ?_)
        have hT := hpo
        refine as_20 hx hb hK hT hS hq11 (by omega) (by omega) dX1_lineUp_20 (fun H locs hT hS => ?_)
        refine lv_iload_n hx hb dX1_lineUp_21 rfl (lv_at hl 1 rfl) ?_
        refine lv_istore_n (lv' := [(2, .int y2_1), (0, .ref h0), (1, .int y2_1)]) hx hb dX1_lineUp_22 rfl hl (by decide) rfl (fun ls hl => ?_)
        have J23 : ∀ (n23 : Nat) (ls : Array Slot) (H : Heap) (locs : List Loc) (y23_2 : Int32) (gk : Gh), (0 ≤ y23_2.toInt ∧ y23_2.toInt ≤ 4) → (∀ q, zG z q = (28, h0) → luB (gk.2 q) y2_1.toNatClampNeg y23_2.toNatClampNeg) → (y2_1.toInt < gh.1 h0 0) → (y23_2.toInt ≤ y2_1.toInt) → (5 - y2_1.toInt) < ((n2 + 1 : Nat) : Int) → (y23_2.toInt - (0)) < (n23 : Int) → deq z gk gh → TY z (zA z) gk H → va_S (zA z) s.heap H locs → lv_has ls 3 [(0, .ref h0), (1, .int y2_1), (2, .int y23_2)] → W p l e (rmF 2 87) s m ([.ref h0] : List Value).toArray below meth c H locs 0 0 (MQ below (QcV z (fun H => ∃ gk : Gh, deq z gk gh ∧ TY z (zA z) gk H ∧ (rkF z gk h0))) ([.ref h0] : List Value).toArray s 0 0 (zA z)) (F0 m 23 ls []) := by
          intro n23
          induction n23 with
          | zero => intro ls H locs y23_2 gk j23_y23_2 ex23_0 ex23_1 ex23_2 mf23_2 mm23 hg1 hT hS hl; exfalso; omega
          | succ n23 ih23 =>
            intro ls H locs y23_2 gk j23_y23_2 ex23_0 ex23_1 ex23_2 mf23_2 mm23 hg1 hT hS hl
            sorry
        exact J23 (((y2_1.toInt - (0))).toNat + 1) ls _ _ y2_1 _ (by omega) (by intro q9 h9; exact luB_of (ex2_0 q9 h9)) (by omega) (by omega) (by omega) (by omega) hg1 hT hS (lv_sub hl [1, 2, 0] rfl)
  exact J2 (((5 - x0.toInt)).toNat + 1) ls _ _ x0 _ (by omega) (by intro q9 h9; have e9 : x0.toNatClampNeg = 0 := (by have a1 := ix_nat (i := x0) (by omega); omega); rw [e9]; exact luA_0 _) (by omega) (by omega) hg1 hT hS (lv_sub hl [1, 0] rfl)
set_option maxHeartbeats 4000000 in
set_option maxRecDepth 100000 in
theorem c_lineUp_v3 (l : Launch) (z : Zt) (gh : Gh) (h0 o0 : Nat) (g0 : zG z h0 = (11, o0)) (pr0 : zu z) : Met l yX1_lineUp (uw yX1_lineUp cX1_lineUp 3 none) (rmF 2 87) (PcW z [.ref h0] (fun H => TY z (zA z) gh H)) (QcV z (fun H => ∃ gk : Gh, deq z gk gh ∧ TY z (zA z) gk H ∧ (rkF z gk h0))) 0 0 (zA z) := by
  refine Met.ofW (cc := cX1_lineUp) (maxL := 3) (ret := none) (by decide) rfl ?_
  intro p e s m args below meth c s₁ B hml hv
  obtain ⟨rfl, hW, hK⟩ := hv
  have hx := B.exec
  have hb := B.bytes
  have hr := B.returns
  have hts : ∀ w ∈ lw_ok, w.before ([.ref h0] : List Value).toArray s = true := fun w hw => atoms_spec (ws := uw yX1_lineUp cX1_lineUp 3 none) B.pre w (List.mem_cons_of_mem _ hw)
  have hown : s.vm.findClass RX1 = some m.cls := findClass_of_methodNamed B.named
  have hlk := B.notSynchronized
  have hC : CallFix p m c cX1_lineUp 3 s ([.ref h0] : List Value).toArray lw_ok RX1 := ⟨hx, hb, hml, hown, hts⟩
  have hS : va_S (zA z) s.heap s.heap [] := va_S.rf
  have hl := lv_entry ([.ref h0]) (n := 3) (Nat.le_of_ble_eq_true rfl)
  rw [lg_entry_eq]
  generalize (lg_sl ([.ref h0]) ++ List.replicate (3 - (lg_sl ([.ref h0])).length) Slot.unset).toArray = ls at hl ⊢
  have hl : lv_has ls 3 [(0, .ref h0)] := hl
  show W p l e (rmF 2 87) s m ([.ref h0] : List Value).toArray below meth c s.heap [] 0 0 (MQ below (QcV z (fun H => ∃ gk : Gh, deq z gk gh ∧ TY z (zA z) gk H ∧ (rkF z gk h0))) ([.ref h0] : List Value).toArray s 0 0 (zA z)) (F0 m 0 ls [])
  have hT : TY z (zA z) gh s.heap := hW
  have hg1 : deq z gh gh := deq_rf z gh
  have hM := (ty_fl hT g0).1
  have hM0 := deq_r hg1 h0 0
  refine r_iconst hx hb dX1_lineUp_0 (by decide) (by decide) (fun x0 e0 => ?_)
  refine lv_istore_n (lv' := [(1, .int x0), (0, .ref h0)]) hx hb dX1_lineUp_1 rfl hl (by decide) rfl (fun ls hl => ?_)
  have J2 : ∀ (n2 : Nat) (ls : Array Slot) (H : Heap) (locs : List Loc) (y2_1 : Int32) (gk : Gh), (0 ≤ y2_1.toInt ∧ y2_1.toInt ≤ 5) → (∀ q, zG z q = (28, h0) → luA (gk.2 q) y2_1.toNatClampNeg) → (y2_1.toInt ≤ gh.1 h0 0) → (5 - y2_1.toInt) < (n2 : Int) → deq z gk gh → TY z (zA z) gk H → va_S (zA z) s.heap H locs → lv_has ls 3 [(0, .ref h0), (1, .int y2_1)] → W p l e (rmF 2 87) s m ([.ref h0] : List Value).toArray below meth c H locs 0 0 (MQ below (QcV z (fun H => ∃ gk : Gh, deq z gk gh ∧ TY z (zA z) gk H ∧ (rkF z gk h0))) ([.ref h0] : List Value).toArray s 0 0 (zA z)) (F0 m 2 ls []) := by
    intro n2
    induction n2 with
    | zero => intro ls H locs y2_1 gk j2_y2_1 ex2_0 ex2_1 mm2 hg1 hT hS hl; exfalso; omega
    | succ n2 ih2 =>
      intro ls H locs y2_1 gk j2_y2_1 ex2_0 ex2_1 mm2 hg1 hT hS hl
      refine lv_iload_n hx hb dX1_lineUp_2 rfl (lv_at hl 1 rfl) ?_
      refine lv_aload_n hx hb dX1_lineUp_3 rfl (lv_at hl 0 rfl) ?_
      refine gt_Floor_men hx hb hts ic_Floor hown hK hT g0 (hts _ mw_1_60) dX1_lineUp_4 (fun x4 i4 e4 g4 => ?_)
      have i4 := i4.trans (deq_r hg1 _ _)
      refine r_icmp_ge (tgt := 76) hx hb dX1_lineUp_7 (by decide) (fun c7 => ?_) (fun c7 => ?_)
      · refine r_iconst hx hb dX1_lineUp_76 (by decide) (by decide) (fun x76 e76 => ?_)
        refine lv_istore_n (lv' := [(1, .int x76), (0, .ref h0)]) hx hb dX1_lineUp_77 rfl hl (by decide) rfl (fun ls hl => ?_)
        have J78 : ∀ (n78 : Nat) (ls : Array Slot) (H : Heap) (locs : List Loc) (y78_1 : Int32) (gk : Gh), (0 ≤ y78_1.toInt ∧ y78_1.toInt ≤ 5) → (∀ q q2, zG z q = (28, h0) → zG z q2 = (29, h0) → luC (gk.2 q) (gk.2 q2) (gh.1 h0 0).toNat y78_1.toNatClampNeg) → (∀ q, zG z q = (28, h0) → luA (gk.2 q) (gh.1 h0 0).toNat) → (y78_1.toInt ≤ gh.1 h0 0) → (5 - y78_1.toInt) < (n78 : Int) → deq z gk gh → TY z (zA z) gk H → va_S (zA z) s.heap H locs → lv_has ls 3 [(0, .ref h0), (1, .int y78_1)] → W p l e (rmF 2 87) s m ([.ref h0] : List Value).toArray below meth c H locs 0 0 (MQ below (QcV z (fun H => ∃ gk : Gh, deq z gk gh ∧ TY z (zA z) gk H ∧ (rkF z gk h0))) ([.ref h0] : List Value).toArray s 0 0 (zA z)) (F0 m 78 ls []) := by
          intro n78
          induction n78 with
          | zero => intro ls H locs y78_1 gk j78_y78_1 ex78_0 ex78_1 ex78_2 mm78 hg1 hT hS hl; exfalso; omega
          | succ n78 ih78 =>
            intro ls H locs y78_1 gk j78_y78_1 ex78_0 ex78_1 ex78_2 mm78 hg1 hT hS hl
            refine lv_iload_n hx hb dX1_lineUp_78 rfl (lv_at hl 1 rfl) ?_
            refine lv_aload_n hx hb dX1_lineUp_79 rfl (lv_at hl 0 rfl) ?_
            refine gt_Floor_men hx hb hts ic_Floor hown hK hT g0 (hts _ mw_1_60) dX1_lineUp_80 (fun x80 i80 e80 g80 => ?_)
            have i80 := i80.trans (deq_r hg1 _ _)
            refine r_icmp_ge (tgt := 104) hx hb dX1_lineUp_83 (by decide) (fun c83 => ?_) (fun c83 => ?_)
            · exact rt_v hx hb hr hlk hS ⟨_, hg1, hT, by
      have e0 := deq_r hg1 h0 0
      have a1 := ix_nat (i := y78_1) (by omega)
      have hM := (ty_fl hT g0).1
      refine ⟨fun q9 h9 i hi => ?_, fun q9 h9 i hi => ?_⟩
      · have h5 := (ex78_1 q9 h9).1 i (by omega)
        omega
      · obtain ⟨q8, h8⟩ := (ty_fl hT g0).2.1
        have e5 : y78_1.toNatClampNeg = (gh.1 h0 0).toNat := by omega
        have h6 := ex78_0 q8 q9 h8 h9
        rw [e5] at h6
        have h5 := luC_all h6 (ex78_1 q8 h8) i (by omega)
        omega⟩ dX1_lineUp_104
            · refine lv_aload_n hx hb dX1_lineUp_86 rfl (lv_at hl 0 rfl) ?_
              refine gt_Floor_rankOf hx hb hts ic_Floor hown hK hT g0 (hts _ mw_1_58) dX1_lineUp_87 (fun q87 hq87 => ?_)
              refine lv_aload_n hx hb dX1_lineUp_90 rfl (lv_at hl 0 rfl) ?_
              refine gt_Floor_byRank hx hb hts ic_Floor hown hK hT g0 (hts _ mw_1_56) dX1_lineUp_91 (fun q91 hq91 => ?_)
              refine lv_iload_n hx hb dX1_lineUp_94 rfl (lv_at hl 1 rfl) ?_
              refine al_28 hx hb hK hT hq91 (by omega) (by omega) dX1_lineUp_95 (fun x95 i95 e95 => ?_)
              have n95 := ix_nat (i := y78_1) (by omega)
              unfold p28 at e95
              refine lv_iload_n hx hb dX1_lineUp_96 rfl (lv_at hl 1 rfl) ?_
              refine as_29 hx hb hK hT hS hq87 (by omega) (by omega) (by have n0 := ix_nat (i := x95) (by omega); unfold p29; omega) dX1_lineUp_97 (fun H locs hT hS => ?_)
              obtain ⟨gk97, w97, hg1, hT⟩ : ∃ g : Gh, g.2 = (gc gk q87 (upd (gk.2 q87) x95.toNatClampNeg y78_1)).2 ∧ deq z g gh ∧ TY z (zA z) g H := ⟨_, rfl, deq_gc hg1 hq87 (by decide), hT⟩
              refine r_iinc (lv' := fun v__ => [(1, .int v__), (0, .ref h0)]) hx hb dX1_lineUp_98 hl (k := 1) rfl (by decide) (fun _ => rfl) ⟨by decide, by decide⟩ (by omega) (by omega) (fun x98 ls e98 hl => ?_)
              refine lv_goto (tgt := 78) hx hb dX1_lineUp_101 (by decide) ?_
              exact ih78 ls _ _ x98 _ (by omega) (by intro q9 q10 h9 h10; have e9 := zu_at pr0 rfl h9 hq91; have e10 := zu_at pr0 rfl h10 hq87; have hne : q91 ≠ q87 := ro_ne hq91 hq87 (by decide); rw [e9, e10, w97, gc_at, gc_na _ _ _ hne]; have a1 := ix_nat (i := x98) (by omega); have a2 := ix_nat (i := y78_1) (by omega); have e1 : x98.toNatClampNeg = y78_1.toNatClampNeg + 1 := (by omega); rw [e1, i95]; exact luC_s (ex78_0 _ _ hq91 hq87) (by omega) (by omega)) (by intro q9 h9; have hne : q9 ≠ q87 := ro_ne h9 hq87 (by decide); rw [w97, gc_na _ _ _ hne]; exact ex78_1 q9 h9) (by omega) (by omega) hg1 hT hS (lv_sub hl [1, 0] rfl)
        exact J78 (((5 - x76.toInt)).toNat + 1) ls _ _ x76 _ (by omega) (by intro q9 q10 h9 h10; have e9 : x76.toNatClampNeg = 0 := (by have a1 := ix_nat (i := x76) (by omega); omega); rw [e9]; exact luC_0 _ _ _) (by intro q9 h9; have e9 : (gh.1 h0 0).toNat = y2_1.toNatClampNeg := (by have a1 := ix_nat (i := y2_1) (by omega); omega); rw [e9]; exact ex2_0 q9 h9) (by omega) (by omega) hg1 hT hS (lv_sub hl [1, 0] rfl)
      · refine lv_aload_n hx hb dX1_lineUp_10 rfl (lv_at hl 0 rfl) ?_
        refine gt_Floor_statures hx hb hts ic_Floor hown hK hT g0 (hts _ mw_1_55) dX1_lineUp_11 (fun q11 hq11 => ?_)
        refine lv_iload_n hx hb dX1_lineUp_14 rfl (lv_at hl 1 rfl) ?_
        refine lv_aload_n hx hb dX1_lineUp_15 rfl (lv_at hl 0 rfl) ?_
        refine lv_iload_n hx hb dX1_lineUp_16 rfl (lv_at hl 1 rfl) ?_
        refine cl_Vi (rest := [.int y2_1, .ref q11]) hC hK (c_X1_stature l z gk h0 (o0) g0 y2_1 (by omega)) k_X1_stature mw_2_237 ⟨rfl, rfl, Nat.le_of_ble_eq_true rfl, Nat.le_of_ble_eq_true rfl⟩ (rv_Floor hK hT g0) hT rfl hl.1 rfl (Nat.le_of_ble_eq_true rfl) dX1_lineUp_17 ⟨Nat.zero_le _, Nat.zero_le _⟩ hS (fun _ h => h) (fun r17 H locs hpo hS => ?_)
        have hT := hpo
        refine as_20 hx hb hK hT hS hq11 (by omega) (by omega) dX1_lineUp_20 (fun H locs hT hS => ?_)
        refine lv_iload_n hx hb dX1_lineUp_21 rfl (lv_at hl 1 rfl) ?_
        refine lv_istore_n (lv' := [(2, .int y2_1), (0, .ref h0), (1, .int y2_1)]) hx hb dX1_lineUp_22 rfl hl (by decide) rfl (fun ls hl => ?_)
        have J23 : ∀ (n23 : Nat) (ls : Array Slot) (H : Heap) (locs : List Loc) (y23_2 : Int32) (gk : Gh), (0 ≤ y23_2.toInt ∧ y23_2.toInt ≤ 4) → (∀ q, zG z q = (28, h0) → luB (gk.2 q) y2_1.toNatClampNeg y23_2.toNatClampNeg) → (y2_1.toInt < gh.1 h0 0) → (y23_2.toInt ≤ y2_1.toInt) → (5 - y2_1.toInt) < ((n2 + 1 : Nat) : Int) → (y23_2.toInt - (0)) < (n23 : Int) → deq z gk gh → TY z (zA z) gk H → va_S (zA z) s.heap H locs → lv_has ls 3 [(0, .ref h0), (1, .int y2_1), (2, .int y23_2)] → W p l e (rmF 2 87) s m ([.ref h0] : List Value).toArray below meth c H locs 0 0 (MQ below (QcV z (fun H => ∃ gk : Gh, deq z gk gh ∧ TY z (zA z) gk H ∧ (rkF z gk h0))) ([.ref h0] : List Value).toArray s 0 0 (zA z)) (F0 m 23 ls []) := by
          intro n23
          induction n23 with
          | zero => intro ls H locs y23_2 gk j23_y23_2 ex23_0 ex23_1 ex23_2 mf23_2 mm23 hg1 hT hS hl; exfalso; omega
          | succ n23 ih23 =>
            intro ls H locs y23_2 gk j23_y23_2 ex23_0 ex23_1 ex23_2 mf23_2 mm23 hg1 hT hS hl
            refine lv_iload_n hx hb dX1_lineUp_23 rfl (lv_at hl 2 rfl) ?_
            have J63 : ∀ (ls : Array Slot) (H : Heap) (locs : List Loc) (gk : Gh), (∀ q, zG z q = (28, h0) → luB (gk.2 q) y2_1.toNatClampNeg y23_2.toNatClampNeg) → (y2_1.toInt < gh.1 h0 0) → (y23_2.toInt ≤ y2_1.toInt) → (5 - y2_1.toInt) < ((n2 + 1 : Nat) : Int) → deq z gk gh → TY z (zA z) gk H → va_S (zA z) s.heap H locs → lv_has ls 3 [(0, .ref h0), (1, .int y2_1), (2, .int y23_2)] → W p l e (rmF 2 87) s m ([.ref h0] : List Value).toArray below meth c H locs 0 0 (MQ below (QcV z (fun H => ∃ gk : Gh, deq z gk gh ∧ TY z (zA z) gk H ∧ (rkF z gk h0))) ([.ref h0] : List Value).toArray s 0 0 (zA z)) (F0 m 63 ls []) := by
              intro ls H locs gk ex63_0 ex63_1 ex63_2 mf63_2 hg1 hT hS hl
              sorry
            refine r_if_le (tgt := 63) hx hb dX1_lineUp_24 (by decide) (fun c24 => ?_) (fun c24 => ?_)
            · exact J63 ls _ _ _ (by exact ex23_0) (by omega) (by omega) (by omega) hg1 hT hS (lv_sub hl [0, 1, 2] rfl)
            · refine lv_aload_n hx hb dX1_lineUp_27 rfl (lv_at hl 0 rfl) ?_
              refine lv_iload_n hx hb dX1_lineUp_28 rfl (lv_at hl 1 rfl) ?_
              refine lv_aload_n hx hb dX1_lineUp_29 rfl (lv_at hl 0 rfl) ?_
              refine gt_Floor_byRank hx hb hts ic_Floor hown hK hT g0 (hts _ mw_1_56) dX1_lineUp_30 (fun q30 hq30 => ?_)
              refine lv_iload_n hx hb dX1_lineUp_33 rfl (lv_at hl 2 rfl) ?_
              refine r_iconst hx hb dX1_lineUp_34 (by decide) (by decide) (fun x34 e34 => ?_)
              refine r_isub hx hb dX1_lineUp_35 (by omega) (by omega) (fun x35 e35 => ?_)
              refine al_28 hx hb hK hT hq30 (by omega) (by omega) dX1_lineUp_36 (fun x36 i36 e36 => ?_)
              have n36 := ix_nat (i := x35) (by omega)
              unfold p28 at e36
              refine cl_Vi (rest := []) hC hK (c_X1_standsAhead l z gk h0 (o0) g0 y2_1 x36 (by omega) (by omega)) k_X1_standsAhead mw_2_238 ⟨rfl, rfl, Nat.le_of_ble_eq_true rfl, Nat.le_of_ble_eq_true rfl⟩ (rv_Floor hK hT g0) hT rfl hl.1 rfl (Nat.le_of_ble_eq_true rfl) dX1_lineUp_37 ⟨Nat.zero_le _, Nat.zero_le _⟩ hS (fun _ h => h) (fun r37 H locs hpo hS => ?_)
              have hT := hpo
              refine r_if_eq (tgt := 63) hx hb dX1_lineUp_40 (by decide) (fun c40 => ?_) (fun c40 => ?_)
              · exact J63 ls _ _ _ (by exact ex23_0) (by omega) (by omega) (by omega) hg1 hT hS (lv_sub hl [0, 1, 2] rfl)
              · sorry
        exact J23 (((y2_1.toInt - (0))).toNat + 1) ls _ _ y2_1 _ (by omega) (by intro q9 h9; exact luB_of (ex2_0 q9 h9)) (by omega) (by omega) (by omega) (by omega) hg1 hT hS (lv_sub hl [1, 2, 0] rfl)
  exact J2 (((5 - x0.toInt)).toNat + 1) ls _ _ x0 _ (by omega) (by intro q9 h9; have e9 : x0.toNatClampNeg = 0 := (by have a1 := ix_nat (i := x0) (by omega); omega); rw [e9]; exact luA_0 _) (by omega) (by omega) hg1 hT hS (lv_sub hl [1, 0] rfl)
set_option maxHeartbeats 4000000 in
set_option maxRecDepth 100000 in
theorem c_lineUp_v4 (l : Launch) (z : Zt) (gh : Gh) (h0 o0 : Nat) (g0 : zG z h0 = (11, o0)) (pr0 : zu z) : Met l yX1_lineUp (uw yX1_lineUp cX1_lineUp 3 none) (rmF 2 87) (PcW z [.ref h0] (fun H => TY z (zA z) gh H)) (QcV z (fun H => ∃ gk : Gh, deq z gk gh ∧ TY z (zA z) gk H ∧ (rkF z gk h0))) 0 0 (zA z) := by
  refine Met.ofW (cc := cX1_lineUp) (maxL := 3) (ret := none) (by decide) rfl ?_
  intro p e s m args below meth c s₁ B hml hv
  obtain ⟨rfl, hW, hK⟩ := hv
  have hx := B.exec
  have hb := B.bytes
  have hr := B.returns
  have hts : ∀ w ∈ lw_ok, w.before ([.ref h0] : List Value).toArray s = true := fun w hw => atoms_spec (ws := uw yX1_lineUp cX1_lineUp 3 none) B.pre w (List.mem_cons_of_mem _ hw)
  have hown : s.vm.findClass RX1 = some m.cls := findClass_of_methodNamed B.named
  have hlk := B.notSynchronized
  have hC : CallFix p m c cX1_lineUp 3 s ([.ref h0] : List Value).toArray lw_ok RX1 := ⟨hx, hb, hml, hown, hts⟩
  have hS : va_S (zA z) s.heap s.heap [] := va_S.rf
  have hl := lv_entry ([.ref h0]) (n := 3) (Nat.le_of_ble_eq_true rfl)
  rw [lg_entry_eq]
  generalize (lg_sl ([.ref h0]) ++ List.replicate (3 - (lg_sl ([.ref h0])).length) Slot.unset).toArray = ls at hl ⊢
  have hl : lv_has ls 3 [(0, .ref h0)] := hl
  show W p l e (rmF 2 87) s m ([.ref h0] : List Value).toArray below meth c s.heap [] 0 0 (MQ below (QcV z (fun H => ∃ gk : Gh, deq z gk gh ∧ TY z (zA z) gk H ∧ (rkF z gk h0))) ([.ref h0] : List Value).toArray s 0 0 (zA z)) (F0 m 0 ls [])
  have hT : TY z (zA z) gh s.heap := hW
  have hg1 : deq z gh gh := deq_rf z gh
  have hM := (ty_fl hT g0).1
  have hM0 := deq_r hg1 h0 0
  refine r_iconst hx hb dX1_lineUp_0 (by decide) (by decide) (fun x0 e0 => ?_)
  refine lv_istore_n (lv' := [(1, .int x0), (0, .ref h0)]) hx hb dX1_lineUp_1 rfl hl (by decide) rfl (fun ls hl => ?_)
  have J2 : ∀ (n2 : Nat) (ls : Array Slot) (H : Heap) (locs : List Loc) (y2_1 : Int32) (gk : Gh), (0 ≤ y2_1.toInt ∧ y2_1.toInt ≤ 5) → (∀ q, zG z q = (28, h0) → luA (gk.2 q) y2_1.toNatClampNeg) → (y2_1.toInt ≤ gh.1 h0 0) → (5 - y2_1.toInt) < (n2 : Int) → deq z gk gh → TY z (zA z) gk H → va_S (zA z) s.heap H locs → lv_has ls 3 [(0, .ref h0), (1, .int y2_1)] → W p l e (rmF 2 87) s m ([.ref h0] : List Value).toArray below meth c H locs 0 0 (MQ below (QcV z (fun H => ∃ gk : Gh, deq z gk gh ∧ TY z (zA z) gk H ∧ (rkF z gk h0))) ([.ref h0] : List Value).toArray s 0 0 (zA z)) (F0 m 2 ls []) := by
    intro n2
    induction n2 with
    | zero => intro ls H locs y2_1 gk j2_y2_1 ex2_0 ex2_1 mm2 hg1 hT hS hl; exfalso; omega
    | succ n2 ih2 =>
      intro ls H locs y2_1 gk j2_y2_1 ex2_0 ex2_1 mm2 hg1 hT hS hl
      refine lv_iload_n hx hb dX1_lineUp_2 rfl (lv_at hl 1 rfl) ?_
      refine lv_aload_n hx hb dX1_lineUp_3 rfl (lv_at hl 0 rfl) ?_
      refine gt_Floor_men hx hb hts ic_Floor hown hK hT g0 (hts _ mw_1_60) dX1_lineUp_4 (fun x4 i4 e4 g4 => ?_)
      have i4 := i4.trans (deq_r hg1 _ _)
      refine r_icmp_ge (tgt := 76) hx hb dX1_lineUp_7 (by decide) (fun c7 => ?_) (fun c7 => ?_)
      · refine r_iconst hx hb dX1_lineUp_76 (by decide) (by decide) (fun x76 e76 => ?_)
        refine lv_istore_n (lv' := [(1, .int x76), (0, .ref h0)]) hx hb dX1_lineUp_77 rfl hl (by decide) rfl (fun ls hl => ?_)
        have J78 : ∀ (n78 : Nat) (ls : Array Slot) (H : Heap) (locs : List Loc) (y78_1 : Int32) (gk : Gh), (0 ≤ y78_1.toInt ∧ y78_1.toInt ≤ 5) → (∀ q q2, zG z q = (28, h0) → zG z q2 = (29, h0) → luC (gk.2 q) (gk.2 q2) (gh.1 h0 0).toNat y78_1.toNatClampNeg) → (∀ q, zG z q = (28, h0) → luA (gk.2 q) (gh.1 h0 0).toNat) → (y78_1.toInt ≤ gh.1 h0 0) → (5 - y78_1.toInt) < (n78 : Int) → deq z gk gh → TY z (zA z) gk H → va_S (zA z) s.heap H locs → lv_has ls 3 [(0, .ref h0), (1, .int y78_1)] → W p l e (rmF 2 87) s m ([.ref h0] : List Value).toArray below meth c H locs 0 0 (MQ below (QcV z (fun H => ∃ gk : Gh, deq z gk gh ∧ TY z (zA z) gk H ∧ (rkF z gk h0))) ([.ref h0] : List Value).toArray s 0 0 (zA z)) (F0 m 78 ls []) := by
          intro n78
          induction n78 with
          | zero => intro ls H locs y78_1 gk j78_y78_1 ex78_0 ex78_1 ex78_2 mm78 hg1 hT hS hl; exfalso; omega
          | succ n78 ih78 =>
            intro ls H locs y78_1 gk j78_y78_1 ex78_0 ex78_1 ex78_2 mm78 hg1 hT hS hl
            refine lv_iload_n hx hb dX1_lineUp_78 rfl (lv_at hl 1 rfl) ?_
            refine lv_aload_n hx hb dX1_lineUp_79 rfl (lv_at hl 0 rfl) ?_
            refine gt_Floor_men hx hb hts ic_Floor hown hK hT g0 (hts _ mw_1_60) dX1_lineUp_80 (fun x80 i80 e80 g80 => ?_)
            have i80 := i80.trans (deq_r hg1 _ _)
            refine r_icmp_ge (tgt := 104) hx hb dX1_lineUp_83 (by decide) (fun c83 => ?_) (fun c83 => ?_)
            · exact rt_v hx hb hr hlk hS ⟨_, hg1, hT, by
      have e0 := deq_r hg1 h0 0
      have a1 := ix_nat (i := y78_1) (by omega)
      have hM := (ty_fl hT g0).1
      refine ⟨fun q9 h9 i hi => ?_, fun q9 h9 i hi => ?_⟩
      · have h5 := (ex78_1 q9 h9).1 i (by omega)
        omega
      · obtain ⟨q8, h8⟩ := (ty_fl hT g0).2.1
        have e5 : y78_1.toNatClampNeg = (gh.1 h0 0).toNat := by omega
        have h6 := ex78_0 q8 q9 h8 h9
        rw [e5] at h6
        have h5 := luC_all h6 (ex78_1 q8 h8) i (by omega)
        omega⟩ dX1_lineUp_104
            · sorry
        exact J78 (((5 - x76.toInt)).toNat + 1) ls _ _ x76 _ (by omega) (by intro q9 q10 h9 h10; have e9 : x76.toNatClampNeg = 0 := (by have a1 := ix_nat (i := x76) (by omega); omega); rw [e9]; exact luC_0 _ _ _) (by intro q9 h9; have e9 : (gh.1 h0 0).toNat = y2_1.toNatClampNeg := (by have a1 := ix_nat (i := y2_1) (by omega); omega); rw [e9]; exact ex2_0 q9 h9) (by omega) (by omega) hg1 hT hS (lv_sub hl [1, 0] rfl)
      · refine lv_aload_n hx hb dX1_lineUp_10 rfl (lv_at hl 0 rfl) ?_
        refine gt_Floor_statures hx hb hts ic_Floor hown hK hT g0 (hts _ mw_1_55) dX1_lineUp_11 (fun q11 hq11 => ?_)
        refine lv_iload_n hx hb dX1_lineUp_14 rfl (lv_at hl 1 rfl) ?_
        refine lv_aload_n hx hb dX1_lineUp_15 rfl (lv_at hl 0 rfl) ?_
        refine lv_iload_n hx hb dX1_lineUp_16 rfl (lv_at hl 1 rfl) ?_
        refine cl_Vi (rest := [.int y2_1, .ref q11]) hC hK (c_X1_stature l z gk h0 (o0) g0 y2_1 (by omega)) k_X1_stature mw_2_237 ⟨rfl, rfl, Nat.le_of_ble_eq_true rfl, Nat.le_of_ble_eq_true rfl⟩ (rv_Floor hK hT g0) hT rfl hl.1 rfl (Nat.le_of_ble_eq_true rfl) dX1_lineUp_17 ⟨Nat.zero_le _, Nat.zero_le _⟩ hS (fun _ h => h) (fun r17 H locs hpo hS => ?_)
        have hT := hpo
        refine as_20 hx hb hK hT hS hq11 (by omega) (by omega) dX1_lineUp_20 (fun H locs hT hS => ?_)
        refine lv_iload_n hx hb dX1_lineUp_21 rfl (lv_at hl 1 rfl) ?_
        refine lv_istore_n (lv' := [(2, .int y2_1), (0, .ref h0), (1, .int y2_1)]) hx hb dX1_lineUp_22 rfl hl (by decide) rfl (fun ls hl => ?_)
        have J23 : ∀ (n23 : Nat) (ls : Array Slot) (H : Heap) (locs : List Loc) (y23_2 : Int32) (gk : Gh), (0 ≤ y23_2.toInt ∧ y23_2.toInt ≤ 4) → (∀ q, zG z q = (28, h0) → luB (gk.2 q) y2_1.toNatClampNeg y23_2.toNatClampNeg) → (y2_1.toInt < gh.1 h0 0) → (y23_2.toInt ≤ y2_1.toInt) → (5 - y2_1.toInt) < ((n2 + 1 : Nat) : Int) → (y23_2.toInt - (0)) < (n23 : Int) → deq z gk gh → TY z (zA z) gk H → va_S (zA z) s.heap H locs → lv_has ls 3 [(0, .ref h0), (1, .int y2_1), (2, .int y23_2)] → W p l e (rmF 2 87) s m ([.ref h0] : List Value).toArray below meth c H locs 0 0 (MQ below (QcV z (fun H => ∃ gk : Gh, deq z gk gh ∧ TY z (zA z) gk H ∧ (rkF z gk h0))) ([.ref h0] : List Value).toArray s 0 0 (zA z)) (F0 m 23 ls []) := by
          intro n23
          induction n23 with
          | zero => intro ls H locs y23_2 gk j23_y23_2 ex23_0 ex23_1 ex23_2 mf23_2 mm23 hg1 hT hS hl; exfalso; omega
          | succ n23 ih23 =>
            intro ls H locs y23_2 gk j23_y23_2 ex23_0 ex23_1 ex23_2 mf23_2 mm23 hg1 hT hS hl
            refine lv_iload_n hx hb dX1_lineUp_23 rfl (lv_at hl 2 rfl) ?_
            have J63 : ∀ (ls : Array Slot) (H : Heap) (locs : List Loc) (gk : Gh), (∀ q, zG z q = (28, h0) → luB (gk.2 q) y2_1.toNatClampNeg y23_2.toNatClampNeg) → (y2_1.toInt < gh.1 h0 0) → (y23_2.toInt ≤ y2_1.toInt) → (5 - y2_1.toInt) < ((n2 + 1 : Nat) : Int) → deq z gk gh → TY z (zA z) gk H → va_S (zA z) s.heap H locs → lv_has ls 3 [(0, .ref h0), (1, .int y2_1), (2, .int y23_2)] → W p l e (rmF 2 87) s m ([.ref h0] : List Value).toArray below meth c H locs 0 0 (MQ below (QcV z (fun H => ∃ gk : Gh, deq z gk gh ∧ TY z (zA z) gk H ∧ (rkF z gk h0))) ([.ref h0] : List Value).toArray s 0 0 (zA z)) (F0 m 63 ls []) := by
              intro ls H locs gk ex63_0 ex63_1 ex63_2 mf63_2 hg1 hT hS hl
              refine lv_aload_n hx hb dX1_lineUp_63 rfl (lv_at hl 0 rfl) ?_
              refine gt_Floor_byRank hx hb hts ic_Floor hown hK hT g0 (hts _ mw_1_56) dX1_lineUp_64 (fun q64 hq64 => ?_)
              refine lv_iload_n hx hb dX1_lineUp_67 rfl (lv_at hl 2 rfl) ?_
              refine lv_iload_n hx hb dX1_lineUp_68 rfl (lv_at hl 1 rfl) ?_
              refine as_28 hx hb hK hT hS hq64 (by omega) (by omega) (by have n0 := ix_nat (i := y23_2) (by omega); unfold p28; omega) dX1_lineUp_69 (fun H locs hT hS => ?_)
              obtain ⟨gk69, w69, hg1, hT⟩ : ∃ g : Gh, g.2 = (gc gk q64 (upd (gk.2 q64) y23_2.toNatClampNeg y2_1)).2 ∧ deq z g gh ∧ TY z (zA z) g H := ⟨_, rfl, deq_gc hg1 hq64 (by decide), hT⟩
              refine r_iinc (lv' := fun v__ => [(1, .int v__), (0, .ref h0), (2, .int y23_2)]) hx hb dX1_lineUp_70 hl (k := 1) rfl (by decide) (fun _ => rfl) ⟨by decide, by decide⟩ (by omega) (by omega) (fun x70 ls e70 hl => ?_)
              refine lv_goto (tgt := 2) hx hb dX1_lineUp_73 (by decide) ?_
              exact ih2 ls _ _ x70 _ (by omega) (by intro q9 h9; have e9 := zu_at pr0 rfl h9 hq64; rw [e9, w69, gc_at]; have e1 : x70.toNatClampNeg = y2_1.toNatClampNeg + 1 := (by have a1 := ix_nat (i := x70) (by omega); have a2 := ix_nat (i := y2_1) (by omega); omega); rw [e1]; exact luA_of (ex63_0 _ hq64) (by have a2 := ix_nat (i := y2_1) (by omega); omega)) (by omega) (by omega) hg1 hT hS (lv_sub hl [1, 0] rfl)
            refine r_if_le (tgt := 63) hx hb dX1_lineUp_24 (by decide) (fun c24 => ?_) (fun c24 => ?_)
            · exact J63 ls _ _ _ (by exact ex23_0) (by omega) (by omega) (by omega) hg1 hT hS (lv_sub hl [0, 1, 2] rfl)
            · refine lv_aload_n hx hb dX1_lineUp_27 rfl (lv_at hl 0 rfl) ?_
              refine lv_iload_n hx hb dX1_lineUp_28 rfl (lv_at hl 1 rfl) ?_
              refine lv_aload_n hx hb dX1_lineUp_29 rfl (lv_at hl 0 rfl) ?_
              refine gt_Floor_byRank hx hb hts ic_Floor hown hK hT g0 (hts _ mw_1_56) dX1_lineUp_30 (fun q30 hq30 => ?_)
              refine lv_iload_n hx hb dX1_lineUp_33 rfl (lv_at hl 2 rfl) ?_
              refine r_iconst hx hb dX1_lineUp_34 (by decide) (by decide) (fun x34 e34 => ?_)
              refine r_isub hx hb dX1_lineUp_35 (by omega) (by omega) (fun x35 e35 => ?_)
              refine al_28 hx hb hK hT hq30 (by omega) (by omega) dX1_lineUp_36 (fun x36 i36 e36 => ?_)
              have n36 := ix_nat (i := x35) (by omega)
              unfold p28 at e36
              refine cl_Vi (rest := []) hC hK (c_X1_standsAhead l z gk h0 (o0) g0 y2_1 x36 (by omega) (by omega)) k_X1_standsAhead mw_2_238 ⟨rfl, rfl, Nat.le_of_ble_eq_true rfl, Nat.le_of_ble_eq_true rfl⟩ (rv_Floor hK hT g0) hT rfl hl.1 rfl (Nat.le_of_ble_eq_true rfl) dX1_lineUp_37 ⟨Nat.zero_le _, Nat.zero_le _⟩ hS (fun _ h => h) (fun r37 H locs hpo hS => ?_)
              have hT := hpo
              refine r_if_eq (tgt := 63) hx hb dX1_lineUp_40 (by decide) (fun c40 => ?_) (fun c40 => ?_)
              · exact J63 ls _ _ _ (by exact ex23_0) (by omega) (by omega) (by omega) hg1 hT hS (lv_sub hl [0, 1, 2] rfl)
              · refine lv_aload_n hx hb dX1_lineUp_43 rfl (lv_at hl 0 rfl) ?_
                refine gt_Floor_byRank hx hb hts ic_Floor hown hK hT g0 (hts _ mw_1_56) dX1_lineUp_44 (fun q44 hq44 => ?_)
                refine lv_iload_n hx hb dX1_lineUp_47 rfl (lv_at hl 2 rfl) ?_
                refine lv_aload_n hx hb dX1_lineUp_48 rfl (lv_at hl 0 rfl) ?_
                refine gt_Floor_byRank hx hb hts ic_Floor hown hK hT g0 (hts _ mw_1_56) dX1_lineUp_49 (fun q49 hq49 => ?_)
                refine lv_iload_n hx hb dX1_lineUp_52 rfl (lv_at hl 2 rfl) ?_
                refine r_iconst hx hb dX1_lineUp_53 (by decide) (by decide) (fun x53 e53 => ?_)
                refine r_isub hx hb dX1_lineUp_54 (by omega) (by omega) (fun x54 e54 => ?_)
                refine al_28 hx hb hK hT hq49 (by omega) (by omega) dX1_lineUp_55 (fun x55 i55 e55 => ?_)
                have n55 := ix_nat (i := x54) (by omega)
                unfold p28 at e55
                refine as_28 hx hb hK hT hS hq44 (by omega) (by omega) (by have n0 := ix_nat (i := y23_2) (by omega); unfold p28; omega) dX1_lineUp_56 (fun H locs hT hS => ?_)
                obtain ⟨gk56, w56, hg1, hT⟩ : ∃ g : Gh, g.2 = (gc gk q44 (upd (gk.2 q44) y23_2.toNatClampNeg x55)).2 ∧ deq z g gh ∧ TY z (zA z) g H := ⟨_, rfl, deq_gc hg1 hq44 (by decide), hT⟩
                refine r_iinc (lv' := fun v__ => [(2, .int v__), (0, .ref h0), (1, .int y2_1)]) hx hb dX1_lineUp_57 hl (k := 2) rfl (by decide) (fun _ => rfl) ⟨by decide, by decide⟩ (by omega) (by omega) (fun x57 ls e57 hl => ?_)
                refine lv_goto (tgt := 23) hx hb dX1_lineUp_60 (by decide) ?_
                exact ih23 ls _ _ x57 _ (by omega) (by intro q9 h9; have e9 := zu_at pr0 rfl h9 hq44; have e8 := zu_at pr0 rfl hq49 hq44; rw [e9, w56, gc_at]; have a1 := ix_nat (i := x57) (by omega); have a2 := ix_nat (i := y23_2) (by omega); have a3 := ix_nat (i := x54) (by omega); have e1 : x57.toNatClampNeg = y23_2.toNatClampNeg - 1 := (by omega); have e2 : x54.toNatClampNeg = y23_2.toNatClampNeg - 1 := (by omega); rw [e1]; exact luB_sh (ex23_0 _ hq44) (by omega) (by rw [i55, e8, e2])) (by omega) (by omega) (by omega) (by omega) hg1 hT hS (lv_sub hl [1, 2, 0] rfl)
        exact J23 (((y2_1.toInt - (0))).toNat + 1) ls _ _ y2_1 _ (by omega) (by intro q9 h9; exact luB_of (ex2_0 q9 h9)) (by omega) (by omega) (by omega) (by omega) hg1 hT hS (lv_sub hl [1, 2, 0] rfl)
  exact J2 (((5 - x0.toInt)).toNat + 1) ls _ _ x0 _ (by omega) (by intro q9 h9; have e9 : x0.toNatClampNeg = 0 := (by have a1 := ix_nat (i := x0) (by omega); omega); rw [e9]; exact luA_0 _) (by omega) (by omega) hg1 hT hS (lv_sub hl [1, 0] rfl)
set_option maxHeartbeats 4000000 in
set_option maxRecDepth 100000 in
theorem c_lineUp_v5 (l : Launch) (z : Zt) (gh : Gh) (h0 o0 : Nat) (g0 : zG z h0 = (11, o0)) (pr0 : zu z) : Met l yX1_lineUp (uw yX1_lineUp cX1_lineUp 3 none) (rmF 2 87) (PcW z [.ref h0] (fun H => TY z (zA z) gh H)) (QcV z (fun H => ∃ gk : Gh, deq z gk gh ∧ TY z (zA z) gk H ∧ (rkF z gk h0))) 0 0 (zA z) := by
  refine Met.ofW (cc := cX1_lineUp) (maxL := 3) (ret := none) (by decide) rfl ?_
  intro p e s m args below meth c s₁ B hml hv
  obtain ⟨rfl, hW, hK⟩ := hv
  have hx := B.exec
  have hb := B.bytes
  have hr := B.returns
  have hts : ∀ w ∈ lw_ok, w.before ([.ref h0] : List Value).toArray s = true := fun w hw => atoms_spec (ws := uw yX1_lineUp cX1_lineUp 3 none) B.pre w (List.mem_cons_of_mem _ hw)
  have hown : s.vm.findClass RX1 = some m.cls := findClass_of_methodNamed B.named
  have hlk := B.notSynchronized
  have hC : CallFix p m c cX1_lineUp 3 s ([.ref h0] : List Value).toArray lw_ok RX1 := ⟨hx, hb, hml, hown, hts⟩
  have hS : va_S (zA z) s.heap s.heap [] := va_S.rf
  have hl := lv_entry ([.ref h0]) (n := 3) (Nat.le_of_ble_eq_true rfl)
  rw [lg_entry_eq]
  generalize (lg_sl ([.ref h0]) ++ List.replicate (3 - (lg_sl ([.ref h0])).length) Slot.unset).toArray = ls at hl ⊢
  have hl : lv_has ls 3 [(0, .ref h0)] := hl
  show W p l e (rmF 2 87) s m ([.ref h0] : List Value).toArray below meth c s.heap [] 0 0 (MQ below (QcV z (fun H => ∃ gk : Gh, deq z gk gh ∧ TY z (zA z) gk H ∧ (rkF z gk h0))) ([.ref h0] : List Value).toArray s 0 0 (zA z)) (F0 m 0 ls [])
  have hT : TY z (zA z) gh s.heap := hW
  have hg1 : deq z gh gh := deq_rf z gh
  have hM := (ty_fl hT g0).1
  have hM0 := deq_r hg1 h0 0
  refine r_iconst hx hb dX1_lineUp_0 (by decide) (by decide) (fun x0 e0 => ?_)
  refine lv_istore_n (lv' := [(1, .int x0), (0, .ref h0)]) hx hb dX1_lineUp_1 rfl hl (by decide) rfl (fun ls hl => ?_)
  have J2 : ∀ (n2 : Nat) (ls : Array Slot) (H : Heap) (locs : List Loc) (y2_1 : Int32) (gk : Gh), (0 ≤ y2_1.toInt ∧ y2_1.toInt ≤ 5) → (∀ q, zG z q = (28, h0) → luA (gk.2 q) y2_1.toNatClampNeg) → (y2_1.toInt ≤ gh.1 h0 0) → (5 - y2_1.toInt) < (n2 : Int) → deq z gk gh → TY z (zA z) gk H → va_S (zA z) s.heap H locs → lv_has ls 3 [(0, .ref h0), (1, .int y2_1)] → W p l e (rmF 2 87) s m ([.ref h0] : List Value).toArray below meth c H locs 0 0 (MQ below (QcV z (fun H => ∃ gk : Gh, deq z gk gh ∧ TY z (zA z) gk H ∧ (rkF z gk h0))) ([.ref h0] : List Value).toArray s 0 0 (zA z)) (F0 m 2 ls []) := by
    intro n2
    induction n2 with
    | zero => intro ls H locs y2_1 gk j2_y2_1 ex2_0 ex2_1 mm2 hg1 hT hS hl; exfalso; omega
    | succ n2 ih2 =>
      intro ls H locs y2_1 gk j2_y2_1 ex2_0 ex2_1 mm2 hg1 hT hS hl
      refine lv_iload_n hx hb dX1_lineUp_2 rfl (lv_at hl 1 rfl) ?_
      refine lv_aload_n hx hb dX1_lineUp_3 rfl (lv_at hl 0 rfl) ?_
      refine gt_Floor_men hx hb hts ic_Floor hown hK hT g0 (hts _ mw_1_60) dX1_lineUp_4 (fun x4 i4 e4 g4 => ?_)
      have i4 := i4.trans (deq_r hg1 _ _)
      refine r_icmp_ge (tgt := 76) hx hb dX1_lineUp_7 (by decide) (fun c7 => ?_) (fun c7 => ?_)
      · sorry
      · refine lv_aload_n hx hb dX1_lineUp_10 rfl (lv_at hl 0 rfl) ?_
        refine gt_Floor_statures hx hb hts ic_Floor hown hK hT g0 (hts _ mw_1_55) dX1_lineUp_11 (fun q11 hq11 => ?_)
        refine lv_iload_n hx hb dX1_lineUp_14 rfl (lv_at hl 1 rfl) ?_
        refine lv_aload_n hx hb dX1_lineUp_15 rfl (lv_at hl 0 rfl) ?_
        refine lv_iload_n hx hb dX1_lineUp_16 rfl (lv_at hl 1 rfl) ?_
        refine cl_Vi (rest := [.int y2_1, .ref q11]) hC hK (c_X1_stature l z gk h0 (o0) g0 y2_1 (by omega)) k_X1_stature mw_2_237 ⟨rfl, rfl, Nat.le_of_ble_eq_true rfl, Nat.le_of_ble_eq_true rfl⟩ (rv_Floor hK hT g0) hT rfl hl.1 rfl (Nat.le_of_ble_eq_true rfl) dX1_lineUp_17 ⟨Nat.zero_le _, Nat.zero_le _⟩ hS (fun _ h => h) (fun r17 H locs hpo hS => ?_)
        have hT := hpo
        refine as_20 hx hb hK hT hS hq11 (by omega) (by omega) dX1_lineUp_20 (fun H locs hT hS => ?_)
        refine lv_iload_n hx hb dX1_lineUp_21 rfl (lv_at hl 1 rfl) ?_
        refine lv_istore_n (lv' := [(2, .int y2_1), (0, .ref h0), (1, .int y2_1)]) hx hb dX1_lineUp_22 rfl hl (by decide) rfl (fun ls hl => ?_)
        have J23 : ∀ (n23 : Nat) (ls : Array Slot) (H : Heap) (locs : List Loc) (y23_2 : Int32) (gk : Gh), (0 ≤ y23_2.toInt ∧ y23_2.toInt ≤ 4) → (∀ q, zG z q = (28, h0) → luB (gk.2 q) y2_1.toNatClampNeg y23_2.toNatClampNeg) → (y2_1.toInt < gh.1 h0 0) → (y23_2.toInt ≤ y2_1.toInt) → (5 - y2_1.toInt) < ((n2 + 1 : Nat) : Int) → (y23_2.toInt - (0)) < (n23 : Int) → deq z gk gh → TY z (zA z) gk H → va_S (zA z) s.heap H locs → lv_has ls 3 [(0, .ref h0), (1, .int y2_1), (2, .int y23_2)] → W p l e (rmF 2 87) s m ([.ref h0] : List Value).toArray below meth c H locs 0 0 (MQ below (QcV z (fun H => ∃ gk : Gh, deq z gk gh ∧ TY z (zA z) gk H ∧ (rkF z gk h0))) ([.ref h0] : List Value).toArray s 0 0 (zA z)) (F0 m 23 ls []) := by
          intro n23
          induction n23 with
          | zero => intro ls H locs y23_2 gk j23_y23_2 ex23_0 ex23_1 ex23_2 mf23_2 mm23 hg1 hT hS hl; exfalso; omega
          | succ n23 ih23 =>
            intro ls H locs y23_2 gk j23_y23_2 ex23_0 ex23_1 ex23_2 mf23_2 mm23 hg1 hT hS hl
            sorry
        exact J23 (((y2_1.toInt - (0))).toNat + 1) ls _ _ y2_1 _ (by omega) (by intro q9 h9; exact luB_of (ex2_0 q9 h9)) (by omega) (by omega) (by omega) (by omega) hg1 hT hS (lv_sub hl [1, 2, 0] rfl)
  exact J2 (((5 - x0.toInt)).toNat + 1) ls _ _ x0 _ (by omega) (by intro q9 h9; have e9 : x0.toNatClampNeg = 0 := (by have a1 := ix_nat (i := x0) (by omega); omega); rw [e9]; exact luA_0 _) (by omega) (by omega) hg1 hT hS (lv_sub hl [1, 0] rfl)
