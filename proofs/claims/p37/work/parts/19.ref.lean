theorem k_X7_keepDraft : cBV yX7_keepDraft cX7_keepDraft 2 none 0 := ⟨mw_4_68, ms_1_13, mw_1_8, mw_4_69, ⟨by decide, by decide, by decide⟩⟩
set_option maxHeartbeats 4000000 in
set_option maxRecDepth 100000 in
theorem c_X7_keepDraft (l : Launch) (z : Zt) (gh : Gh) (h0 o0 : Nat) (g0 : zG z h0 = (17, o0)) (pr0 : zu z) : Met l yX7_keepDraft (uw yX7_keepDraft cX7_keepDraft 2 none) (rmF 1 64) (PcW z [.ref h0] (fun H => TY z (zA z) gh H)) (QcV z (fun H => ∃ gk : Gh, (∀ a k, (a ≠ h0 ∨ k < 41 ∨ 47 < k) → gk.1 a k = gh.1 a k) ∧ wfM (gk.1 h0) ∧ TY z (zA z) gk H)) 0 0 (zA z) := by
  refine Met.ofW (cc := cX7_keepDraft) (maxL := 2) (ret := none) (by decide) rfl ?_
  intro p e s m args below meth c s₁ B hml hv
  obtain ⟨rfl, hW, hK, hSK⟩ := hv
  have hx := B.exec
  have hb := B.bytes
  have hr := B.returns
  have hts : ∀ w ∈ lw_ok, w.before ([.ref h0] : List Value).toArray s = true := fun w hw => atoms_spec (ws := uw yX7_keepDraft cX7_keepDraft 2 none) B.pre w (List.mem_cons_of_mem _ hw)
  have hown : s.vm.findClass RX7 = some m.cls := findClass_of_methodNamed B.named
  have hlk := B.notSynchronized
  have hC : CallFix p m c cX7_keepDraft 2 s ([.ref h0] : List Value).toArray lw_ok RX7 := ⟨hx, hb, hml, hown, hts⟩
  have hS : va_S (zA z) s.heap s.heap [] := va_S.rf
  have hl := lv_entry ([.ref h0]) (n := 2) (Nat.le_of_ble_eq_true rfl)
  rw [lg_entry_eq]
  generalize (lg_sl ([.ref h0]) ++ List.replicate (2 - (lg_sl ([.ref h0])).length) Slot.unset).toArray = ls at hl ⊢
  have hl : lv_has ls 2 [(0, .ref h0)] := hl
  show W p l e (rmF 1 64) s m ([.ref h0] : List Value).toArray below meth c s.heap [] 0 0 (MQ below (QcV z (fun H => ∃ gk : Gh, (∀ a k, (a ≠ h0 ∨ k < 41 ∨ 47 < k) → gk.1 a k = gh.1 a k) ∧ wfM (gk.1 h0) ∧ TY z (zA z) gk H)) ([.ref h0] : List Value).toArray s 0 0 (zA z)) (F0 m 0 ls [])
  have hT : TY z (zA z) gh s.heap := hW
  have hMr := ty_mr hT g0
  obtain ⟨gk, a42, a43, a46, a47, hk, hT⟩ := kd_0 (o := h0) (B := gh.1 h0 55) hT
  refine r_iconst hx hb dX7_keepDraft_0 (by decide) (by decide) (fun x0 e0 => ?_)
  refine lv_istore_n (lv' := [(1, .int x0), (0, .ref h0)]) hx hb dX7_keepDraft_1 rfl hl (by decide) rfl (fun ls hl => ?_)
  have J2 : ∀ (n2 : Nat) (ls : Array Slot) (H : Heap) (locs : List Loc) (y2_1 : Int32) (gk : Gh), (0 ≤ y2_1.toInt ∧ y2_1.toInt ≤ 59) → (gk.1 h0 42 = gh.1 h0 55) → (gk.1 h0 43 = y2_1.toInt) → (59 - y2_1.toInt) < (n2 : Int) → (∀ a k, (a ≠ h0 ∨ k < 41 ∨ 47 < k) → gk.1 a k = gh.1 a k) → TY z (zA z) gk H → va_S (zA z) s.heap H locs → lv_has ls 2 [(0, .ref h0), (1, .int y2_1)] → W p l e (rmF 1 64) s m ([.ref h0] : List Value).toArray below meth c H locs 0 0 (MQ below (QcV z (fun H => ∃ gk : Gh, (∀ a k, (a ≠ h0 ∨ k < 41 ∨ 47 < k) → gk.1 a k = gh.1 a k) ∧ wfM (gk.1 h0) ∧ TY z (zA z) gk H)) ([.ref h0] : List Value).toArray s 0 0 (zA z)) (F0 m 2 ls []) := by
    intro n2
    induction n2 with
    | zero => intro ls H locs y2_1 gk j2_y2_1 ex2_0 ex2_1 mm2 hk hT hS hl; exfalso; omega
    | succ n2 ih2 =>
      intro ls H locs y2_1 gk j2_y2_1 ex2_0 ex2_1 mm2 hk hT hS hl
      refine lv_iload_n hx hb dX7_keepDraft_2 rfl (lv_at hl 1 rfl) ?_
      refine r_bipush hx hb dX7_keepDraft_3 rfl (fun x3 e3 => ?_)
      refine r_icmp_ge (tgt := 26) hx hb dX7_keepDraft_5 (by decide) (fun c5 => ?_) (fun c5 => ?_)
      · refine lv_aload_n hx hb dX7_keepDraft_26 rfl (lv_at hl 0 rfl) ?_
        refine lv_aload_n hx hb dX7_keepDraft_27 rfl (lv_at hl 0 rfl) ?_
        refine gt_Model_dMen hx hb hts ic_Model hown hK hT g0 (hts _ mw_4_75) dX7_keepDraft_28 (fun x28 i28 e28 g28 => ?_)
        have r55 := hk h0 55 (by omega)
        refine pt_Model_men hx hb hts ic_Model hown hK hT hS g0 (hts _ mw_4_73) (by omega) (by omega) dX7_keepDraft_31 (fun H locs hT hS => ?_)
        obtain ⟨gk31, w41, v42, v43, hk, hT⟩ : ∃ g : Gh, g.1 h0 41 = x28.toInt ∧ g.1 h0 42 = gk.1 h0 42 ∧ g.1 h0 43 = gk.1 h0 43 ∧ (∀ a k, (a ≠ h0 ∨ k < 41 ∨ 47 < k) → g.1 a k = gh.1 a k) ∧ TY z (zA z) g H := ⟨_, gs_at _ _ _ _, gs_nk _ _ _ _ (by decide), gs_nk _ _ _ _ (by decide), fun a k q => (gs_or _ _ _ _ (by omega)).trans (hk a k q), hT⟩
        refine lv_aload_n hx hb dX7_keepDraft_34 rfl (lv_at hl 0 rfl) ?_
        refine gt_Model_isKept hx hb hts ic_Model hown hK hT g0 (hts _ mw_4_72) dX7_keepDraft_35 (fun q35 hq35 => ?_)
        refine r_iconst hx hb dX7_keepDraft_38 (by decide) (by decide) (fun x38 e38 => ?_)
        refine r_iconst hx hb dX7_keepDraft_39 (by decide) (by decide) (fun x39 e39 => ?_)
        refine as_42g (j := 44) (v := 0) hx hb hK hT hS hq35 (fun b hb9 => zu_at pr0 rfl hb9 hq35) (by omega) (by omega) (by omega) (by omega) (by omega) (by have n0 := ix_nat (i := x38) (by omega); exact p42_w (by omega) (by omega) (by omega) (by omega)) (by have n0 := ix_nat (i := x38) (by omega); exact p42_s (by omega)) dX7_keepDraft_40 (fun H locs hT hS => ?_)
        obtain ⟨gk40, z40, z40_41, z40_42, z40_43, hk, hT⟩ : ∃ g : Gh, g.1 h0 44 = 0 ∧ g.1 h0 41 = gk31.1 h0 41 ∧ g.1 h0 42 = gk31.1 h0 42 ∧ g.1 h0 43 = gk31.1 h0 43 ∧ (∀ a k, (a ≠ h0 ∨ k < 41 ∨ 47 < k) → g.1 a k = gh.1 a k) ∧ TY z (zA z) g H := ⟨_, gs_at _ _ _ _, gs_nk _ _ _ _ (by decide), gs_nk _ _ _ _ (by decide), gs_nk _ _ _ _ (by decide), fun a k q => (gs_or _ _ _ _ (by omega)).trans (hk a k q), hT⟩
        refine lv_aload_n hx hb dX7_keepDraft_41 rfl (lv_at hl 0 rfl) ?_
        refine gt_Model_isKept hx hb hts ic_Model hown hK hT g0 (hts _ mw_4_72) dX7_keepDraft_42 (fun q42 hq42 => ?_)
        refine r_iconst hx hb dX7_keepDraft_45 (by decide) (by decide) (fun x45 e45 => ?_)
        refine r_iconst hx hb dX7_keepDraft_46 (by decide) (by decide) (fun x46 e46 => ?_)
        refine as_42g (j := 45) (v := 0) hx hb hK hT hS hq42 (fun b hb9 => zu_at pr0 rfl hb9 hq42) (by omega) (by omega) (by omega) (by omega) (by omega) (by have n0 := ix_nat (i := x45) (by omega); exact p42_w (by omega) (by omega) (by omega) (by omega)) (by have n0 := ix_nat (i := x45) (by omega); exact p42_s (by omega)) dX7_keepDraft_47 (fun H locs hT hS => ?_)
        obtain ⟨gk47, z47, z47_41, z47_42, z47_43, z47_44, hk, hT⟩ : ∃ g : Gh, g.1 h0 45 = 0 ∧ g.1 h0 41 = gk40.1 h0 41 ∧ g.1 h0 42 = gk40.1 h0 42 ∧ g.1 h0 43 = gk40.1 h0 43 ∧ g.1 h0 44 = gk40.1 h0 44 ∧ (∀ a k, (a ≠ h0 ∨ k < 41 ∨ 47 < k) → g.1 a k = gh.1 a k) ∧ TY z (zA z) g H := ⟨_, gs_at _ _ _ _, gs_nk _ _ _ _ (by decide), gs_nk _ _ _ _ (by decide), gs_nk _ _ _ _ (by decide), gs_nk _ _ _ _ (by decide), fun a k q => (gs_or _ _ _ _ (by omega)).trans (hk a k q), hT⟩
        exact rt_v hx hb hr hlk hS ⟨_, hk, (by unfold wfM; refine ⟨by omega, by omega, by omega, by omega, fun q => absurd q (by omega), fun q => absurd q (by omega)⟩), hT⟩ dX7_keepDraft_48
      · refine lv_aload_n hx hb dX7_keepDraft_8 rfl (lv_at hl 0 rfl) ?_
        refine gt_Model_st hx hb hts ic_Model hown hK hT g0 (hts _ mw_4_70) dX7_keepDraft_9 (fun q9 hq9 => ?_)
        refine lv_iload_n hx hb dX7_keepDraft_12 rfl (lv_at hl 1 rfl) ?_
        refine lv_aload_n hx hb dX7_keepDraft_13 rfl (lv_at hl 0 rfl) ?_
        refine gt_Model_draft hx hb hts ic_Model hown hK hT g0 (hts _ mw_4_74) dX7_keepDraft_14 (fun q14 hq14 => ?_)
        refine lv_iload_n hx hb dX7_keepDraft_17 rfl (lv_at hl 1 rfl) ?_
        refine al_43 hx hb hK hT hq14 (by omega) (by omega) dX7_keepDraft_18 (fun x18 i18 e18 => ?_)
        have n18 := ix_nat (i := y2_1) (by omega)
        refine as_40g (j := 43) (v := y2_1.toInt + 1) hx hb hK hT hS hq9 (fun b hb9 => zu_at pr0 rfl hb9 hq9) (by omega) (by omega) (by omega) (by have n0 := ix_nat (i := y2_1) (by omega); exact p40_m (by omega) (d59_b e18)) (by have n0 := ix_nat (i := y2_1) (by omega); exact p40_s43 (by omega) (by omega)) dX7_keepDraft_19 (fun H locs hT hS => ?_)
        obtain ⟨gk19, w42, w43, hk, hT⟩ : ∃ g : Gh, g.1 h0 42 = gk.1 h0 42 ∧ g.1 h0 43 = y2_1.toInt + 1 ∧ (∀ a k, (a ≠ h0 ∨ k < 41 ∨ 47 < k) → g.1 a k = gh.1 a k) ∧ TY z (zA z) g H := ⟨gc (gs gk h0 43 (y2_1.toInt + 1)) q9 (upd (gk.2 q9) y2_1.toNatClampNeg x18), gs_nk _ _ _ _ (by decide), gs_at _ _ _ _, fun a k q => (gs_or _ _ _ _ (by omega)).trans (hk a k q), hT⟩
        refine r_iinc (lv' := fun v__ => [(1, .int v__), (0, .ref h0)]) hx hb dX7_keepDraft_20 hl (k := 1) rfl (by decide) (fun _ => rfl) ⟨by decide, by decide⟩ (by omega) (by omega) (fun x20 ls e20 hl => ?_)
        refine lv_goto (tgt := 2) hx hb dX7_keepDraft_23 (by decide) ?_
        exact ih2 ls _ _ x20 _ (by omega) (by omega) (by omega) (by omega) hk hT hS (lv_sub hl [1, 0] rfl)
  exact J2 (((59 - x0.toInt)).toNat + 1) ls _ _ x0 _ (by omega) (by omega) (by omega) (by omega) hk hT hS (lv_sub hl [1, 0] rfl)
theorem k_X7_copies : cBV yX7_copies cX7_copies 4 none 2 := ⟨mw_5_232, ms_4_2, mw_1_8, mw_5_233, ⟨by decide, by decide, by decide⟩⟩
set_option maxHeartbeats 4000000 in
set_option maxRecDepth 100000 in
theorem c_copiesA (l : Launch) (z : Zt) (gh : Gh) (j : Nat) (h0 o0 : Nat) (g0 : zG z h0 = (17, o0)) (p1 : Int32) (p2 : Int32) (bp1 : 59 ≤ p1.toInt ∧ p1.toInt ≤ 118) (bp2 : 0 ≤ p2.toInt ∧ p2.toInt ≤ 0) (pr0 : cpj p1.toNatClampNeg j) (pr1 : 59 ≤ gh.1 h0 43) (pr2 : zu z) : Met l yX7_copies (uw yX7_copies cX7_copies 4 none) (rmF 1 64) (PcW z [.ref h0, .int p1, .int p2] (fun H => TY z (zA z) gh H)) (QcV z (fun H => ∃ gk : Gh, (∀ a k, (a ≠ h0 ∨ k ≠ j) → gk.1 a k = gh.1 a k) ∧ 59 ≤ gk.1 h0 j ∧ TY z (zA z) gk H)) 0 0 (zA z) := by
  refine Met.ofW (cc := cX7_copies) (maxL := 4) (ret := none) (by decide) rfl ?_
  intro p e s m args below meth c s₁ B hml hv
  obtain ⟨rfl, hW, hK, hSK⟩ := hv
  have hx := B.exec
  have hb := B.bytes
  have hr := B.returns
  have hts : ∀ w ∈ lw_ok, w.before ([.ref h0, .int p1, .int p2] : List Value).toArray s = true := fun w hw => atoms_spec (ws := uw yX7_copies cX7_copies 4 none) B.pre w (List.mem_cons_of_mem _ hw)
  have hown : s.vm.findClass RX7 = some m.cls := findClass_of_methodNamed B.named
  have hlk := B.notSynchronized
  have hC : CallFix p m c cX7_copies 4 s ([.ref h0, .int p1, .int p2] : List Value).toArray lw_ok RX7 := ⟨hx, hb, hml, hown, hts⟩
  have hS : va_S (zA z) s.heap s.heap [] := va_S.rf
  have hl := lv_entry ([.ref h0, .int p1, .int p2]) (n := 4) (Nat.le_of_ble_eq_true rfl)
  rw [lg_entry_eq]
  generalize (lg_sl ([.ref h0, .int p1, .int p2]) ++ List.replicate (4 - (lg_sl ([.ref h0, .int p1, .int p2])).length) Slot.unset).toArray = ls at hl ⊢
  have hl : lv_has ls 4 [(0, .ref h0), (1, .int p1), (2, .int p2)] := hl
  show W p l e (rmF 1 64) s m ([.ref h0, .int p1, .int p2] : List Value).toArray below meth c s.heap [] 0 0 (MQ below (QcV z (fun H => ∃ gk : Gh, (∀ a k, (a ≠ h0 ∨ k ≠ j) → gk.1 a k = gh.1 a k) ∧ 59 ≤ gk.1 h0 j ∧ TY z (zA z) gk H)) ([.ref h0, .int p1, .int p2] : List Value).toArray s 0 0 (zA z)) (F0 m 0 ls [])
  have hT : TY z (zA z) gh s.heap := hW
  have hcp : (p1.toInt = 59 ∧ j = 46) ∨ (p1.toInt = 118 ∧ j = 47) := by unfold cpj at pr0; have n9 := ix_nat (i := p1) (by omega); omega
  have hjs : j = 46 ∨ j = 47 := by rcases pr0 with q | q; exact Or.inl q.2; exact Or.inr q.2
  have npp := ix_nat (i := p1) (by omega)
  obtain ⟨gk, a0, hk, hT⟩ := cp_0 (o := h0) hjs hT
  refine r_iconst hx hb dX7_copies_0 (by decide) (by decide) (fun x0 e0 => ?_)
  refine lv_istore_n (lv' := [(3, .int x0), (0, .ref h0), (1, .int p1), (2, .int p2)]) hx hb dX7_copies_1 rfl hl (by decide) rfl (fun ls hl => ?_)
  have J2 : ∀ (n2 : Nat) (ls : Array Slot) (H : Heap) (locs : List Loc) (y2_3 : Int32) (gk : Gh), (0 ≤ y2_3.toInt ∧ y2_3.toInt ≤ 59) → (gk.1 h0 j = y2_3.toInt) → (59 - y2_3.toInt) < (n2 : Int) → (∀ a k, (a ≠ h0 ∨ k ≠ j) → gk.1 a k = gh.1 a k) → TY z (zA z) gk H → va_S (zA z) s.heap H locs → lv_has ls 4 [(0, .ref h0), (1, .int p1), (2, .int p2), (3, .int y2_3)] → W p l e (rmF 1 64) s m ([.ref h0, .int p1, .int p2] : List Value).toArray below meth c H locs 0 0 (MQ below (QcV z (fun H => ∃ gk : Gh, (∀ a k, (a ≠ h0 ∨ k ≠ j) → gk.1 a k = gh.1 a k) ∧ 59 ≤ gk.1 h0 j ∧ TY z (zA z) gk H)) ([.ref h0, .int p1, .int p2] : List Value).toArray s 0 0 (zA z)) (F0 m 2 ls []) := by
    intro n2
    induction n2 with
    | zero => intro ls H locs y2_3 gk j2_y2_3 ex2_0 mm2 hk hT hS hl; exfalso; omega
    | succ n2 ih2 =>
      intro ls H locs y2_3 gk j2_y2_3 ex2_0 mm2 hk hT hS hl
      have r43 := hk h0 43 (Or.inr (by omega))
      refine lv_iload_n hx hb dX7_copies_2 rfl (lv_at hl 3 rfl) ?_
      refine r_bipush hx hb dX7_copies_3 rfl (fun x3 e3 => ?_)
      refine r_icmp_ge (tgt := 30) hx hb dX7_copies_5 (by decide) (fun c5 => ?_) (fun c5 => ?_)
      · exact rt_v hx hb hr hlk hS ⟨_, hk, by omega, hT⟩ dX7_copies_30
      · refine lv_aload_n hx hb dX7_copies_8 rfl (lv_at hl 0 rfl) ?_
        refine gt_Model_st hx hb hts ic_Model hown hK hT g0 (hts _ mw_4_70) dX7_copies_9 (fun q9 hq9 => ?_)
        refine lv_iload_n hx hb dX7_copies_12 rfl (lv_at hl 1 rfl) ?_
        refine lv_iload_n hx hb dX7_copies_13 rfl (lv_at hl 3 rfl) ?_
        refine r_iadd hx hb dX7_copies_14 (by omega) (by omega) (fun x14 e14 => ?_)
        refine lv_aload_n hx hb dX7_copies_15 rfl (lv_at hl 0 rfl) ?_
        refine gt_Model_st hx hb hts ic_Model hown hK hT g0 (hts _ mw_4_70) dX7_copies_16 (fun q16 hq16 => ?_)
        refine lv_iload_n hx hb dX7_copies_19 rfl (lv_at hl 2 rfl) ?_
        refine lv_iload_n hx hb dX7_copies_20 rfl (lv_at hl 3 rfl) ?_
        refine r_iadd hx hb dX7_copies_21 (by omega) (by omega) (fun x21 e21 => ?_)
        refine al_40 hx hb hK hT hq16 (by omega) (by omega) dX7_copies_22 (fun x22 i22 e22 => ?_)
        have n22 := ix_nat (i := x21) (by omega)
        have n14 := ix_nat (i := x14) (by omega)
        have n21 := ix_nat (i := x21) (by omega)
        have ny := ix_nat (i := y2_3) (by omega)
        refine as_40g (j := j) (v := y2_3.toInt + 1) hx hb hK hT hS hq9 (fun b hb9 => zu_at pr2 rfl hb9 hq9) (by omega) (by omega) (by omega) (p40_mj pr0 (by omega) (by omega) (by rw [gs_at, gs_nk _ _ _ _ (by omega), show x14.toNatClampNeg - p1.toNatClampNeg = x21.toNatClampNeg by omega]; exact b59_tr (p40_e e22 (by omega)) rfl (fun _ => by omega))) (by rw [show x14.toNatClampNeg = p1.toNatClampNeg + y2_3.toNatClampNeg by omega]; exact p40_sj pr0 (by omega) (by omega)) dX7_copies_23 (fun H locs hT hS => ?_)
        obtain ⟨gk23, wj, hk, hT⟩ : ∃ g : Gh, g.1 h0 j = y2_3.toInt + 1 ∧ (∀ a k, (a ≠ h0 ∨ k ≠ j) → g.1 a k = gh.1 a k) ∧ TY z (zA z) g H := ⟨gc (gs gk h0 j (y2_3.toInt + 1)) q9 (upd (gk.2 q9) x14.toNatClampNeg x22), gs_at _ _ _ _, fun a k q => (gs_or _ _ _ _ q).trans (hk a k q), hT⟩
        refine r_iinc (lv' := fun v__ => [(3, .int v__), (0, .ref h0), (1, .int p1), (2, .int p2)]) hx hb dX7_copies_24 hl (k := 3) rfl (by decide) (fun _ => rfl) ⟨by decide, by decide⟩ (by omega) (by omega) (fun x24 ls e24 hl => ?_)
        refine lv_goto (tgt := 2) hx hb dX7_copies_27 (by decide) ?_
        exact ih2 ls _ _ x24 _ (by omega) (by omega) (by omega) hk hT hS (lv_sub hl [1, 2, 3, 0] rfl)
  exact J2 (((59 - x0.toInt)).toNat + 1) ls _ _ x0 _ (by omega) (by omega) (by omega) hk hT hS (lv_sub hl [1, 2, 3, 0] rfl)
set_option maxHeartbeats 4000000 in
set_option maxRecDepth 100000 in
theorem c_copiesB (l : Launch) (z : Zt) (gh : Gh) (j : Nat) (h0 o0 : Nat) (g0 : zG z h0 = (17, o0)) (p1 : Int32) (p2 : Int32) (bp1 : 0 ≤ p1.toInt ∧ p1.toInt ≤ 0) (bp2 : 59 ≤ p2.toInt ∧ p2.toInt ≤ 118) (pr0 : cpj p2.toNatClampNeg j) (pr1 : 59 ≤ gh.1 h0 j) : Met l yX7_copies (uw yX7_copies cX7_copies 4 none) (rmF 1 64) (PcW z [.ref h0, .int p1, .int p2] (fun H => TY z (zA z) gh H)) (QcV z (fun H => ∃ gk : Gh, eqv gk gh ∧ TY z (zA z) gk H)) 0 0 (zA z) := by
  refine Met.ofW (cc := cX7_copies) (maxL := 4) (ret := none) (by decide) rfl ?_
  intro p e s m args below meth c s₁ B hml hv
  obtain ⟨rfl, hW, hK, hSK⟩ := hv
  have hx := B.exec
  have hb := B.bytes
  have hr := B.returns
  have hts : ∀ w ∈ lw_ok, w.before ([.ref h0, .int p1, .int p2] : List Value).toArray s = true := fun w hw => atoms_spec (ws := uw yX7_copies cX7_copies 4 none) B.pre w (List.mem_cons_of_mem _ hw)
  have hown : s.vm.findClass RX7 = some m.cls := findClass_of_methodNamed B.named
  have hlk := B.notSynchronized
  have hC : CallFix p m c cX7_copies 4 s ([.ref h0, .int p1, .int p2] : List Value).toArray lw_ok RX7 := ⟨hx, hb, hml, hown, hts⟩
  have hS : va_S (zA z) s.heap s.heap [] := va_S.rf
  have hl := lv_entry ([.ref h0, .int p1, .int p2]) (n := 4) (Nat.le_of_ble_eq_true rfl)
  rw [lg_entry_eq]
  generalize (lg_sl ([.ref h0, .int p1, .int p2]) ++ List.replicate (4 - (lg_sl ([.ref h0, .int p1, .int p2])).length) Slot.unset).toArray = ls at hl ⊢
  have hl : lv_has ls 4 [(0, .ref h0), (1, .int p1), (2, .int p2)] := hl
  show W p l e (rmF 1 64) s m ([.ref h0, .int p1, .int p2] : List Value).toArray below meth c s.heap [] 0 0 (MQ below (QcV z (fun H => ∃ gk : Gh, eqv gk gh ∧ TY z (zA z) gk H)) ([.ref h0, .int p1, .int p2] : List Value).toArray s 0 0 (zA z)) (F0 m 0 ls [])
  have hT : TY z (zA z) gh s.heap := hW
  have hg1 : eqv gh gh := eqv_rf gh
  have hjs : j = 46 ∨ j = 47 := by rcases pr0 with q | q; exact Or.inl q.2; exact Or.inr q.2
  have npp := ix_nat (i := p2) (by omega)
  have hcp : (p2.toInt = 59 ∧ j = 46) ∨ (p2.toInt = 118 ∧ j = 47) := by unfold cpj at pr0; omega
  refine r_iconst hx hb dX7_copies_0 (by decide) (by decide) (fun x0 e0 => ?_)
  refine lv_istore_n (lv' := [(3, .int x0), (0, .ref h0), (1, .int p1), (2, .int p2)]) hx hb dX7_copies_1 rfl hl (by decide) rfl (fun ls hl => ?_)
  have J2 : ∀ (n2 : Nat) (ls : Array Slot) (H : Heap) (locs : List Loc) (y2_3 : Int32) (gk : Gh), (0 ≤ y2_3.toInt ∧ y2_3.toInt ≤ 59) → (59 - y2_3.toInt) < (n2 : Int) → eqv gk gh → TY z (zA z) gk H → va_S (zA z) s.heap H locs → lv_has ls 4 [(0, .ref h0), (1, .int p1), (2, .int p2), (3, .int y2_3)] → W p l e (rmF 1 64) s m ([.ref h0, .int p1, .int p2] : List Value).toArray below meth c H locs 0 0 (MQ below (QcV z (fun H => ∃ gk : Gh, eqv gk gh ∧ TY z (zA z) gk H)) ([.ref h0, .int p1, .int p2] : List Value).toArray s 0 0 (zA z)) (F0 m 2 ls []) := by
    intro n2
    induction n2 with
    | zero => intro ls H locs y2_3 gk j2_y2_3 mm2 hg1 hT hS hl; exfalso; omega
    | succ n2 ih2 =>
      intro ls H locs y2_3 gk j2_y2_3 mm2 hg1 hT hS hl
      refine lv_iload_n hx hb dX7_copies_2 rfl (lv_at hl 3 rfl) ?_
      refine r_bipush hx hb dX7_copies_3 rfl (fun x3 e3 => ?_)
      refine r_icmp_ge (tgt := 30) hx hb dX7_copies_5 (by decide) (fun c5 => ?_) (fun c5 => ?_)
      · exact rt_v hx hb hr hlk hS ⟨_, hg1, hT⟩ dX7_copies_30
      · refine lv_aload_n hx hb dX7_copies_8 rfl (lv_at hl 0 rfl) ?_
        refine gt_Model_st hx hb hts ic_Model hown hK hT g0 (hts _ mw_4_70) dX7_copies_9 (fun q9 hq9 => ?_)
        refine lv_iload_n hx hb dX7_copies_12 rfl (lv_at hl 1 rfl) ?_
        refine lv_iload_n hx hb dX7_copies_13 rfl (lv_at hl 3 rfl) ?_
        refine r_iadd hx hb dX7_copies_14 (by omega) (by omega) (fun x14 e14 => ?_)
        refine lv_aload_n hx hb dX7_copies_15 rfl (lv_at hl 0 rfl) ?_
        refine gt_Model_st hx hb hts ic_Model hown hK hT g0 (hts _ mw_4_70) dX7_copies_16 (fun q16 hq16 => ?_)
        refine lv_iload_n hx hb dX7_copies_19 rfl (lv_at hl 2 rfl) ?_
        refine lv_iload_n hx hb dX7_copies_20 rfl (lv_at hl 3 rfl) ?_
        refine r_iadd hx hb dX7_copies_21 (by omega) (by omega) (fun x21 e21 => ?_)
        refine al_40 hx hb hK hT hq16 (by omega) (by omega) dX7_copies_22 (fun x22 i22 e22 => ?_)
        have n22 := ix_nat (i := x21) (by omega)
        have n14 := ix_nat (i := x14) (by omega)
        have n21 := ix_nat (i := x21) (by omega)
        have rj : gk.1 h0 j = gh.1 h0 j := hg1 h0 j (by rcases hjs with q | q <;> (rw [q]; rfl))
        refine as_40 hx hb hK hT hS hq9 (by omega) (by omega) (p40_m (by omega) (by have h9 := p40_ej pr0 (by omega) (by omega) e22; rw [show x21.toNatClampNeg - p2.toNatClampNeg = x14.toNatClampNeg by omega] at h9; exact b59_tr h9 rfl (fun _ => by omega))) dX7_copies_23 (fun H locs hT hS => ?_)
        obtain ⟨gk23, w23, hq23, hg1, hT⟩ : ∃ g : Gh, g.2 = (gc gk q9 (upd (gk.2 q9) x14.toNatClampNeg x22)).2 ∧ g.1 = gk.1 ∧ eqv g gh ∧ TY z (zA z) g H := ⟨_, rfl, rfl, eqv_gc hg1, hT⟩
        refine r_iinc (lv' := fun v__ => [(3, .int v__), (0, .ref h0), (1, .int p1), (2, .int p2)]) hx hb dX7_copies_24 hl (k := 3) rfl (by decide) (fun _ => rfl) ⟨by decide, by decide⟩ (by omega) (by omega) (fun x24 ls e24 hl => ?_)
        refine lv_goto (tgt := 2) hx hb dX7_copies_27 (by decide) ?_
        exact ih2 ls _ _ x24 _ (by omega) (by omega) hg1 hT hS (lv_sub hl [1, 2, 3, 0] rfl)
  exact J2 (((59 - x0.toInt)).toNat + 1) ls _ _ x0 _ (by omega) (by omega) hg1 hT hS (lv_sub hl [1, 2, 3, 0] rfl)
theorem k_X7_keep : cBV yX7_keep cX7_keep 3 (some .int) 1 := ⟨mw_5_227, mw_5_228, mw_1_8, mw_5_229, ⟨by decide, by decide, by decide⟩⟩
set_option maxHeartbeats 4000000 in
set_option maxRecDepth 100000 in
theorem c_X7_keep (l : Launch) (z : Zt) (v : Nat → Nat → Int) (h0 o0 : Nat) (g0 : zG z h0 = (17, o0)) (p1 : Int32) : Met l yX7_keep (uw yX7_keep cX7_keep 3 (some .int)) (rmF 2 89) (PcW z [.ref h0, .int p1] (fun H => WX z v H)) (QcI z (fun r H => WX z v H)) 0 0 (zA z) := by
  refine Met.ofW (cc := cX7_keep) (maxL := 3) (ret := (some .int)) (by decide) rfl ?_
  intro p e s m args below meth c s₁ B hml hv
  obtain ⟨rfl, hW, hK, hSK⟩ := hv
  have hx := B.exec
  have hb := B.bytes
  have hr := B.returns
  have hts : ∀ w ∈ lw_ok, w.before ([.ref h0, .int p1] : List Value).toArray s = true := fun w hw => atoms_spec (ws := uw yX7_keep cX7_keep 3 (some .int)) B.pre w (List.mem_cons_of_mem _ hw)
  have hown : s.vm.findClass RX7 = some m.cls := findClass_of_methodNamed B.named
  have hlk := B.notSynchronized
  have hC : CallFix p m c cX7_keep 3 s ([.ref h0, .int p1] : List Value).toArray lw_ok RX7 := ⟨hx, hb, hml, hown, hts⟩
  have hS : va_S (zA z) s.heap s.heap [] := va_S.rf
  have hl := lv_entry ([.ref h0, .int p1]) (n := 3) (Nat.le_of_ble_eq_true rfl)
  rw [lg_entry_eq]
  generalize (lg_sl ([.ref h0, .int p1]) ++ List.replicate (3 - (lg_sl ([.ref h0, .int p1])).length) Slot.unset).toArray = ls at hl ⊢
  have hl : lv_has ls 3 [(0, .ref h0), (1, .int p1)] := hl
  show W p l e (rmF 2 89) s m ([.ref h0, .int p1] : List Value).toArray below meth c s.heap [] 0 0 (MQ below (QcI z (fun r H => WX z v H)) ([.ref h0, .int p1] : List Value).toArray s 0 0 (zA z)) (F0 m 0 ls [])
  obtain ⟨gh, hwf, hvis, hT⟩ := hW
  obtain ⟨wa, wb, wc, wd, we, wg⟩ := hwf.2.1 h0 _ g0
  have mx_p1 := i_mx p1
  refine lv_iload_n hx hb dX7_keep_0 rfl (lv_at hl 1 rfl) ?_
  refine r_i2l hx hb dX7_keep_1 (fun x1 e1 => ?_)
  refine r_lconst0 hx hb dX7_keep_2 (fun x2 e2 => ?_)
  refine r_lconst1 hx hb dX7_keep_3 (fun x3 e3 => ?_)
  refine cl_Si (rest := []) hC hK hSK (c_X7_in l z gh x1 x2 x3) k_X7_in mw_4_154 ⟨rfl, rfl, Nat.le_of_ble_eq_true rfl, Nat.le_of_ble_eq_true rfl⟩ hT rfl hl.1 rfl (Nat.le_of_ble_eq_true rfl) dX7_keep_4 ⟨Nat.zero_le _, Nat.zero_le _⟩ hS (fun _ h => h) (fun _ _ h => h) (fun r4 H locs hpo hS => ?_)
  obtain ⟨hT, u4_0, u4_1⟩ := hpo
  refine r_if_ne (tgt := 12) hx hb dX7_keep_7 (by decide) (fun c7 => ?_) (fun c7 => ?_)
  · refine lv_aload_n hx hb dX7_keep_12 rfl (lv_at hl 0 rfl) ?_
    refine gt_Model_isKept hx hb hts ic_Model hown hK hT g0 (hts _ mw_4_72) dX7_keep_13 (fun q13 hq13 => ?_)
    refine lv_iload_n hx hb dX7_keep_16 rfl (lv_at hl 1 rfl) ?_
    refine al_42 hx hb hK hT hq13 (by omega) (by omega) dX7_keep_17 (fun x17 e17 => ?_)
    have n17 := ix_nat (i := p1) (by omega)
    unfold p42 at e17
    refine cl_Si (rest := []) hC hK hSK (c_X7_flag l z gh x17 (by omega)) k_X7_flag mw_5_4 ⟨rfl, rfl, Nat.le_of_ble_eq_true rfl, Nat.le_of_ble_eq_true rfl⟩ hT rfl hl.1 rfl (Nat.le_of_ble_eq_true rfl) dX7_keep_18 ⟨Nat.zero_le _, Nat.zero_le _⟩ hS (fun _ h => h) (fun _ _ h => h) (fun r18 H locs hpo hS => ?_)
    obtain ⟨hT, u18_0⟩ := hpo
    refine lv_istore_n (lv' := [(2, .int r18), (0, .ref h0), (1, .int p1)]) hx hb dX7_keep_21 rfl hl (by decide) rfl (fun ls hl => ?_)
    refine lv_aload_n hx hb dX7_keep_22 rfl (lv_at hl 1 rfl) ?_
    refine gt_Model_isKept hx hb hts ic_Model hown hK hT g0 (hts _ mw_4_72) dX7_keep_23 (fun q23 hq23 => ?_)
    refine lv_iload_n hx hb dX7_keep_26 rfl (lv_at hl 2 rfl) ?_
    refine r_iconst hx hb dX7_keep_27 (by decide) (by decide) (fun x27 e27 => ?_)
    obtain ⟨jk, j2, hjk⟩ : ∃ j j2 : Nat, (p1.toInt = 0 ∧ j = 46 ∧ j2 = 44) ∨ (p1.toInt = 1 ∧ j = 47 ∧ j2 = 45) := by rcases (show p1.toInt = 0 ∨ p1.toInt = 1 by omega) with h | h; exact ⟨46, 44, Or.inl ⟨h, rfl, rfl⟩⟩; exact ⟨47, 45, Or.inr ⟨h, rfl, rfl⟩⟩
    have n0 := ix_nat (i := p1) (by omega)
    refine as_42g (j := j2) (v := 1) hx hb hK hT hS hq23 (fun b hb9 => zu_at hwf.2.2 rfl hb9 hq23) (by omega) (by omega) (by omega) (by omega) (by omega) (p42_w (by omega) (by omega) (by omega) (by omega)) (p42_s (by omega)) dX7_keep_28 (fun H locs hT hS => ?_)
    obtain ⟨gh28, w28, hk28, hT⟩ : ∃ g : Gh, g.1 h0 j2 = 1 ∧ (∀ b k, (b ≠ h0 ∨ k ≠ j2) → g.1 b k = gh.1 b k) ∧ TY z (zA z) g H := ⟨_, gs_at _ _ _ _, fun b k q => gs_or _ _ _ _ q, hT⟩
    refine lv_aload_n hx hb dX7_keep_29 rfl (lv_at hl 1 rfl) ?_
    refine r_bipush hx hb dX7_keep_30 rfl (fun x30 e30 => ?_)
    refine lv_iload_n hx hb dX7_keep_32 rfl (lv_at hl 2 rfl) ?_
    refine r_iconst hx hb dX7_keep_33 (by decide) (by decide) (fun x33 e33 => ?_)
    refine r_iadd hx hb dX7_keep_34 (by omega) (by omega) (fun x34 e34 => ?_)
    refine r_imulL (59) (by omega) hx hb dX7_keep_35 (by omega) (by omega) (fun x35 e35 => ?_)
    refine r_iconst hx hb dX7_keep_36 (by decide) (by decide) (fun x36 e36 => ?_)
    refine cl_Vv (rest := []) hC hK hSK (c_copiesA l z gh28 jk h0 (o0) g0 x35 x36 (by omega) (by omega) (by unfold cpj; have n9 := ix_nat (i := x35) (by omega); omega) (by rw [hk28 h0 43 (Or.inr (by omega))]; omega) hwf.2.2) k_X7_copies mw_5_230 ⟨rfl, rfl, Nat.le_of_ble_eq_true rfl, Nat.le_of_ble_eq_true rfl⟩ (rv_Model hK hT g0) hT rfl hl.1 rfl (Nat.le_of_ble_eq_true rfl) dX7_keep_37 ⟨Nat.zero_le _, Nat.zero_le _⟩ hS (fun _ h => h) (fun _ _ h => h) (fun H locs hpo hS => ?_)
    obtain ⟨gh37, hk37, hm37, hT⟩ := hpo
    have hwf := wf_kp hwf g0 (j := jk) (j2 := j2) (by omega) hk28 hk37 hm37
    have hvis := vis_kp hvis (j := jk) (j2 := j2) (by omega) hk28 hk37
    refine lv_iload_n hx hb dX7_keep_40 rfl (lv_at hl 0 rfl) ?_
    exact rt_i hx hb hr hlk hS ⟨_, hwf, hvis, hT⟩ dX7_keep_41
  · refine r_iconst hx hb dX7_keep_10 (by decide) (by decide) (fun x10 e10 => ?_)
    exact rt_i hx hb hr hlk hS ⟨_, hwf, hvis, hT⟩ dX7_keep_11
theorem k_X7_back : cBV yX7_back cX7_back 2 (some .int) 1 := ⟨mw_5_235, mw_5_236, mw_1_8, mw_5_237, ⟨by decide, by decide, by decide⟩⟩
set_option maxHeartbeats 4000000 in
set_option maxRecDepth 100000 in
theorem c_X7_back (l : Launch) (z : Zt) (v : Nat → Nat → Int) (h0 o0 : Nat) (g0 : zG z h0 = (17, o0)) (p1 : Int32) : Met l yX7_back (uw yX7_back cX7_back 2 (some .int)) (rmF 2 89) (PcW z [.ref h0, .int p1] (fun H => WX z v H)) (QcI z (fun r H => WX z v H)) 0 0 (zA z) := by
  refine Met.ofW (cc := cX7_back) (maxL := 2) (ret := (some .int)) (by decide) rfl ?_
  intro p e s m args below meth c s₁ B hml hv
  obtain ⟨rfl, hW, hK, hSK⟩ := hv
  have hx := B.exec
  have hb := B.bytes
  have hr := B.returns
  have hts : ∀ w ∈ lw_ok, w.before ([.ref h0, .int p1] : List Value).toArray s = true := fun w hw => atoms_spec (ws := uw yX7_back cX7_back 2 (some .int)) B.pre w (List.mem_cons_of_mem _ hw)
  have hown : s.vm.findClass RX7 = some m.cls := findClass_of_methodNamed B.named
  have hlk := B.notSynchronized
  have hC : CallFix p m c cX7_back 2 s ([.ref h0, .int p1] : List Value).toArray lw_ok RX7 := ⟨hx, hb, hml, hown, hts⟩
  have hS : va_S (zA z) s.heap s.heap [] := va_S.rf
  have hl := lv_entry ([.ref h0, .int p1]) (n := 2) (Nat.le_of_ble_eq_true rfl)
  rw [lg_entry_eq]
  generalize (lg_sl ([.ref h0, .int p1]) ++ List.replicate (2 - (lg_sl ([.ref h0, .int p1])).length) Slot.unset).toArray = ls at hl ⊢
  have hl : lv_has ls 2 [(0, .ref h0), (1, .int p1)] := hl
  show W p l e (rmF 2 89) s m ([.ref h0, .int p1] : List Value).toArray below meth c s.heap [] 0 0 (MQ below (QcI z (fun r H => WX z v H)) ([.ref h0, .int p1] : List Value).toArray s 0 0 (zA z)) (F0 m 0 ls [])
  obtain ⟨gh, hwf, hvis, hT⟩ := hW
  obtain ⟨wa, wb, wc, wd, we, wg⟩ := hwf.2.1 h0 _ g0
  have mx_p1 := i_mx p1
  refine lv_iload_n hx hb dX7_back_0 rfl (lv_at hl 1 rfl) ?_
  refine r_i2l hx hb dX7_back_1 (fun x1 e1 => ?_)
  refine r_lconst0 hx hb dX7_back_2 (fun x2 e2 => ?_)
  refine r_lconst1 hx hb dX7_back_3 (fun x3 e3 => ?_)
  refine cl_Si (rest := []) hC hK hSK (c_X7_in l z gh x1 x2 x3) k_X7_in mw_4_154 ⟨rfl, rfl, Nat.le_of_ble_eq_true rfl, Nat.le_of_ble_eq_true rfl⟩ hT rfl hl.1 rfl (Nat.le_of_ble_eq_true rfl) dX7_back_4 ⟨Nat.zero_le _, Nat.zero_le _⟩ hS (fun _ h => h) (fun _ _ h => h) (fun r4 H locs hpo hS => ?_)
  obtain ⟨hT, u4_0, u4_1⟩ := hpo
  refine r_if_ne (tgt := 12) hx hb dX7_back_7 (by decide) (fun c7 => ?_) (fun c7 => ?_)
  · refine lv_aload_n hx hb dX7_back_12 rfl (lv_at hl 0 rfl) ?_
    refine gt_Model_isKept hx hb hts ic_Model hown hK hT g0 (hts _ mw_4_72) dX7_back_13 (fun q13 hq13 => ?_)
    refine lv_iload_n hx hb dX7_back_16 rfl (lv_at hl 1 rfl) ?_
    refine al_42 hx hb hK hT hq13 (by omega) (by omega) dX7_back_17 (fun x17 e17 => ?_)
    have n17 := ix_nat (i := p1) (by omega)
    unfold p42 at e17
    refine r_if_ne (tgt := 24) hx hb dX7_back_18 (by decide) (fun c18 => ?_) (fun c18 => ?_)
    · obtain ⟨jk, j2, hjk⟩ : ∃ j j2 : Nat, (p1.toInt = 0 ∧ j = 46 ∧ j2 = 44) ∨ (p1.toInt = 1 ∧ j = 47 ∧ j2 = 45) := by rcases (show p1.toInt = 0 ∨ p1.toInt = 1 by omega) with h | h; exact ⟨46, 44, Or.inl ⟨h, rfl, rfl⟩⟩; exact ⟨47, 45, Or.inr ⟨h, rfl, rfl⟩⟩
      have n0 := ix_nat (i := p1) (by omega)
      have k17 : gh.1 h0 j2 = 1 := by rcases hjk with ⟨a1, a2, a3⟩ | ⟨a1, a2, a3⟩; (rw [a3]; omega); (rw [a3]; omega)
      have k46 : 59 ≤ gh.1 h0 jk := by rcases hjk with ⟨a1, a2, a3⟩ | ⟨a1, a2, a3⟩; (rw [a2]; rw [a3] at k17; omega); (rw [a2]; rw [a3] at k17; omega)
      refine lv_aload_n hx hb dX7_back_24 rfl (lv_at hl 0 rfl) ?_
      refine r_iconst hx hb dX7_back_25 (by decide) (by decide) (fun x25 e25 => ?_)
      refine r_bipush hx hb dX7_back_26 rfl (fun x26 e26 => ?_)
      refine lv_iload_n hx hb dX7_back_28 rfl (lv_at hl 1 rfl) ?_
      refine r_iconst hx hb dX7_back_29 (by decide) (by decide) (fun x29 e29 => ?_)
      refine r_iadd hx hb dX7_back_30 (by omega) (by omega) (fun x30 e30 => ?_)
      refine r_imulL (59) (by omega) hx hb dX7_back_31 (by omega) (by omega) (fun x31 e31 => ?_)
      refine cl_Vv (rest := []) hC hK hSK (c_copiesB l z gh jk h0 (o0) g0 x25 x31 (by omega) (by omega) (by unfold cpj; have n9 := ix_nat (i := x31) (by omega); omega) (by omega)) k_X7_copies mw_5_230 ⟨rfl, rfl, Nat.le_of_ble_eq_true rfl, Nat.le_of_ble_eq_true rfl⟩ (rv_Model hK hT g0) hT rfl hl.1 rfl (Nat.le_of_ble_eq_true rfl) dX7_back_32 ⟨Nat.zero_le _, Nat.zero_le _⟩ hS (fun _ h => h) (fun _ _ h => h) (fun H locs hpo hS => ?_)
      obtain ⟨gh32, hz32, hT⟩ := hpo
      have hwf := wf_of hz32 hwf
      have hvis := vis_of hz32 hvis
      have r41_32 := hz32 h0 41 rfl
      refine lv_aload_n hx hb dX7_back_35 rfl (lv_at hl 0 rfl) ?_
      refine gt_Model_st hx hb hts ic_Model hown hK hT g0 (hts _ mw_4_70) dX7_back_36 (fun q36 hq36 => ?_)
      refine r_bipush hx hb dX7_back_39 rfl (fun x39 e39 => ?_)
      refine al_40 hx hb hK hT hq36 (by omega) (by omega) dX7_back_41 (fun x41 i41 e41 => ?_)
      have n41 := ix_nat (i := x39) (by omega)
      exact rt_i hx hb hr hlk hS ⟨_, hwf, hvis, hT⟩ dX7_back_42
    · refine r_bipush hx hb dX7_back_21 rfl (fun x21 e21 => ?_)
      exact rt_i hx hb hr hlk hS ⟨_, hwf, hvis, hT⟩ dX7_back_23
  · refine r_iconst hx hb dX7_back_10 (by decide) (by decide) (fun x10 e10 => ?_)
    exact rt_i hx hb hr hlk hS ⟨_, hwf, hvis, hT⟩ dX7_back_11
theorem k_X7_plan : cBV yX7_plan cX7_plan 2 (some .int) 1 := ⟨mw_5_74, mw_5_75, mw_1_8, mw_5_76, ⟨by decide, by decide, by decide⟩⟩
set_option maxHeartbeats 4000000 in
set_option maxRecDepth 100000 in
theorem c_X7_plan (l : Launch) (z : Zt) (gh : Gh) (h0 o0 : Nat) (g0 : zG z h0 = (17, o0)) (p1 : Int32) (pr0 : zu z) : Met l yX7_plan (uw yX7_plan cX7_plan 2 (some .int)) (rmF 3 109) (PcW z [.ref h0, .int p1] (fun H => TY z (zA z) gh H)) (QcI z (fun r H => ∃ gk : Gh, eqv gk gh ∧ TY z (zA z) gk H)) 0 0 (zA z) := by
  refine Met.ofW (cc := cX7_plan) (maxL := 2) (ret := (some .int)) (by decide) rfl ?_
  intro p e s m args below meth c s₁ B hml hv
  obtain ⟨rfl, hW, hK, hSK⟩ := hv
  have hx := B.exec
  have hb := B.bytes
  have hr := B.returns
  have hts : ∀ w ∈ lw_ok, w.before ([.ref h0, .int p1] : List Value).toArray s = true := fun w hw => atoms_spec (ws := uw yX7_plan cX7_plan 2 (some .int)) B.pre w (List.mem_cons_of_mem _ hw)
  have hown : s.vm.findClass RX7 = some m.cls := findClass_of_methodNamed B.named
  have hlk := B.notSynchronized
  have hC : CallFix p m c cX7_plan 2 s ([.ref h0, .int p1] : List Value).toArray lw_ok RX7 := ⟨hx, hb, hml, hown, hts⟩
  have hS : va_S (zA z) s.heap s.heap [] := va_S.rf
  have hl := lv_entry ([.ref h0, .int p1]) (n := 2) (Nat.le_of_ble_eq_true rfl)
  rw [lg_entry_eq]
  generalize (lg_sl ([.ref h0, .int p1]) ++ List.replicate (2 - (lg_sl ([.ref h0, .int p1])).length) Slot.unset).toArray = ls at hl ⊢
  have hl : lv_has ls 2 [(0, .ref h0), (1, .int p1)] := hl
  show W p l e (rmF 3 109) s m ([.ref h0, .int p1] : List Value).toArray below meth c s.heap [] 0 0 (MQ below (QcI z (fun r H => ∃ gk : Gh, eqv gk gh ∧ TY z (zA z) gk H)) ([.ref h0, .int p1] : List Value).toArray s 0 0 (zA z)) (F0 m 0 ls [])
  have hT : TY z (zA z) gh s.heap := hW
  have hg1 : eqv gh gh := eqv_rf gh
  have mx_p1 := i_mx p1
  refine lv_iload_n hx hb dX7_plan_0 rfl (lv_at hl 1 rfl) ?_
  refine cl_Si (rest := []) hC hK hSK (c_X7_isFigure l z gh p1) k_X7_isFigure mw_5_77 ⟨rfl, rfl, Nat.le_of_ble_eq_true rfl, Nat.le_of_ble_eq_true rfl⟩ hT rfl hl.1 rfl (Nat.le_of_ble_eq_true rfl) dX7_plan_1 ⟨Nat.zero_le _, Nat.zero_le _⟩ hS (fun _ h => h) (fun _ _ h => h) (fun r1 H locs hpo hS => ?_)
  obtain ⟨hT, u1_0⟩ := hpo
  refine r_if_ne (tgt := 9) hx hb dX7_plan_4 (by decide) (fun c4 => ?_) (fun c4 => ?_)
  · refine lv_aload_n hx hb dX7_plan_9 rfl (lv_at hl 0 rfl) ?_
    refine gt_Model_st hx hb hts ic_Model hown hK hT g0 (hts _ mw_4_70) dX7_plan_10 (fun q10 hq10 => ?_)
    refine r_bipush hx hb dX7_plan_13 rfl (fun x13 e13 => ?_)
    refine al_40 hx hb hK hT hq10 (by omega) (by omega) dX7_plan_15 (fun x15 i15 e15 => ?_)
    have n15 := ix_nat (i := x13) (by omega)
    have f15 := b59_r31 (p40_e e15 (by omega)) (by omega)
    refine r_bipush hx hb dX7_plan_16 rfl (fun x16 e16 => ?_)
    refine r_icmp_ne (tgt := 24) hx hb dX7_plan_18 (by decide) (fun c18 => ?_) (fun c18 => ?_)
    · refine lv_aload_n hx hb dX7_plan_24 rfl (lv_at hl 0 rfl) ?_
      refine gt_Model_st hx hb hts ic_Model hown hK hT g0 (hts _ mw_4_70) dX7_plan_25 (fun q25 hq25 => ?_)
      refine r_bipush hx hb dX7_plan_28 rfl (fun x28 e28 => ?_)
      refine lv_aload_n hx hb dX7_plan_30 rfl (lv_at hl 0 rfl) ?_
      refine gt_Model_st hx hb hts ic_Model hown hK hT g0 (hts _ mw_4_70) dX7_plan_31 (fun q31 hq31 => ?_)
      refine r_bipush hx hb dX7_plan_34 rfl (fun x34 e34 => ?_)
      refine al_40 hx hb hK hT hq31 (by omega) (by omega) dX7_plan_36 (fun x36 i36 e36 => ?_)
      have n36 := ix_nat (i := x34) (by omega)
      have f36 := b59_r31 (p40_e e36 (by omega)) (by omega)
      have e36b : x36.toInt = x15.toInt := by rw [i36, zu_at pr0 rfl hq31 hq10, show x34.toNatClampNeg = x13.toNatClampNeg by omega, ← i15]
      refine r_iadd hx hb dX7_plan_37 (by omega) (by omega) (fun x37 e37 => ?_)
      refine lv_iload_n hx hb dX7_plan_38 rfl (lv_at hl 1 rfl) ?_
      refine as_40 hx hb hK hT hS hq25 (by omega) (by omega) (by have n0 := ix_nat (i := x37) (by omega); exact p40_m (by omega) (b59_mf (by omega))) dX7_plan_39 (fun H locs hT hS => ?_)
      obtain ⟨gk39, w39, hq39, hg1, hT⟩ : ∃ g : Gh, g.2 = (gc gh q25 (upd (gh.2 q25) x37.toNatClampNeg p1)).2 ∧ g.1 = gh.1 ∧ eqv g gh ∧ TY z (zA z) g H := ⟨_, rfl, rfl, eqv_gc hg1, hT⟩
      refine lv_aload_n hx hb dX7_plan_40 rfl (lv_at hl 0 rfl) ?_
      refine gt_Model_st hx hb hts ic_Model hown hK hT g0 (hts _ mw_4_70) dX7_plan_41 (fun q41 hq41 => ?_)
      refine r_bipush hx hb dX7_plan_44 rfl (fun x44 e44 => ?_)
      refine lv_dup2_11 hx hb dX7_plan_46 rfl rfl ?_
      refine al_40 hx hb hK hT hq41 (by omega) (by omega) dX7_plan_47 (fun x47 i47 e47 => ?_)
      have n47 := ix_nat (i := x44) (by omega)
      have f47 := b59_r31 (p40_e e47 (by omega)) (by omega)
      have e47b : x47.toInt = x36.toInt := by rw [i47, zu_at pr0 rfl hq41 hq25, w39, gc_at, pk_un (by have n9 := ix_nat (i := x37) (by omega); omega), i36, zu_at pr0 rfl hq25 hq31, show x44.toNatClampNeg = x34.toNatClampNeg by omega]
      refine r_iconst hx hb dX7_plan_48 (by decide) (by decide) (fun x48 e48 => ?_)
      refine r_iadd hx hb dX7_plan_49 (by omega) (by omega) (fun x49 e49 => ?_)
      refine as_40 hx hb hK hT hS hq41 (by omega) (by omega) (by have n0 := ix_nat (i := x44) (by omega); exact p40_m (by omega) (b59_m31 (by omega) ⟨by omega, by omega⟩)) dX7_plan_50 (fun H locs hT hS => ?_)
      obtain ⟨gk50, w50, hq50, hg1, hT⟩ : ∃ g : Gh, g.2 = (gc gk39 q41 (upd (gk39.2 q41) x44.toNatClampNeg x49)).2 ∧ g.1 = gk39.1 ∧ eqv g gh ∧ TY z (zA z) g H := ⟨_, rfl, rfl, eqv_gc hg1, hT⟩
      refine lv_aload_n hx hb dX7_plan_51 rfl (lv_at hl 0 rfl) ?_
      refine gt_Model_st hx hb hts ic_Model hown hK hT g0 (hts _ mw_4_70) dX7_plan_52 (fun q52 hq52 => ?_)
      refine r_bipush hx hb dX7_plan_55 rfl (fun x55 e55 => ?_)
      refine al_40 hx hb hK hT hq52 (by omega) (by omega) dX7_plan_57 (fun x57 i57 e57 => ?_)
      have n57 := ix_nat (i := x55) (by omega)
      have f57 := b59_r31 (p40_e e57 (by omega)) (by omega)
      exact rt_i hx hb hr hlk hS ⟨_, hg1, hT⟩ dX7_plan_58
    · refine r_bipush hx hb dX7_plan_21 rfl (fun x21 e21 => ?_)
      exact rt_i hx hb hr hlk hS ⟨_, hg1, hT⟩ dX7_plan_23
  · refine r_iconst hx hb dX7_plan_7 (by decide) (by decide) (fun x7 e7 => ?_)
    exact rt_i hx hb hr hlk hS ⟨_, hg1, hT⟩ dX7_plan_8
theorem k_X7_see : cBV yX7_see cX7_see 5 (some .int) 3 := ⟨mw_5_197, mw_5_198, mw_1_8, mw_5_199, ⟨by decide, by decide, by decide⟩⟩
set_option maxHeartbeats 4000000 in
set_option maxRecDepth 100000 in
theorem c_X7_see (l : Launch) (z : Zt) (gh : Gh) (h0 o0 : Nat) (g0 : zG z h0 = (17, o0)) (p1 : Int32) (p2 : Int32) (p3 : Int32) (pr0 : zu z) : Met l yX7_see (uw yX7_see cX7_see 5 (some .int)) (rmF 3 110) (PcW z [.ref h0, .int p1, .int p2, .int p3] (fun H => TY z (zA z) gh H)) (QcI z (fun r H => ∃ gk : Gh, eqv gk gh ∧ TY z (zA z) gk H)) 0 0 (zA z) := by
  refine Met.ofW (cc := cX7_see) (maxL := 5) (ret := (some .int)) (by decide) rfl ?_
  intro p e s m args below meth c s₁ B hml hv
  obtain ⟨rfl, hW, hK, hSK⟩ := hv
  have hx := B.exec
  have hb := B.bytes
  have hr := B.returns
  have hts : ∀ w ∈ lw_ok, w.before ([.ref h0, .int p1, .int p2, .int p3] : List Value).toArray s = true := fun w hw => atoms_spec (ws := uw yX7_see cX7_see 5 (some .int)) B.pre w (List.mem_cons_of_mem _ hw)
  have hown : s.vm.findClass RX7 = some m.cls := findClass_of_methodNamed B.named
  have hlk := B.notSynchronized
  have hC : CallFix p m c cX7_see 5 s ([.ref h0, .int p1, .int p2, .int p3] : List Value).toArray lw_ok RX7 := ⟨hx, hb, hml, hown, hts⟩
  have hS : va_S (zA z) s.heap s.heap [] := va_S.rf
  have hl := lv_entry ([.ref h0, .int p1, .int p2, .int p3]) (n := 5) (Nat.le_of_ble_eq_true rfl)
  rw [lg_entry_eq]
  generalize (lg_sl ([.ref h0, .int p1, .int p2, .int p3]) ++ List.replicate (5 - (lg_sl ([.ref h0, .int p1, .int p2, .int p3])).length) Slot.unset).toArray = ls at hl ⊢
  have hl : lv_has ls 5 [(0, .ref h0), (1, .int p1), (2, .int p2), (3, .int p3)] := hl
  show W p l e (rmF 3 110) s m ([.ref h0, .int p1, .int p2, .int p3] : List Value).toArray below meth c s.heap [] 0 0 (MQ below (QcI z (fun r H => ∃ gk : Gh, eqv gk gh ∧ TY z (zA z) gk H)) ([.ref h0, .int p1, .int p2, .int p3] : List Value).toArray s 0 0 (zA z)) (F0 m 0 ls [])
  have hT : TY z (zA z) gh s.heap := hW
  have hg1 : eqv gh gh := eqv_rf gh
  have mx_p1 := i_mx p1
  have mx_p2 := i_mx p2
  have mx_p3 := i_mx p3
  refine lv_aload_n hx hb dX7_see_0 rfl (lv_at hl 0 rfl) ?_
  refine lv_iload_n hx hb dX7_see_1 rfl (lv_at hl 1 rfl) ?_
  refine cl_Vi (rest := []) hC hK hSK (c_X7_isOne l z gh h0 (o0) g0 p1) k_X7_isOne mw_5_11 ⟨rfl, rfl, Nat.le_of_ble_eq_true rfl, Nat.le_of_ble_eq_true rfl⟩ (rv_Model hK hT g0) hT rfl hl.1 rfl (Nat.le_of_ble_eq_true rfl) dX7_see_2 ⟨Nat.zero_le _, Nat.zero_le _⟩ hS (fun _ h => h) (fun _ _ h => h) (fun r2 H locs hpo hS => ?_)
  obtain ⟨hT, u2_0, u2_1⟩ := hpo
  refine r_if_eq (tgt := 28) hx hb dX7_see_5 (by decide) (fun c5 => ?_) (fun c5 => ?_)
  · refine r_iconst hx hb dX7_see_28 (by decide) (by decide) (fun x28 e28 => ?_)
    exact rt_i hx hb hr hlk hS ⟨_, hg1, hT⟩ dX7_see_29
  · refine lv_iload_n hx hb dX7_see_8 rfl (lv_at hl 2 rfl) ?_
    refine r_i2l hx hb dX7_see_9 (fun x9 e9 => ?_)
    refine r_lconst0 hx hb dX7_see_10 (fun x10 e10 => ?_)
    refine r_ldc2 (8) rfl hx hb hts hown mw_5_125 dX7_see_11 (fun x11 e11 => ?_)
    refine cl_Si (rest := []) hC hK hSK (c_X7_in l z gh x9 x10 x11) k_X7_in mw_4_154 ⟨rfl, rfl, Nat.le_of_ble_eq_true rfl, Nat.le_of_ble_eq_true rfl⟩ hT rfl hl.1 rfl (Nat.le_of_ble_eq_true rfl) dX7_see_14 ⟨Nat.zero_le _, Nat.zero_le _⟩ hS (fun _ h => h) (fun _ _ h => h) (fun r14 H locs hpo hS => ?_)
    obtain ⟨hT, u14_0, u14_1⟩ := hpo
    refine r_if_eq (tgt := 28) hx hb dX7_see_17 (by decide) (fun c17 => ?_) (fun c17 => ?_)
    · refine r_iconst hx hb dX7_see_28 (by decide) (by decide) (fun x28 e28 => ?_)
      exact rt_i hx hb hr hlk hS ⟨_, hg1, hT⟩ dX7_see_29
    · refine lv_aload_n hx hb dX7_see_20 rfl (lv_at hl 0 rfl) ?_
      refine lv_iload_n hx hb dX7_see_21 rfl (lv_at hl 3 rfl) ?_
      refine cl_Vi (rest := []) hC hK hSK (c_X7_isOne l z gh h0 (o0) g0 p3) k_X7_isOne mw_5_11 ⟨rfl, rfl, Nat.le_of_ble_eq_true rfl, Nat.le_of_ble_eq_true rfl⟩ (rv_Model hK hT g0) hT rfl hl.1 rfl (Nat.le_of_ble_eq_true rfl) dX7_see_22 ⟨Nat.zero_le _, Nat.zero_le _⟩ hS (fun _ h => h) (fun _ _ h => h) (fun r22 H locs hpo hS => ?_)
      obtain ⟨hT, u22_0, u22_1⟩ := hpo
      refine r_if_ne (tgt := 30) hx hb dX7_see_25 (by decide) (fun c25 => ?_) (fun c25 => ?_)
      · refine lv_aload_n hx hb dX7_see_30 rfl (lv_at hl 0 rfl) ?_
        refine gt_Model_st hx hb hts ic_Model hown hK hT g0 (hts _ mw_4_70) dX7_see_31 (fun q31 hq31 => ?_)
        refine r_bipush hx hb dX7_see_34 rfl (fun x34 e34 => ?_)
        refine al_40 hx hb hK hT hq31 (by omega) (by omega) dX7_see_36 (fun x36 i36 e36 => ?_)
        have n36 := ix_nat (i := x34) (by omega)
        have f36 := b59_r40 (p40_e e36 (by omega)) (by omega)
        refine r_bipush hx hb dX7_see_37 rfl (fun x37 e37 => ?_)
        refine r_icmp_ne (tgt := 45) hx hb dX7_see_39 (by decide) (fun c39 => ?_) (fun c39 => ?_)
        · refine r_bipush hx hb dX7_see_45 rfl (fun x45 e45 => ?_)
          refine r_iconst hx hb dX7_see_47 (by decide) (by decide) (fun x47 e47 => ?_)
          refine lv_aload_n hx hb dX7_see_48 rfl (lv_at hl 0 rfl) ?_
          refine gt_Model_st hx hb hts ic_Model hown hK hT g0 (hts _ mw_4_70) dX7_see_49 (fun q49 hq49 => ?_)
          refine r_bipush hx hb dX7_see_52 rfl (fun x52 e52 => ?_)
          refine al_40 hx hb hK hT hq49 (by omega) (by omega) dX7_see_54 (fun x54 i54 e54 => ?_)
          have n54 := ix_nat (i := x52) (by omega)
          have f54 := b59_r40 (p40_e e54 (by omega)) (by omega)
          have e54b : x54.toInt = x36.toInt := by rw [i54, zu_at pr0 rfl hq49 hq31, show x52.toNatClampNeg = x34.toNatClampNeg by omega, ← i36]
          refine r_imulL (3) (by omega) hx hb dX7_see_55 (by omega) (by omega) (fun x55 e55 => ?_)
          refine r_iadd hx hb dX7_see_56 (by omega) (by omega) (fun x56 e56 => ?_)
          refine lv_istore (lv' := [(4, .int x56), (0, .ref h0), (1, .int p1), (2, .int p2), (3, .int p3)]) hx hb dX7_see_57 hl (by decide) rfl (fun ls hl => ?_)
          refine lv_aload_n hx hb dX7_see_59 rfl (lv_at hl 1 rfl) ?_
          refine gt_Model_st hx hb hts ic_Model hown hK hT g0 (hts _ mw_4_70) dX7_see_60 (fun q60 hq60 => ?_)
          refine lv_iload hx hb dX7_see_63 (lv_at hl 0 rfl) ?_
          refine lv_iload_n hx hb dX7_see_65 rfl (lv_at hl 2 rfl) ?_
          refine as_40 hx hb hK hT hS hq60 (by omega) (by omega) (by have n0 := ix_nat (i := x56) (by omega); exact p40_m (by omega) (b59_m41 (by omega) (by omega))) dX7_see_66 (fun H locs hT hS => ?_)
          obtain ⟨gk66, w66, hq66, hg1, hT⟩ : ∃ g : Gh, g.2 = (gc gh q60 (upd (gh.2 q60) x56.toNatClampNeg p1)).2 ∧ g.1 = gh.1 ∧ eqv g gh ∧ TY z (zA z) g H := ⟨_, rfl, rfl, eqv_gc hg1, hT⟩
          refine lv_aload_n hx hb dX7_see_67 rfl (lv_at hl 1 rfl) ?_
          refine gt_Model_st hx hb hts ic_Model hown hK hT g0 (hts _ mw_4_70) dX7_see_68 (fun q68 hq68 => ?_)
          refine lv_iload hx hb dX7_see_71 (lv_at hl 0 rfl) ?_
          refine r_iconst hx hb dX7_see_73 (by decide) (by decide) (fun x73 e73 => ?_)
          refine r_iadd hx hb dX7_see_74 (by omega) (by omega) (fun x74 e74 => ?_)
          refine lv_iload_n hx hb dX7_see_75 rfl (lv_at hl 3 rfl) ?_
          refine as_40 hx hb hK hT hS hq68 (by omega) (by omega) (by have n0 := ix_nat (i := x74) (by omega); exact p40_m (by omega) (b59_m41 (by omega) (by omega))) dX7_see_76 (fun H locs hT hS => ?_)
          obtain ⟨gk76, w76, hq76, hg1, hT⟩ : ∃ g : Gh, g.2 = (gc gk66 q68 (upd (gk66.2 q68) x74.toNatClampNeg p2)).2 ∧ g.1 = gk66.1 ∧ eqv g gh ∧ TY z (zA z) g H := ⟨_, rfl, rfl, eqv_gc hg1, hT⟩
          refine lv_aload_n hx hb dX7_see_77 rfl (lv_at hl 1 rfl) ?_
          refine gt_Model_st hx hb hts ic_Model hown hK hT g0 (hts _ mw_4_70) dX7_see_78 (fun q78 hq78 => ?_)
          refine lv_iload hx hb dX7_see_81 (lv_at hl 0 rfl) ?_
          refine r_iconst hx hb dX7_see_83 (by decide) (by decide) (fun x83 e83 => ?_)
          refine r_iadd hx hb dX7_see_84 (by omega) (by omega) (fun x84 e84 => ?_)
          refine lv_iload_n hx hb dX7_see_85 rfl (lv_at hl 4 rfl) ?_
          refine as_40 hx hb hK hT hS hq78 (by omega) (by omega) (by have n0 := ix_nat (i := x84) (by omega); exact p40_m (by omega) (b59_m41 (by omega) (by omega))) dX7_see_86 (fun H locs hT hS => ?_)
          obtain ⟨gk86, w86, hq86, hg1, hT⟩ : ∃ g : Gh, g.2 = (gc gk76 q78 (upd (gk76.2 q78) x84.toNatClampNeg p3)).2 ∧ g.1 = gk76.1 ∧ eqv g gh ∧ TY z (zA z) g H := ⟨_, rfl, rfl, eqv_gc hg1, hT⟩
          refine lv_aload_n hx hb dX7_see_87 rfl (lv_at hl 1 rfl) ?_
          refine gt_Model_st hx hb hts ic_Model hown hK hT g0 (hts _ mw_4_70) dX7_see_88 (fun q88 hq88 => ?_)
          refine r_bipush hx hb dX7_see_91 rfl (fun x91 e91 => ?_)
          refine lv_dup2_11 hx hb dX7_see_93 rfl rfl ?_
          refine al_40 hx hb hK hT hq88 (by omega) (by omega) dX7_see_94 (fun x94 i94 e94 => ?_)
          have n94 := ix_nat (i := x91) (by omega)
          have f94 := b59_r40 (p40_e e94 (by omega)) (by omega)
          have e94b : x94.toInt = x54.toInt := by rw [i94, w86, zu_at pr0 rfl hq88 hq78, gc_at, pk_un (by have n9 := ix_nat (i := x84) (by omega); omega), w76, zu_at pr0 rfl hq78 hq68, gc_at, pk_un (by have n9 := ix_nat (i := x74) (by omega); omega), w66, zu_at pr0 rfl hq68 hq60, gc_at, pk_un (by have n9 := ix_nat (i := x56) (by omega); omega), i54, zu_at pr0 rfl hq60 hq49, show x91.toNatClampNeg = x52.toNatClampNeg by omega]
          refine r_iconst hx hb dX7_see_95 (by decide) (by decide) (fun x95 e95 => ?_)
          refine r_iadd hx hb dX7_see_96 (by omega) (by omega) (fun x96 e96 => ?_)
          refine as_40 hx hb hK hT hS hq88 (by omega) (by omega) (by have n0 := ix_nat (i := x91) (by omega); exact p40_m (by omega) (b59_m40 (by omega) ⟨by omega, by omega⟩)) dX7_see_97 (fun H locs hT hS => ?_)
          obtain ⟨gk97, w97, hq97, hg1, hT⟩ : ∃ g : Gh, g.2 = (gc gk86 q88 (upd (gk86.2 q88) x91.toNatClampNeg x96)).2 ∧ g.1 = gk86.1 ∧ eqv g gh ∧ TY z (zA z) g H := ⟨_, rfl, rfl, eqv_gc hg1, hT⟩
          refine lv_aload_n hx hb dX7_see_98 rfl (lv_at hl 1 rfl) ?_
          refine gt_Model_st hx hb hts ic_Model hown hK hT g0 (hts _ mw_4_70) dX7_see_99 (fun q99 hq99 => ?_)
          refine r_bipush hx hb dX7_see_102 rfl (fun x102 e102 => ?_)
          refine al_40 hx hb hK hT hq99 (by omega) (by omega) dX7_see_104 (fun x104 i104 e104 => ?_)
          have n104 := ix_nat (i := x102) (by omega)
          have f104 := b59_r40 (p40_e e104 (by omega)) (by omega)
          exact rt_i hx hb hr hlk hS ⟨_, hg1, hT⟩ dX7_see_105
        · refine r_bipush hx hb dX7_see_42 rfl (fun x42 e42 => ?_)
          exact rt_i hx hb hr hlk hS ⟨_, hg1, hT⟩ dX7_see_44
      · refine r_iconst hx hb dX7_see_28 (by decide) (by decide) (fun x28 e28 => ?_)
        exact rt_i hx hb hr hlk hS ⟨_, hg1, hT⟩ dX7_see_29
theorem k_X7_sheet : cBV yX7_sheet cX7_sheet 5 (some .int) 3 := ⟨mw_5_239, mw_6_0, mw_1_8, mw_6_1, ⟨by decide, by decide, by decide⟩⟩
set_option maxHeartbeats 4000000 in
set_option maxRecDepth 100000 in
theorem c_X7_sheet (l : Launch) (z : Zt) (v : Nat → Nat → Int) (h0 o0 : Nat) (g0 : zG z h0 = (17, o0)) (p1 : Int32) (p2 : Int32) (p3 : Int32) : Met l yX7_sheet (uw yX7_sheet cX7_sheet 5 (some .int)) (rmF 3 110) (PcW z [.ref h0, .int p1, .int p2, .int p3] (fun H => WX z v H)) (QcI z (fun r H => ∃ v2, shr p1.toInt p2.toInt p3.toInt r.toInt ∧ ((r.toInt = 1 ∧ v2 = vMs v h0 p1.toNatClampNeg p2.toInt p3.toInt) ∨ (r.toInt ≠ 1 ∧ v2 = v)) ∧ WX z v2 H)) 0 0 (zA z) := by
  refine Met.ofW (cc := cX7_sheet) (maxL := 5) (ret := (some .int)) (by decide) rfl ?_
  intro p e s m args below meth c s₁ B hml hv
  obtain ⟨rfl, hW, hK, hSK⟩ := hv
  have hx := B.exec
  have hb := B.bytes
  have hr := B.returns
  have hts : ∀ w ∈ lw_ok, w.before ([.ref h0, .int p1, .int p2, .int p3] : List Value).toArray s = true := fun w hw => atoms_spec (ws := uw yX7_sheet cX7_sheet 5 (some .int)) B.pre w (List.mem_cons_of_mem _ hw)
  have hown : s.vm.findClass RX7 = some m.cls := findClass_of_methodNamed B.named
  have hlk := B.notSynchronized
  have hC : CallFix p m c cX7_sheet 5 s ([.ref h0, .int p1, .int p2, .int p3] : List Value).toArray lw_ok RX7 := ⟨hx, hb, hml, hown, hts⟩
  have hS : va_S (zA z) s.heap s.heap [] := va_S.rf
  have hl := lv_entry ([.ref h0, .int p1, .int p2, .int p3]) (n := 5) (Nat.le_of_ble_eq_true rfl)
  rw [lg_entry_eq]
  generalize (lg_sl ([.ref h0, .int p1, .int p2, .int p3]) ++ List.replicate (5 - (lg_sl ([.ref h0, .int p1, .int p2, .int p3])).length) Slot.unset).toArray = ls at hl ⊢
  have hl : lv_has ls 5 [(0, .ref h0), (1, .int p1), (2, .int p2), (3, .int p3)] := hl
  show W p l e (rmF 3 110) s m ([.ref h0, .int p1, .int p2, .int p3] : List Value).toArray below meth c s.heap [] 0 0 (MQ below (QcI z (fun r H => ∃ v2, shr p1.toInt p2.toInt p3.toInt r.toInt ∧ ((r.toInt = 1 ∧ v2 = vMs v h0 p1.toNatClampNeg p2.toInt p3.toInt) ∨ (r.toInt ≠ 1 ∧ v2 = v)) ∧ WX z v2 H)) ([.ref h0, .int p1, .int p2, .int p3] : List Value).toArray s 0 0 (zA z)) (F0 m 0 ls [])
  obtain ⟨gh, hwf, hvis, hT⟩ := hW
  have mx_p1 := i_mx p1
  have mx_p2 := i_mx p2
  have mx_p3 := i_mx p3
  refine lv_iload_n hx hb dX7_sheet_0 rfl (lv_at hl 1 rfl) ?_
  refine lv_iload_n hx hb dX7_sheet_1 rfl (lv_at hl 2 rfl) ?_
  refine cl_Si (rest := []) hC hK hSK (c_X7_isSheet l z gh p1 p2) k_X7_isSheet mw_6_2 ⟨rfl, rfl, Nat.le_of_ble_eq_true rfl, Nat.le_of_ble_eq_true rfl⟩ hT rfl hl.1 rfl (Nat.le_of_ble_eq_true rfl) dX7_sheet_2 ⟨Nat.zero_le _, Nat.zero_le _⟩ hS (fun _ h => h) (fun _ _ h => h) (fun r2 H locs hpo hS => ?_)
  obtain ⟨hT, u2_0, u2_1, u2_2⟩ := hpo
  refine r_if_eq (tgt := 14) hx hb dX7_sheet_5 (by decide) (fun c5 => ?_) (fun c5 => ?_)
  · refine r_iconst hx hb dX7_sheet_14 (by decide) (by decide) (fun x14 e14 => ?_)
    exact rt_i hx hb hr hlk hS ⟨v, by unfold shr; omega, Or.inr ⟨by omega, rfl⟩, _, hwf, hvis, hT⟩ dX7_sheet_15
  · refine lv_iload_n hx hb dX7_sheet_8 rfl (lv_at hl 3 rfl) ?_
    refine r_bipush hx hb dX7_sheet_9 rfl (fun x9 e9 => ?_)
    refine r_icmp_le (tgt := 16) hx hb dX7_sheet_11 (by decide) (fun c11 => ?_) (fun c11 => ?_)
    · refine lv_iload_n hx hb dX7_sheet_16 rfl (lv_at hl 3 rfl) ?_
      refine r_if_ge (tgt := 23) hx hb dX7_sheet_17 (by decide) (fun c17 => ?_) (fun c17 => ?_)
      · refine lv_aload_n hx hb dX7_sheet_23 rfl (lv_at hl 0 rfl) ?_
        refine gt_Model_lanes hx hb hts ic_Model hown hK hT g0 (hts _ mw_4_91) dX7_sheet_24 (fun q24 hq24 => ?_)
        refine lv_iload_n hx hb dX7_sheet_27 rfl (lv_at hl 1 rfl) ?_
        refine lv_iload_n hx hb dX7_sheet_28 rfl (lv_at hl 2 rfl) ?_
        have np1 := ix_nat (i := p1) (by omega)
        refine as_47g (j := 60 + p1.toNatClampNeg) (v := p2.toInt) hx hb hK hT hS hq24 (fun b hb9 => zu_at hwf.2.2 rfl hb9 hq24) (by omega) (by omega) (by omega) (p47_w (by omega) (by omega) rfl) p47_s dX7_sheet_29 (fun H locs hT hS => ?_)
        obtain ⟨gh29, eg29, hT⟩ : ∃ g : Gh, g = gs gh h0 (60 + p1.toNatClampNeg) p2.toInt ∧ TY z (zA z) g H := ⟨_, rfl, hT⟩
        refine lv_aload_n hx hb dX7_sheet_30 rfl (lv_at hl 0 rfl) ?_
        refine gt_Model_sizes hx hb hts ic_Model hown hK hT g0 (hts _ mw_4_92) dX7_sheet_31 (fun q31 hq31 => ?_)
        refine lv_iload_n hx hb dX7_sheet_34 rfl (lv_at hl 1 rfl) ?_
        refine lv_iload_n hx hb dX7_sheet_35 rfl (lv_at hl 3 rfl) ?_
        refine as_48g (j := 64 + p1.toNatClampNeg) (v := p3.toInt) hx hb hK hT hS hq31 (fun b hb9 => zu_at hwf.2.2 rfl hb9 hq31) (by omega) (by omega) (by omega) (p48_w (by omega) (by omega) rfl) p48_s dX7_sheet_36 (fun H locs hT hS => ?_)
        obtain ⟨v2, hv2⟩ : ∃ v2, v2 = vMs v h0 p1.toNatClampNeg p2.toInt p3.toInt := ⟨_, rfl⟩
        obtain ⟨gh36, hwf, hvis, hT⟩ : ∃ g : Gh, wf z g ∧ vis z g v2 ∧ TY z (zA z) g H := ⟨_, (by rw [eg29]; exact wf_ms (by omega) hwf), (by rw [eg29, hv2]; exact vis_ms hvis), hT⟩
        refine r_iconst hx hb dX7_sheet_37 (by decide) (by decide) (fun x37 e37 => ?_)
        refine lv_istore (lv' := [(4, .int x37), (0, .ref h0), (1, .int p1), (2, .int p2), (3, .int p3)]) hx hb dX7_sheet_38 hl (by decide) rfl (fun ls hl => ?_)
        have J40 : ∀ (n40 : Nat) (ls : Array Slot) (H : Heap) (locs : List Loc) (y40_4 : Int32) (gh : Gh), (0 ≤ y40_4.toInt ∧ y40_4.toInt ≤ 40) → (40 - y40_4.toInt) < (n40 : Int) → wf z gh → vis z gh v2 → TY z (zA z) gh H → va_S (zA z) s.heap H locs → lv_has ls 5 [(0, .ref h0), (1, .int p1), (2, .int p2), (3, .int p3), (4, .int y40_4)] → W p l e (rmF 3 110) s m ([.ref h0, .int p1, .int p2, .int p3] : List Value).toArray below meth c H locs 0 0 (MQ below (QcI z (fun r H => ∃ v2, shr p1.toInt p2.toInt p3.toInt r.toInt ∧ ((r.toInt = 1 ∧ v2 = vMs v h0 p1.toNatClampNeg p2.toInt p3.toInt) ∨ (r.toInt ≠ 1 ∧ v2 = v)) ∧ WX z v2 H)) ([.ref h0, .int p1, .int p2, .int p3] : List Value).toArray s 0 0 (zA z)) (F0 m 40 ls []) := by
          intro n40
          induction n40 with
          | zero => intro ls H locs y40_4 gh j40_y40_4 mm40 hwf hvis hT hS hl; exfalso; omega
          | succ n40 ih40 =>
            intro ls H locs y40_4 gh j40_y40_4 mm40 hwf hvis hT hS hl
            refine lv_iload hx hb dX7_sheet_40 (lv_at hl 4 rfl) ?_
            refine r_bipush hx hb dX7_sheet_42 rfl (fun x42 e42 => ?_)
            refine r_icmp_ge (tgt := 66) hx hb dX7_sheet_44 (by decide) (fun c44 => ?_) (fun c44 => ?_)
            · refine r_iconst hx hb dX7_sheet_66 (by decide) (by decide) (fun x66 e66 => ?_)
              exact rt_i hx hb hr hlk hS ⟨v2, by unfold shr; omega, Or.inl ⟨by omega, hv2⟩, _, hwf, hvis, hT⟩ dX7_sheet_67
            · refine lv_aload_n hx hb dX7_sheet_47 rfl (lv_at hl 0 rfl) ?_
              refine gt_Model_cells hx hb hts ic_Model hown hK hT g0 (hts _ mw_4_93) dX7_sheet_48 (fun q48 hq48 => ?_)
              refine r_bipush hx hb dX7_sheet_51 rfl (fun x51 e51 => ?_)
              refine lv_iload_n hx hb dX7_sheet_53 rfl (lv_at hl 1 rfl) ?_
              refine r_imulL (40) (by omega) hx hb dX7_sheet_54 (by omega) (by omega) (fun x54 e54 => ?_)
              refine lv_iload hx hb dX7_sheet_55 (lv_at hl 4 rfl) ?_
              refine r_iadd hx hb dX7_sheet_57 (by omega) (by omega) (fun x57 e57 => ?_)
              refine r_iconst hx hb dX7_sheet_58 (by decide) (by decide) (fun x58 e58 => ?_)
              refine as_49 hx hb hK hT hS hq48 (by omega) (by omega) dX7_sheet_59 (fun H locs hT hS => ?_)
              refine r_iinc (lv' := fun v__ => [(4, .int v__), (0, .ref h0), (1, .int p1), (2, .int p2), (3, .int p3)]) hx hb dX7_sheet_60 hl (k := 4) rfl (by decide) (fun _ => rfl) ⟨by decide, by decide⟩ (by omega) (by omega) (fun x60 ls e60 hl => ?_)
              refine lv_goto (tgt := 40) hx hb dX7_sheet_63 (by decide) ?_
              exact ih40 ls _ _ x60 _ (by omega) (by omega) hwf hvis hT hS (lv_sub hl [1, 2, 3, 4, 0] rfl)
        exact J40 (((40 - x37.toInt)).toNat + 1) ls _ _ x37 _ (by omega) (by omega) hwf hvis hT hS (lv_sub hl [1, 2, 3, 4, 0] rfl)
      · refine r_bipush hx hb dX7_sheet_20 rfl (fun x20 e20 => ?_)
        exact rt_i hx hb hr hlk hS ⟨v, by unfold shr; omega, Or.inr ⟨by omega, rfl⟩, _, hwf, hvis, hT⟩ dX7_sheet_22
    · refine r_iconst hx hb dX7_sheet_14 (by decide) (by decide) (fun x14 e14 => ?_)
      exact rt_i hx hb hr hlk hS ⟨v, by unfold shr; omega, Or.inr ⟨by omega, rfl⟩, _, hwf, hvis, hT⟩ dX7_sheet_15
theorem k_X7_lay : cBV yX7_lay cX7_lay 4 (some .int) 3 := ⟨mw_6_7, mw_6_8, mw_1_8, mw_6_9, ⟨by decide, by decide, by decide⟩⟩
set_option maxHeartbeats 4000000 in
set_option maxRecDepth 100000 in
theorem c_X7_lay (l : Launch) (z : Zt) (gh : Gh) (h0 o0 : Nat) (g0 : zG z h0 = (17, o0)) (p1 : Int32) (p2 : Int32) (p3 : Int32) : Met l yX7_lay (uw yX7_lay cX7_lay 4 (some .int)) (rmF 3 110) (PcW z [.ref h0, .int p1, .int p2, .int p3] (fun H => TY z (zA z) gh H)) (QcI z (fun r H => TY z (zA z) gh H ∧ (lyr4 p1.toInt p2.toInt (gh.1 h0 (60 + p1.toNatClampNeg)) (gh.1 h0 (64 + p1.toNatClampNeg)) r.toInt))) 0 0 (zA z) := by
  refine Met.ofW (cc := cX7_lay) (maxL := 4) (ret := (some .int)) (by decide) rfl ?_
  intro p e s m args below meth c s₁ B hml hv
  obtain ⟨rfl, hW, hK, hSK⟩ := hv
  have hx := B.exec
  have hb := B.bytes
  have hr := B.returns
  have hts : ∀ w ∈ lw_ok, w.before ([.ref h0, .int p1, .int p2, .int p3] : List Value).toArray s = true := fun w hw => atoms_spec (ws := uw yX7_lay cX7_lay 4 (some .int)) B.pre w (List.mem_cons_of_mem _ hw)
  have hown : s.vm.findClass RX7 = some m.cls := findClass_of_methodNamed B.named
  have hlk := B.notSynchronized
  have hC : CallFix p m c cX7_lay 4 s ([.ref h0, .int p1, .int p2, .int p3] : List Value).toArray lw_ok RX7 := ⟨hx, hb, hml, hown, hts⟩
  have hS : va_S (zA z) s.heap s.heap [] := va_S.rf
  have hl := lv_entry ([.ref h0, .int p1, .int p2, .int p3]) (n := 4) (Nat.le_of_ble_eq_true rfl)
  rw [lg_entry_eq]
  generalize (lg_sl ([.ref h0, .int p1, .int p2, .int p3]) ++ List.replicate (4 - (lg_sl ([.ref h0, .int p1, .int p2, .int p3])).length) Slot.unset).toArray = ls at hl ⊢
  have hl : lv_has ls 4 [(0, .ref h0), (1, .int p1), (2, .int p2), (3, .int p3)] := hl
  show W p l e (rmF 3 110) s m ([.ref h0, .int p1, .int p2, .int p3] : List Value).toArray below meth c s.heap [] 0 0 (MQ below (QcI z (fun r H => TY z (zA z) gh H ∧ (lyr4 p1.toInt p2.toInt (gh.1 h0 (60 + p1.toNatClampNeg)) (gh.1 h0 (64 + p1.toNatClampNeg)) r.toInt))) ([.ref h0, .int p1, .int p2, .int p3] : List Value).toArray s 0 0 (zA z)) (F0 m 0 ls [])
  have hT : TY z (zA z) gh s.heap := hW
  have mx_p1 := i_mx p1
  have mx_p2 := i_mx p2
  have mx_p3 := i_mx p3
  refine lv_iload_n hx hb dX7_lay_0 rfl (lv_at hl 1 rfl) ?_
  refine r_iconst hx hb dX7_lay_1 (by decide) (by decide) (fun x1 e1 => ?_)
  refine cl_Si (rest := []) hC hK hSK (c_X7_isSheet l z gh p1 x1) k_X7_isSheet mw_6_2 ⟨rfl, rfl, Nat.le_of_ble_eq_true rfl, Nat.le_of_ble_eq_true rfl⟩ hT rfl hl.1 rfl (Nat.le_of_ble_eq_true rfl) dX7_lay_2 ⟨Nat.zero_le _, Nat.zero_le _⟩ hS (fun _ h => h) (fun _ _ h => h) (fun r2 H locs hpo hS => ?_)
  obtain ⟨hT, u2_0, u2_1, u2_2⟩ := hpo
  refine r_if_ne (tgt := 10) hx hb dX7_lay_5 (by decide) (fun c5 => ?_) (fun c5 => ?_)
  · refine lv_aload_n hx hb dX7_lay_10 rfl (lv_at hl 0 rfl) ?_
    refine gt_Model_lanes hx hb hts ic_Model hown hK hT g0 (hts _ mw_4_91) dX7_lay_11 (fun q11 hq11 => ?_)
    refine lv_iload_n hx hb dX7_lay_14 rfl (lv_at hl 1 rfl) ?_
    refine al_47 hx hb hK hT hq11 (by omega) (by omega) dX7_lay_15 (fun x15 e15 => ?_)
    have n15 := ix_nat (i := p1) (by omega)
    unfold p47 at e15
    refine r_bipush hx hb dX7_lay_16 rfl (fun x16 e16 => ?_)
    refine r_icmp_ne (tgt := 24) hx hb dX7_lay_18 (by decide) (fun c18 => ?_) (fun c18 => ?_)
    · refine lv_iload_n hx hb dX7_lay_24 rfl (lv_at hl 2 rfl) ?_
      refine r_i2l hx hb dX7_lay_25 (fun x25 e25 => ?_)
      refine r_lconst0 hx hb dX7_lay_26 (fun x26 e26 => ?_)
      refine lv_aload_n hx hb dX7_lay_27 rfl (lv_at hl 0 rfl) ?_
      refine gt_Model_sizes hx hb hts ic_Model hown hK hT g0 (hts _ mw_4_92) dX7_lay_28 (fun q28 hq28 => ?_)
      refine lv_iload_n hx hb dX7_lay_31 rfl (lv_at hl 1 rfl) ?_
      refine al_48 hx hb hK hT hq28 (by omega) (by omega) dX7_lay_32 (fun x32 e32 => ?_)
      have n32 := ix_nat (i := p1) (by omega)
      unfold p48 at e32
      refine r_iconst hx hb dX7_lay_33 (by decide) (by decide) (fun x33 e33 => ?_)
      refine r_isub hx hb dX7_lay_34 (by omega) (by omega) (fun x34 e34 => ?_)
      refine r_i2l hx hb dX7_lay_35 (fun x35 e35 => ?_)
      refine cl_Si (rest := []) hC hK hSK (c_X7_in l z gh x25 x26 x35) k_X7_in mw_4_154 ⟨rfl, rfl, Nat.le_of_ble_eq_true rfl, Nat.le_of_ble_eq_true rfl⟩ hT rfl hl.1 rfl (Nat.le_of_ble_eq_true rfl) dX7_lay_36 ⟨Nat.zero_le _, Nat.zero_le _⟩ hS (fun _ h => h) (fun _ _ h => h) (fun r36 H locs hpo hS => ?_)
      obtain ⟨hT, u36_0, u36_1⟩ := hpo
      refine r_if_ne (tgt := 45) hx hb dX7_lay_39 (by decide) (fun c39 => ?_) (fun c39 => ?_)
      · refine lv_aload_n hx hb dX7_lay_45 rfl (lv_at hl 0 rfl) ?_
        refine gt_Model_cells hx hb hts ic_Model hown hK hT g0 (hts _ mw_4_93) dX7_lay_46 (fun q46 hq46 => ?_)
        refine r_bipush hx hb dX7_lay_49 rfl (fun x49 e49 => ?_)
        refine lv_iload_n hx hb dX7_lay_51 rfl (lv_at hl 1 rfl) ?_
        refine r_imulL (40) (by omega) hx hb dX7_lay_52 (by omega) (by omega) (fun x52 e52 => ?_)
        refine lv_iload_n hx hb dX7_lay_53 rfl (lv_at hl 2 rfl) ?_
        refine r_iadd hx hb dX7_lay_54 (by omega) (by omega) (fun x54 e54 => ?_)
        refine lv_aload_n hx hb dX7_lay_55 rfl (lv_at hl 0 rfl) ?_
        refine gt_Model_lanes hx hb hts ic_Model hown hK hT g0 (hts _ mw_4_91) dX7_lay_56 (fun q56 hq56 => ?_)
        refine lv_iload_n hx hb dX7_lay_59 rfl (lv_at hl 1 rfl) ?_
        refine al_47 hx hb hK hT hq56 (by omega) (by omega) dX7_lay_60 (fun x60 e60 => ?_)
        have n60 := ix_nat (i := p1) (by omega)
        unfold p47 at e60
        refine r_if_ne (tgt := 69) hx hb dX7_lay_61 (by decide) (fun c61 => ?_) (fun c61 => ?_)
        · refine lv_aload_n hx hb dX7_lay_69 rfl (lv_at hl 0 rfl) ?_
          refine gt_Model_lanes hx hb hts ic_Model hown hK hT g0 (hts _ mw_4_91) dX7_lay_70 (fun q70 hq70 => ?_)
          refine lv_iload_n hx hb dX7_lay_73 rfl (lv_at hl 1 rfl) ?_
          refine al_47 hx hb hK hT hq70 (by omega) (by omega) dX7_lay_74 (fun x74 e74 => ?_)
          have n74 := ix_nat (i := p1) (by omega)
          unfold p47 at e74
          refine r_iconst hx hb dX7_lay_75 (by decide) (by decide) (fun x75 e75 => ?_)
          refine r_icmp_ne (tgt := 84) hx hb dX7_lay_76 (by decide) (fun c76 => ?_) (fun c76 => ?_)
          · refine lv_iload_n hx hb dX7_lay_84 rfl (lv_at hl 3 rfl) ?_
            refine as_49 hx hb hK hT hS hq46 (by omega) (by omega) dX7_lay_85 (fun H locs hT hS => ?_)
            refine r_iconst hx hb dX7_lay_86 (by decide) (by decide) (fun x86 e86 => ?_)
            exact rt_i hx hb hr hlk hS ⟨hT, by unfold lyr4; omega⟩ dX7_lay_87
          · refine lv_iload_n hx hb dX7_lay_79 rfl (lv_at hl 3 rfl) ?_
            refine w_i2s hx hb dX7_lay_80 (fun x80 => ?_)
            refine lv_goto (tgt := 85) hx hb dX7_lay_81 (by decide) ?_
            refine as_49 hx hb hK hT hS hq46 (by omega) (by omega) dX7_lay_85 (fun H locs hT hS => ?_)
            refine r_iconst hx hb dX7_lay_86 (by decide) (by decide) (fun x86 e86 => ?_)
            exact rt_i hx hb hr hlk hS ⟨hT, by unfold lyr4; omega⟩ dX7_lay_87
        · refine lv_iload_n hx hb dX7_lay_64 rfl (lv_at hl 3 rfl) ?_
          refine w_i2b hx hb dX7_lay_65 (fun x65 => ?_)
          refine lv_goto (tgt := 85) hx hb dX7_lay_66 (by decide) ?_
          refine as_49 hx hb hK hT hS hq46 (by omega) (by omega) dX7_lay_85 (fun H locs hT hS => ?_)
          refine r_iconst hx hb dX7_lay_86 (by decide) (by decide) (fun x86 e86 => ?_)
          exact rt_i hx hb hr hlk hS ⟨hT, by unfold lyr4; omega⟩ dX7_lay_87
      · refine r_bipush hx hb dX7_lay_42 rfl (fun x42 e42 => ?_)
        exact rt_i hx hb hr hlk hS ⟨hT, by unfold lyr4; omega⟩ dX7_lay_44
    · refine r_bipush hx hb dX7_lay_21 rfl (fun x21 e21 => ?_)
      exact rt_i hx hb hr hlk hS ⟨hT, by unfold lyr4; omega⟩ dX7_lay_23
  · refine r_iconst hx hb dX7_lay_8 (by decide) (by decide) (fun x8 e8 => ?_)
    exact rt_i hx hb hr hlk hS ⟨hT, by unfold lyr4; omega⟩ dX7_lay_9
theorem k_X7_read : cBV yX7_read cX7_read 11 (some .int) 4 := ⟨mw_6_11, mw_6_12, mw_1_8, mw_6_13, ⟨by decide, by decide, by decide⟩⟩
set_option maxHeartbeats 4000000 in
set_option maxRecDepth 100000 in
theorem c_X7_read (l : Launch) (z : Zt) (v : Nat → Nat → Int) (h0 o0 : Nat) (g0 : zG z h0 = (17, o0)) (p1 : Int32) (p2 : Int32) (p3 : Int32) (p4 : Int32) : Met l yX7_read (uw yX7_read cX7_read 11 (some .int)) (rmF 9 243) (PcW z [.ref h0, .int p1, .int p2, .int p3, .int p4] (fun H => WX z v H)) (QcI z (fun r H => WX z v H)) 0 0 (zA z) := by
  refine Met.ofW (cc := cX7_read) (maxL := 11) (ret := (some .int)) (by decide) rfl ?_
  intro p e s m args below meth c s₁ B hml hv
  obtain ⟨rfl, hW, hK, hSK⟩ := hv
  have hx := B.exec
  have hb := B.bytes
  have hr := B.returns
  have hts : ∀ w ∈ lw_ok, w.before ([.ref h0, .int p1, .int p2, .int p3, .int p4] : List Value).toArray s = true := fun w hw => atoms_spec (ws := uw yX7_read cX7_read 11 (some .int)) B.pre w (List.mem_cons_of_mem _ hw)
  have hown : s.vm.findClass RX7 = some m.cls := findClass_of_methodNamed B.named
  have hlk := B.notSynchronized
  have hC : CallFix p m c cX7_read 11 s ([.ref h0, .int p1, .int p2, .int p3, .int p4] : List Value).toArray lw_ok RX7 := ⟨hx, hb, hml, hown, hts⟩
  have hS : va_S (zA z) s.heap s.heap [] := va_S.rf
  have hl := lv_entry ([.ref h0, .int p1, .int p2, .int p3, .int p4]) (n := 11) (Nat.le_of_ble_eq_true rfl)
  rw [lg_entry_eq]
  generalize (lg_sl ([.ref h0, .int p1, .int p2, .int p3, .int p4]) ++ List.replicate (11 - (lg_sl ([.ref h0, .int p1, .int p2, .int p3, .int p4])).length) Slot.unset).toArray = ls at hl ⊢
  have hl : lv_has ls 11 [(0, .ref h0), (1, .int p1), (2, .int p2), (3, .int p3), (4, .int p4)] := hl
  show W p l e (rmF 9 243) s m ([.ref h0, .int p1, .int p2, .int p3, .int p4] : List Value).toArray below meth c s.heap [] 0 0 (MQ below (QcI z (fun r H => WX z v H)) ([.ref h0, .int p1, .int p2, .int p3, .int p4] : List Value).toArray s 0 0 (zA z)) (F0 m 0 ls [])
  obtain ⟨gh, hwf, hvis, hT⟩ := hW
  have mx_p1 := i_mx p1
  have mx_p2 := i_mx p2
  have mx_p3 := i_mx p3
  have mx_p4 := i_mx p4
  refine lv_iload_n hx hb dX7_read_0 rfl (lv_at hl 1 rfl) ?_
  refine lv_iload_n hx hb dX7_read_1 rfl (lv_at hl 2 rfl) ?_
  refine cl_Si (rest := []) hC hK hSK (c_X7_isSheet l z gh p1 p2) k_X7_isSheet mw_6_2 ⟨rfl, rfl, Nat.le_of_ble_eq_true rfl, Nat.le_of_ble_eq_true rfl⟩ hT rfl hl.1 rfl (Nat.le_of_ble_eq_true rfl) dX7_read_2 ⟨Nat.zero_le _, Nat.zero_le _⟩ hS (fun _ h => h) (fun _ _ h => h) (fun r2 H locs hpo hS => ?_)
  obtain ⟨hT, u2_0, u2_1, u2_2⟩ := hpo
  refine r_if_eq (tgt := 21) hx hb dX7_read_5 (by decide) (fun c5 => ?_) (fun c5 => ?_)
  · refine r_iconst hx hb dX7_read_21 (by decide) (by decide) (fun x21 e21 => ?_)
    exact rt_i hx hb hr hlk hS ⟨_, hwf, hvis, hT⟩ dX7_read_22
  · refine lv_iload hx hb dX7_read_8 (lv_at hl 4 rfl) ?_
    refine r_i2l hx hb dX7_read_10 (fun x10 e10 => ?_)
    refine r_lconst0 hx hb dX7_read_11 (fun x11 e11 => ?_)
    refine r_ldc2 (20) rfl hx hb hts hown mw_6_14 dX7_read_12 (fun x12 e12 => ?_)
    refine cl_Si (rest := []) hC hK hSK (c_X7_in l z gh x10 x11 x12) k_X7_in mw_4_154 ⟨rfl, rfl, Nat.le_of_ble_eq_true rfl, Nat.le_of_ble_eq_true rfl⟩ hT rfl hl.1 rfl (Nat.le_of_ble_eq_true rfl) dX7_read_15 ⟨Nat.zero_le _, Nat.zero_le _⟩ hS (fun _ h => h) (fun _ _ h => h) (fun r15 H locs hpo hS => ?_)
    obtain ⟨hT, u15_0, u15_1⟩ := hpo
    refine r_if_ne (tgt := 23) hx hb dX7_read_18 (by decide) (fun c18 => ?_) (fun c18 => ?_)
    · refine r_iconst hx hb dX7_read_23 (by decide) (by decide) (fun x23 e23 => ?_)
      obtain ⟨gh24, hwf, hvis, a50, a51, hT⟩ := hd_0 (o := h0) hwf hvis hT
      refine lv_istore (lv' := [(5, .int x23), (0, .ref h0), (1, .int p1), (2, .int p2), (3, .int p3), (4, .int p4)]) hx hb dX7_read_24 hl (by decide) rfl (fun ls hl => ?_)
      have J26 : ∀ (n26 : Nat) (ls : Array Slot) (H : Heap) (locs : List Loc) (y26_5 : Int32) (gh : Gh), (0 ≤ y26_5.toInt ∧ y26_5.toInt ≤ 59) → (gh.1 h0 50 = gh.1 h0 42) → (gh.1 h0 51 = y26_5.toInt) → (59 - y26_5.toInt) < (n26 : Int) → wf z gh → vis z gh v → TY z (zA z) gh H → va_S (zA z) s.heap H locs → lv_has ls 11 [(0, .ref h0), (1, .int p1), (2, .int p2), (3, .int p3), (4, .int p4), (5, .int y26_5)] → W p l e (rmF 9 243) s m ([.ref h0, .int p1, .int p2, .int p3, .int p4] : List Value).toArray below meth c H locs 0 0 (MQ below (QcI z (fun r H => WX z v H)) ([.ref h0, .int p1, .int p2, .int p3, .int p4] : List Value).toArray s 0 0 (zA z)) (F0 m 26 ls []) := by
        intro n26
        induction n26 with
        | zero => intro ls H locs y26_5 gh j26_y26_5 ex26_0 ex26_1 mm26 hwf hvis hT hS hl; exfalso; omega
        | succ n26 ih26 =>
          intro ls H locs y26_5 gh j26_y26_5 ex26_0 ex26_1 mm26 hwf hvis hT hS hl
          obtain ⟨wa, wb, wc, wd, we, wg⟩ := hwf.2.1 h0 _ g0
          refine lv_iload hx hb dX7_read_26 (lv_at hl 5 rfl) ?_
          refine r_bipush hx hb dX7_read_28 rfl (fun x28 e28 => ?_)
          refine r_icmp_ge (tgt := 53) hx hb dX7_read_30 (by decide) (fun c30 => ?_) (fun c30 => ?_)
          · refine r_iconst hx hb dX7_read_53 (by decide) (by decide) (fun x53 e53 => ?_)
            refine lv_istore (lv' := [(5, .int x53), (0, .ref h0), (1, .int p1), (2, .int p2), (3, .int p3), (4, .int p4)]) hx hb dX7_read_54 hl (by decide) rfl (fun ls hl => ?_)
            have h50 := ex26_0
            have h51 : 59 ≤ gh.1 h0 51 := by omega
            refine r_iconst hx hb dX7_read_56 (by decide) (by decide) (fun x56 e56 => ?_)
            refine lv_istore (lv' := [(6, .int x56), (5, .int x53), (0, .ref h0), (1, .int p1), (2, .int p2), (3, .int p3), (4, .int p4)]) hx hb dX7_read_57 hl (by decide) rfl (fun ls hl => ?_)
            refine r_iconst hx hb dX7_read_59 (by decide) (by decide) (fun x59 e59 => ?_)
            refine lv_istore (lv' := [(7, .int x59), (6, .int x56), (5, .int x53), (0, .ref h0), (1, .int p1), (2, .int p2), (3, .int p3), (4, .int p4)]) hx hb dX7_read_60 hl (by decide) rfl (fun ls hl => ?_)
            have J62 : ∀ (n62 : Nat) (ls : Array Slot) (H : Heap) (locs : List Loc) (y62_5 : Int32) (y62_6 : Int32) (y62_7 : Int32) (gh : Gh), (0 ≤ y62_5.toInt ∧ y62_5.toInt ≤ 3) → (0 ≤ y62_7.toInt ∧ y62_7.toInt ≤ 20) → (20 - y62_7.toInt) < (n62 : Int) → wf z gh → vis z gh v → (gh.1 h0 50 = gh.1 h0 42) → (59 ≤ gh.1 h0 51) → TY z (zA z) gh H → va_S (zA z) s.heap H locs → lv_has ls 11 [(0, .ref h0), (1, .int p1), (2, .int p2), (3, .int p3), (4, .int p4), (5, .int y62_5), (6, .int y62_6), (7, .int y62_7)] → W p l e (rmF 9 243) s m ([.ref h0, .int p1, .int p2, .int p3, .int p4] : List Value).toArray below meth c H locs 0 0 (MQ below (QcI z (fun r H => WX z v H)) ([.ref h0, .int p1, .int p2, .int p3, .int p4] : List Value).toArray s 0 0 (zA z)) (F0 m 62 ls []) := by
              intro n62
              induction n62 with
              | zero => intro ls H locs y62_5 y62_6 y62_7 gh j62_y62_5 j62_y62_7 mm62 hwf hvis h50 h51 hT hS hl; exfalso; omega
              | succ n62 ih62 =>
                intro ls H locs y62_5 y62_6 y62_7 gh j62_y62_5 j62_y62_7 mm62 hwf hvis h50 h51 hT hS hl
                refine lv_iload hx hb dX7_read_62 (lv_at hl 7 rfl) ?_
                refine lv_iload hx hb dX7_read_64 (lv_at hl 4 rfl) ?_
                have J209 : ∀ (ls : Array Slot) (H : Heap) (locs : List Loc) (gh : Gh), wf z gh → vis z gh v → (gh.1 h0 50 = gh.1 h0 42) → (59 ≤ gh.1 h0 51) → TY z (zA z) gh H → va_S (zA z) s.heap H locs → lv_has ls 11 [(0, .ref h0), (1, .int p1), (2, .int p2), (3, .int p3), (4, .int p4), (5, .int y62_5), (6, .int y62_6), (7, .int y62_7)] → W p l e (rmF 9 243) s m ([.ref h0, .int p1, .int p2, .int p3, .int p4] : List Value).toArray below meth c H locs 0 0 (MQ below (QcI z (fun r H => WX z v H)) ([.ref h0, .int p1, .int p2, .int p3, .int p4] : List Value).toArray s 0 0 (zA z)) (F0 m 209 ls []) := by
                  intro ls H locs gh hwf hvis h50 h51 hT hS hl
                  refine lv_aload_n hx hb dX7_read_209 rfl (lv_at hl 0 rfl) ?_
                  refine lv_iload hx hb dX7_read_210 (lv_at hl 5 rfl) ?_
                  refine pt_Model_torn hx hb hts ic_Model hown hK hT hS g0 (hts _ mw_4_94) dX7_read_212 (fun H locs hT hS => ?_)
                  refine lv_iload hx hb dX7_read_215 (lv_at hl 6 rfl) ?_
                  exact rt_i hx hb hr hlk hS ⟨_, hwf, hvis, hT⟩ dX7_read_217
                refine r_icmp_ge (tgt := 209) hx hb dX7_read_66 (by decide) (fun c66 => ?_) (fun c66 => ?_)
                · exact J209 ls _ _ _ hwf hvis h50 h51 hT hS (lv_sub hl [0, 1, 2, 3, 4, 5, 6, 7] rfl)
                · refine lv_iload hx hb dX7_read_69 (lv_at hl 5 rfl) ?_
                  refine r_if_ne (tgt := 209) hx hb dX7_read_71 (by decide) (fun c71 => ?_) (fun c71 => ?_)
                  · exact J209 ls _ _ _ hwf hvis h50 h51 hT hS (lv_sub hl [0, 1, 2, 3, 4, 5, 6, 7] rfl)
                  · refine lv_iload_n hx hb dX7_read_74 rfl (lv_at hl 3 rfl) ?_
                    refine r_i2l hx hb dX7_read_75 (fun x75 e75 => ?_)
                    refine lv_iload hx hb dX7_read_76 (lv_at hl 7 rfl) ?_
                    refine r_i2l hx hb dX7_read_78 (fun x78 e78 => ?_)
                    refine r_ladd hx hb dX7_read_79 (by omega) (by omega) (fun x79 e79 => ?_)
                    refine lv_lstore (lv' := [(8, .long x79), (0, .ref h0), (1, .int p1), (2, .int p2), (3, .int p3), (4, .int p4), (5, .int y62_5), (6, .int y62_6), (7, .int y62_7)]) hx hb dX7_read_80 hl (by decide) rfl (fun ls hl => ?_)
                    refine lv_aload_n hx hb dX7_read_82 rfl (lv_at hl 1 rfl) ?_
                    refine gt_Model_lanes hx hb hts ic_Model hown hK hT g0 (hts _ mw_4_91) dX7_read_83 (fun q83 hq83 => ?_)
                    refine lv_iload_n hx hb dX7_read_86 rfl (lv_at hl 2 rfl) ?_
                    refine al_47 hx hb hK hT hq83 (by omega) (by omega) dX7_read_87 (fun x87 e87 => ?_)
                    have n87 := ix_nat (i := p1) (by omega)
                    unfold p47 at e87
                    refine r_bipush hx hb dX7_read_88 rfl (fun x88 e88 => ?_)
                    have J136 : ∀ (ls : Array Slot) (H : Heap) (locs : List Loc) (t136_0 : Int32) (gh : Gh), (0 ≤ t136_0.toInt ∧ t136_0.toInt ≤ 3) → (t136_0.toInt = 0 → 0 ≤ x79.toInt ∧ x79.toInt ≤ 39) → (20 - y62_7.toInt) < ((n62 + 1 : Nat) : Int) → wf z gh → vis z gh v → (gh.1 h0 50 = gh.1 h0 42) → (59 ≤ gh.1 h0 51) → TY z (zA z) gh H → va_S (zA z) s.heap H locs → lv_has ls 11 [(0, .ref h0), (1, .int p1), (2, .int p2), (3, .int p3), (4, .int p4), (5, .int y62_5), (6, .int y62_6), (7, .int y62_7), (8, .long x79)] → W p l e (rmF 9 243) s m ([.ref h0, .int p1, .int p2, .int p3, .int p4] : List Value).toArray below meth c H locs 0 0 (MQ below (QcI z (fun r H => WX z v H)) ([.ref h0, .int p1, .int p2, .int p3, .int p4] : List Value).toArray s 0 0 (zA z)) (F0 m 136 ls [.int t136_0]) := by
                      intro ls H locs t136_0 gh j136_t136_0 ex136_0 mf136_62 hwf hvis h50 h51 hT hS hl
                      refine lv_istore (lv' := [(5, .int t136_0), (0, .ref h0), (1, .int p1), (2, .int p2), (3, .int p3), (4, .int p4), (6, .int y62_6), (7, .int y62_7), (8, .long x79)]) hx hb dX7_read_136 hl (by decide) rfl (fun ls hl => ?_)
                      refine lv_iload hx hb dX7_read_138 (lv_at hl 0 rfl) ?_
                      have J203 : ∀ (ls : Array Slot) (H : Heap) (locs : List Loc) (y203_6 : Int32) (gh : Gh), (20 - y62_7.toInt) < ((n62 + 1 : Nat) : Int) → wf z gh → vis z gh v → (gh.1 h0 50 = gh.1 h0 42) → (59 ≤ gh.1 h0 51) → TY z (zA z) gh H → va_S (zA z) s.heap H locs → lv_has ls 11 [(0, .ref h0), (1, .int p1), (2, .int p2), (3, .int p3), (4, .int p4), (5, .int t136_0), (6, .int y203_6), (7, .int y62_7), (8, .long x79)] → W p l e (rmF 9 243) s m ([.ref h0, .int p1, .int p2, .int p3, .int p4] : List Value).toArray below meth c H locs 0 0 (MQ below (QcI z (fun r H => WX z v H)) ([.ref h0, .int p1, .int p2, .int p3, .int p4] : List Value).toArray s 0 0 (zA z)) (F0 m 203 ls []) := by
                        intro ls H locs y203_6 gh mf203_62 hwf hvis h50 h51 hT hS hl
                        refine r_iinc (lv' := fun v__ => [(7, .int v__), (0, .ref h0), (1, .int p1), (2, .int p2), (3, .int p3), (4, .int p4), (5, .int t136_0), (6, .int y203_6), (8, .long x79)]) hx hb dX7_read_203 hl (k := 7) rfl (by decide) (fun _ => rfl) ⟨by decide, by decide⟩ (by omega) (by omega) (fun x203 ls e203 hl => ?_)
                        refine lv_goto (tgt := 62) hx hb dX7_read_206 (by decide) ?_
                        exact ih62 ls _ _ t136_0 y203_6 x203 _ (by omega) (by omega) (by omega) hwf hvis h50 h51 hT hS (lv_sub hl [1, 2, 3, 4, 5, 6, 7, 0] rfl)
                      refine r_if_ne (tgt := 203) hx hb dX7_read_140 (by decide) (fun c140 => ?_) (fun c140 => ?_)
                      · exact J203 ls _ _ y62_6 _ (by omega) hwf hvis h50 h51 hT hS (lv_sub hl [1, 2, 3, 4, 5, 0, 6, 7, 8] rfl)
                      · refine lv_aload_n hx hb dX7_read_143 rfl (lv_at hl 1 rfl) ?_
                        refine lv_aload_n hx hb dX7_read_144 rfl (lv_at hl 1 rfl) ?_
                        refine gt_Model_cells hx hb hts ic_Model hown hK hT g0 (hts _ mw_4_93) dX7_read_145 (fun q145 hq145 => ?_)
                        refine r_bipush hx hb dX7_read_148 rfl (fun x148 e148 => ?_)
                        refine lv_iload_n hx hb dX7_read_150 rfl (lv_at hl 2 rfl) ?_
                        refine r_imulL (40) (by omega) hx hb dX7_read_151 (by omega) (by omega) (fun x151 e151 => ?_)
                        refine lv_iload_n hx hb dX7_read_152 rfl (lv_at hl 4 rfl) ?_
                        refine r_iadd hx hb dX7_read_153 (by omega) (by omega) (fun x153 e153 => ?_)
                        refine lv_iload hx hb dX7_read_154 (lv_at hl 7 rfl) ?_
                        refine r_iadd hx hb dX7_read_156 (by omega) (by omega) (fun x156 e156 => ?_)
                        refine al_49 hx hb hK hT hq145 (by omega) (by omega) dX7_read_157 (fun x157 => ?_)
                        refine cl_Vi (rest := []) hC hK hSK (c_dance2 l z gh h0 (o0) g0 x157 hwf) k_X7_dance mw_6_15 ⟨rfl, rfl, Nat.le_of_ble_eq_true rfl, Nat.le_of_ble_eq_true rfl⟩ (rv_Model hK hT g0) hT rfl hl.1 rfl (Nat.le_of_ble_eq_true rfl) dX7_read_158 ⟨Nat.zero_le _, Nat.zero_le _⟩ hS (fun _ h => h) (fun _ _ h => h) (fun r158 H locs hpo hS => ?_)
                        obtain ⟨gh158, hwf, hz158, hT⟩ := hpo
                        have hvis := vis_e hz158 hvis
                        have h50 : gh158.1 h0 50 = gh158.1 h0 42 := by rw [hz158 h0 50 (by decide) (by decide) rfl, hz158 h0 42 (by decide) (by decide) rfl]; exact h50
                        have h51 : 59 ≤ gh158.1 h0 51 := by rw [hz158 h0 51 (by decide) (by decide) rfl]; exact h51
                        refine r_if_ge (tgt := 200) hx hb dX7_read_161 (by decide) (fun c161 => ?_) (fun c161 => ?_)
                        · refine w_iinc (lv' := fun v__ => [(6, .int v__), (5, .int t136_0), (0, .ref h0), (1, .int p1), (2, .int p2), (3, .int p3), (4, .int p4), (7, .int y62_7), (8, .long x79)]) hx hb dX7_read_200 hl (k := 6) rfl (by decide) (fun _ => rfl) (fun x200 ls hl => ?_)
                          exact J203 ls _ _ x200 _ (by omega) hwf hvis h50 h51 hT hS (lv_sub hl [2, 3, 4, 5, 6, 1, 0, 7, 8] rfl)
                        · refine r_iconst hx hb dX7_read_164 (by decide) (by decide) (fun x164 e164 => ?_)
                          refine lv_istore (lv' := [(10, .int x164), (5, .int t136_0), (0, .ref h0), (1, .int p1), (2, .int p2), (3, .int p3), (4, .int p4), (6, .int y62_6), (7, .int y62_7), (8, .long x79)]) hx hb dX7_read_165 hl (by decide) rfl (fun ls hl => ?_)
                          have J167 : ∀ (n167 : Nat) (ls : Array Slot) (H : Heap) (locs : List Loc) (y167_10 : Int32) (gh : Gh), (0 ≤ y167_10.toInt ∧ y167_10.toInt ≤ 59) → (59 - y167_10.toInt) < (n167 : Int) → wf z gh → vis z gh v → (gh.1 h0 50 = gh.1 h0 42) → (59 ≤ gh.1 h0 51) → TY z (zA z) gh H → va_S (zA z) s.heap H locs → lv_has ls 11 [(0, .ref h0), (1, .int p1), (2, .int p2), (3, .int p3), (4, .int p4), (5, .int t136_0), (6, .int y62_6), (7, .int y62_7), (8, .long x79), (10, .int y167_10)] → W p l e (rmF 9 243) s m ([.ref h0, .int p1, .int p2, .int p3, .int p4] : List Value).toArray below meth c H locs 0 0 (MQ below (QcI z (fun r H => WX z v H)) ([.ref h0, .int p1, .int p2, .int p3, .int p4] : List Value).toArray s 0 0 (zA z)) (F0 m 167 ls []) := by
                            intro n167
                            induction n167 with
                            | zero => intro ls H locs y167_10 gh j167_y167_10 mm167 hwf hvis h50 h51 hT hS hl; exfalso; omega
                            | succ n167 ih167 =>
                              intro ls H locs y167_10 gh j167_y167_10 mm167 hwf hvis h50 h51 hT hS hl
                              obtain ⟨wa, wb, wc, wd, we, wg⟩ := hwf.2.1 h0 _ g0
                              refine lv_iload hx hb dX7_read_167 (lv_at hl 9 rfl) ?_
                              refine r_bipush hx hb dX7_read_169 rfl (fun x169 e169 => ?_)
                              refine r_icmp_ge (tgt := 194) hx hb dX7_read_171 (by decide) (fun c171 => ?_) (fun c171 => ?_)
                              · refine r_bipush hx hb dX7_read_194 rfl (fun x194 e194 => ?_)
                                refine lv_iload hx hb dX7_read_196 (lv_at hl 7 rfl) ?_
                                refine r_isub hx hb dX7_read_198 (by omega) (by omega) (fun x198 e198 => ?_)
                                exact rt_i hx hb hr hlk hS ⟨_, hwf, hvis, hT⟩ dX7_read_199
                              · refine lv_aload_n hx hb dX7_read_174 rfl (lv_at hl 0 rfl) ?_
                                refine gt_Model_st hx hb hts ic_Model hown hK hT g0 (hts _ mw_4_70) dX7_read_175 (fun q175 hq175 => ?_)
                                refine lv_iload hx hb dX7_read_178 (lv_at hl 9 rfl) ?_
                                refine lv_aload_n hx hb dX7_read_180 rfl (lv_at hl 0 rfl) ?_
                                refine gt_Model_had hx hb hts ic_Model hown hK hT g0 (hts _ mw_4_95) dX7_read_181 (fun q181 hq181 => ?_)
                                refine lv_iload hx hb dX7_read_184 (lv_at hl 9 rfl) ?_
                                refine al_50 hx hb hK hT hq181 (by omega) (by omega) dX7_read_186 (fun x186 e186 => ?_)
                                have n186 := ix_nat (i := y167_10) (by omega)
                                have ny := ix_nat (i := y167_10) (by omega)
                                refine as_40 hx hb hK hT hS hq175 (by omega) (by omega) (p40_m (by omega) (b59_tr (show b59 _ _ _ _ from e186) h50 (fun _ => by omega))) dX7_read_187 (fun H locs hT hS => ?_)
                                obtain ⟨gh187, w187, hq187, hwf, hvis, hT⟩ : ∃ g : Gh, g.2 = (gc gh q175 (upd (gh.2 q175) y167_10.toNatClampNeg x186)).2 ∧ g.1 = gh.1 ∧ wf z g ∧ vis z g v ∧ TY z (zA z) g H := ⟨_, rfl, rfl, wf_of (eqv_gc (eqv_rf _)) hwf, vis_of (eqv_gc (eqv_rf _)) hvis, hT⟩
                                have h50 : gh187.1 h0 50 = gh187.1 h0 42 := by rw [hq187]; exact h50
                                have h51 : 59 ≤ gh187.1 h0 51 := by rw [hq187]; exact h51
                                refine r_iinc (lv' := fun v__ => [(10, .int v__), (0, .ref h0), (1, .int p1), (2, .int p2), (3, .int p3), (4, .int p4), (5, .int t136_0), (6, .int y62_6), (7, .int y62_7), (8, .long x79)]) hx hb dX7_read_188 hl (k := 9) rfl (by decide) (fun _ => rfl) ⟨by decide, by decide⟩ (by omega) (by omega) (fun x188 ls e188 hl => ?_)
                                refine lv_goto (tgt := 167) hx hb dX7_read_191 (by decide) ?_
                                exact ih167 ls _ _ x188 _ (by omega) (by omega) hwf hvis h50 h51 hT hS (lv_sub hl [1, 2, 3, 4, 5, 6, 7, 8, 9, 0] rfl)
                          exact J167 (((59 - x164.toInt)).toNat + 1) ls _ _ x164 _ (by omega) (by omega) hwf hvis h50 h51 hT hS (lv_sub hl [2, 3, 4, 5, 6, 1, 7, 8, 9, 0] rfl)
                    refine r_icmp_ne (tgt := 97) hx hb dX7_read_90 (by decide) (fun c90 => ?_) (fun c90 => ?_)
                    · refine lv_aload_n hx hb dX7_read_97 rfl (lv_at hl 1 rfl) ?_
                      refine gt_Model_lanes hx hb hts ic_Model hown hK hT g0 (hts _ mw_4_91) dX7_read_98 (fun q98 hq98 => ?_)
                      refine lv_iload_n hx hb dX7_read_101 rfl (lv_at hl 2 rfl) ?_
                      refine al_47 hx hb hK hT hq98 (by omega) (by omega) dX7_read_102 (fun x102 e102 => ?_)
                      have n102 := ix_nat (i := p1) (by omega)
                      unfold p47 at e102
                      refine lv_iload_n hx hb dX7_read_103 rfl (lv_at hl 3 rfl) ?_
                      refine r_icmp_eq (tgt := 111) hx hb dX7_read_104 (by decide) (fun c104 => ?_) (fun c104 => ?_)
                      · refine lv_lload hx hb dX7_read_111 (lv_at hl 0 rfl) ?_
                        refine r_lconst0 hx hb dX7_read_113 (fun x113 e113 => ?_)
                        refine r_lcmp hx hb dX7_read_114 (fun x114 e114 g114 k114 => ?_)
                        have v114 : -1 ≤ x114.toInt ∧ x114.toInt ≤ 1 := by omega
                        have J131 : ∀ (ls : Array Slot) (H : Heap) (locs : List Loc) (gh : Gh), (20 - y62_7.toInt) < ((n62 + 1 : Nat) : Int) → wf z gh → vis z gh v → (gh.1 h0 50 = gh.1 h0 42) → (59 ≤ gh.1 h0 51) → TY z (zA z) gh H → va_S (zA z) s.heap H locs → lv_has ls 11 [(0, .ref h0), (1, .int p1), (2, .int p2), (3, .int p3), (4, .int p4), (5, .int y62_5), (6, .int y62_6), (7, .int y62_7), (8, .long x79)] → W p l e (rmF 9 243) s m ([.ref h0, .int p1, .int p2, .int p3, .int p4] : List Value).toArray below meth c H locs 0 0 (MQ below (QcI z (fun r H => WX z v H)) ([.ref h0, .int p1, .int p2, .int p3, .int p4] : List Value).toArray s 0 0 (zA z)) (F0 m 131 ls []) := by
                          intro ls H locs gh mf131_62 hwf hvis h50 h51 hT hS hl
                          refine r_iconst hx hb dX7_read_131 (by decide) (by decide) (fun x131 e131 => ?_)
                          refine lv_goto (tgt := 136) hx hb dX7_read_132 (by decide) ?_
                          exact J136 ls _ _ x131 _ (by omega) (by omega) (by omega) hwf hvis h50 h51 hT hS (lv_sub hl [0, 1, 2, 3, 4, 5, 6, 7, 8] rfl)
                        refine r_if_lt (tgt := 131) hx hb dX7_read_115 (by decide) (fun c115 => ?_) (fun c115 => ?_)
                        · exact J131 ls _ _ _ (by omega) hwf hvis h50 h51 hT hS (lv_sub hl [1, 2, 3, 4, 5, 6, 7, 8, 0] rfl)
                        · refine lv_lload hx hb dX7_read_118 (lv_at hl 0 rfl) ?_
                          refine lv_aload_n hx hb dX7_read_120 rfl (lv_at hl 1 rfl) ?_
                          refine gt_Model_sizes hx hb hts ic_Model hown hK hT g0 (hts _ mw_4_92) dX7_read_121 (fun q121 hq121 => ?_)
                          refine lv_iload_n hx hb dX7_read_124 rfl (lv_at hl 2 rfl) ?_
                          refine al_48 hx hb hK hT hq121 (by omega) (by omega) dX7_read_125 (fun x125 e125 => ?_)
                          have n125 := ix_nat (i := p1) (by omega)
                          unfold p48 at e125
                          refine r_i2l hx hb dX7_read_126 (fun x126 e126 => ?_)
                          refine r_lcmp hx hb dX7_read_127 (fun x127 e127 g127 k127 => ?_)
                          have v127 : -1 ≤ x127.toInt ∧ x127.toInt ≤ 1 := by omega
                          refine r_if_lt (tgt := 135) hx hb dX7_read_128 (by decide) (fun c128 => ?_) (fun c128 => ?_)
                          · refine r_iconst hx hb dX7_read_135 (by decide) (by decide) (fun x135 e135 => ?_)
                            exact J136 ls _ _ x135 _ (by omega) (by omega) (by omega) hwf hvis h50 h51 hT hS (lv_sub hl [1, 2, 3, 4, 5, 6, 7, 8, 0] rfl)
                          · exact J131 ls _ _ _ (by omega) hwf hvis h50 h51 hT hS (lv_sub hl [1, 2, 3, 4, 5, 6, 7, 8, 0] rfl)
                      · refine r_iconst hx hb dX7_read_107 (by decide) (by decide) (fun x107 e107 => ?_)
                        refine lv_goto (tgt := 136) hx hb dX7_read_108 (by decide) ?_
                        exact J136 ls _ _ x107 _ (by omega) (by omega) (by omega) hwf hvis h50 h51 hT hS (lv_sub hl [1, 2, 3, 4, 5, 6, 7, 8, 0] rfl)
                    · refine r_iconst hx hb dX7_read_93 (by decide) (by decide) (fun x93 e93 => ?_)
                      refine lv_goto (tgt := 136) hx hb dX7_read_94 (by decide) ?_
                      exact J136 ls _ _ x93 _ (by omega) (by omega) (by omega) hwf hvis h50 h51 hT hS (lv_sub hl [1, 2, 3, 4, 5, 6, 7, 8, 0] rfl)
            exact J62 (((20 - x59.toInt)).toNat + 1) ls _ _ x53 x56 x59 _ (by omega) (by omega) (by omega) hwf hvis h50 h51 hT hS (lv_sub hl [3, 4, 5, 6, 7, 2, 1, 0] rfl)
          · refine lv_aload_n hx hb dX7_read_33 rfl (lv_at hl 0 rfl) ?_
            refine gt_Model_had hx hb hts ic_Model hown hK hT g0 (hts _ mw_4_95) dX7_read_34 (fun q34 hq34 => ?_)
            refine lv_iload hx hb dX7_read_37 (lv_at hl 5 rfl) ?_
            refine lv_aload_n hx hb dX7_read_39 rfl (lv_at hl 0 rfl) ?_
            refine gt_Model_st hx hb hts ic_Model hown hK hT g0 (hts _ mw_4_70) dX7_read_40 (fun q40 hq40 => ?_)
            refine lv_iload hx hb dX7_read_43 (lv_at hl 5 rfl) ?_
            refine al_40 hx hb hK hT hq40 (by omega) (by omega) dX7_read_45 (fun x45 i45 e45 => ?_)
            have n45 := ix_nat (i := y26_5) (by omega)
            have ny := ix_nat (i := y26_5) (by omega)
            refine as_50g (j := 51) (v := y26_5.toInt + 1) hx hb hK hT hS hq34 (fun b hb9 => zu_at hwf.2.2 rfl hb9 hq34) (by omega) (by omega) (by omega) (p50_w (by omega) (p40_e e45 (by omega)) (by omega) (by omega) (by omega)) (p50_s (by omega) (by omega)) dX7_read_46 (fun H locs hT hS => ?_)
            obtain ⟨gh46, hwf, hvis, a50, a51, hT⟩ := hd_1 hwf hvis ex26_0 hT
            refine r_iinc (lv' := fun v__ => [(5, .int v__), (0, .ref h0), (1, .int p1), (2, .int p2), (3, .int p3), (4, .int p4)]) hx hb dX7_read_47 hl (k := 5) rfl (by decide) (fun _ => rfl) ⟨by decide, by decide⟩ (by omega) (by omega) (fun x47 ls e47 hl => ?_)
            refine lv_goto (tgt := 26) hx hb dX7_read_50 (by decide) ?_
            exact ih26 ls _ _ x47 _ (by omega) (by omega) (by omega) (by omega) hwf hvis hT hS (lv_sub hl [1, 2, 3, 4, 5, 0] rfl)
      exact J26 (((59 - x23.toInt)).toNat + 1) ls _ _ x23 _ (by omega) (by omega) (by omega) (by omega) hwf hvis hT hS (lv_sub hl [1, 2, 3, 4, 5, 0] rfl)
    · refine r_iconst hx hb dX7_read_21 (by decide) (by decide) (fun x21 e21 => ?_)
      exact rt_i hx hb hr hlk hS ⟨_, hwf, hvis, hT⟩ dX7_read_22
theorem k_X7_text : cBV yX7_text cX7_text 2 (some .int) 0 := ⟨mw_4_162, mw_4_163, mw_1_8, mw_4_164, ⟨by decide, by decide, by decide⟩⟩
set_option maxHeartbeats 4000000 in
set_option maxRecDepth 100000 in
theorem c_X7_text (l : Launch) (z : Zt) (v : Nat → Nat → Int) (h0 o0 : Nat) (g0 : zG z h0 = (17, o0)) : Met l yX7_text (uw yX7_text cX7_text 2 (some .int)) (rmF 6 177) (PcW z [.ref h0] (fun H => WX z v H)) (QcI z (fun r H => WX z (vM v h0 0) H)) 0 0 (zA z) := by
  refine Met.ofW (cc := cX7_text) (maxL := 2) (ret := (some .int)) (by decide) rfl ?_
  intro p e s m args below meth c s₁ B hml hv
  obtain ⟨rfl, hW, hK, hSK⟩ := hv
  have hx := B.exec
  have hb := B.bytes
  have hr := B.returns
  have hts : ∀ w ∈ lw_ok, w.before ([.ref h0] : List Value).toArray s = true := fun w hw => atoms_spec (ws := uw yX7_text cX7_text 2 (some .int)) B.pre w (List.mem_cons_of_mem _ hw)
  have hown : s.vm.findClass RX7 = some m.cls := findClass_of_methodNamed B.named
  have hlk := B.notSynchronized
  have hC : CallFix p m c cX7_text 2 s ([.ref h0] : List Value).toArray lw_ok RX7 := ⟨hx, hb, hml, hown, hts⟩
  have hS : va_S (zA z) s.heap s.heap [] := va_S.rf
  have hl := lv_entry ([.ref h0]) (n := 2) (Nat.le_of_ble_eq_true rfl)
  rw [lg_entry_eq]
  generalize (lg_sl ([.ref h0]) ++ List.replicate (2 - (lg_sl ([.ref h0])).length) Slot.unset).toArray = ls at hl ⊢
  have hl : lv_has ls 2 [(0, .ref h0)] := hl
  show W p l e (rmF 6 177) s m ([.ref h0] : List Value).toArray below meth c s.heap [] 0 0 (MQ below (QcI z (fun r H => WX z (vM v h0 0) H)) ([.ref h0] : List Value).toArray s 0 0 (zA z)) (F0 m 0 ls [])
  obtain ⟨gh, hwf, hvis, hT⟩ := hW
  refine r_iconst hx hb dX7_text_0 (by decide) (by decide) (fun x0 e0 => ?_)
  refine lv_istore_n (lv' := [(1, .int x0), (0, .ref h0)]) hx hb dX7_text_1 rfl hl (by decide) rfl (fun ls hl => ?_)
  refine lv_aload_n hx hb dX7_text_2 rfl (lv_at hl 1 rfl) ?_
  refine r_iconst hx hb dX7_text_3 (by decide) (by decide) (fun x3 e3 => ?_)
  refine pt_Model_fault hx hb hts ic_Model hown hK hT hS g0 (hts _ mw_4_85) (by omega) (by omega) dX7_text_4 (fun H locs hT hS => ?_)
  obtain ⟨gh4, w4, hq4, y4, hwf, hvis, hT⟩ : ∃ g : Gh, g.1 h0 54 = x3.toInt ∧ (∀ b k, k ≠ 54 → g.1 b k = gh.1 b k) ∧ g.2 = gh.2 ∧ wf z g ∧ vis z g v ∧ TY z (zA z) g H := ⟨_, gs_at _ _ _ _, fun b k hk => gs_nk _ _ _ _ hk, rfl, wf_of (eqv_gs rfl (eqv_rf _)) hwf, vis_of (eqv_gs rfl (eqv_rf _)) hvis, hT⟩
  have t4_40 := hq4 h0 40 (by decide)
  have t4_52 := hq4 h0 52 (by decide)
  have t4_53 := hq4 h0 53 (by decide)
  have t4_55 := hq4 h0 55 (by decide)
  have t4_56 := hq4 h0 56 (by decide)
  refine lv_aload_n hx hb dX7_text_7 rfl (lv_at hl 1 rfl) ?_
  refine r_iconst hx hb dX7_text_8 (by decide) (by decide) (fun x8 e8 => ?_)
  refine pt_Model_pos hx hb hts ic_Model hown hK hT hS g0 (hts _ mw_4_81) (by omega) (by omega) dX7_text_9 (fun H locs hT hS => ?_)
  obtain ⟨gh9, w9, hq9, y9, hwf, hvis, hT⟩ : ∃ g : Gh, g.1 h0 52 = x8.toInt ∧ (∀ b k, k ≠ 52 → g.1 b k = gh4.1 b k) ∧ g.2 = gh4.2 ∧ wf z g ∧ vis z g v ∧ TY z (zA z) g H := ⟨_, gs_at _ _ _ _, fun b k hk => gs_nk _ _ _ _ hk, rfl, wf_of (eqv_gs rfl (eqv_rf _)) hwf, vis_of (eqv_gs rfl (eqv_rf _)) hvis, hT⟩
  have t9_40 := hq9 h0 40 (by decide)
  have t9_53 := hq9 h0 53 (by decide)
  have t9_54 := hq9 h0 54 (by decide)
  have t9_55 := hq9 h0 55 (by decide)
  have t9_56 := hq9 h0 56 (by decide)
  refine lv_aload_n hx hb dX7_text_12 rfl (lv_at hl 1 rfl) ?_
  refine cl_Vv (rest := []) hC hK hSK (c_X7_firstDraft l z gh9 h0 (o0) g0) k_X7_firstDraft mw_4_62 ⟨rfl, rfl, Nat.le_of_ble_eq_true rfl, Nat.le_of_ble_eq_true rfl⟩ (rv_Model hK hT g0) hT rfl hl.1 rfl (Nat.le_of_ble_eq_true rfl) dX7_text_13 ⟨Nat.zero_le _, Nat.zero_le _⟩ hS (fun _ h => h) (fun _ _ h => h) (fun H locs hpo hS => ?_)
  obtain ⟨gh13, hz13, hT, u13_0, u13_1, u13_2, u13_3⟩ := hpo
  have hwf := wf_of hz13 hwf
  have hvis := vis_of hz13 hvis
  have r41_13 := hz13 h0 41 rfl
  refine lv_aload_n hx hb dX7_text_16 rfl (lv_at hl 1 rfl) ?_
  refine cl_Vv (rest := []) hC hK hSK (c_X7_next l z gh13 h0 (o0) g0 hwf.2.2) k_X7_next mw_4_165 ⟨rfl, rfl, Nat.le_of_ble_eq_true rfl, Nat.le_of_ble_eq_true rfl⟩ (rv_Model hK hT g0) hT rfl hl.1 rfl (Nat.le_of_ble_eq_true rfl) dX7_text_17 ⟨Nat.zero_le _, Nat.zero_le _⟩ hS (fun _ h => h) (fun _ _ h => h) (fun H locs hpo hS => ?_)
  obtain ⟨gh17, hz17, hT, u17_0, u17_1, u17_2, u17_3, u17_4⟩ := hpo
  have hwf := wf_of hz17 hwf
  have hvis := vis_of hz17 hvis
  have r41_17 := hz17 h0 41 rfl
  have tb17 := ty_mr hT g0
  have J20 : ∀ (n20 : Nat) (ls : Array Slot) (H : Heap) (locs : List Loc) (y20_1 : Int32) (gh : Gh), (0 ≤ gh.1 h0 52 ∧ gh.1 h0 52 ≤ 160 ∧ 0 ≤ gh.1 h0 53 ∧ gh.1 h0 53 ≤ 3 ∧ 0 ≤ gh.1 h0 54 ∧ gh.1 h0 54 ≤ 6) → (8 * (160 - gh.1 h0 52) - gh.1 h0 54 + 6) < (n20 : Int) → wf z gh → vis z gh v → TY z (zA z) gh H → va_S (zA z) s.heap H locs → lv_has ls 2 [(0, .ref h0), (1, .int y20_1)] → W p l e (rmF 6 177) s m ([.ref h0] : List Value).toArray below meth c H locs 0 0 (MQ below (QcI z (fun r H => WX z (vM v h0 0) H)) ([.ref h0] : List Value).toArray s 0 0 (zA z)) (F0 m 20 ls []) := by
    intro n20
    induction n20 with
    | zero => intro ls H locs y20_1 gh ex20_0 mm20 hwf hvis hT hS hl; exfalso; omega
    | succ n20 ih20 =>
      intro ls H locs y20_1 gh ex20_0 mm20 hwf hvis hT hS hl
      refine lv_aload_n hx hb dX7_text_20 rfl (lv_at hl 0 rfl) ?_
      refine gt_Model_fault hx hb hts ic_Model hown hK hT g0 (hts _ mw_4_85) dX7_text_21 (fun x21 i21 e21 g21 => ?_)
      have J44 : ∀ (ls : Array Slot) (H : Heap) (locs : List Loc) (gh : Gh), wf z gh → vis z gh v → TY z (zA z) gh H → va_S (zA z) s.heap H locs → lv_has ls 2 [(0, .ref h0), (1, .int y20_1)] → W p l e (rmF 6 177) s m ([.ref h0] : List Value).toArray below meth c H locs 0 0 (MQ below (QcI z (fun r H => WX z (vM v h0 0) H)) ([.ref h0] : List Value).toArray s 0 0 (zA z)) (F0 m 44 ls []) := by
        intro ls H locs gh hwf hvis hT hS hl
        refine lv_aload_n hx hb dX7_text_44 rfl (lv_at hl 0 rfl) ?_
        refine gt_Model_fault hx hb hts ic_Model hown hK hT g0 (hts _ mw_4_85) dX7_text_45 (fun x45 i45 e45 g45 => ?_)
        have J73 : ∀ (ls : Array Slot) (H : Heap) (locs : List Loc) (gh : Gh), wf z gh → vis z gh v → TY z (zA z) gh H → va_S (zA z) s.heap H locs → lv_has ls 2 [(0, .ref h0), (1, .int y20_1)] → W p l e (rmF 6 177) s m ([.ref h0] : List Value).toArray below meth c H locs 0 0 (MQ below (QcI z (fun r H => WX z (vM v h0 0) H)) ([.ref h0] : List Value).toArray s 0 0 (zA z)) (F0 m 73 ls []) := by
          intro ls H locs gh hwf hvis hT hS hl
          refine lv_aload_n hx hb dX7_text_73 rfl (lv_at hl 0 rfl) ?_
          refine r_iconst hx hb dX7_text_74 (by decide) (by decide) (fun x74 e74 => ?_)
          refine pt_Model_taped hx hb hts ic_Model hown hK hT hS g0 (hts _ mw_4_80) (by omega) (by omega) dX7_text_75 (fun H locs hT hS => ?_)
          obtain ⟨v2, hv2⟩ : ∃ v2, v2 = vM v h0 0 := ⟨_, rfl⟩
          obtain ⟨gh75, w75, hwf, hvis, hT⟩ : ∃ g : Gh, g.1 h0 40 = x74.toInt ∧ wf z g ∧ vis z g v2 ∧ TY z (zA z) g H := ⟨_, gs_at _ _ _ _, wf_gs rfl hwf, (by have h9 := vis_m1 (f := h0) (x := x74.toInt) hvis; rw [e74] at h9; rw [hv2, e74]; exact h9), hT⟩
          refine lv_aload_n hx hb dX7_text_78 rfl (lv_at hl 0 rfl) ?_
          refine gt_Model_fault hx hb hts ic_Model hown hK hT g0 (hts _ mw_4_85) dX7_text_79 (fun x79 i79 e79 g79 => ?_)
          refine r_if_le (tgt := 93) hx hb dX7_text_82 (by decide) (fun c82 => ?_) (fun c82 => ?_)
          · refine lv_aload_n hx hb dX7_text_93 rfl (lv_at hl 0 rfl) ?_
            refine cl_Vv (rest := []) hC hK hSK (c_X7_keepDraft l z gh75 h0 (o0) g0 hwf.2.2) k_X7_keepDraft mw_4_66 ⟨rfl, rfl, Nat.le_of_ble_eq_true rfl, Nat.le_of_ble_eq_true rfl⟩ (rv_Model hK hT g0) hT rfl hl.1 rfl (Nat.le_of_ble_eq_true rfl) dX7_text_94 ⟨Nat.zero_le _, Nat.zero_le _⟩ hS (fun _ h => h) (fun _ _ h => h) (fun H locs hpo hS => ?_)
            obtain ⟨gh94, hk94, hm94, hT⟩ := hpo
            have hwf := wf_kd hwf g0 hk94 hm94
            have hvis := vis_kd hvis hk94
            refine lv_iload_n hx hb dX7_text_97 rfl (lv_at hl 1 rfl) ?_
            exact rt_i hx hb hr hlk hS ⟨_, hwf, by rw [← hv2]; exact hvis, hT⟩ dX7_text_98
          · refine r_bipush hx hb dX7_text_85 rfl (fun x85 e85 => ?_)
            refine lv_aload_n hx hb dX7_text_87 rfl (lv_at hl 0 rfl) ?_
            refine gt_Model_wrongAt hx hb hts ic_Model hown hK hT g0 (hts _ mw_4_86) dX7_text_88 (fun x88 => ?_)
            refine w_isub hx hb dX7_text_91 (fun x91 => ?_)
            exact rt_i hx hb hr hlk hS ⟨_, hwf, by rw [← hv2]; exact hvis, hT⟩ dX7_text_92
        refine r_if_ne (tgt := 73) hx hb dX7_text_48 (by decide) (fun c48 => ?_) (fun c48 => ?_)
        · exact J73 ls _ _ _ hwf hvis hT hS (lv_sub hl [0, 1] rfl)
        · refine lv_aload_n hx hb dX7_text_51 rfl (lv_at hl 0 rfl) ?_
          refine lv_aload_n hx hb dX7_text_52 rfl (lv_at hl 0 rfl) ?_
          refine gt_Model_highest hx hb hts ic_Model hown hK hT g0 (hts _ mw_4_78) dX7_text_53 (fun x53 => ?_)
          refine lv_aload_n hx hb dX7_text_56 rfl (lv_at hl 0 rfl) ?_
          refine gt_Model_dMen hx hb hts ic_Model hown hK hT g0 (hts _ mw_4_75) dX7_text_57 (fun x57 i57 e57 g57 => ?_)
          have J68 : ∀ (ls : Array Slot) (H : Heap) (locs : List Loc) (t68_1 : Int32) (gh : Gh), (0 ≤ t68_1.toInt ∧ t68_1.toInt ≤ 1) → wf z gh → vis z gh v → TY z (zA z) gh H → va_S (zA z) s.heap H locs → lv_has ls 2 [(0, .ref h0), (1, .int y20_1)] → W p l e (rmF 6 177) s m ([.ref h0] : List Value).toArray below meth c H locs 0 0 (MQ below (QcI z (fun r H => WX z (vM v h0 0) H)) ([.ref h0] : List Value).toArray s 0 0 (zA z)) (F0 m 68 ls [.int t68_1, .ref h0]) := by
            intro ls H locs t68_1 gh j68_t68_1 hwf hvis hT hS hl
            refine r_bipush hx hb dX7_text_68 rfl (fun x68 e68 => ?_)
            refine cl_Vv (rest := []) hC hK hSK (c_X7_needs l z gh h0 (o0) g0 t68_1 x68 (by omega) (by omega)) k_X7_needs mw_4_177 ⟨rfl, rfl, Nat.le_of_ble_eq_true rfl, Nat.le_of_ble_eq_true rfl⟩ (rv_Model hK hT g0) hT rfl hl.1 rfl (Nat.le_of_ble_eq_true rfl) dX7_text_70 ⟨Nat.zero_le _, Nat.zero_le _⟩ hS (fun _ h => h) (fun _ _ h => h) (fun H locs hpo hS => ?_)
            obtain ⟨gh70, hz70, hT, u70_0, u70_1, u70_2, u70_3, u70_4, u70_5, u70_6⟩ := hpo
            have hwf := wf_of hz70 hwf
            have hvis := vis_of hz70 hvis
            have r41_70 := hz70 h0 41 rfl
            exact J73 ls _ _ _ hwf hvis hT hS (lv_sub hl [0, 1] rfl)
          refine r_icmp_ge (tgt := 67) hx hb dX7_text_60 (by decide) (fun c60 => ?_) (fun c60 => ?_)
          · refine r_iconst hx hb dX7_text_67 (by decide) (by decide) (fun x67 e67 => ?_)
            exact J68 ls _ _ x67 _ (by omega) hwf hvis hT hS (lv_sub hl [0, 1] rfl)
          · refine r_iconst hx hb dX7_text_63 (by decide) (by decide) (fun x63 e63 => ?_)
            refine lv_goto (tgt := 68) hx hb dX7_text_64 (by decide) ?_
            exact J68 ls _ _ x63 _ (by omega) hwf hvis hT hS (lv_sub hl [0, 1] rfl)
      refine r_if_ne (tgt := 44) hx hb dX7_text_24 (by decide) (fun c24 => ?_) (fun c24 => ?_)
      · exact J44 ls _ _ _ hwf hvis hT hS (lv_sub hl [0, 1] rfl)
      · refine lv_aload_n hx hb dX7_text_27 rfl (lv_at hl 0 rfl) ?_
        refine gt_Model_sort hx hb hts ic_Model hown hK hT g0 (hts _ mw_4_83) dX7_text_28 (fun x28 i28 e28 g28 => ?_)
        refine r_if_eq (tgt := 44) hx hb dX7_text_31 (by decide) (fun c31 => ?_) (fun c31 => ?_)
        · exact J44 ls _ _ _ hwf hvis hT hS (lv_sub hl [0, 1] rfl)
        · refine lv_aload_n hx hb dX7_text_34 rfl (lv_at hl 0 rfl) ?_
          refine cl_Vv (rest := []) hC hK hSK (c_X7_readLine l z gh h0 (o0) g0 hwf.2.2 (by omega)) k_X7_readLine mw_4_181 ⟨rfl, rfl, Nat.le_of_ble_eq_true rfl, Nat.le_of_ble_eq_true rfl⟩ (rv_Model hK hT g0) hT rfl hl.1 rfl (Nat.le_of_ble_eq_true rfl) dX7_text_35 ⟨Nat.zero_le _, Nat.zero_le _⟩ hS (fun _ h => h) (fun _ _ h => h) (fun H locs hpo hS => ?_)
          obtain ⟨gh35, hz35, hT, u35_0, u35_1⟩ := hpo
          have hwf := wf_of hz35 hwf
          have hvis := vis_of hz35 hvis
          have r41_35 := hz35 h0 41 rfl
          have tb35 := ty_mr hT g0
          refine w_iinc (lv' := fun v__ => [(1, .int v__), (0, .ref h0)]) hx hb dX7_text_38 hl (k := 1) rfl (by decide) (fun _ => rfl) (fun x38 ls hl => ?_)
          refine lv_goto (tgt := 20) hx hb dX7_text_41 (by decide) ?_
          exact ih20 ls _ _ x38 _ (by omega) (by omega) hwf hvis hT hS (lv_sub hl [1, 0] rfl)
  exact J20 (((8 * (160 - gh17.1 h0 52) - gh17.1 h0 54 + 6)).toNat + 1) ls _ _ x0 _ (by omega) (by omega) hwf hvis hT hS (lv_sub hl [1, 0] rfl)
