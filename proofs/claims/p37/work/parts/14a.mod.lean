theorem k_X7_starts : cBV yX7_starts cX7_starts 2 none 0 := ⟨mw_4_231, ms_2_11, mw_1_8, mw_4_232, ⟨by decide, by decide, by decide⟩⟩
set_option maxHeartbeats 4000000 in
set_option maxRecDepth 100000 in
theorem c_X7_starts (l : Launch) (z : Zt) (gh : Gh) (h0 o0 : Nat) (g0 : zG z h0 = (17, o0)) (pr0 : wf z gh) : Met l yX7_starts (uw yX7_starts cX7_starts 2 none) (rmF 1 64) (PcW z [.ref h0] (fun H => TY z (zA z) gh H)) (QcV z (fun H => ∃ gk : Gh, (∀ a k, k ≠ 48 → k ≠ 49 → gk.1 a k = gh.1 a k) ∧ (∀ q, (zG z q).1 = 40 → gk.2 q = gh.2 q) ∧ nowOK (gk.1 h0) ∧ TY z (zA z) gk H)) 0 0 (zA z) := by
  refine Met.ofW (cc := cX7_starts) (maxL := 2) (ret := none) (by decide) rfl ?_
  intro p e s m args below meth c s₁ B hml hv
  obtain ⟨rfl, hW, hK, hSK⟩ := hv
  have hx := B.exec
  have hb := B.bytes
  have hr := B.returns
  have hts : ∀ w ∈ lw_ok, w.before ([.ref h0] : List Value).toArray s = true := fun w hw => atoms_spec (ws := uw yX7_starts cX7_starts 2 none) B.pre w (List.mem_cons_of_mem _ hw)
  have hown : s.vm.findClass RX7 = some m.cls := findClass_of_methodNamed B.named
  have hlk := B.notSynchronized
  have hC : CallFix p m c cX7_starts 2 s ([.ref h0] : List Value).toArray lw_ok RX7 := ⟨hx, hb, hml, hown, hts⟩
  have hS : va_S (zA z) s.heap s.heap [] := va_S.rf
  have hl := lv_entry ([.ref h0]) (n := 2) (Nat.le_of_ble_eq_true rfl)
  rw [lg_entry_eq]
  generalize (lg_sl ([.ref h0]) ++ List.replicate (2 - (lg_sl ([.ref h0])).length) Slot.unset).toArray = ls at hl ⊢
  have hl : lv_has ls 2 [(0, .ref h0)] := hl
  show W p l e (rmF 1 64) s m ([.ref h0] : List Value).toArray below meth c s.heap [] 0 0 (MQ below (QcV z (fun H => ∃ gk : Gh, (∀ a k, k ≠ 48 → k ≠ 49 → gk.1 a k = gh.1 a k) ∧ (∀ q, (zG z q).1 = 40 → gk.2 q = gh.2 q) ∧ nowOK (gk.1 h0) ∧ TY z (zA z) gk H)) ([.ref h0] : List Value).toArray s 0 0 (zA z)) (F0 m 0 ls [])
  have hT : TY z (zA z) gh s.heap := hW
  obtain ⟨wa, wb, wc, wd, we, wg⟩ := pr0.2.1 h0 _ g0
  have hT := gw_41 (o := h0) (j := 49) (v := 0) hT (Or.inr rfl) (p41_0 (by rw [gs_at]; omega))
  have hT := gw_41 (o := h0) (j := 48) (v := gh.1 h0 41) hT (Or.inl rfl) (p41_0 (by rw [gs_nk _ _ _ _ (by decide), gs_at]; omega))
  obtain ⟨gk, b48, b49, hr1, hr2, hT⟩ : ∃ g : Gh, g.1 h0 48 = gh.1 h0 41 ∧ g.1 h0 49 = 0 ∧ (∀ a k, k ≠ 48 → k ≠ 49 → g.1 a k = gh.1 a k) ∧ (∀ q, (zG z q).1 = 40 → g.2 q = gh.2 q) ∧ TY z (zA z) g s.heap := ⟨gs (gs gh h0 49 0) h0 48 (gh.1 h0 41), gs_at _ _ _ _, by rw [gs_nk _ _ _ _ (by decide), gs_at], fun a k h8 h9 => by rw [gs_nk _ _ _ _ h8, gs_nk _ _ _ _ h9], fun q hq => rfl, hT⟩
  refine r_iconst hx hb dX7_starts_0 (by decide) (by decide) (fun x0 e0 => ?_)
  refine lv_istore_n (lv' := [(1, .int x0), (0, .ref h0)]) hx hb dX7_starts_1 rfl hl (by decide) rfl (fun ls hl => ?_)
  have J2 : ∀ (n2 : Nat) (ls : Array Slot) (H : Heap) (locs : List Loc) (y2_1 : Int32) (gk : Gh), (0 ≤ y2_1.toInt ∧ y2_1.toInt ≤ 59) → (gk.1 h0 48 = gh.1 h0 41) → (gk.1 h0 49 = y2_1.toInt) → (59 - y2_1.toInt) < (n2 : Int) → (∀ a k, k ≠ 48 → k ≠ 49 → gk.1 a k = gh.1 a k) → (∀ q, (zG z q).1 = 40 → gk.2 q = gh.2 q) → TY z (zA z) gk H → va_S (zA z) s.heap H locs → lv_has ls 2 [(0, .ref h0), (1, .int y2_1)] → W p l e (rmF 1 64) s m ([.ref h0] : List Value).toArray below meth c H locs 0 0 (MQ below (QcV z (fun H => ∃ gk : Gh, (∀ a k, k ≠ 48 → k ≠ 49 → gk.1 a k = gh.1 a k) ∧ (∀ q, (zG z q).1 = 40 → gk.2 q = gh.2 q) ∧ nowOK (gk.1 h0) ∧ TY z (zA z) gk H)) ([.ref h0] : List Value).toArray s 0 0 (zA z)) (F0 m 2 ls []) := by
    intro n2
    induction n2 with
    | zero => intro ls H locs y2_1 gk j2_y2_1 ex2_0 ex2_1 mm2 hr1 hr2 hT hS hl; exfalso; omega
    | succ n2 ih2 =>
      intro ls H locs y2_1 gk j2_y2_1 ex2_0 ex2_1 mm2 hr1 hr2 hT hS hl
      have q2 := hr1 h0 42 (by decide) (by decide)
      have q3 := hr1 h0 43 (by decide) (by decide)
      refine lv_iload_n hx hb dX7_starts_2 rfl (lv_at hl 1 rfl) ?_
      refine r_bipush hx hb dX7_starts_3 rfl (fun x3 e3 => ?_)
      refine r_icmp_ge (tgt := 26) hx hb dX7_starts_5 (by decide) (fun c5 => ?_) (fun c5 => ?_)
      · exact rt_v hx hb hr hlk hS ⟨_, hr1, hr2, (by unfold nowOK; have q1 := hr1 h0 41 (by decide) (by decide); omega), hT⟩ dX7_starts_26
      · refine lv_aload_n hx hb dX7_starts_8 rfl (lv_at hl 0 rfl) ?_
        refine gt_Model_now hx hb hts ic_Model hown hK hT g0 (hts _ mw_4_71) dX7_starts_9 (fun q9 hq9 => ?_)
        refine lv_iload_n hx hb dX7_starts_12 rfl (lv_at hl 1 rfl) ?_
        refine lv_aload_n hx hb dX7_starts_13 rfl (lv_at hl 0 rfl) ?_
        refine gt_Model_st hx hb hts ic_Model hown hK hT g0 (hts _ mw_4_70) dX7_starts_14 (fun q14 hq14 => ?_)
        refine lv_iload_n hx hb dX7_starts_17 rfl (lv_at hl 1 rfl) ?_
        refine al_40 hx hb hK hT hq14 (by omega) (by omega) dX7_starts_18 (fun x18 i18 e18 => ?_)
        have n18 := ix_nat (i := y2_1) (by omega)
        refine as_41g (j := 49) (v := y2_1.toInt + 1) hx hb hK hT hS hq9 (fun b hb9 => zu_at pr0.2.2 rfl hb9 hq9) (by omega) (by omega) (Or.inr rfl) (by have n0 := ix_nat (i := y2_1) (by omega); show b59 _ _ _ _; rw [gs_at, gs_nk _ _ _ _ (by decide)]; exact b59_tr (p40_e e18 (by omega)) (by omega) (fun _ => by omega)) (by intro k y hk h; have n0 := ix_nat (i := y2_1) (by omega); show b59 _ _ _ _; rw [gs_at, gs_nk _ _ _ _ (by decide)]; exact b59_tr (p41_e h) rfl (fun h9 => by omega)) dX7_starts_19 (fun H locs hT hS => ?_)
        obtain ⟨gk19, w19, hr1, hr2, w819, hT⟩ : ∃ g : Gh, g.1 h0 49 = y2_1.toInt + 1 ∧ (∀ a k, k ≠ 48 → k ≠ 49 → g.1 a k = gh.1 a k) ∧ (∀ q, (zG z q).1 = 40 → g.2 q = gh.2 q) ∧ g.1 h0 48 = gk.1 h0 48 ∧ TY z (zA z) g H := ⟨gc (gs gk h0 49 (y2_1.toInt + 1)) q9 (upd (gk.2 q9) y2_1.toNatClampNeg x18), gs_at _ _ _ _, fun a k h8 h9 => (gs_nk _ _ _ _ h9).trans (hr1 a k h8 h9), fun q hq => (gc_na _ _ _ (fun e => by rw [e, hq9] at hq; cases hq)).trans (hr2 q hq), gs_nk _ _ _ _ (by decide), hT⟩
        refine r_iinc (lv' := fun v__ => [(1, .int v__), (0, .ref h0)]) hx hb dX7_starts_20 hl (k := 1) rfl (by decide) (fun _ => rfl) ⟨by decide, by decide⟩ (by omega) (by omega) (fun x20 ls e20 hl => ?_)
        refine lv_goto (tgt := 2) hx hb dX7_starts_23 (by decide) ?_
        exact ih2 ls _ _ x20 _ (by omega) (by omega) (by omega) (by omega) hr1 hr2 hT hS (lv_sub hl [1, 0] rfl)
  exact J2 (((59 - x0.toInt)).toNat + 1) ls _ _ x0 _ (by omega) (by omega) (by omega) (by omega) hr1 hr2 hT hS (lv_sub hl [1, 0] rfl)
theorem k_X7_settles : cBV yX7_settles cX7_settles 2 none 0 := ⟨mw_5_106, ms_3_10, mw_1_8, mw_5_107, ⟨by decide, by decide, by decide⟩⟩
set_option maxHeartbeats 4000000 in
set_option maxRecDepth 100000 in
theorem c_X7_settles (l : Launch) (z : Zt) (gh : Gh) (h0 o0 : Nat) (g0 : zG z h0 = (17, o0)) (pr0 : nowOK (gh.1 h0)) (pr1 : wfM (gh.1 h0)) : Met l yX7_settles (uw yX7_settles cX7_settles 2 none) (rmF 1 64) (PcW z [.ref h0] (fun H => TY z (zA z) gh H)) (QcV z (fun H => ∃ gk : Gh, eqv gk gh ∧ TY z (zA z) gk H)) 0 0 (zA z) := by
  refine Met.ofW (cc := cX7_settles) (maxL := 2) (ret := none) (by decide) rfl ?_
  intro p e s m args below meth c s₁ B hml hv
  obtain ⟨rfl, hW, hK, hSK⟩ := hv
  have hx := B.exec
  have hb := B.bytes
  have hr := B.returns
  have hts : ∀ w ∈ lw_ok, w.before ([.ref h0] : List Value).toArray s = true := fun w hw => atoms_spec (ws := uw yX7_settles cX7_settles 2 none) B.pre w (List.mem_cons_of_mem _ hw)
  have hown : s.vm.findClass RX7 = some m.cls := findClass_of_methodNamed B.named
  have hlk := B.notSynchronized
  have hC : CallFix p m c cX7_settles 2 s ([.ref h0] : List Value).toArray lw_ok RX7 := ⟨hx, hb, hml, hown, hts⟩
  have hS : va_S (zA z) s.heap s.heap [] := va_S.rf
  have hl := lv_entry ([.ref h0]) (n := 2) (Nat.le_of_ble_eq_true rfl)
  rw [lg_entry_eq]
  generalize (lg_sl ([.ref h0]) ++ List.replicate (2 - (lg_sl ([.ref h0])).length) Slot.unset).toArray = ls at hl ⊢
  have hl : lv_has ls 2 [(0, .ref h0)] := hl
  show W p l e (rmF 1 64) s m ([.ref h0] : List Value).toArray below meth c s.heap [] 0 0 (MQ below (QcV z (fun H => ∃ gk : Gh, eqv gk gh ∧ TY z (zA z) gk H)) ([.ref h0] : List Value).toArray s 0 0 (zA z)) (F0 m 0 ls [])
  have hT : TY z (zA z) gh s.heap := hW
  have hg1 : eqv gh gh := eqv_rf gh
  obtain ⟨na, nb⟩ := id pr0
  obtain ⟨wa, wb, wc, wd, we, wg⟩ := id pr1
  refine r_iconst hx hb dX7_settles_0 (by decide) (by decide) (fun x0 e0 => ?_)
  refine lv_istore_n (lv' := [(1, .int x0), (0, .ref h0)]) hx hb dX7_settles_1 rfl hl (by decide) rfl (fun ls hl => ?_)
  have J2 : ∀ (n2 : Nat) (ls : Array Slot) (H : Heap) (locs : List Loc) (y2_1 : Int32) (gk : Gh), (0 ≤ y2_1.toInt ∧ y2_1.toInt ≤ 59) → (59 - y2_1.toInt) < (n2 : Int) → eqv gk gh → TY z (zA z) gk H → va_S (zA z) s.heap H locs → lv_has ls 2 [(0, .ref h0), (1, .int y2_1)] → W p l e (rmF 1 64) s m ([.ref h0] : List Value).toArray below meth c H locs 0 0 (MQ below (QcV z (fun H => ∃ gk : Gh, eqv gk gh ∧ TY z (zA z) gk H)) ([.ref h0] : List Value).toArray s 0 0 (zA z)) (F0 m 2 ls []) := by
    intro n2
    induction n2 with
    | zero => intro ls H locs y2_1 gk j2_y2_1 mm2 hg1 hT hS hl; exfalso; omega
    | succ n2 ih2 =>
      intro ls H locs y2_1 gk j2_y2_1 mm2 hg1 hT hS hl
      refine lv_iload_n hx hb dX7_settles_2 rfl (lv_at hl 1 rfl) ?_
      refine r_bipush hx hb dX7_settles_3 rfl (fun x3 e3 => ?_)
      refine r_icmp_ge (tgt := 26) hx hb dX7_settles_5 (by decide) (fun c5 => ?_) (fun c5 => ?_)
      · exact rt_v hx hb hr hlk hS ⟨_, hg1, hT⟩ dX7_settles_26
      · refine lv_aload_n hx hb dX7_settles_8 rfl (lv_at hl 0 rfl) ?_
        refine gt_Model_st hx hb hts ic_Model hown hK hT g0 (hts _ mw_4_70) dX7_settles_9 (fun q9 hq9 => ?_)
        refine lv_iload_n hx hb dX7_settles_12 rfl (lv_at hl 1 rfl) ?_
        refine lv_aload_n hx hb dX7_settles_13 rfl (lv_at hl 0 rfl) ?_
        refine gt_Model_now hx hb hts ic_Model hown hK hT g0 (hts _ mw_4_71) dX7_settles_14 (fun q14 hq14 => ?_)
        refine lv_iload_n hx hb dX7_settles_17 rfl (lv_at hl 1 rfl) ?_
        refine al_41 hx hb hK hT hq14 (by omega) (by omega) dX7_settles_18 (fun x18 i18 e18 => ?_)
        have n18 := ix_nat (i := y2_1) (by omega)
        refine as_40 hx hb hK hT hS hq9 (by omega) (by omega) (by have n0 := ix_nat (i := y2_1) (by omega); have r42 := hg1 h0 42 rfl; have r43 := hg1 h0 43 rfl; have r48 := hg1 h0 48 rfl; have r49 := hg1 h0 49 rfl; exact p40_m (by omega) (b59_tr (p41_e e18) (by omega) (fun _ => by omega))) dX7_settles_19 (fun H locs hT hS => ?_)
        obtain ⟨gk19, w19, hq19, hg1, hT⟩ : ∃ g : Gh, g.2 = (gc gk q9 (upd (gk.2 q9) y2_1.toNatClampNeg x18)).2 ∧ g.1 = gk.1 ∧ eqv g gh ∧ TY z (zA z) g H := ⟨_, rfl, rfl, eqv_gc hg1, hT⟩
        refine r_iinc (lv' := fun v__ => [(1, .int v__), (0, .ref h0)]) hx hb dX7_settles_20 hl (k := 1) rfl (by decide) (fun _ => rfl) ⟨by decide, by decide⟩ (by omega) (by omega) (fun x20 ls e20 hl => ?_)
        refine lv_goto (tgt := 2) hx hb dX7_settles_23 (by decide) ?_
        exact ih2 ls _ _ x20 _ (by omega) (by omega) hg1 hT hS (lv_sub hl [1, 0] rfl)
  exact J2 (((59 - x0.toInt)).toNat + 1) ls _ _ x0 _ (by omega) (by omega) hg1 hT hS (lv_sub hl [1, 0] rfl)
theorem k_X7_becomes : cBV yX7_becomes cX7_becomes 4 (some .int) 2 := ⟨mw_5_63, ms_3_5, mw_1_8, mw_5_64, ⟨by decide, by decide, by decide⟩⟩
set_option maxHeartbeats 4000000 in
set_option maxRecDepth 100000 in
theorem c_X7_becomes (l : Launch) (z : Zt) (gh : Gh) (h0 o0 : Nat) (g0 : zG z h0 = (17, o0)) (p1 : Int32) (p2 : Int32) (bp1 : 0 ≤ p1.toInt ∧ p1.toInt ≤ 58) (pr0 : p40 (gh.1 h0) p1.toNatClampNeg p2.toInt) : Met l yX7_becomes (uw yX7_becomes cX7_becomes 4 (some .int)) (rmF 1 64) (PcW z [.ref h0, .int p1, .int p2] (fun H => TY z (zA z) gh H)) (QcI z (fun r H => ∃ gk : Gh, eqv gk gh ∧ TY z (zA z) gk H ∧ (p40 (gh.1 h0) p1.toNatClampNeg r.toInt))) 0 0 (zA z) := by
  refine Met.ofW (cc := cX7_becomes) (maxL := 4) (ret := (some .int)) (by decide) rfl ?_
  intro p e s m args below meth c s₁ B hml hv
  obtain ⟨rfl, hW, hK, hSK⟩ := hv
  have hx := B.exec
  have hb := B.bytes
  have hr := B.returns
  have hts : ∀ w ∈ lw_ok, w.before ([.ref h0, .int p1, .int p2] : List Value).toArray s = true := fun w hw => atoms_spec (ws := uw yX7_becomes cX7_becomes 4 (some .int)) B.pre w (List.mem_cons_of_mem _ hw)
  have hown : s.vm.findClass RX7 = some m.cls := findClass_of_methodNamed B.named
  have hlk := B.notSynchronized
  have hC : CallFix p m c cX7_becomes 4 s ([.ref h0, .int p1, .int p2] : List Value).toArray lw_ok RX7 := ⟨hx, hb, hml, hown, hts⟩
  have hS : va_S (zA z) s.heap s.heap [] := va_S.rf
  have hl := lv_entry ([.ref h0, .int p1, .int p2]) (n := 4) (Nat.le_of_ble_eq_true rfl)
  rw [lg_entry_eq]
  generalize (lg_sl ([.ref h0, .int p1, .int p2]) ++ List.replicate (4 - (lg_sl ([.ref h0, .int p1, .int p2])).length) Slot.unset).toArray = ls at hl ⊢
  have hl : lv_has ls 4 [(0, .ref h0), (1, .int p1), (2, .int p2)] := hl
  show W p l e (rmF 1 64) s m ([.ref h0, .int p1, .int p2] : List Value).toArray below meth c s.heap [] 0 0 (MQ below (QcI z (fun r H => ∃ gk : Gh, eqv gk gh ∧ TY z (zA z) gk H ∧ (p40 (gh.1 h0) p1.toNatClampNeg r.toInt))) ([.ref h0, .int p1, .int p2] : List Value).toArray s 0 0 (zA z)) (F0 m 0 ls [])
  have hT : TY z (zA z) gh s.heap := hW
  have hg1 : eqv gh gh := eqv_rf gh
  have mx_p2 := i_mx p2
  refine lv_aload_n hx hb dX7_becomes_0 rfl (lv_at hl 0 rfl) ?_
  refine gt_Model_st hx hb hts ic_Model hown hK hT g0 (hts _ mw_4_70) dX7_becomes_1 (fun q1 hq1 => ?_)
  refine lv_iload_n hx hb dX7_becomes_4 rfl (lv_at hl 1 rfl) ?_
  refine al_40 hx hb hK hT hq1 (by omega) (by omega) dX7_becomes_5 (fun x5 i5 e5 => ?_)
  have n5 := ix_nat (i := p1) (by omega)
  refine lv_istore_n (lv' := [(3, .int x5), (0, .ref h0), (1, .int p1), (2, .int p2)]) hx hb dX7_becomes_6 rfl hl (by decide) rfl (fun ls hl => ?_)
  refine lv_aload_n hx hb dX7_becomes_7 rfl (lv_at hl 1 rfl) ?_
  refine gt_Model_st hx hb hts ic_Model hown hK hT g0 (hts _ mw_4_70) dX7_becomes_8 (fun q8 hq8 => ?_)
  refine lv_iload_n hx hb dX7_becomes_11 rfl (lv_at hl 2 rfl) ?_
  refine lv_iload_n hx hb dX7_becomes_12 rfl (lv_at hl 3 rfl) ?_
  refine as_40 hx hb hK hT hS hq8 (by omega) (by omega) pr0 dX7_becomes_13 (fun H locs hT hS => ?_)
  obtain ⟨gk13, w13, hq13, hg1, hT⟩ : ∃ g : Gh, g.2 = (gc gh q8 (upd (gh.2 q8) p1.toNatClampNeg p2)).2 ∧ g.1 = gh.1 ∧ eqv g gh ∧ TY z (zA z) g H := ⟨_, rfl, rfl, eqv_gc hg1, hT⟩
  refine lv_iload_n hx hb dX7_becomes_14 rfl (lv_at hl 0 rfl) ?_
  exact rt_i hx hb hr hlk hS ⟨_, hg1, hT, e5⟩ dX7_becomes_15
theorem k_X7_woman : cBV yX7_woman cX7_woman 2 (some .int) 1 := ⟨mw_5_36, mw_5_37, mw_1_8, mw_5_38, ⟨by decide, by decide, by decide⟩⟩
set_option maxHeartbeats 4000000 in
set_option maxRecDepth 100000 in
theorem c_X7_woman (l : Launch) (z : Zt) (gh : Gh) (h0 o0 : Nat) (g0 : zG z h0 = (17, o0)) (p1 : Int32) : Met l yX7_woman (uw yX7_woman cX7_woman 2 (some .int)) (rmF 3 110) (PcW z [.ref h0, .int p1] (fun H => TY z (zA z) gh H)) (QcI z (fun r H => TY z (zA z) gh H)) 0 0 (zA z) := by
  refine Met.ofW (cc := cX7_woman) (maxL := 2) (ret := (some .int)) (by decide) rfl ?_
  intro p e s m args below meth c s₁ B hml hv
  obtain ⟨rfl, hW, hK, hSK⟩ := hv
  have hx := B.exec
  have hb := B.bytes
  have hr := B.returns
  have hts : ∀ w ∈ lw_ok, w.before ([.ref h0, .int p1] : List Value).toArray s = true := fun w hw => atoms_spec (ws := uw yX7_woman cX7_woman 2 (some .int)) B.pre w (List.mem_cons_of_mem _ hw)
  have hown : s.vm.findClass RX7 = some m.cls := findClass_of_methodNamed B.named
  have hlk := B.notSynchronized
  have hC : CallFix p m c cX7_woman 2 s ([.ref h0, .int p1] : List Value).toArray lw_ok RX7 := ⟨hx, hb, hml, hown, hts⟩
  have hS : va_S (zA z) s.heap s.heap [] := va_S.rf
  have hl := lv_entry ([.ref h0, .int p1]) (n := 2) (Nat.le_of_ble_eq_true rfl)
  rw [lg_entry_eq]
  generalize (lg_sl ([.ref h0, .int p1]) ++ List.replicate (2 - (lg_sl ([.ref h0, .int p1])).length) Slot.unset).toArray = ls at hl ⊢
  have hl : lv_has ls 2 [(0, .ref h0), (1, .int p1)] := hl
  show W p l e (rmF 3 110) s m ([.ref h0, .int p1] : List Value).toArray below meth c s.heap [] 0 0 (MQ below (QcI z (fun r H => TY z (zA z) gh H)) ([.ref h0, .int p1] : List Value).toArray s 0 0 (zA z)) (F0 m 0 ls [])
  have hT : TY z (zA z) gh s.heap := hW
  have mx_p1 := i_mx p1
  refine lv_aload_n hx hb dX7_woman_0 rfl (lv_at hl 0 rfl) ?_
  refine lv_iload_n hx hb dX7_woman_1 rfl (lv_at hl 1 rfl) ?_
  refine cl_Vi (rest := []) hC hK hSK (c_X7_isOne l z gh h0 (o0) g0 p1) k_X7_isOne mw_5_11 ⟨rfl, rfl, Nat.le_of_ble_eq_true rfl, Nat.le_of_ble_eq_true rfl⟩ (rv_Model hK hT g0) hT rfl hl.1 rfl (Nat.le_of_ble_eq_true rfl) dX7_woman_2 ⟨Nat.zero_le _, Nat.zero_le _⟩ hS (fun _ h => h) (fun _ _ h => h) (fun r2 H locs hpo hS => ?_)
  obtain ⟨hT, u2_0, u2_1⟩ := hpo
  refine r_if_eq (tgt := 20) hx hb dX7_woman_5 (by decide) (fun c5 => ?_) (fun c5 => ?_)
  · refine r_iconst hx hb dX7_woman_20 (by decide) (by decide) (fun x20 e20 => ?_)
    exact rt_i hx hb hr hlk hS hT dX7_woman_21
  · refine lv_aload_n hx hb dX7_woman_8 rfl (lv_at hl 0 rfl) ?_
    refine gt_Model_st hx hb hts ic_Model hown hK hT g0 (hts _ mw_4_70) dX7_woman_9 (fun q9 hq9 => ?_)
    refine r_bipush hx hb dX7_woman_12 rfl (fun x12 e12 => ?_)
    refine lv_iload_n hx hb dX7_woman_14 rfl (lv_at hl 1 rfl) ?_
    refine r_iadd hx hb dX7_woman_15 (by omega) (by omega) (fun x15 e15 => ?_)
    refine al_40 hx hb hK hT hq9 (by omega) (by omega) dX7_woman_16 (fun x16 i16 e16 => ?_)
    have n16 := ix_nat (i := x15) (by omega)
    have f16 := b59_r20 (p40_e e16 (by omega)) (by omega) (by omega)
    refine lv_goto (tgt := 21) hx hb dX7_woman_17 (by decide) ?_
    exact rt_i hx hb hr hlk hS hT dX7_woman_21
theorem k_X7_figure : cBV yX7_figure cX7_figure 2 (some .int) 1 := ⟨mw_5_48, mw_5_49, mw_1_8, mw_5_50, ⟨by decide, by decide, by decide⟩⟩
set_option maxHeartbeats 4000000 in
set_option maxRecDepth 100000 in
theorem c_X7_figure (l : Launch) (z : Zt) (gh : Gh) (h0 o0 : Nat) (g0 : zG z h0 = (17, o0)) (p1 : Int32) : Met l yX7_figure (uw yX7_figure cX7_figure 2 (some .int)) (rmF 2 89) (PcW z [.ref h0, .int p1] (fun H => TY z (zA z) gh H)) (QcI z (fun r H => TY z (zA z) gh H)) 0 0 (zA z) := by
  refine Met.ofW (cc := cX7_figure) (maxL := 2) (ret := (some .int)) (by decide) rfl ?_
  intro p e s m args below meth c s₁ B hml hv
  obtain ⟨rfl, hW, hK, hSK⟩ := hv
  have hx := B.exec
  have hb := B.bytes
  have hr := B.returns
  have hts : ∀ w ∈ lw_ok, w.before ([.ref h0, .int p1] : List Value).toArray s = true := fun w hw => atoms_spec (ws := uw yX7_figure cX7_figure 2 (some .int)) B.pre w (List.mem_cons_of_mem _ hw)
  have hown : s.vm.findClass RX7 = some m.cls := findClass_of_methodNamed B.named
  have hlk := B.notSynchronized
  have hC : CallFix p m c cX7_figure 2 s ([.ref h0, .int p1] : List Value).toArray lw_ok RX7 := ⟨hx, hb, hml, hown, hts⟩
  have hS : va_S (zA z) s.heap s.heap [] := va_S.rf
  have hl := lv_entry ([.ref h0, .int p1]) (n := 2) (Nat.le_of_ble_eq_true rfl)
  rw [lg_entry_eq]
  generalize (lg_sl ([.ref h0, .int p1]) ++ List.replicate (2 - (lg_sl ([.ref h0, .int p1])).length) Slot.unset).toArray = ls at hl ⊢
  have hl : lv_has ls 2 [(0, .ref h0), (1, .int p1)] := hl
  show W p l e (rmF 2 89) s m ([.ref h0, .int p1] : List Value).toArray below meth c s.heap [] 0 0 (MQ below (QcI z (fun r H => TY z (zA z) gh H)) ([.ref h0, .int p1] : List Value).toArray s 0 0 (zA z)) (F0 m 0 ls [])
  have hT : TY z (zA z) gh s.heap := hW
  have mx_p1 := i_mx p1
  refine lv_iload_n hx hb dX7_figure_0 rfl (lv_at hl 1 rfl) ?_
  refine r_i2l hx hb dX7_figure_1 (fun x1 e1 => ?_)
  refine r_lconst0 hx hb dX7_figure_2 (fun x2 e2 => ?_)
  refine lv_aload_n hx hb dX7_figure_3 rfl (lv_at hl 0 rfl) ?_
  refine gt_Model_st hx hb hts ic_Model hown hK hT g0 (hts _ mw_4_70) dX7_figure_4 (fun q4 hq4 => ?_)
  refine r_bipush hx hb dX7_figure_7 rfl (fun x7 e7 => ?_)
  refine al_40 hx hb hK hT hq4 (by omega) (by omega) dX7_figure_9 (fun x9 i9 e9 => ?_)
  have n9 := ix_nat (i := x7) (by omega)
  have f9 := b59_r31 (p40_e e9 (by omega)) (by omega)
  refine r_iconst hx hb dX7_figure_10 (by decide) (by decide) (fun x10 e10 => ?_)
  refine r_isub hx hb dX7_figure_11 (by omega) (by omega) (fun x11 e11 => ?_)
  refine r_i2l hx hb dX7_figure_12 (fun x12 e12 => ?_)
  refine cl_Si (rest := []) hC hK hSK (c_X7_in l z gh x1 x2 x12) k_X7_in mw_4_154 ⟨rfl, rfl, Nat.le_of_ble_eq_true rfl, Nat.le_of_ble_eq_true rfl⟩ hT rfl hl.1 rfl (Nat.le_of_ble_eq_true rfl) dX7_figure_13 ⟨Nat.zero_le _, Nat.zero_le _⟩ hS (fun _ h => h) (fun _ _ h => h) (fun r13 H locs hpo hS => ?_)
  obtain ⟨hT, u13_0, u13_1⟩ := hpo
  refine r_if_eq (tgt := 31) hx hb dX7_figure_16 (by decide) (fun c16 => ?_) (fun c16 => ?_)
  · refine r_iconst hx hb dX7_figure_31 (by decide) (by decide) (fun x31 e31 => ?_)
    exact rt_i hx hb hr hlk hS hT dX7_figure_32
  · refine lv_aload_n hx hb dX7_figure_19 rfl (lv_at hl 0 rfl) ?_
    refine gt_Model_st hx hb hts ic_Model hown hK hT g0 (hts _ mw_4_70) dX7_figure_20 (fun q20 hq20 => ?_)
    refine r_bipush hx hb dX7_figure_23 rfl (fun x23 e23 => ?_)
    refine lv_iload_n hx hb dX7_figure_25 rfl (lv_at hl 1 rfl) ?_
    refine r_iadd hx hb dX7_figure_26 (by omega) (by omega) (fun x26 e26 => ?_)
    refine al_40 hx hb hK hT hq20 (by omega) (by omega) dX7_figure_27 (fun x27 i27 e27 => ?_)
    have n27 := ix_nat (i := x26) (by omega)
    refine lv_goto (tgt := 32) hx hb dX7_figure_28 (by decide) ?_
    exact rt_i hx hb hr hlk hS hT dX7_figure_32
theorem k_X7_cousins : cBV yX7_cousins cX7_cousins 2 (some .int) 1 := ⟨mw_5_52, mw_5_53, mw_1_8, mw_5_54, ⟨by decide, by decide, by decide⟩⟩
set_option maxHeartbeats 4000000 in
set_option maxRecDepth 100000 in
theorem c_X7_cousins (l : Launch) (z : Zt) (gh : Gh) (h0 o0 : Nat) (g0 : zG z h0 = (17, o0)) (p1 : Int32) : Met l yX7_cousins (uw yX7_cousins cX7_cousins 2 (some .int)) (rmF 3 110) (PcW z [.ref h0, .int p1] (fun H => TY z (zA z) gh H)) (QcI z (fun r H => TY z (zA z) gh H)) 0 0 (zA z) := by
  refine Met.ofW (cc := cX7_cousins) (maxL := 2) (ret := (some .int)) (by decide) rfl ?_
  intro p e s m args below meth c s₁ B hml hv
  obtain ⟨rfl, hW, hK, hSK⟩ := hv
  have hx := B.exec
  have hb := B.bytes
  have hr := B.returns
  have hts : ∀ w ∈ lw_ok, w.before ([.ref h0, .int p1] : List Value).toArray s = true := fun w hw => atoms_spec (ws := uw yX7_cousins cX7_cousins 2 (some .int)) B.pre w (List.mem_cons_of_mem _ hw)
  have hown : s.vm.findClass RX7 = some m.cls := findClass_of_methodNamed B.named
  have hlk := B.notSynchronized
  have hC : CallFix p m c cX7_cousins 2 s ([.ref h0, .int p1] : List Value).toArray lw_ok RX7 := ⟨hx, hb, hml, hown, hts⟩
  have hS : va_S (zA z) s.heap s.heap [] := va_S.rf
  have hl := lv_entry ([.ref h0, .int p1]) (n := 2) (Nat.le_of_ble_eq_true rfl)
  rw [lg_entry_eq]
  generalize (lg_sl ([.ref h0, .int p1]) ++ List.replicate (2 - (lg_sl ([.ref h0, .int p1])).length) Slot.unset).toArray = ls at hl ⊢
  have hl : lv_has ls 2 [(0, .ref h0), (1, .int p1)] := hl
  show W p l e (rmF 3 110) s m ([.ref h0, .int p1] : List Value).toArray below meth c s.heap [] 0 0 (MQ below (QcI z (fun r H => TY z (zA z) gh H)) ([.ref h0, .int p1] : List Value).toArray s 0 0 (zA z)) (F0 m 0 ls [])
  have hT : TY z (zA z) gh s.heap := hW
  have mx_p1 := i_mx p1
  refine lv_aload_n hx hb dX7_cousins_0 rfl (lv_at hl 0 rfl) ?_
  refine lv_iload_n hx hb dX7_cousins_1 rfl (lv_at hl 1 rfl) ?_
  refine cl_Vi (rest := []) hC hK hSK (c_X7_isOne l z gh h0 (o0) g0 p1) k_X7_isOne mw_5_11 ⟨rfl, rfl, Nat.le_of_ble_eq_true rfl, Nat.le_of_ble_eq_true rfl⟩ (rv_Model hK hT g0) hT rfl hl.1 rfl (Nat.le_of_ble_eq_true rfl) dX7_cousins_2 ⟨Nat.zero_le _, Nat.zero_le _⟩ hS (fun _ h => h) (fun _ _ h => h) (fun r2 H locs hpo hS => ?_)
  obtain ⟨hT, u2_0, u2_1⟩ := hpo
  refine r_if_eq (tgt := 20) hx hb dX7_cousins_5 (by decide) (fun c5 => ?_) (fun c5 => ?_)
  · refine r_iconst hx hb dX7_cousins_20 (by decide) (by decide) (fun x20 e20 => ?_)
    exact rt_i hx hb hr hlk hS hT dX7_cousins_21
  · refine lv_aload_n hx hb dX7_cousins_8 rfl (lv_at hl 0 rfl) ?_
    refine gt_Model_st hx hb hts ic_Model hown hK hT g0 (hts _ mw_4_70) dX7_cousins_9 (fun q9 hq9 => ?_)
    refine r_bipush hx hb dX7_cousins_12 rfl (fun x12 e12 => ?_)
    refine lv_iload_n hx hb dX7_cousins_14 rfl (lv_at hl 1 rfl) ?_
    refine r_iadd hx hb dX7_cousins_15 (by omega) (by omega) (fun x15 e15 => ?_)
    refine al_40 hx hb hK hT hq9 (by omega) (by omega) dX7_cousins_16 (fun x16 i16 e16 => ?_)
    have n16 := ix_nat (i := x15) (by omega)
    refine lv_goto (tgt := 21) hx hb dX7_cousins_17 (by decide) ?_
    exact rt_i hx hb hr hlk hS hT dX7_cousins_21
theorem k_X7_fault : cBV yX7_fault cX7_fault 1 (some .int) 0 := ⟨mw_4_222, mw_4_223, mw_1_8, mw_4_224, ⟨by decide, by decide, by decide⟩⟩
set_option maxHeartbeats 4000000 in
set_option maxRecDepth 100000 in
theorem c_X7_fault (l : Launch) (z : Zt) (gh : Gh) (h0 o0 : Nat) (g0 : zG z h0 = (17, o0)) : Met l yX7_fault (uw yX7_fault cX7_fault 1 (some .int)) (rmF 1 64) (PcW z [.ref h0] (fun H => TY z (zA z) gh H)) (QcI z (fun r H => TY z (zA z) gh H)) 0 0 (zA z) := by
  refine Met.ofW (cc := cX7_fault) (maxL := 1) (ret := (some .int)) (by decide) rfl ?_
  intro p e s m args below meth c s₁ B hml hv
  obtain ⟨rfl, hW, hK, hSK⟩ := hv
  have hx := B.exec
  have hb := B.bytes
  have hr := B.returns
  have hts : ∀ w ∈ lw_ok, w.before ([.ref h0] : List Value).toArray s = true := fun w hw => atoms_spec (ws := uw yX7_fault cX7_fault 1 (some .int)) B.pre w (List.mem_cons_of_mem _ hw)
  have hown : s.vm.findClass RX7 = some m.cls := findClass_of_methodNamed B.named
  have hlk := B.notSynchronized
  have hC : CallFix p m c cX7_fault 1 s ([.ref h0] : List Value).toArray lw_ok RX7 := ⟨hx, hb, hml, hown, hts⟩
  have hS : va_S (zA z) s.heap s.heap [] := va_S.rf
  have hl := lv_entry ([.ref h0]) (n := 1) (Nat.le_of_ble_eq_true rfl)
  rw [lg_entry_eq]
  generalize (lg_sl ([.ref h0]) ++ List.replicate (1 - (lg_sl ([.ref h0])).length) Slot.unset).toArray = ls at hl ⊢
  have hl : lv_has ls 1 [(0, .ref h0)] := hl
  show W p l e (rmF 1 64) s m ([.ref h0] : List Value).toArray below meth c s.heap [] 0 0 (MQ below (QcI z (fun r H => TY z (zA z) gh H)) ([.ref h0] : List Value).toArray s 0 0 (zA z)) (F0 m 0 ls [])
  have hT : TY z (zA z) gh s.heap := hW
  refine lv_aload_n hx hb dX7_fault_0 rfl (lv_at hl 0 rfl) ?_
  refine gt_Model_fault hx hb hts ic_Model hown hK hT g0 (hts _ mw_4_85) dX7_fault_1 (fun x1 i1 e1 g1 => ?_)
  exact rt_i hx hb hr hlk hS hT dX7_fault_4
theorem k_X7_torn : cBV yX7_torn cX7_torn 1 (some .int) 0 := ⟨mw_6_17, mw_6_18, mw_1_8, mw_6_19, ⟨by decide, by decide, by decide⟩⟩
set_option maxHeartbeats 4000000 in
set_option maxRecDepth 100000 in
theorem c_X7_torn (l : Launch) (z : Zt) (gh : Gh) (h0 o0 : Nat) (g0 : zG z h0 = (17, o0)) : Met l yX7_torn (uw yX7_torn cX7_torn 1 (some .int)) (rmF 1 64) (PcW z [.ref h0] (fun H => TY z (zA z) gh H)) (QcI z (fun r H => TY z (zA z) gh H)) 0 0 (zA z) := by
  refine Met.ofW (cc := cX7_torn) (maxL := 1) (ret := (some .int)) (by decide) rfl ?_
  intro p e s m args below meth c s₁ B hml hv
  obtain ⟨rfl, hW, hK, hSK⟩ := hv
  have hx := B.exec
  have hb := B.bytes
  have hr := B.returns
  have hts : ∀ w ∈ lw_ok, w.before ([.ref h0] : List Value).toArray s = true := fun w hw => atoms_spec (ws := uw yX7_torn cX7_torn 1 (some .int)) B.pre w (List.mem_cons_of_mem _ hw)
  have hown : s.vm.findClass RX7 = some m.cls := findClass_of_methodNamed B.named
  have hlk := B.notSynchronized
  have hC : CallFix p m c cX7_torn 1 s ([.ref h0] : List Value).toArray lw_ok RX7 := ⟨hx, hb, hml, hown, hts⟩
  have hS : va_S (zA z) s.heap s.heap [] := va_S.rf
  have hl := lv_entry ([.ref h0]) (n := 1) (Nat.le_of_ble_eq_true rfl)
  rw [lg_entry_eq]
  generalize (lg_sl ([.ref h0]) ++ List.replicate (1 - (lg_sl ([.ref h0])).length) Slot.unset).toArray = ls at hl ⊢
  have hl : lv_has ls 1 [(0, .ref h0)] := hl
  show W p l e (rmF 1 64) s m ([.ref h0] : List Value).toArray below meth c s.heap [] 0 0 (MQ below (QcI z (fun r H => TY z (zA z) gh H)) ([.ref h0] : List Value).toArray s 0 0 (zA z)) (F0 m 0 ls [])
  have hT : TY z (zA z) gh s.heap := hW
  refine lv_aload_n hx hb dX7_torn_0 rfl (lv_at hl 0 rfl) ?_
  refine gt_Model_torn hx hb hts ic_Model hown hK hT g0 (hts _ mw_4_94) dX7_torn_1 (fun x1 => ?_)
  exact rt_i hx hb hr hlk hS hT dX7_torn_4
theorem k_X7_alter : cBV yX7_alter cX7_alter 4 (some .int) 3 := ⟨mw_5_56, mw_5_57, mw_1_8, mw_5_58, ⟨by decide, by decide, by decide⟩⟩
set_option maxHeartbeats 4000000 in
set_option maxRecDepth 100000 in
theorem c_X7_alter (l : Launch) (z : Zt) (gh : Gh) (h0 o0 : Nat) (g0 : zG z h0 = (17, o0)) (p1 : Int32) (p2 : Int32) (p3 : Int32) : Met l yX7_alter (uw yX7_alter cX7_alter 4 (some .int)) (rmF 3 110) (PcW z [.ref h0, .int p1, .int p2, .int p3] (fun H => TY z (zA z) gh H)) (QcI z (fun r H => ∃ gk : Gh, eqv gk gh ∧ TY z (zA z) gk H)) 0 0 (zA z) := by
  refine Met.ofW (cc := cX7_alter) (maxL := 4) (ret := (some .int)) (by decide) rfl ?_
  intro p e s m args below meth c s₁ B hml hv
  obtain ⟨rfl, hW, hK, hSK⟩ := hv
  have hx := B.exec
  have hb := B.bytes
  have hr := B.returns
  have hts : ∀ w ∈ lw_ok, w.before ([.ref h0, .int p1, .int p2, .int p3] : List Value).toArray s = true := fun w hw => atoms_spec (ws := uw yX7_alter cX7_alter 4 (some .int)) B.pre w (List.mem_cons_of_mem _ hw)
  have hown : s.vm.findClass RX7 = some m.cls := findClass_of_methodNamed B.named
  have hlk := B.notSynchronized
  have hC : CallFix p m c cX7_alter 4 s ([.ref h0, .int p1, .int p2, .int p3] : List Value).toArray lw_ok RX7 := ⟨hx, hb, hml, hown, hts⟩
  have hS : va_S (zA z) s.heap s.heap [] := va_S.rf
  have hl := lv_entry ([.ref h0, .int p1, .int p2, .int p3]) (n := 4) (Nat.le_of_ble_eq_true rfl)
  rw [lg_entry_eq]
  generalize (lg_sl ([.ref h0, .int p1, .int p2, .int p3]) ++ List.replicate (4 - (lg_sl ([.ref h0, .int p1, .int p2, .int p3])).length) Slot.unset).toArray = ls at hl ⊢
  have hl : lv_has ls 4 [(0, .ref h0), (1, .int p1), (2, .int p2), (3, .int p3)] := hl
  show W p l e (rmF 3 110) s m ([.ref h0, .int p1, .int p2, .int p3] : List Value).toArray below meth c s.heap [] 0 0 (MQ below (QcI z (fun r H => ∃ gk : Gh, eqv gk gh ∧ TY z (zA z) gk H)) ([.ref h0, .int p1, .int p2, .int p3] : List Value).toArray s 0 0 (zA z)) (F0 m 0 ls [])
  have hT : TY z (zA z) gh s.heap := hW
  have hg1 : eqv gh gh := eqv_rf gh
  have mx_p1 := i_mx p1
  have mx_p2 := i_mx p2
  have mx_p3 := i_mx p3
  refine lv_aload_n hx hb dX7_alter_0 rfl (lv_at hl 0 rfl) ?_
  refine lv_iload_n hx hb dX7_alter_1 rfl (lv_at hl 1 rfl) ?_
  refine cl_Vi (rest := []) hC hK hSK (c_X7_isOne l z gh h0 (o0) g0 p1) k_X7_isOne mw_5_11 ⟨rfl, rfl, Nat.le_of_ble_eq_true rfl, Nat.le_of_ble_eq_true rfl⟩ (rv_Model hK hT g0) hT rfl hl.1 rfl (Nat.le_of_ble_eq_true rfl) dX7_alter_2 ⟨Nat.zero_le _, Nat.zero_le _⟩ hS (fun _ h => h) (fun _ _ h => h) (fun r2 H locs hpo hS => ?_)
  obtain ⟨hT, u2_0, u2_1⟩ := hpo
  have J55 : ∀ (ls : Array Slot) (H : Heap) (locs : List Loc) (gk : Gh), eqv gk gh → TY z (zA z) gk H → va_S (zA z) s.heap H locs → lv_has ls 4 [(0, .ref h0), (1, .int p1), (2, .int p2), (3, .int p3)] → W p l e (rmF 3 110) s m ([.ref h0, .int p1, .int p2, .int p3] : List Value).toArray below meth c H locs 0 0 (MQ below (QcI z (fun r H => ∃ gk : Gh, eqv gk gh ∧ TY z (zA z) gk H)) ([.ref h0, .int p1, .int p2, .int p3] : List Value).toArray s 0 0 (zA z)) (F0 m 55 ls []) := by
    intro ls H locs gk hg1 hT hS hl
    refine r_iconst hx hb dX7_alter_55 (by decide) (by decide) (fun x55 e55 => ?_)
    exact rt_i hx hb hr hlk hS ⟨_, hg1, hT⟩ dX7_alter_56
  refine r_if_eq (tgt := 55) hx hb dX7_alter_5 (by decide) (fun c5 => ?_) (fun c5 => ?_)
  · exact J55 ls _ _ _ hg1 hT hS (lv_sub hl [0, 1, 2, 3] rfl)
  · refine lv_iload_n hx hb dX7_alter_8 rfl (lv_at hl 2 rfl) ?_
    refine r_i2l hx hb dX7_alter_9 (fun x9 e9 => ?_)
    refine r_lconst0 hx hb dX7_alter_10 (fun x10 e10 => ?_)
    refine r_ldc2 (3) rfl hx hb hts hown mw_5_59 dX7_alter_11 (fun x11 e11 => ?_)
    refine cl_Si (rest := []) hC hK hSK (c_X7_in l z gh x9 x10 x11) k_X7_in mw_4_154 ⟨rfl, rfl, Nat.le_of_ble_eq_true rfl, Nat.le_of_ble_eq_true rfl⟩ hT rfl hl.1 rfl (Nat.le_of_ble_eq_true rfl) dX7_alter_14 ⟨Nat.zero_le _, Nat.zero_le _⟩ hS (fun _ h => h) (fun _ _ h => h) (fun r14 H locs hpo hS => ?_)
    obtain ⟨hT, u14_0, u14_1⟩ := hpo
    refine r_if_eq (tgt := 55) hx hb dX7_alter_17 (by decide) (fun c17 => ?_) (fun c17 => ?_)
    · exact J55 ls _ _ _ hg1 hT hS (lv_sub hl [0, 1, 2, 3] rfl)
    · refine lv_iload_n hx hb dX7_alter_20 rfl (lv_at hl 3 rfl) ?_
      refine r_i2l hx hb dX7_alter_21 (fun x21 e21 => ?_)
      refine r_lconst0 hx hb dX7_alter_22 (fun x22 e22 => ?_)
      refine lv_iload_n hx hb dX7_alter_23 rfl (lv_at hl 2 rfl) ?_
      have J36 : ∀ (ls : Array Slot) (H : Heap) (locs : List Loc) (t36_2 : Int64) (gk : Gh), (t36_2.toInt ≤ 9) → eqv gk gh → TY z (zA z) gk H → va_S (zA z) s.heap H locs → lv_has ls 4 [(0, .ref h0), (1, .int p1), (2, .int p2), (3, .int p3)] → W p l e (rmF 3 110) s m ([.ref h0, .int p1, .int p2, .int p3] : List Value).toArray below meth c H locs 0 0 (MQ below (QcI z (fun r H => ∃ gk : Gh, eqv gk gh ∧ TY z (zA z) gk H)) ([.ref h0, .int p1, .int p2, .int p3] : List Value).toArray s 0 0 (zA z)) (F0 m 36 ls [.long t36_2, .long x22, .long x21]) := by
        intro ls H locs t36_2 gk ex36_0 hg1 hT hS hl
        refine cl_Si (rest := []) hC hK hSK (c_X7_in l z gk x21 x22 t36_2) k_X7_in mw_4_154 ⟨rfl, rfl, Nat.le_of_ble_eq_true rfl, Nat.le_of_ble_eq_true rfl⟩ hT rfl hl.1 rfl (Nat.le_of_ble_eq_true rfl) dX7_alter_36 ⟨Nat.zero_le _, Nat.zero_le _⟩ hS (fun _ h => h) (fun _ _ h => h) (fun r36 H locs hpo hS => ?_)
        obtain ⟨hT, u36_0, u36_1⟩ := hpo
        refine r_if_eq (tgt := 55) hx hb dX7_alter_39 (by decide) (fun c39 => ?_) (fun c39 => ?_)
        · exact J55 ls _ _ _ hg1 hT hS (lv_sub hl [0, 1, 2, 3] rfl)
        · refine lv_aload_n hx hb dX7_alter_42 rfl (lv_at hl 0 rfl) ?_
          refine r_iconst hx hb dX7_alter_43 (by decide) (by decide) (fun x43 e43 => ?_)
          refine lv_iload_n hx hb dX7_alter_44 rfl (lv_at hl 1 rfl) ?_
          refine r_imulL (4) (by omega) hx hb dX7_alter_45 (by omega) (by omega) (fun x45 e45 => ?_)
          refine lv_iload_n hx hb dX7_alter_46 rfl (lv_at hl 2 rfl) ?_
          refine r_iadd hx hb dX7_alter_47 (by omega) (by omega) (fun x47 e47 => ?_)
          refine lv_iload_n hx hb dX7_alter_48 rfl (lv_at hl 3 rfl) ?_
          refine cl_Vi (rest := []) hC hK hSK (c_X7_becomes l z gk h0 (o0) g0 x47 p3 (by omega)  (by have n0 := ix_nat (i := x47) (by omega); exact p40_m (by omega) (b59_m19 (by omega) ⟨by omega, by omega⟩))) k_X7_becomes mw_5_61 ⟨rfl, rfl, Nat.le_of_ble_eq_true rfl, Nat.le_of_ble_eq_true rfl⟩ (rv_Model hK hT g0) hT rfl hl.1 rfl (Nat.le_of_ble_eq_true rfl) dX7_alter_49 ⟨Nat.zero_le _, Nat.zero_le _⟩ hS (fun _ h => h) (fun _ _ h => h) (fun r49 H locs hpo hS => ?_)
          obtain ⟨gk49, hz49, hT, u49_0⟩ := hpo
          have hg1 := eqv_tr hz49 hg1
          refine lv_goto (tgt := 56) hx hb dX7_alter_52 (by decide) ?_
          exact rt_i hx hb hr hlk hS ⟨_, hg1, hT⟩ dX7_alter_56
      refine r_if_ne (tgt := 33) hx hb dX7_alter_24 (by decide) (fun c24 => ?_) (fun c24 => ?_)
      · refine r_ldc2 (9) rfl hx hb hts hown mw_5_60 dX7_alter_33 (fun x33 e33 => ?_)
        exact J36 ls _ _ x33 _ (by omega) hg1 hT hS (lv_sub hl [0, 1, 2, 3] rfl)
      · refine r_ldc2 (3) rfl hx hb hts hown mw_5_59 dX7_alter_27 (fun x27 e27 => ?_)
        refine lv_goto (tgt := 36) hx hb dX7_alter_30 (by decide) ?_
        exact J36 ls _ _ x27 _ (by omega) hg1 hT hS (lv_sub hl [0, 1, 2, 3] rfl)
theorem k_X7_swap : cBV yX7_swap cX7_swap 3 (some .int) 2 := ⟨mw_5_66, mw_5_67, mw_1_8, mw_5_68, ⟨by decide, by decide, by decide⟩⟩
set_option maxHeartbeats 4000000 in
set_option maxRecDepth 100000 in
theorem c_X7_swap (l : Launch) (z : Zt) (v : Nat → Nat → Int) (h0 o0 : Nat) (g0 : zG z h0 = (17, o0)) (p1 : Int32) (p2 : Int32) : Met l yX7_swap (uw yX7_swap cX7_swap 3 (some .int)) (rmF 3 110) (PcW z [.ref h0, .int p1, .int p2] (fun H => WX z v H)) (QcI z (fun r H => WX z v H)) 0 0 (zA z) := by
  refine Met.ofW (cc := cX7_swap) (maxL := 3) (ret := (some .int)) (by decide) rfl ?_
  intro p e s m args below meth c s₁ B hml hv
  obtain ⟨rfl, hW, hK, hSK⟩ := hv
  have hx := B.exec
  have hb := B.bytes
  have hr := B.returns
  have hts : ∀ w ∈ lw_ok, w.before ([.ref h0, .int p1, .int p2] : List Value).toArray s = true := fun w hw => atoms_spec (ws := uw yX7_swap cX7_swap 3 (some .int)) B.pre w (List.mem_cons_of_mem _ hw)
  have hown : s.vm.findClass RX7 = some m.cls := findClass_of_methodNamed B.named
  have hlk := B.notSynchronized
  have hC : CallFix p m c cX7_swap 3 s ([.ref h0, .int p1, .int p2] : List Value).toArray lw_ok RX7 := ⟨hx, hb, hml, hown, hts⟩
  have hS : va_S (zA z) s.heap s.heap [] := va_S.rf
  have hl := lv_entry ([.ref h0, .int p1, .int p2]) (n := 3) (Nat.le_of_ble_eq_true rfl)
  rw [lg_entry_eq]
  generalize (lg_sl ([.ref h0, .int p1, .int p2]) ++ List.replicate (3 - (lg_sl ([.ref h0, .int p1, .int p2])).length) Slot.unset).toArray = ls at hl ⊢
  have hl : lv_has ls 3 [(0, .ref h0), (1, .int p1), (2, .int p2)] := hl
  show W p l e (rmF 3 110) s m ([.ref h0, .int p1, .int p2] : List Value).toArray below meth c s.heap [] 0 0 (MQ below (QcI z (fun r H => WX z v H)) ([.ref h0, .int p1, .int p2] : List Value).toArray s 0 0 (zA z)) (F0 m 0 ls [])
  obtain ⟨gh, hwf, hvis, hT⟩ := hW
  obtain ⟨wa, wb, wc, wd, we, wg⟩ := hwf.2.1 h0 _ g0
  have mx_p1 := i_mx p1
  have mx_p2 := i_mx p2
  refine lv_aload_n hx hb dX7_swap_0 rfl (lv_at hl 0 rfl) ?_
  refine lv_iload_n hx hb dX7_swap_1 rfl (lv_at hl 1 rfl) ?_
  refine cl_Vi (rest := []) hC hK hSK (c_X7_isOne l z gh h0 (o0) g0 p1) k_X7_isOne mw_5_11 ⟨rfl, rfl, Nat.le_of_ble_eq_true rfl, Nat.le_of_ble_eq_true rfl⟩ (rv_Model hK hT g0) hT rfl hl.1 rfl (Nat.le_of_ble_eq_true rfl) dX7_swap_2 ⟨Nat.zero_le _, Nat.zero_le _⟩ hS (fun _ h => h) (fun _ _ h => h) (fun r2 H locs hpo hS => ?_)
  obtain ⟨hT, u2_0, u2_1⟩ := hpo
  refine r_if_eq (tgt := 21) hx hb dX7_swap_5 (by decide) (fun c5 => ?_) (fun c5 => ?_)
  · refine r_iconst hx hb dX7_swap_21 (by decide) (by decide) (fun x21 e21 => ?_)
    exact rt_i hx hb hr hlk hS ⟨_, hwf, hvis, hT⟩ dX7_swap_22
  · refine lv_aload_n hx hb dX7_swap_8 rfl (lv_at hl 0 rfl) ?_
    refine lv_iload_n hx hb dX7_swap_9 rfl (lv_at hl 2 rfl) ?_
    refine cl_Vi (rest := []) hC hK hSK (c_X7_isOne l z gh h0 (o0) g0 p2) k_X7_isOne mw_5_11 ⟨rfl, rfl, Nat.le_of_ble_eq_true rfl, Nat.le_of_ble_eq_true rfl⟩ (rv_Model hK hT g0) hT rfl hl.1 rfl (Nat.le_of_ble_eq_true rfl) dX7_swap_10 ⟨Nat.zero_le _, Nat.zero_le _⟩ hS (fun _ h => h) (fun _ _ h => h) (fun r10 H locs hpo hS => ?_)
    obtain ⟨hT, u10_0, u10_1⟩ := hpo
    refine r_if_eq (tgt := 21) hx hb dX7_swap_13 (by decide) (fun c13 => ?_) (fun c13 => ?_)
    · refine r_iconst hx hb dX7_swap_21 (by decide) (by decide) (fun x21 e21 => ?_)
      exact rt_i hx hb hr hlk hS ⟨_, hwf, hvis, hT⟩ dX7_swap_22
    · refine lv_iload_n hx hb dX7_swap_16 rfl (lv_at hl 1 rfl) ?_
      refine lv_iload_n hx hb dX7_swap_17 rfl (lv_at hl 2 rfl) ?_
      refine r_icmp_ne (tgt := 23) hx hb dX7_swap_18 (by decide) (fun c18 => ?_) (fun c18 => ?_)
      · refine lv_aload_n hx hb dX7_swap_23 rfl (lv_at hl 0 rfl) ?_
        refine gt_Model_st hx hb hts ic_Model hown hK hT g0 (hts _ mw_4_70) dX7_swap_24 (fun q24 hq24 => ?_)
        refine r_bipush hx hb dX7_swap_27 rfl (fun x27 e27 => ?_)
        refine lv_iload_n hx hb dX7_swap_29 rfl (lv_at hl 2 rfl) ?_
        refine r_iadd hx hb dX7_swap_30 (by omega) (by omega) (fun x30 e30 => ?_)
        refine lv_aload_n hx hb dX7_swap_31 rfl (lv_at hl 0 rfl) ?_
        refine r_bipush hx hb dX7_swap_32 rfl (fun x32 e32 => ?_)
        refine lv_iload_n hx hb dX7_swap_34 rfl (lv_at hl 1 rfl) ?_
        refine r_iadd hx hb dX7_swap_35 (by omega) (by omega) (fun x35 e35 => ?_)
        refine lv_aload_n hx hb dX7_swap_36 rfl (lv_at hl 0 rfl) ?_
        refine gt_Model_st hx hb hts ic_Model hown hK hT g0 (hts _ mw_4_70) dX7_swap_37 (fun q37 hq37 => ?_)
        refine r_bipush hx hb dX7_swap_40 rfl (fun x40 e40 => ?_)
        refine lv_iload_n hx hb dX7_swap_42 rfl (lv_at hl 2 rfl) ?_
        refine r_iadd hx hb dX7_swap_43 (by omega) (by omega) (fun x43 e43 => ?_)
        refine al_40 hx hb hK hT hq37 (by omega) (by omega) dX7_swap_44 (fun x44 i44 e44 => ?_)
        have n44 := ix_nat (i := x43) (by omega)
        have f44 := b59_r20 (p40_e e44 (by omega)) (by omega) (by omega)
        refine cl_Vi (rest := [.int x30, .ref q24]) hC hK hSK (c_X7_becomes l z gh h0 (o0) g0 x35 x44 (by omega)  (by have n0 := ix_nat (i := x35) (by omega); exact p40_m (by omega) (b59_m20 (by omega) (by omega) ⟨by omega, by omega⟩ (by omega)))) k_X7_becomes mw_5_61 ⟨rfl, rfl, Nat.le_of_ble_eq_true rfl, Nat.le_of_ble_eq_true rfl⟩ (rv_Model hK hT g0) hT rfl hl.1 rfl (Nat.le_of_ble_eq_true rfl) dX7_swap_45 ⟨Nat.zero_le _, Nat.zero_le _⟩ hS (fun _ h => h) (fun _ _ h => h) (fun r45 H locs hpo hS => ?_)
        obtain ⟨gh45, hz45, hT, u45_0⟩ := hpo
        have rr45_0 := hz45 h0 41 rfl
        have rr45_1 := hz45 h0 42 rfl
        have rr45_2 := hz45 h0 43 rfl
        have rr45_3 := hz45 h0 46 rfl
        have rr45_4 := hz45 h0 47 rfl
        have hwf := wf_of hz45 hwf
        have hvis := vis_of hz45 hvis
        have r41_45 := hz45 h0 41 rfl
        have n45 := ix_nat (i := x35) (by omega)
        have f45 := b59_r20 (p40_e u45_0 (by omega)) (by omega) (by omega)
        refine as_40 hx hb hK hT hS hq24 (by omega) (by omega) (by have n0 := ix_nat (i := x30) (by omega); exact p40_m (by omega) (b59_m20 (by omega) (by omega) ⟨by omega, by omega⟩ (by omega))) dX7_swap_48 (fun H locs hT hS => ?_)
        obtain ⟨gh48, w48, hq48, hwf, hvis, hT⟩ : ∃ g : Gh, g.2 = (gc gh45 q24 (upd (gh45.2 q24) x30.toNatClampNeg r45)).2 ∧ g.1 = gh45.1 ∧ wf z g ∧ vis z g v ∧ TY z (zA z) g H := ⟨_, rfl, rfl, wf_of (eqv_gc (eqv_rf _)) hwf, vis_of (eqv_gc (eqv_rf _)) hvis, hT⟩
        refine lv_aload_n hx hb dX7_swap_49 rfl (lv_at hl 0 rfl) ?_
        refine gt_Model_st hx hb hts ic_Model hown hK hT g0 (hts _ mw_4_70) dX7_swap_50 (fun q50 hq50 => ?_)
        refine r_bipush hx hb dX7_swap_53 rfl (fun x53 e53 => ?_)
        refine lv_iload_n hx hb dX7_swap_55 rfl (lv_at hl 1 rfl) ?_
        refine r_iadd hx hb dX7_swap_56 (by omega) (by omega) (fun x56 e56 => ?_)
        refine al_40 hx hb hK hT hq50 (by omega) (by omega) dX7_swap_57 (fun x57 i57 e57 => ?_)
        have n57 := ix_nat (i := x56) (by omega)
        have f57 := b59_r20 (p40_e e57 (by omega)) (by omega) (by omega)
        exact rt_i hx hb hr hlk hS ⟨_, hwf, hvis, hT⟩ dX7_swap_58
      · refine r_iconst hx hb dX7_swap_21 (by decide) (by decide) (fun x21 e21 => ?_)
        exact rt_i hx hb hr hlk hS ⟨_, hwf, hvis, hT⟩ dX7_swap_22
theorem k_X7_kin : cBV yX7_kin cX7_kin 5 (some .int) 3 := ⟨mw_5_70, mw_5_71, mw_1_8, mw_5_72, ⟨by decide, by decide, by decide⟩⟩
set_option maxHeartbeats 4000000 in
set_option maxRecDepth 100000 in
theorem c_X7_kin (l : Launch) (z : Zt) (gh : Gh) (h0 o0 : Nat) (g0 : zG z h0 = (17, o0)) (p1 : Int32) (p2 : Int32) (p3 : Int32) (bp3 : 0 ≤ p3.toInt ∧ p3.toInt ≤ 1) : Met l yX7_kin (uw yX7_kin cX7_kin 5 (some .int)) (rmF 3 110) (PcW z [.ref h0, .int p1, .int p2, .int p3] (fun H => TY z (zA z) gh H)) (QcI z (fun r H => ∃ gk : Gh, eqv gk gh ∧ TY z (zA z) gk H)) 0 0 (zA z) := by
  refine Met.ofW (cc := cX7_kin) (maxL := 5) (ret := (some .int)) (by decide) rfl ?_
  intro p e s m args below meth c s₁ B hml hv
  obtain ⟨rfl, hW, hK, hSK⟩ := hv
  have hx := B.exec
  have hb := B.bytes
  have hr := B.returns
  have hts : ∀ w ∈ lw_ok, w.before ([.ref h0, .int p1, .int p2, .int p3] : List Value).toArray s = true := fun w hw => atoms_spec (ws := uw yX7_kin cX7_kin 5 (some .int)) B.pre w (List.mem_cons_of_mem _ hw)
  have hown : s.vm.findClass RX7 = some m.cls := findClass_of_methodNamed B.named
  have hlk := B.notSynchronized
  have hC : CallFix p m c cX7_kin 5 s ([.ref h0, .int p1, .int p2, .int p3] : List Value).toArray lw_ok RX7 := ⟨hx, hb, hml, hown, hts⟩
  have hS : va_S (zA z) s.heap s.heap [] := va_S.rf
  have hl := lv_entry ([.ref h0, .int p1, .int p2, .int p3]) (n := 5) (Nat.le_of_ble_eq_true rfl)
  rw [lg_entry_eq]
  generalize (lg_sl ([.ref h0, .int p1, .int p2, .int p3]) ++ List.replicate (5 - (lg_sl ([.ref h0, .int p1, .int p2, .int p3])).length) Slot.unset).toArray = ls at hl ⊢
  have hl : lv_has ls 5 [(0, .ref h0), (1, .int p1), (2, .int p2), (3, .int p3)] := hl
  show W p l e (rmF 3 110) s m ([.ref h0, .int p1, .int p2, .int p3] : List Value).toArray below meth c s.heap [] 0 0 (MQ below (QcI z (fun r H => ∃ gk : Gh, eqv gk gh ∧ TY z (zA z) gk H)) ([.ref h0, .int p1, .int p2, .int p3] : List Value).toArray s 0 0 (zA z)) (F0 m 0 ls [])
  have hT : TY z (zA z) gh s.heap := hW
  have hg1 : eqv gh gh := eqv_rf gh
  have mx_p1 := i_mx p1
  have mx_p2 := i_mx p2
  refine lv_aload_n hx hb dX7_kin_0 rfl (lv_at hl 0 rfl) ?_
  refine lv_iload_n hx hb dX7_kin_1 rfl (lv_at hl 1 rfl) ?_
  refine cl_Vi (rest := []) hC hK hSK (c_X7_isOne l z gh h0 (o0) g0 p1) k_X7_isOne mw_5_11 ⟨rfl, rfl, Nat.le_of_ble_eq_true rfl, Nat.le_of_ble_eq_true rfl⟩ (rv_Model hK hT g0) hT rfl hl.1 rfl (Nat.le_of_ble_eq_true rfl) dX7_kin_2 ⟨Nat.zero_le _, Nat.zero_le _⟩ hS (fun _ h => h) (fun _ _ h => h) (fun r2 H locs hpo hS => ?_)
  obtain ⟨hT, u2_0, u2_1⟩ := hpo
  refine r_if_eq (tgt := 16) hx hb dX7_kin_5 (by decide) (fun c5 => ?_) (fun c5 => ?_)
  · refine r_iconst hx hb dX7_kin_16 (by decide) (by decide) (fun x16 e16 => ?_)
    exact rt_i hx hb hr hlk hS ⟨_, hg1, hT⟩ dX7_kin_17
  · refine lv_aload_n hx hb dX7_kin_8 rfl (lv_at hl 0 rfl) ?_
    refine lv_iload_n hx hb dX7_kin_9 rfl (lv_at hl 2 rfl) ?_
    refine cl_Vi (rest := []) hC hK hSK (c_X7_isOne l z gh h0 (o0) g0 p2) k_X7_isOne mw_5_11 ⟨rfl, rfl, Nat.le_of_ble_eq_true rfl, Nat.le_of_ble_eq_true rfl⟩ (rv_Model hK hT g0) hT rfl hl.1 rfl (Nat.le_of_ble_eq_true rfl) dX7_kin_10 ⟨Nat.zero_le _, Nat.zero_le _⟩ hS (fun _ h => h) (fun _ _ h => h) (fun r10 H locs hpo hS => ?_)
    obtain ⟨hT, u10_0, u10_1⟩ := hpo
    refine r_if_ne (tgt := 18) hx hb dX7_kin_13 (by decide) (fun c13 => ?_) (fun c13 => ?_)
    · refine lv_aload_n hx hb dX7_kin_18 rfl (lv_at hl 0 rfl) ?_
      refine gt_Model_st hx hb hts ic_Model hown hK hT g0 (hts _ mw_4_70) dX7_kin_19 (fun q19 hq19 => ?_)
      refine r_bipush hx hb dX7_kin_22 rfl (fun x22 e22 => ?_)
      refine lv_iload_n hx hb dX7_kin_24 rfl (lv_at hl 1 rfl) ?_
      refine r_iadd hx hb dX7_kin_25 (by omega) (by omega) (fun x25 e25 => ?_)
      refine al_40 hx hb hK hT hq19 (by omega) (by omega) dX7_kin_26 (fun x26 i26 e26 => ?_)
      have n26 := ix_nat (i := x25) (by omega)
      refine lv_iload_n hx hb dX7_kin_27 rfl (lv_at hl 2 rfl) ?_
      refine w_ishr hx hb dX7_kin_28 (fun x28 => ?_)
      refine r_iconst hx hb dX7_kin_29 (by decide) (by decide) (fun x29 e29 => ?_)
      refine w_iand hx hb dX7_kin_30 (fun x30 => ?_)
      refine lv_istore (lv' := [(4, .int x30), (0, .ref h0), (1, .int p1), (2, .int p2), (3, .int p3)]) hx hb dX7_kin_31 hl (by decide) rfl (fun ls hl => ?_)
      refine lv_iload_n hx hb dX7_kin_33 rfl (lv_at hl 4 rfl) ?_
      have J54 : ∀ (ls : Array Slot) (H : Heap) (locs : List Loc) (gk : Gh), eqv gk gh → TY z (zA z) gk H → va_S (zA z) s.heap H locs → lv_has ls 5 [(0, .ref h0), (1, .int p1), (2, .int p2), (3, .int p3), (4, .int x30)] → W p l e (rmF 3 110) s m ([.ref h0, .int p1, .int p2, .int p3] : List Value).toArray below meth c H locs 0 0 (MQ below (QcI z (fun r H => ∃ gk : Gh, eqv gk gh ∧ TY z (zA z) gk H)) ([.ref h0, .int p1, .int p2, .int p3] : List Value).toArray s 0 0 (zA z)) (F0 m 54 ls []) := by
        intro ls H locs gk hg1 hT hS hl
        refine lv_aload_n hx hb dX7_kin_54 rfl (lv_at hl 0 rfl) ?_
        refine gt_Model_st hx hb hts ic_Model hown hK hT g0 (hts _ mw_4_70) dX7_kin_55 (fun q55 hq55 => ?_)
        refine r_bipush hx hb dX7_kin_58 rfl (fun x58 e58 => ?_)
        refine lv_iload_n hx hb dX7_kin_60 rfl (lv_at hl 1 rfl) ?_
        refine r_iadd hx hb dX7_kin_61 (by omega) (by omega) (fun x61 e61 => ?_)
        refine lv_iload_n hx hb dX7_kin_62 rfl (lv_at hl 3 rfl) ?_
        refine r_if_eq (tgt := 82) hx hb dX7_kin_63 (by decide) (fun c63 => ?_) (fun c63 => ?_)
        · refine lv_aload_n hx hb dX7_kin_82 rfl (lv_at hl 0 rfl) ?_
          refine gt_Model_st hx hb hts ic_Model hown hK hT g0 (hts _ mw_4_70) dX7_kin_83 (fun q83 hq83 => ?_)
          refine r_bipush hx hb dX7_kin_86 rfl (fun x86 e86 => ?_)
          refine lv_iload_n hx hb dX7_kin_88 rfl (lv_at hl 1 rfl) ?_
          refine r_iadd hx hb dX7_kin_89 (by omega) (by omega) (fun x89 e89 => ?_)
          refine al_40 hx hb hK hT hq83 (by omega) (by omega) dX7_kin_90 (fun x90 i90 e90 => ?_)
          have n90 := ix_nat (i := x89) (by omega)
          refine r_iconst hx hb dX7_kin_91 (by decide) (by decide) (fun x91 e91 => ?_)
          refine lv_iload_n hx hb dX7_kin_92 rfl (lv_at hl 2 rfl) ?_
          refine r_shl1 hx hb dX7_kin_93 (by omega) (by omega) (by omega) (fun x93 e93 g93 k93 => ?_)
          refine r_iconst hx hb dX7_kin_94 (by decide) (by decide) (fun x94 e94 => ?_)
          refine w_ixor hx hb dX7_kin_95 (fun x95 => ?_)
          refine w_iand hx hb dX7_kin_96 (fun x96 => ?_)
          refine as_40 hx hb hK hT hS hq55 (by omega) (by omega) (by have n0 := ix_nat (i := x61) (by omega); exact p40_m (by omega) (b59_mf (by omega))) dX7_kin_97 (fun H locs hT hS => ?_)
          obtain ⟨gk97, w97, hq97, hg1, hT⟩ : ∃ g : Gh, g.2 = (gc gk q55 (upd (gk.2 q55) x61.toNatClampNeg x96)).2 ∧ g.1 = gk.1 ∧ eqv g gh ∧ TY z (zA z) g H := ⟨_, rfl, rfl, eqv_gc hg1, hT⟩
          refine lv_iload hx hb dX7_kin_98 (lv_at hl 4 rfl) ?_
          exact rt_i hx hb hr hlk hS ⟨_, hg1, hT⟩ dX7_kin_100
        · refine lv_aload_n hx hb dX7_kin_66 rfl (lv_at hl 0 rfl) ?_
          refine gt_Model_st hx hb hts ic_Model hown hK hT g0 (hts _ mw_4_70) dX7_kin_67 (fun q67 hq67 => ?_)
          refine r_bipush hx hb dX7_kin_70 rfl (fun x70 e70 => ?_)
          refine lv_iload_n hx hb dX7_kin_72 rfl (lv_at hl 1 rfl) ?_
          refine r_iadd hx hb dX7_kin_73 (by omega) (by omega) (fun x73 e73 => ?_)
          refine al_40 hx hb hK hT hq67 (by omega) (by omega) dX7_kin_74 (fun x74 i74 e74 => ?_)
          have n74 := ix_nat (i := x73) (by omega)
          refine r_iconst hx hb dX7_kin_75 (by decide) (by decide) (fun x75 e75 => ?_)
          refine lv_iload_n hx hb dX7_kin_76 rfl (lv_at hl 2 rfl) ?_
          refine r_shl1 hx hb dX7_kin_77 (by omega) (by omega) (by omega) (fun x77 e77 g77 k77 => ?_)
          refine w_ior hx hb dX7_kin_78 (fun x78 => ?_)
          refine lv_goto (tgt := 97) hx hb dX7_kin_79 (by decide) ?_
          refine as_40 hx hb hK hT hS hq55 (by omega) (by omega) (by have n0 := ix_nat (i := x61) (by omega); exact p40_m (by omega) (b59_mf (by omega))) dX7_kin_97 (fun H locs hT hS => ?_)
          obtain ⟨gk97, w97, hq97, hg1, hT⟩ : ∃ g : Gh, g.2 = (gc gk q55 (upd (gk.2 q55) x61.toNatClampNeg x78)).2 ∧ g.1 = gk.1 ∧ eqv g gh ∧ TY z (zA z) g H := ⟨_, rfl, rfl, eqv_gc hg1, hT⟩
          refine lv_iload hx hb dX7_kin_98 (lv_at hl 4 rfl) ?_
          exact rt_i hx hb hr hlk hS ⟨_, hg1, hT⟩ dX7_kin_100
      refine r_if_eq (tgt := 54) hx hb dX7_kin_34 (by decide) (fun c34 => ?_) (fun c34 => ?_)
      · exact J54 ls _ _ _ hg1 hT hS (lv_sub hl [1, 2, 3, 4, 0] rfl)
      · refine lv_iload hx hb dX7_kin_37 (lv_at hl 0 rfl) ?_
        refine r_if_ne (tgt := 54) hx hb dX7_kin_39 (by decide) (fun c39 => ?_) (fun c39 => ?_)
        · exact J54 ls _ _ _ hg1 hT hS (lv_sub hl [1, 2, 3, 4, 0] rfl)
        · refine lv_aload_n hx hb dX7_kin_42 rfl (lv_at hl 1 rfl) ?_
          refine cl_Vi (rest := []) hC hK hSK (c_X7_kinMany l z gh h0 (o0) g0) k_X7_kinMany mw_4_233 ⟨rfl, rfl, Nat.le_of_ble_eq_true rfl, Nat.le_of_ble_eq_true rfl⟩ (rv_Model hK hT g0) hT rfl hl.1 rfl (Nat.le_of_ble_eq_true rfl) dX7_kin_43 ⟨Nat.zero_le _, Nat.zero_le _⟩ hS (fun _ h => h) (fun _ _ h => h) (fun r43 H locs hpo hS => ?_)
          have hT := hpo
          refine r_bipush hx hb dX7_kin_46 rfl (fun x46 e46 => ?_)
          refine r_icmp_ne (tgt := 54) hx hb dX7_kin_48 (by decide) (fun c48 => ?_) (fun c48 => ?_)
          · exact J54 ls _ _ _ hg1 hT hS (lv_sub hl [1, 2, 3, 4, 0] rfl)
          · refine r_bipush hx hb dX7_kin_51 rfl (fun x51 e51 => ?_)
            exact rt_i hx hb hr hlk hS ⟨_, hg1, hT⟩ dX7_kin_53
    · refine r_iconst hx hb dX7_kin_16 (by decide) (by decide) (fun x16 e16 => ?_)
      exact rt_i hx hb hr hlk hS ⟨_, hg1, hT⟩ dX7_kin_17
theorem k_X7_cut : cBV yX7_cut cX7_cut 2 (some .int) 1 := ⟨mw_5_81, mw_5_82, mw_1_8, mw_5_83, ⟨by decide, by decide, by decide⟩⟩
set_option maxHeartbeats 4000000 in
set_option maxRecDepth 100000 in
theorem c_X7_cut (l : Launch) (z : Zt) (gh : Gh) (h0 o0 : Nat) (g0 : zG z h0 = (17, o0)) (p1 : Int32) : Met l yX7_cut (uw yX7_cut cX7_cut 2 (some .int)) (rmF 2 89) (PcW z [.ref h0, .int p1] (fun H => TY z (zA z) gh H)) (QcI z (fun r H => ∃ gk : Gh, eqv gk gh ∧ TY z (zA z) gk H)) 0 0 (zA z) := by
  refine Met.ofW (cc := cX7_cut) (maxL := 2) (ret := (some .int)) (by decide) rfl ?_
  intro p e s m args below meth c s₁ B hml hv
  obtain ⟨rfl, hW, hK, hSK⟩ := hv
  have hx := B.exec
  have hb := B.bytes
  have hr := B.returns
  have hts : ∀ w ∈ lw_ok, w.before ([.ref h0, .int p1] : List Value).toArray s = true := fun w hw => atoms_spec (ws := uw yX7_cut cX7_cut 2 (some .int)) B.pre w (List.mem_cons_of_mem _ hw)
  have hown : s.vm.findClass RX7 = some m.cls := findClass_of_methodNamed B.named
  have hlk := B.notSynchronized
  have hC : CallFix p m c cX7_cut 2 s ([.ref h0, .int p1] : List Value).toArray lw_ok RX7 := ⟨hx, hb, hml, hown, hts⟩
  have hS : va_S (zA z) s.heap s.heap [] := va_S.rf
  have hl := lv_entry ([.ref h0, .int p1]) (n := 2) (Nat.le_of_ble_eq_true rfl)
  rw [lg_entry_eq]
  generalize (lg_sl ([.ref h0, .int p1]) ++ List.replicate (2 - (lg_sl ([.ref h0, .int p1])).length) Slot.unset).toArray = ls at hl ⊢
  have hl : lv_has ls 2 [(0, .ref h0), (1, .int p1)] := hl
  show W p l e (rmF 2 89) s m ([.ref h0, .int p1] : List Value).toArray below meth c s.heap [] 0 0 (MQ below (QcI z (fun r H => ∃ gk : Gh, eqv gk gh ∧ TY z (zA z) gk H)) ([.ref h0, .int p1] : List Value).toArray s 0 0 (zA z)) (F0 m 0 ls [])
  have hT : TY z (zA z) gh s.heap := hW
  have hg1 : eqv gh gh := eqv_rf gh
  have mx_p1 := i_mx p1
  refine lv_iload_n hx hb dX7_cut_0 rfl (lv_at hl 1 rfl) ?_
  refine r_i2l hx hb dX7_cut_1 (fun x1 e1 => ?_)
  refine r_lconst0 hx hb dX7_cut_2 (fun x2 e2 => ?_)
  refine lv_aload_n hx hb dX7_cut_3 rfl (lv_at hl 0 rfl) ?_
  refine gt_Model_st hx hb hts ic_Model hown hK hT g0 (hts _ mw_4_70) dX7_cut_4 (fun q4 hq4 => ?_)
  refine r_bipush hx hb dX7_cut_7 rfl (fun x7 e7 => ?_)
  refine al_40 hx hb hK hT hq4 (by omega) (by omega) dX7_cut_9 (fun x9 i9 e9 => ?_)
  have n9 := ix_nat (i := x7) (by omega)
  have f9 := b59_r31 (p40_e e9 (by omega)) (by omega)
  refine r_i2l hx hb dX7_cut_10 (fun x10 e10 => ?_)
  refine cl_Si (rest := []) hC hK hSK (c_X7_in l z gh x1 x2 x10) k_X7_in mw_4_154 ⟨rfl, rfl, Nat.le_of_ble_eq_true rfl, Nat.le_of_ble_eq_true rfl⟩ hT rfl hl.1 rfl (Nat.le_of_ble_eq_true rfl) dX7_cut_11 ⟨Nat.zero_le _, Nat.zero_le _⟩ hS (fun _ h => h) (fun _ _ h => h) (fun r11 H locs hpo hS => ?_)
  obtain ⟨hT, u11_0, u11_1⟩ := hpo
  refine r_if_eq (tgt := 27) hx hb dX7_cut_14 (by decide) (fun c14 => ?_) (fun c14 => ?_)
  · refine r_iconst hx hb dX7_cut_27 (by decide) (by decide) (fun x27 e27 => ?_)
    exact rt_i hx hb hr hlk hS ⟨_, hg1, hT⟩ dX7_cut_28
  · refine lv_aload_n hx hb dX7_cut_17 rfl (lv_at hl 0 rfl) ?_
    refine r_bipush hx hb dX7_cut_18 rfl (fun x18 e18 => ?_)
    refine lv_iload_n hx hb dX7_cut_20 rfl (lv_at hl 1 rfl) ?_
    refine cl_Vi (rest := []) hC hK hSK (c_X7_becomes l z gh h0 (o0) g0 x18 p1 (by omega)  (by have n0 := ix_nat (i := x18) (by omega); exact p40_m (by omega) (b59_m31 (by omega) ⟨by omega, by omega⟩))) k_X7_becomes mw_5_61 ⟨rfl, rfl, Nat.le_of_ble_eq_true rfl, Nat.le_of_ble_eq_true rfl⟩ (rv_Model hK hT g0) hT rfl hl.1 rfl (Nat.le_of_ble_eq_true rfl) dX7_cut_21 ⟨Nat.zero_le _, Nat.zero_le _⟩ hS (fun _ h => h) (fun _ _ h => h) (fun r21 H locs hpo hS => ?_)
    obtain ⟨gk21, hz21, hT, u21_0⟩ := hpo
    have hg1 := eqv_tr hz21 hg1
    refine lv_goto (tgt := 28) hx hb dX7_cut_24 (by decide) ?_
    exact rt_i hx hb hr hlk hS ⟨_, hg1, hT⟩ dX7_cut_28
