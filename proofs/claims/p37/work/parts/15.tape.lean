theorem k_X4_refuse : cBV yX4_refuse cX4_refuse 3 (some .boolean) 2 := ⟨mw_2_68, ms_0_2, mw_1_2, mw_2_69, ⟨by decide, by decide, by decide⟩⟩
set_option maxHeartbeats 4000000 in
set_option maxRecDepth 100000 in
theorem c_X4_refuse (l : Launch) (z : Zt) (gh : Gh) (h0 o0 : Nat) (g0 : zG z h0 = (14, o0)) (p1 : Int32) (p2 : Int32) : Met l yX4_refuse (uw yX4_refuse cX4_refuse 3 (some .boolean)) (rmF 1 64) (PcW z [.ref h0, .int p1, .int p2] (fun H => TY z (zA z) gh H)) (QcI z (fun r H => TY z (zA z) gh H ∧ (r.toInt = 0) ∧ (0 ≤ r.toInt ∧ r.toInt ≤ 1))) 0 0 (zA z) := by
  refine Met.ofW (cc := cX4_refuse) (maxL := 3) (ret := (some .boolean)) (by decide) rfl ?_
  intro p e s m args below meth c s₁ B hml hv
  obtain ⟨rfl, hW, hK, hSK⟩ := hv
  have hx := B.exec
  have hb := B.bytes
  have hr := B.returns
  have hts : ∀ w ∈ lw_ok, w.before ([.ref h0, .int p1, .int p2] : List Value).toArray s = true := fun w hw => atoms_spec (ws := uw yX4_refuse cX4_refuse 3 (some .boolean)) B.pre w (List.mem_cons_of_mem _ hw)
  have hown : s.vm.findClass RX4 = some m.cls := findClass_of_methodNamed B.named
  have hlk := B.notSynchronized
  have hC : CallFix p m c cX4_refuse 3 s ([.ref h0, .int p1, .int p2] : List Value).toArray lw_ok RX4 := ⟨hx, hb, hml, hown, hts⟩
  have hS : va_S (zA z) s.heap s.heap [] := va_S.rf
  have hl := lv_entry ([.ref h0, .int p1, .int p2]) (n := 3) (Nat.le_of_ble_eq_true rfl)
  rw [lg_entry_eq]
  generalize (lg_sl ([.ref h0, .int p1, .int p2]) ++ List.replicate (3 - (lg_sl ([.ref h0, .int p1, .int p2])).length) Slot.unset).toArray = ls at hl ⊢
  have hl : lv_has ls 3 [(0, .ref h0), (1, .int p1), (2, .int p2)] := hl
  show W p l e (rmF 1 64) s m ([.ref h0, .int p1, .int p2] : List Value).toArray below meth c s.heap [] 0 0 (MQ below (QcI z (fun r H => TY z (zA z) gh H ∧ (r.toInt = 0) ∧ (0 ≤ r.toInt ∧ r.toInt ≤ 1))) ([.ref h0, .int p1, .int p2] : List Value).toArray s 0 0 (zA z)) (F0 m 0 ls [])
  have hT : TY z (zA z) gh s.heap := hW
  have mx_p1 := i_mx p1
  have mx_p2 := i_mx p2
  refine lv_aload_n hx hb dX4_refuse_0 rfl (lv_at hl 0 rfl) ?_
  refine lv_iload_n hx hb dX4_refuse_1 rfl (lv_at hl 1 rfl) ?_
  refine pt_Tape_faultFound hx hb hts ic_Tape hown hK hT hS g0 (hts _ mw_1_135) dX4_refuse_2 (fun H locs hT hS => ?_)
  refine lv_aload_n hx hb dX4_refuse_5 rfl (lv_at hl 0 rfl) ?_
  refine lv_iload_n hx hb dX4_refuse_6 rfl (lv_at hl 2 rfl) ?_
  refine pt_Tape_place hx hb hts ic_Tape hown hK hT hS g0 (hts _ mw_1_137) dX4_refuse_7 (fun H locs hT hS => ?_)
  refine r_iconst hx hb dX4_refuse_10 (by decide) (by decide) (fun x10 e10 => ?_)
  exact rt_z hx hb hr hlk hS (by omega) (by omega) ⟨hT, by omega, by omega⟩ dX4_refuse_11
theorem k_X4_tokenAt : cBV yX4_tokenAt cX4_tokenAt 3 (some .int) 1 := ⟨mw_2_64, ms_0_1, mw_1_2, mw_2_65, ⟨by decide, by decide, by decide⟩⟩
set_option maxHeartbeats 4000000 in
set_option maxRecDepth 100000 in
theorem c_X4_tokenAt (l : Launch) (z : Zt) (gh : Gh) (h0 o0 : Nat) (g0 : zG z h0 = (14, o0)) (p1 : Int32) (bp1 : 0 ≤ p1.toInt ∧ p1.toInt ≤ 160) (pr0 : zu z) : Met l yX4_tokenAt (uw yX4_tokenAt cX4_tokenAt 3 (some .int)) (rmF 1 64) (PcW z [.ref h0, .int p1] (fun H => TY z (zA z) gh H)) (QcI z (fun r H => TY z (zA z) gh H ∧ (r.toInt ≠ 0 → p1.toInt < gh.1 h0 30) ∧ (r.toInt = 2 → ∀ q, zG z q = (30, h0) → ∀ j : Nat, (j : Int) = p1.toInt → 48 ≤ (gh.2 q j).toInt ∧ (gh.2 q j).toInt ≤ 57) ∧ (0 ≤ r.toInt ∧ r.toInt ≤ 4))) 0 0 (zA z) := by
  refine Met.ofW (cc := cX4_tokenAt) (maxL := 3) (ret := (some .int)) (by decide) rfl ?_
  intro p e s m args below meth c s₁ B hml hv
  obtain ⟨rfl, hW, hK, hSK⟩ := hv
  have hx := B.exec
  have hb := B.bytes
  have hr := B.returns
  have hts : ∀ w ∈ lw_ok, w.before ([.ref h0, .int p1] : List Value).toArray s = true := fun w hw => atoms_spec (ws := uw yX4_tokenAt cX4_tokenAt 3 (some .int)) B.pre w (List.mem_cons_of_mem _ hw)
  have hown : s.vm.findClass RX4 = some m.cls := findClass_of_methodNamed B.named
  have hlk := B.notSynchronized
  have hC : CallFix p m c cX4_tokenAt 3 s ([.ref h0, .int p1] : List Value).toArray lw_ok RX4 := ⟨hx, hb, hml, hown, hts⟩
  have hS : va_S (zA z) s.heap s.heap [] := va_S.rf
  have hl := lv_entry ([.ref h0, .int p1]) (n := 3) (Nat.le_of_ble_eq_true rfl)
  rw [lg_entry_eq]
  generalize (lg_sl ([.ref h0, .int p1]) ++ List.replicate (3 - (lg_sl ([.ref h0, .int p1])).length) Slot.unset).toArray = ls at hl ⊢
  have hl : lv_has ls 3 [(0, .ref h0), (1, .int p1)] := hl
  show W p l e (rmF 1 64) s m ([.ref h0, .int p1] : List Value).toArray below meth c s.heap [] 0 0 (MQ below (QcI z (fun r H => TY z (zA z) gh H ∧ (r.toInt ≠ 0 → p1.toInt < gh.1 h0 30) ∧ (r.toInt = 2 → ∀ q, zG z q = (30, h0) → ∀ j : Nat, (j : Int) = p1.toInt → 48 ≤ (gh.2 q j).toInt ∧ (gh.2 q j).toInt ≤ 57) ∧ (0 ≤ r.toInt ∧ r.toInt ≤ 4))) ([.ref h0, .int p1] : List Value).toArray s 0 0 (zA z)) (F0 m 0 ls [])
  have hT : TY z (zA z) gh s.heap := hW
  refine lv_iload_n hx hb dX4_tokenAt_0 rfl (lv_at hl 1 rfl) ?_
  refine lv_aload_n hx hb dX4_tokenAt_1 rfl (lv_at hl 0 rfl) ?_
  refine gt_Tape_length hx hb hts ic_Tape hown hK hT g0 (hts _ mw_1_134) dX4_tokenAt_2 (fun x2 i2 e2 g2 => ?_)
  refine r_icmp_lt (tgt := 10) hx hb dX4_tokenAt_5 (by decide) (fun c5 => ?_) (fun c5 => ?_)
  · refine lv_aload_n hx hb dX4_tokenAt_10 rfl (lv_at hl 0 rfl) ?_
    refine gt_Tape_bytes hx hb hts ic_Tape hown hK hT g0 (hts _ mw_1_129) dX4_tokenAt_11 (fun q11 hq11 => ?_)
    refine lv_iload_n hx hb dX4_tokenAt_14 rfl (lv_at hl 1 rfl) ?_
    refine al_30 hx hb hK hT hq11 (by omega) (by omega) dX4_tokenAt_15 (fun x15 i15 e15 => ?_)
    have n15 := ix_nat (i := p1) (by omega)
    unfold p30 at e15
    refine lv_istore_n (lv' := [(2, .int x15), (0, .ref h0), (1, .int p1)]) hx hb dX4_tokenAt_16 rfl hl (by decide) rfl (fun ls hl => ?_)
    refine lv_iload_n hx hb dX4_tokenAt_17 rfl (lv_at hl 0 rfl) ?_
    refine r_bipush hx hb dX4_tokenAt_18 rfl (fun x18 e18 => ?_)
    have J31 : ∀ (ls : Array Slot) (H : Heap) (locs : List Loc), TY z (zA z) gh H → va_S (zA z) s.heap H locs → lv_has ls 3 [(0, .ref h0), (1, .int p1), (2, .int x15)] → W p l e (rmF 1 64) s m ([.ref h0, .int p1] : List Value).toArray below meth c H locs 0 0 (MQ below (QcI z (fun r H => TY z (zA z) gh H ∧ (r.toInt ≠ 0 → p1.toInt < gh.1 h0 30) ∧ (r.toInt = 2 → ∀ q, zG z q = (30, h0) → ∀ j : Nat, (j : Int) = p1.toInt → 48 ≤ (gh.2 q j).toInt ∧ (gh.2 q j).toInt ≤ 57) ∧ (0 ≤ r.toInt ∧ r.toInt ≤ 4))) ([.ref h0, .int p1] : List Value).toArray s 0 0 (zA z)) (F0 m 31 ls []) := by
      intro ls H locs hT hS hl
      refine lv_iload_n hx hb dX4_tokenAt_31 rfl (lv_at hl 2 rfl) ?_
      refine r_bipush hx hb dX4_tokenAt_32 rfl (fun x32 e32 => ?_)
      have J45 : ∀ (ls : Array Slot) (H : Heap) (locs : List Loc), TY z (zA z) gh H → va_S (zA z) s.heap H locs → lv_has ls 3 [(0, .ref h0), (1, .int p1), (2, .int x15)] → W p l e (rmF 1 64) s m ([.ref h0, .int p1] : List Value).toArray below meth c H locs 0 0 (MQ below (QcI z (fun r H => TY z (zA z) gh H ∧ (r.toInt ≠ 0 → p1.toInt < gh.1 h0 30) ∧ (r.toInt = 2 → ∀ q, zG z q = (30, h0) → ∀ j : Nat, (j : Int) = p1.toInt → 48 ≤ (gh.2 q j).toInt ∧ (gh.2 q j).toInt ≤ 57) ∧ (0 ≤ r.toInt ∧ r.toInt ≤ 4))) ([.ref h0, .int p1] : List Value).toArray s 0 0 (zA z)) (F0 m 45 ls []) := by
        intro ls H locs hT hS hl
        refine lv_iload_n hx hb dX4_tokenAt_45 rfl (lv_at hl 2 rfl) ?_
        refine r_bipush hx hb dX4_tokenAt_46 rfl (fun x46 e46 => ?_)
        refine r_icmp_ne (tgt := 55) hx hb dX4_tokenAt_48 (by decide) (fun c48 => ?_) (fun c48 => ?_)
        · refine r_iconst hx hb dX4_tokenAt_55 (by decide) (by decide) (fun x55 e55 => ?_)
          exact rt_i hx hb hr hlk hS ⟨hT, by omega, by
      intro h2 q9 h9 j hj
      first
        | (exfalso; omega)
        | (have e9 := zu_at pr0 rfl h9 hq11; rw [e9, show j = p1.toNatClampNeg by omega, ← i15]; omega), by omega⟩ dX4_tokenAt_56
        · refine r_iconst hx hb dX4_tokenAt_51 (by decide) (by decide) (fun x51 e51 => ?_)
          refine lv_goto (tgt := 56) hx hb dX4_tokenAt_52 (by decide) ?_
          exact rt_i hx hb hr hlk hS ⟨hT, by omega, by
      intro h2 q9 h9 j hj
      first
        | (exfalso; omega)
        | (have e9 := zu_at pr0 rfl h9 hq11; rw [e9, show j = p1.toNatClampNeg by omega, ← i15]; omega), by omega⟩ dX4_tokenAt_56
      refine r_icmp_lt (tgt := 45) hx hb dX4_tokenAt_34 (by decide) (fun c34 => ?_) (fun c34 => ?_)
      · exact J45 ls _ _ hT hS (lv_sub hl [0, 1, 2] rfl)
      · refine lv_iload_n hx hb dX4_tokenAt_37 rfl (lv_at hl 2 rfl) ?_
        refine r_bipush hx hb dX4_tokenAt_38 rfl (fun x38 e38 => ?_)
        refine r_icmp_gt (tgt := 45) hx hb dX4_tokenAt_40 (by decide) (fun c40 => ?_) (fun c40 => ?_)
        · exact J45 ls _ _ hT hS (lv_sub hl [0, 1, 2] rfl)
        · refine r_iconst hx hb dX4_tokenAt_43 (by decide) (by decide) (fun x43 e43 => ?_)
          exact rt_i hx hb hr hlk hS ⟨hT, by omega, by
      intro h2 q9 h9 j hj
      first
        | (exfalso; omega)
        | (have e9 := zu_at pr0 rfl h9 hq11; rw [e9, show j = p1.toNatClampNeg by omega, ← i15]; omega), by omega⟩ dX4_tokenAt_44
    refine r_icmp_lt (tgt := 31) hx hb dX4_tokenAt_20 (by decide) (fun c20 => ?_) (fun c20 => ?_)
    · exact J31 ls _ _ hT hS (lv_sub hl [1, 2, 0] rfl)
    · refine lv_iload_n hx hb dX4_tokenAt_23 rfl (lv_at hl 0 rfl) ?_
      refine r_bipush hx hb dX4_tokenAt_24 rfl (fun x24 e24 => ?_)
      refine r_icmp_gt (tgt := 31) hx hb dX4_tokenAt_26 (by decide) (fun c26 => ?_) (fun c26 => ?_)
      · exact J31 ls _ _ hT hS (lv_sub hl [1, 2, 0] rfl)
      · refine r_iconst hx hb dX4_tokenAt_29 (by decide) (by decide) (fun x29 e29 => ?_)
        exact rt_i hx hb hr hlk hS ⟨hT, by omega, by
      intro h2 q9 h9 j hj
      first
        | (exfalso; omega)
        | (have e9 := zu_at pr0 rfl h9 hq11; rw [e9, show j = p1.toNatClampNeg by omega, ← i15]; omega), by omega⟩ dX4_tokenAt_30
  · refine r_iconst hx hb dX4_tokenAt_8 (by decide) (by decide) (fun x8 e8 => ?_)
    exact rt_i hx hb hr hlk hS ⟨hT, by omega, by
      intro h2 q9 h9 j hj
      first
        | (exfalso; omega)
        | (have e9 := zu_at pr0 rfl h9 hq11; rw [e9, show j = p1.toNatClampNeg by omega, ← i15]; omega), by omega⟩ dX4_tokenAt_9
theorem k_X4_advance : cBV yX4_advance cX4_advance 2 (some .boolean) 0 := ⟨mw_2_60, ms_0_0, mw_1_2, mw_2_61, ⟨by decide, by decide, by decide⟩⟩
set_option maxHeartbeats 4000000 in
set_option maxRecDepth 100000 in
theorem c_X4_advance (l : Launch) (z : Zt) (gh : Gh) (h0 o0 : Nat) (g0 : zG z h0 = (14, o0)) (pr0 : zu z) : Met l yX4_advance (uw yX4_advance cX4_advance 2 (some .boolean)) (rmF 2 86) (PcW z [.ref h0] (fun H => TY z (zA z) gh H)) (QcI z (fun r H => ∃ gk : Gh, eqv gk gh ∧ TY z (zA z) gk H ∧ (r.toInt ≠ 0 → gk.1 h0 32 = 2 → gk.1 h0 33 ≤ gk.1 h0 31 ∧ gk.1 h0 31 ≤ gk.1 h0 33 + 2 ∧ dgt z gk h0) ∧ (0 ≤ r.toInt ∧ r.toInt ≤ 1))) 0 0 (zA z) := by
  refine Met.ofW (cc := cX4_advance) (maxL := 2) (ret := (some .boolean)) (by decide) rfl ?_
  intro p e s m args below meth c s₁ B hml hv
  obtain ⟨rfl, hW, hK, hSK⟩ := hv
  have hx := B.exec
  have hb := B.bytes
  have hr := B.returns
  have hts : ∀ w ∈ lw_ok, w.before ([.ref h0] : List Value).toArray s = true := fun w hw => atoms_spec (ws := uw yX4_advance cX4_advance 2 (some .boolean)) B.pre w (List.mem_cons_of_mem _ hw)
  have hown : s.vm.findClass RX4 = some m.cls := findClass_of_methodNamed B.named
  have hlk := B.notSynchronized
  have hC : CallFix p m c cX4_advance 2 s ([.ref h0] : List Value).toArray lw_ok RX4 := ⟨hx, hb, hml, hown, hts⟩
  have hS : va_S (zA z) s.heap s.heap [] := va_S.rf
  have hl := lv_entry ([.ref h0]) (n := 2) (Nat.le_of_ble_eq_true rfl)
  rw [lg_entry_eq]
  generalize (lg_sl ([.ref h0]) ++ List.replicate (2 - (lg_sl ([.ref h0])).length) Slot.unset).toArray = ls at hl ⊢
  have hl : lv_has ls 2 [(0, .ref h0)] := hl
  show W p l e (rmF 2 86) s m ([.ref h0] : List Value).toArray below meth c s.heap [] 0 0 (MQ below (QcI z (fun r H => ∃ gk : Gh, eqv gk gh ∧ TY z (zA z) gk H ∧ (r.toInt ≠ 0 → gk.1 h0 32 = 2 → gk.1 h0 33 ≤ gk.1 h0 31 ∧ gk.1 h0 31 ≤ gk.1 h0 33 + 2 ∧ dgt z gk h0) ∧ (0 ≤ r.toInt ∧ r.toInt ≤ 1))) ([.ref h0] : List Value).toArray s 0 0 (zA z)) (F0 m 0 ls [])
  have hT : TY z (zA z) gh s.heap := hW
  have hg1 : eqv gh gh := eqv_rf gh
  have tb0 := ty_tp hT g0
  have J0 : ∀ (n0 : Nat) (ls : Array Slot) (H : Heap) (locs : List Loc) (gk : Gh), (0 ≤ gk.1 h0 31 ∧ gk.1 h0 31 ≤ 160) → (160 - gk.1 h0 31) < (n0 : Int) → eqv gk gh → TY z (zA z) gk H → va_S (zA z) s.heap H locs → lv_has ls 2 [(0, .ref h0)] → W p l e (rmF 2 86) s m ([.ref h0] : List Value).toArray below meth c H locs 0 0 (MQ below (QcI z (fun r H => ∃ gk : Gh, eqv gk gh ∧ TY z (zA z) gk H ∧ (r.toInt ≠ 0 → gk.1 h0 32 = 2 → gk.1 h0 33 ≤ gk.1 h0 31 ∧ gk.1 h0 31 ≤ gk.1 h0 33 + 2 ∧ dgt z gk h0) ∧ (0 ≤ r.toInt ∧ r.toInt ≤ 1))) ([.ref h0] : List Value).toArray s 0 0 (zA z)) (F0 m 0 ls []) := by
    intro n0
    induction n0 with
    | zero => intro ls H locs gk ex0_0 mm0 hg1 hT hS hl; exfalso; omega
    | succ n0 ih0 =>
      intro ls H locs gk ex0_0 mm0 hg1 hT hS hl
      refine lv_aload_n hx hb dX4_advance_0 rfl (lv_at hl 0 rfl) ?_
      refine gt_Tape_next hx hb hts ic_Tape hown hK hT g0 (hts _ mw_1_139) dX4_advance_1 (fun x1 i1 e1 g1 => ?_)
      refine lv_aload_n hx hb dX4_advance_4 rfl (lv_at hl 0 rfl) ?_
      refine gt_Tape_length hx hb hts ic_Tape hown hK hT g0 (hts _ mw_1_134) dX4_advance_5 (fun x5 i5 e5 g5 => ?_)
      have i5 := i5.trans (hg1 _ _ rfl)
      have J38 : ∀ (ls : Array Slot) (H : Heap) (locs : List Loc) (gk : Gh), (0 ≤ gk.1 h0 31 ∧ gk.1 h0 31 ≤ 160) → eqv gk gh → TY z (zA z) gk H → va_S (zA z) s.heap H locs → lv_has ls 2 [(0, .ref h0)] → W p l e (rmF 2 86) s m ([.ref h0] : List Value).toArray below meth c H locs 0 0 (MQ below (QcI z (fun r H => ∃ gk : Gh, eqv gk gh ∧ TY z (zA z) gk H ∧ (r.toInt ≠ 0 → gk.1 h0 32 = 2 → gk.1 h0 33 ≤ gk.1 h0 31 ∧ gk.1 h0 31 ≤ gk.1 h0 33 + 2 ∧ dgt z gk h0) ∧ (0 ≤ r.toInt ∧ r.toInt ≤ 1))) ([.ref h0] : List Value).toArray s 0 0 (zA z)) (F0 m 38 ls []) := by
        intro ls H locs gk ex38_0 hg1 hT hS hl
        refine lv_aload_n hx hb dX4_advance_38 rfl (lv_at hl 0 rfl) ?_
        refine lv_aload_n hx hb dX4_advance_39 rfl (lv_at hl 0 rfl) ?_
        refine gt_Tape_next hx hb hts ic_Tape hown hK hT g0 (hts _ mw_1_139) dX4_advance_40 (fun x40 i40 e40 g40 => ?_)
        refine pt_Tape_start hx hb hts ic_Tape hown hK hT hS g0 (hts _ mw_1_141) (by omega) (by omega) dX4_advance_43 (fun H locs hT hS => ?_)
        obtain ⟨gk43, w43, hq43, y43, hg1, hT⟩ : ∃ g : Gh, g.1 h0 33 = x40.toInt ∧ (∀ b k, k ≠ 33 → g.1 b k = gk.1 b k) ∧ g.2 = gk.2 ∧ eqv g gh ∧ TY z (zA z) g H := ⟨_, gs_at _ _ _ _, fun b k hk => gs_nk _ _ _ _ hk, rfl, eqv_gs rfl hg1, hT⟩
        have t43_30 := hq43 h0 30 (by decide)
        have t43_31 := hq43 h0 31 (by decide)
        have t43_32 := hq43 h0 32 (by decide)
        have t43_39 := hq43 h0 39 (by decide)
        refine lv_aload_n hx hb dX4_advance_46 rfl (lv_at hl 0 rfl) ?_
        refine lv_aload_n hx hb dX4_advance_47 rfl (lv_at hl 0 rfl) ?_
        refine lv_aload_n hx hb dX4_advance_48 rfl (lv_at hl 0 rfl) ?_
        refine gt_Tape_start hx hb hts ic_Tape hown hK hT g0 (hts _ mw_1_141) dX4_advance_49 (fun x49 i49 e49 g49 => ?_)
        refine cl_Vi (rest := [.ref h0]) hC hK hSK (c_X4_tokenAt l z gk43 h0 (o0) g0 x49 (by omega) pr0) k_X4_tokenAt mw_2_62 ⟨rfl, rfl, Nat.le_of_ble_eq_true rfl, Nat.le_of_ble_eq_true rfl⟩ (rv_Tape hK hT g0) hT rfl hl.1 rfl (Nat.le_of_ble_eq_true rfl) dX4_advance_52 ⟨Nat.zero_le _, Nat.zero_le _⟩ hS (fun _ h => h) (fun _ _ h => h) (fun r52 H locs hpo hS => ?_)
        obtain ⟨hT, u52_0, u52_1, u52_2⟩ := hpo
        have tb52 := ty_tp hT g0
        refine pt_Tape_token hx hb hts ic_Tape hown hK hT hS g0 (hts _ mw_1_140) (by omega) (by omega) dX4_advance_55 (fun H locs hT hS => ?_)
        obtain ⟨gk55, w55, hq55, y55, hg1, hT⟩ : ∃ g : Gh, g.1 h0 32 = r52.toInt ∧ (∀ b k, k ≠ 32 → g.1 b k = gk43.1 b k) ∧ g.2 = gk43.2 ∧ eqv g gh ∧ TY z (zA z) g H := ⟨_, gs_at _ _ _ _, fun b k hk => gs_nk _ _ _ _ hk, rfl, eqv_gs rfl hg1, hT⟩
        have t55_30 := hq55 h0 30 (by decide)
        have t55_31 := hq55 h0 31 (by decide)
        have t55_33 := hq55 h0 33 (by decide)
        have t55_39 := hq55 h0 39 (by decide)
        refine lv_aload_n hx hb dX4_advance_58 rfl (lv_at hl 0 rfl) ?_
        refine gt_Tape_token hx hb hts ic_Tape hown hK hT g0 (hts _ mw_1_140) dX4_advance_59 (fun x59 i59 e59 g59 => ?_)
        refine r_iconst hx hb dX4_advance_62 (by decide) (by decide) (fun x62 e62 => ?_)
        refine r_icmp_ne (tgt := 76) hx hb dX4_advance_63 (by decide) (fun c63 => ?_) (fun c63 => ?_)
        · refine lv_aload_n hx hb dX4_advance_76 rfl (lv_at hl 0 rfl) ?_
          refine gt_Tape_token hx hb hts ic_Tape hown hK hT g0 (hts _ mw_1_140) dX4_advance_77 (fun x77 i77 e77 g77 => ?_)
          have J93 : ∀ (ls : Array Slot) (H : Heap) (locs : List Loc) (gk : Gh), (0 ≤ gk.1 h0 33 ∧ gk.1 h0 33 ≤ gk.1 h0 31) → (gk.1 h0 31 ≤ 160) → (dgt z gk h0) → eqv gk gh → TY z (zA z) gk H → va_S (zA z) s.heap H locs → lv_has ls 2 [(0, .ref h0)] → W p l e (rmF 2 86) s m ([.ref h0] : List Value).toArray below meth c H locs 0 0 (MQ below (QcI z (fun r H => ∃ gk : Gh, eqv gk gh ∧ TY z (zA z) gk H ∧ (r.toInt ≠ 0 → gk.1 h0 32 = 2 → gk.1 h0 33 ≤ gk.1 h0 31 ∧ gk.1 h0 31 ≤ gk.1 h0 33 + 2 ∧ dgt z gk h0) ∧ (0 ≤ r.toInt ∧ r.toInt ≤ 1))) ([.ref h0] : List Value).toArray s 0 0 (zA z)) (F0 m 93 ls []) := by
            intro ls H locs gk ex93_0 ex93_1 ex93_2 hg1 hT hS hl
            refine lv_aload_n hx hb dX4_advance_93 rfl (lv_at hl 0 rfl) ?_
            refine gt_Tape_token hx hb hts ic_Tape hown hK hT g0 (hts _ mw_1_140) dX4_advance_94 (fun x94 i94 e94 g94 => ?_)
            refine r_iconst hx hb dX4_advance_97 (by decide) (by decide) (fun x97 e97 => ?_)
            refine r_icmp_eq (tgt := 109) hx hb dX4_advance_98 (by decide) (fun c98 => ?_) (fun c98 => ?_)
            · refine r_iconst hx hb dX4_advance_109 (by decide) (by decide) (fun x109 e109 => ?_)
              refine lv_goto (tgt := 114) hx hb dX4_advance_110 (by decide) ?_
              refine lv_istore_n (lv' := [(1, .int x109), (0, .ref h0)]) hx hb dX4_advance_114 rfl hl (by decide) rfl (fun ls hl => ?_)
              have J115 : ∀ (n115 : Nat) (ls : Array Slot) (H : Heap) (locs : List Loc) (y115_1 : Int32) (gk : Gh), (0 ≤ y115_1.toInt ∧ y115_1.toInt ≤ 1) → (0 ≤ gk.1 h0 33 ∧ gk.1 h0 33 ≤ gk.1 h0 31) → (gk.1 h0 31 ≤ 160) → (dgt z gk h0) → (160 - gk.1 h0 31) < (n115 : Int) → eqv gk gh → TY z (zA z) gk H → va_S (zA z) s.heap H locs → lv_has ls 2 [(0, .ref h0), (1, .int y115_1)] → W p l e (rmF 2 86) s m ([.ref h0] : List Value).toArray below meth c H locs 0 0 (MQ below (QcI z (fun r H => ∃ gk : Gh, eqv gk gh ∧ TY z (zA z) gk H ∧ (r.toInt ≠ 0 → gk.1 h0 32 = 2 → gk.1 h0 33 ≤ gk.1 h0 31 ∧ gk.1 h0 31 ≤ gk.1 h0 33 + 2 ∧ dgt z gk h0) ∧ (0 ≤ r.toInt ∧ r.toInt ≤ 1))) ([.ref h0] : List Value).toArray s 0 0 (zA z)) (F0 m 115 ls []) := by
                intro n115
                induction n115 with
                | zero => intro ls H locs y115_1 gk j115_y115_1 ex115_0 ex115_1 ex115_2 mm115 hg1 hT hS hl; exfalso; omega
                | succ n115 ih115 =>
                  intro ls H locs y115_1 gk j115_y115_1 ex115_0 ex115_1 ex115_2 mm115 hg1 hT hS hl
                  refine lv_iload_n hx hb dX4_advance_115 rfl (lv_at hl 1 rfl) ?_
                  have J158 : ∀ (ls : Array Slot) (H : Heap) (locs : List Loc) (gk : Gh), (0 ≤ gk.1 h0 33 ∧ gk.1 h0 33 ≤ gk.1 h0 31) → (gk.1 h0 31 ≤ 160) → (dgt z gk h0) → eqv gk gh → TY z (zA z) gk H → va_S (zA z) s.heap H locs → lv_has ls 2 [(0, .ref h0), (1, .int y115_1)] → W p l e (rmF 2 86) s m ([.ref h0] : List Value).toArray below meth c H locs 0 0 (MQ below (QcI z (fun r H => ∃ gk : Gh, eqv gk gh ∧ TY z (zA z) gk H ∧ (r.toInt ≠ 0 → gk.1 h0 32 = 2 → gk.1 h0 33 ≤ gk.1 h0 31 ∧ gk.1 h0 31 ≤ gk.1 h0 33 + 2 ∧ dgt z gk h0) ∧ (0 ≤ r.toInt ∧ r.toInt ≤ 1))) ([.ref h0] : List Value).toArray s 0 0 (zA z)) (F0 m 158 ls []) := by
                    intro ls H locs gk ex158_0 ex158_1 ex158_2 hg1 hT hS hl
                    refine lv_aload_n hx hb dX4_advance_158 rfl (lv_at hl 0 rfl) ?_
                    refine gt_Tape_token hx hb hts ic_Tape hown hK hT g0 (hts _ mw_1_140) dX4_advance_159 (fun x159 i159 e159 g159 => ?_)
                    refine r_iconst hx hb dX4_advance_162 (by decide) (by decide) (fun x162 e162 => ?_)
                    refine r_icmp_ne (tgt := 191) hx hb dX4_advance_163 (by decide) (fun c163 => ?_) (fun c163 => ?_)
                    · refine r_iconst hx hb dX4_advance_191 (by decide) (by decide) (fun x191 e191 => ?_)
                      refine lv_goto (tgt := 196) hx hb dX4_advance_192 (by decide) ?_
                      exact rt_z hx hb hr hlk hS (by omega) (by omega) ⟨_, hg1, hT, by
      intro h1 h2
      first
        | (exfalso; omega)
        | exact ⟨by omega, by omega, ex158_2⟩, by omega⟩ dX4_advance_196
                    · refine lv_aload_n hx hb dX4_advance_166 rfl (lv_at hl 0 rfl) ?_
                      refine gt_Tape_next hx hb hts ic_Tape hown hK hT g0 (hts _ mw_1_139) dX4_advance_167 (fun x167 i167 e167 g167 => ?_)
                      refine lv_aload_n hx hb dX4_advance_170 rfl (lv_at hl 0 rfl) ?_
                      refine gt_Tape_start hx hb hts ic_Tape hown hK hT g0 (hts _ mw_1_141) dX4_advance_171 (fun x171 i171 e171 g171 => ?_)
                      refine r_isub hx hb dX4_advance_174 (by omega) (by omega) (fun x174 e174 => ?_)
                      refine r_iconst hx hb dX4_advance_175 (by decide) (by decide) (fun x175 e175 => ?_)
                      refine r_icmp_le (tgt := 191) hx hb dX4_advance_176 (by decide) (fun c176 => ?_) (fun c176 => ?_)
                      · refine r_iconst hx hb dX4_advance_191 (by decide) (by decide) (fun x191 e191 => ?_)
                        refine lv_goto (tgt := 196) hx hb dX4_advance_192 (by decide) ?_
                        exact rt_z hx hb hr hlk hS (by omega) (by omega) ⟨_, hg1, hT, by
      intro h1 h2
      first
        | (exfalso; omega)
        | exact ⟨by omega, by omega, ex158_2⟩, by omega⟩ dX4_advance_196
                      · refine lv_aload_n hx hb dX4_advance_179 rfl (lv_at hl 0 rfl) ?_
                        refine r_iconst hx hb dX4_advance_180 (by decide) (by decide) (fun x180 e180 => ?_)
                        refine lv_aload_n hx hb dX4_advance_181 rfl (lv_at hl 0 rfl) ?_
                        refine gt_Tape_start hx hb hts ic_Tape hown hK hT g0 (hts _ mw_1_141) dX4_advance_182 (fun x182 i182 e182 g182 => ?_)
                        refine cl_Vi (rest := []) hC hK hSK (c_X4_refuse l z gk h0 (o0) g0 x180 x182) k_X4_refuse mw_2_66 ⟨rfl, rfl, Nat.le_of_ble_eq_true rfl, Nat.le_of_ble_eq_true rfl⟩ (rv_Tape hK hT g0) hT rfl hl.1 rfl (Nat.le_of_ble_eq_true rfl) dX4_advance_185 ⟨Nat.zero_le _, Nat.zero_le _⟩ hS (fun _ h => h) (fun _ _ h => h) (fun r185 H locs hpo hS => ?_)
                        obtain ⟨hT, u185_0, u185_1⟩ := hpo
                        refine r_if_eq (tgt := 195) hx hb dX4_advance_188 (by decide) (fun c188 => ?_) (fun c188 => ?_)
                        · refine r_iconst hx hb dX4_advance_195 (by decide) (by decide) (fun x195 e195 => ?_)
                          exact rt_z hx hb hr hlk hS (by omega) (by omega) ⟨_, hg1, hT, by
      intro h1 h2
      first
        | (exfalso; omega)
        | exact ⟨by omega, by omega, ex158_2⟩, by omega⟩ dX4_advance_196
                        · exfalso; omega
                  refine r_if_eq (tgt := 158) hx hb dX4_advance_116 (by decide) (fun c116 => ?_) (fun c116 => ?_)
                  · exact J158 ls _ _ _ (by omega) (by omega) (by exact ex115_2) hg1 hT hS (lv_sub hl [0, 1] rfl)
                  · refine lv_aload_n hx hb dX4_advance_119 rfl (lv_at hl 0 rfl) ?_
                    refine gt_Tape_next hx hb hts ic_Tape hown hK hT g0 (hts _ mw_1_139) dX4_advance_120 (fun x120 i120 e120 g120 => ?_)
                    refine lv_aload_n hx hb dX4_advance_123 rfl (lv_at hl 0 rfl) ?_
                    refine gt_Tape_length hx hb hts ic_Tape hown hK hT g0 (hts _ mw_1_134) dX4_advance_124 (fun x124 i124 e124 g124 => ?_)
                    have i124 := i124.trans (hg1 _ _ rfl)
                    refine r_icmp_ge (tgt := 158) hx hb dX4_advance_127 (by decide) (fun c127 => ?_) (fun c127 => ?_)
                    · exact J158 ls _ _ _ (by omega) (by omega) (by exact ex115_2) hg1 hT hS (lv_sub hl [0, 1] rfl)
                    · refine lv_aload_n hx hb dX4_advance_130 rfl (lv_at hl 0 rfl) ?_
                      refine lv_aload_n hx hb dX4_advance_131 rfl (lv_at hl 0 rfl) ?_
                      refine gt_Tape_next hx hb hts ic_Tape hown hK hT g0 (hts _ mw_1_139) dX4_advance_132 (fun x132 i132 e132 g132 => ?_)
                      refine cl_Vi (rest := []) hC hK hSK (c_X4_tokenAt l z gk h0 (o0) g0 x132 (by omega) pr0) k_X4_tokenAt mw_2_62 ⟨rfl, rfl, Nat.le_of_ble_eq_true rfl, Nat.le_of_ble_eq_true rfl⟩ (rv_Tape hK hT g0) hT rfl hl.1 rfl (Nat.le_of_ble_eq_true rfl) dX4_advance_135 ⟨Nat.zero_le _, Nat.zero_le _⟩ hS (fun _ h => h) (fun _ _ h => h) (fun r135 H locs hpo hS => ?_)
                      obtain ⟨hT, u135_0, u135_1, u135_2⟩ := hpo
                      have tb135 := ty_tp hT g0
                      refine lv_aload_n hx hb dX4_advance_138 rfl (lv_at hl 0 rfl) ?_
                      refine gt_Tape_token hx hb hts ic_Tape hown hK hT g0 (hts _ mw_1_140) dX4_advance_139 (fun x139 i139 e139 g139 => ?_)
                      refine r_icmp_ne (tgt := 158) hx hb dX4_advance_142 (by decide) (fun c142 => ?_) (fun c142 => ?_)
                      · exact J158 ls _ _ _ (by omega) (by omega) (by exact ex115_2) hg1 hT hS (lv_sub hl [0, 1] rfl)
                      · refine lv_aload_n hx hb dX4_advance_145 rfl (lv_at hl 0 rfl) ?_
                        refine lv_dup hx hb dX4_advance_146 rfl ?_
                        refine gt_Tape_next hx hb hts ic_Tape hown hK hT g0 (hts _ mw_1_139) dX4_advance_147 (fun x147 i147 e147 g147 => ?_)
                        refine r_iconst hx hb dX4_advance_150 (by decide) (by decide) (fun x150 e150 => ?_)
                        refine r_iadd hx hb dX4_advance_151 (by omega) (by omega) (fun x151 e151 => ?_)
                        refine pt_Tape_next hx hb hts ic_Tape hown hK hT hS g0 (hts _ mw_1_139) (by omega) (by omega) dX4_advance_152 (fun H locs hT hS => ?_)
                        obtain ⟨gk152, w152, hq152, y152, hg1, hT⟩ : ∃ g : Gh, g.1 h0 31 = x151.toInt ∧ (∀ b k, k ≠ 31 → g.1 b k = gk.1 b k) ∧ g.2 = gk.2 ∧ eqv g gh ∧ TY z (zA z) g H := ⟨_, gs_at _ _ _ _, fun b k hk => gs_nk _ _ _ _ hk, rfl, eqv_gs rfl hg1, hT⟩
                        have t152_30 := hq152 h0 30 (by decide)
                        have t152_32 := hq152 h0 32 (by decide)
                        have t152_33 := hq152 h0 33 (by decide)
                        have t152_39 := hq152 h0 39 (by decide)
                        refine lv_goto (tgt := 115) hx hb dX4_advance_155 (by decide) ?_
                        exact ih115 ls _ _ y115_1 _ (by omega) (by omega) (by omega) (by unfold dgt; intro h2 q9 h9 j h3 h4; rw [y152]; by_cases hj : (j : Int) < gk.1 h0 31; exact ex115_2 (by omega) q9 h9 j (by omega) hj; exact u135_1 (by omega) q9 h9 j (by omega)) (by omega) hg1 hT hS (lv_sub hl [0, 1] rfl)
              exact J115 (((160 - gk.1 h0 31)).toNat + 1) ls _ _ x109 _ (by omega) (by omega) (by omega) (by exact ex93_2) (by omega) hg1 hT hS (lv_sub hl [1, 0] rfl)
            · refine lv_aload_n hx hb dX4_advance_101 rfl (lv_at hl 0 rfl) ?_
              refine gt_Tape_token hx hb hts ic_Tape hown hK hT g0 (hts _ mw_1_140) dX4_advance_102 (fun x102 i102 e102 g102 => ?_)
              refine r_iconst hx hb dX4_advance_105 (by decide) (by decide) (fun x105 e105 => ?_)
              refine r_icmp_ne (tgt := 113) hx hb dX4_advance_106 (by decide) (fun c106 => ?_) (fun c106 => ?_)
              · refine r_iconst hx hb dX4_advance_113 (by decide) (by decide) (fun x113 e113 => ?_)
                refine lv_istore_n (lv' := [(1, .int x113), (0, .ref h0)]) hx hb dX4_advance_114 rfl hl (by decide) rfl (fun ls hl => ?_)
                have J115 : ∀ (n115 : Nat) (ls : Array Slot) (H : Heap) (locs : List Loc) (y115_1 : Int32) (gk : Gh), (0 ≤ y115_1.toInt ∧ y115_1.toInt ≤ 1) → (0 ≤ gk.1 h0 33 ∧ gk.1 h0 33 ≤ gk.1 h0 31) → (gk.1 h0 31 ≤ 160) → (dgt z gk h0) → (160 - gk.1 h0 31) < (n115 : Int) → eqv gk gh → TY z (zA z) gk H → va_S (zA z) s.heap H locs → lv_has ls 2 [(0, .ref h0), (1, .int y115_1)] → W p l e (rmF 2 86) s m ([.ref h0] : List Value).toArray below meth c H locs 0 0 (MQ below (QcI z (fun r H => ∃ gk : Gh, eqv gk gh ∧ TY z (zA z) gk H ∧ (r.toInt ≠ 0 → gk.1 h0 32 = 2 → gk.1 h0 33 ≤ gk.1 h0 31 ∧ gk.1 h0 31 ≤ gk.1 h0 33 + 2 ∧ dgt z gk h0) ∧ (0 ≤ r.toInt ∧ r.toInt ≤ 1))) ([.ref h0] : List Value).toArray s 0 0 (zA z)) (F0 m 115 ls []) := by
                  intro n115
                  induction n115 with
                  | zero => intro ls H locs y115_1 gk j115_y115_1 ex115_0 ex115_1 ex115_2 mm115 hg1 hT hS hl; exfalso; omega
                  | succ n115 ih115 =>
                    intro ls H locs y115_1 gk j115_y115_1 ex115_0 ex115_1 ex115_2 mm115 hg1 hT hS hl
                    refine lv_iload_n hx hb dX4_advance_115 rfl (lv_at hl 1 rfl) ?_
                    have J158 : ∀ (ls : Array Slot) (H : Heap) (locs : List Loc) (gk : Gh), (0 ≤ gk.1 h0 33 ∧ gk.1 h0 33 ≤ gk.1 h0 31) → (gk.1 h0 31 ≤ 160) → (dgt z gk h0) → eqv gk gh → TY z (zA z) gk H → va_S (zA z) s.heap H locs → lv_has ls 2 [(0, .ref h0), (1, .int y115_1)] → W p l e (rmF 2 86) s m ([.ref h0] : List Value).toArray below meth c H locs 0 0 (MQ below (QcI z (fun r H => ∃ gk : Gh, eqv gk gh ∧ TY z (zA z) gk H ∧ (r.toInt ≠ 0 → gk.1 h0 32 = 2 → gk.1 h0 33 ≤ gk.1 h0 31 ∧ gk.1 h0 31 ≤ gk.1 h0 33 + 2 ∧ dgt z gk h0) ∧ (0 ≤ r.toInt ∧ r.toInt ≤ 1))) ([.ref h0] : List Value).toArray s 0 0 (zA z)) (F0 m 158 ls []) := by
                      intro ls H locs gk ex158_0 ex158_1 ex158_2 hg1 hT hS hl
                      refine lv_aload_n hx hb dX4_advance_158 rfl (lv_at hl 0 rfl) ?_
                      refine gt_Tape_token hx hb hts ic_Tape hown hK hT g0 (hts _ mw_1_140) dX4_advance_159 (fun x159 i159 e159 g159 => ?_)
                      refine r_iconst hx hb dX4_advance_162 (by decide) (by decide) (fun x162 e162 => ?_)
                      refine r_icmp_ne (tgt := 191) hx hb dX4_advance_163 (by decide) (fun c163 => ?_) (fun c163 => ?_)
                      · refine r_iconst hx hb dX4_advance_191 (by decide) (by decide) (fun x191 e191 => ?_)
                        refine lv_goto (tgt := 196) hx hb dX4_advance_192 (by decide) ?_
                        exact rt_z hx hb hr hlk hS (by omega) (by omega) ⟨_, hg1, hT, by
      intro h1 h2
      first
        | (exfalso; omega)
        | exact ⟨by omega, by omega, ex158_2⟩, by omega⟩ dX4_advance_196
                      · refine lv_aload_n hx hb dX4_advance_166 rfl (lv_at hl 0 rfl) ?_
                        refine gt_Tape_next hx hb hts ic_Tape hown hK hT g0 (hts _ mw_1_139) dX4_advance_167 (fun x167 i167 e167 g167 => ?_)
                        refine lv_aload_n hx hb dX4_advance_170 rfl (lv_at hl 0 rfl) ?_
                        refine gt_Tape_start hx hb hts ic_Tape hown hK hT g0 (hts _ mw_1_141) dX4_advance_171 (fun x171 i171 e171 g171 => ?_)
                        refine r_isub hx hb dX4_advance_174 (by omega) (by omega) (fun x174 e174 => ?_)
                        refine r_iconst hx hb dX4_advance_175 (by decide) (by decide) (fun x175 e175 => ?_)
                        refine r_icmp_le (tgt := 191) hx hb dX4_advance_176 (by decide) (fun c176 => ?_) (fun c176 => ?_)
                        · refine r_iconst hx hb dX4_advance_191 (by decide) (by decide) (fun x191 e191 => ?_)
                          refine lv_goto (tgt := 196) hx hb dX4_advance_192 (by decide) ?_
                          exact rt_z hx hb hr hlk hS (by omega) (by omega) ⟨_, hg1, hT, by
      intro h1 h2
      first
        | (exfalso; omega)
        | exact ⟨by omega, by omega, ex158_2⟩, by omega⟩ dX4_advance_196
                        · refine lv_aload_n hx hb dX4_advance_179 rfl (lv_at hl 0 rfl) ?_
                          refine r_iconst hx hb dX4_advance_180 (by decide) (by decide) (fun x180 e180 => ?_)
                          refine lv_aload_n hx hb dX4_advance_181 rfl (lv_at hl 0 rfl) ?_
                          refine gt_Tape_start hx hb hts ic_Tape hown hK hT g0 (hts _ mw_1_141) dX4_advance_182 (fun x182 i182 e182 g182 => ?_)
                          refine cl_Vi (rest := []) hC hK hSK (c_X4_refuse l z gk h0 (o0) g0 x180 x182) k_X4_refuse mw_2_66 ⟨rfl, rfl, Nat.le_of_ble_eq_true rfl, Nat.le_of_ble_eq_true rfl⟩ (rv_Tape hK hT g0) hT rfl hl.1 rfl (Nat.le_of_ble_eq_true rfl) dX4_advance_185 ⟨Nat.zero_le _, Nat.zero_le _⟩ hS (fun _ h => h) (fun _ _ h => h) (fun r185 H locs hpo hS => ?_)
                          obtain ⟨hT, u185_0, u185_1⟩ := hpo
                          refine r_if_eq (tgt := 195) hx hb dX4_advance_188 (by decide) (fun c188 => ?_) (fun c188 => ?_)
                          · refine r_iconst hx hb dX4_advance_195 (by decide) (by decide) (fun x195 e195 => ?_)
                            exact rt_z hx hb hr hlk hS (by omega) (by omega) ⟨_, hg1, hT, by
      intro h1 h2
      first
        | (exfalso; omega)
        | exact ⟨by omega, by omega, ex158_2⟩, by omega⟩ dX4_advance_196
                          · exfalso; omega
                    refine r_if_eq (tgt := 158) hx hb dX4_advance_116 (by decide) (fun c116 => ?_) (fun c116 => ?_)
                    · exact J158 ls _ _ _ (by omega) (by omega) (by exact ex115_2) hg1 hT hS (lv_sub hl [0, 1] rfl)
                    · refine lv_aload_n hx hb dX4_advance_119 rfl (lv_at hl 0 rfl) ?_
                      refine gt_Tape_next hx hb hts ic_Tape hown hK hT g0 (hts _ mw_1_139) dX4_advance_120 (fun x120 i120 e120 g120 => ?_)
                      refine lv_aload_n hx hb dX4_advance_123 rfl (lv_at hl 0 rfl) ?_
                      refine gt_Tape_length hx hb hts ic_Tape hown hK hT g0 (hts _ mw_1_134) dX4_advance_124 (fun x124 i124 e124 g124 => ?_)
                      have i124 := i124.trans (hg1 _ _ rfl)
                      refine r_icmp_ge (tgt := 158) hx hb dX4_advance_127 (by decide) (fun c127 => ?_) (fun c127 => ?_)
                      · exact J158 ls _ _ _ (by omega) (by omega) (by exact ex115_2) hg1 hT hS (lv_sub hl [0, 1] rfl)
                      · refine lv_aload_n hx hb dX4_advance_130 rfl (lv_at hl 0 rfl) ?_
                        refine lv_aload_n hx hb dX4_advance_131 rfl (lv_at hl 0 rfl) ?_
                        refine gt_Tape_next hx hb hts ic_Tape hown hK hT g0 (hts _ mw_1_139) dX4_advance_132 (fun x132 i132 e132 g132 => ?_)
                        refine cl_Vi (rest := []) hC hK hSK (c_X4_tokenAt l z gk h0 (o0) g0 x132 (by omega) pr0) k_X4_tokenAt mw_2_62 ⟨rfl, rfl, Nat.le_of_ble_eq_true rfl, Nat.le_of_ble_eq_true rfl⟩ (rv_Tape hK hT g0) hT rfl hl.1 rfl (Nat.le_of_ble_eq_true rfl) dX4_advance_135 ⟨Nat.zero_le _, Nat.zero_le _⟩ hS (fun _ h => h) (fun _ _ h => h) (fun r135 H locs hpo hS => ?_)
                        obtain ⟨hT, u135_0, u135_1, u135_2⟩ := hpo
                        have tb135 := ty_tp hT g0
                        refine lv_aload_n hx hb dX4_advance_138 rfl (lv_at hl 0 rfl) ?_
                        refine gt_Tape_token hx hb hts ic_Tape hown hK hT g0 (hts _ mw_1_140) dX4_advance_139 (fun x139 i139 e139 g139 => ?_)
                        refine r_icmp_ne (tgt := 158) hx hb dX4_advance_142 (by decide) (fun c142 => ?_) (fun c142 => ?_)
                        · exact J158 ls _ _ _ (by omega) (by omega) (by exact ex115_2) hg1 hT hS (lv_sub hl [0, 1] rfl)
                        · refine lv_aload_n hx hb dX4_advance_145 rfl (lv_at hl 0 rfl) ?_
                          refine lv_dup hx hb dX4_advance_146 rfl ?_
                          refine gt_Tape_next hx hb hts ic_Tape hown hK hT g0 (hts _ mw_1_139) dX4_advance_147 (fun x147 i147 e147 g147 => ?_)
                          refine r_iconst hx hb dX4_advance_150 (by decide) (by decide) (fun x150 e150 => ?_)
                          refine r_iadd hx hb dX4_advance_151 (by omega) (by omega) (fun x151 e151 => ?_)
                          refine pt_Tape_next hx hb hts ic_Tape hown hK hT hS g0 (hts _ mw_1_139) (by omega) (by omega) dX4_advance_152 (fun H locs hT hS => ?_)
                          obtain ⟨gk152, w152, hq152, y152, hg1, hT⟩ : ∃ g : Gh, g.1 h0 31 = x151.toInt ∧ (∀ b k, k ≠ 31 → g.1 b k = gk.1 b k) ∧ g.2 = gk.2 ∧ eqv g gh ∧ TY z (zA z) g H := ⟨_, gs_at _ _ _ _, fun b k hk => gs_nk _ _ _ _ hk, rfl, eqv_gs rfl hg1, hT⟩
                          have t152_30 := hq152 h0 30 (by decide)
                          have t152_32 := hq152 h0 32 (by decide)
                          have t152_33 := hq152 h0 33 (by decide)
                          have t152_39 := hq152 h0 39 (by decide)
                          refine lv_goto (tgt := 115) hx hb dX4_advance_155 (by decide) ?_
                          exact ih115 ls _ _ y115_1 _ (by omega) (by omega) (by omega) (by unfold dgt; intro h2 q9 h9 j h3 h4; rw [y152]; by_cases hj : (j : Int) < gk.1 h0 31; exact ex115_2 (by omega) q9 h9 j (by omega) hj; exact u135_1 (by omega) q9 h9 j (by omega)) (by omega) hg1 hT hS (lv_sub hl [0, 1] rfl)
                exact J115 (((160 - gk.1 h0 31)).toNat + 1) ls _ _ x113 _ (by omega) (by omega) (by omega) (by exact ex93_2) (by omega) hg1 hT hS (lv_sub hl [1, 0] rfl)
              · refine r_iconst hx hb dX4_advance_109 (by decide) (by decide) (fun x109 e109 => ?_)
                refine lv_goto (tgt := 114) hx hb dX4_advance_110 (by decide) ?_
                refine lv_istore_n (lv' := [(1, .int x109), (0, .ref h0)]) hx hb dX4_advance_114 rfl hl (by decide) rfl (fun ls hl => ?_)
                have J115 : ∀ (n115 : Nat) (ls : Array Slot) (H : Heap) (locs : List Loc) (y115_1 : Int32) (gk : Gh), (0 ≤ y115_1.toInt ∧ y115_1.toInt ≤ 1) → (0 ≤ gk.1 h0 33 ∧ gk.1 h0 33 ≤ gk.1 h0 31) → (gk.1 h0 31 ≤ 160) → (dgt z gk h0) → (160 - gk.1 h0 31) < (n115 : Int) → eqv gk gh → TY z (zA z) gk H → va_S (zA z) s.heap H locs → lv_has ls 2 [(0, .ref h0), (1, .int y115_1)] → W p l e (rmF 2 86) s m ([.ref h0] : List Value).toArray below meth c H locs 0 0 (MQ below (QcI z (fun r H => ∃ gk : Gh, eqv gk gh ∧ TY z (zA z) gk H ∧ (r.toInt ≠ 0 → gk.1 h0 32 = 2 → gk.1 h0 33 ≤ gk.1 h0 31 ∧ gk.1 h0 31 ≤ gk.1 h0 33 + 2 ∧ dgt z gk h0) ∧ (0 ≤ r.toInt ∧ r.toInt ≤ 1))) ([.ref h0] : List Value).toArray s 0 0 (zA z)) (F0 m 115 ls []) := by
                  intro n115
                  induction n115 with
                  | zero => intro ls H locs y115_1 gk j115_y115_1 ex115_0 ex115_1 ex115_2 mm115 hg1 hT hS hl; exfalso; omega
                  | succ n115 ih115 =>
                    intro ls H locs y115_1 gk j115_y115_1 ex115_0 ex115_1 ex115_2 mm115 hg1 hT hS hl
                    refine lv_iload_n hx hb dX4_advance_115 rfl (lv_at hl 1 rfl) ?_
                    have J158 : ∀ (ls : Array Slot) (H : Heap) (locs : List Loc) (gk : Gh), (0 ≤ gk.1 h0 33 ∧ gk.1 h0 33 ≤ gk.1 h0 31) → (gk.1 h0 31 ≤ 160) → (dgt z gk h0) → eqv gk gh → TY z (zA z) gk H → va_S (zA z) s.heap H locs → lv_has ls 2 [(0, .ref h0), (1, .int y115_1)] → W p l e (rmF 2 86) s m ([.ref h0] : List Value).toArray below meth c H locs 0 0 (MQ below (QcI z (fun r H => ∃ gk : Gh, eqv gk gh ∧ TY z (zA z) gk H ∧ (r.toInt ≠ 0 → gk.1 h0 32 = 2 → gk.1 h0 33 ≤ gk.1 h0 31 ∧ gk.1 h0 31 ≤ gk.1 h0 33 + 2 ∧ dgt z gk h0) ∧ (0 ≤ r.toInt ∧ r.toInt ≤ 1))) ([.ref h0] : List Value).toArray s 0 0 (zA z)) (F0 m 158 ls []) := by
                      intro ls H locs gk ex158_0 ex158_1 ex158_2 hg1 hT hS hl
                      refine lv_aload_n hx hb dX4_advance_158 rfl (lv_at hl 0 rfl) ?_
                      refine gt_Tape_token hx hb hts ic_Tape hown hK hT g0 (hts _ mw_1_140) dX4_advance_159 (fun x159 i159 e159 g159 => ?_)
                      refine r_iconst hx hb dX4_advance_162 (by decide) (by decide) (fun x162 e162 => ?_)
                      refine r_icmp_ne (tgt := 191) hx hb dX4_advance_163 (by decide) (fun c163 => ?_) (fun c163 => ?_)
                      · refine r_iconst hx hb dX4_advance_191 (by decide) (by decide) (fun x191 e191 => ?_)
                        refine lv_goto (tgt := 196) hx hb dX4_advance_192 (by decide) ?_
                        exact rt_z hx hb hr hlk hS (by omega) (by omega) ⟨_, hg1, hT, by
      intro h1 h2
      first
        | (exfalso; omega)
        | exact ⟨by omega, by omega, ex158_2⟩, by omega⟩ dX4_advance_196
                      · refine lv_aload_n hx hb dX4_advance_166 rfl (lv_at hl 0 rfl) ?_
                        refine gt_Tape_next hx hb hts ic_Tape hown hK hT g0 (hts _ mw_1_139) dX4_advance_167 (fun x167 i167 e167 g167 => ?_)
                        refine lv_aload_n hx hb dX4_advance_170 rfl (lv_at hl 0 rfl) ?_
                        refine gt_Tape_start hx hb hts ic_Tape hown hK hT g0 (hts _ mw_1_141) dX4_advance_171 (fun x171 i171 e171 g171 => ?_)
                        refine r_isub hx hb dX4_advance_174 (by omega) (by omega) (fun x174 e174 => ?_)
                        refine r_iconst hx hb dX4_advance_175 (by decide) (by decide) (fun x175 e175 => ?_)
                        refine r_icmp_le (tgt := 191) hx hb dX4_advance_176 (by decide) (fun c176 => ?_) (fun c176 => ?_)
                        · refine r_iconst hx hb dX4_advance_191 (by decide) (by decide) (fun x191 e191 => ?_)
                          refine lv_goto (tgt := 196) hx hb dX4_advance_192 (by decide) ?_
                          exact rt_z hx hb hr hlk hS (by omega) (by omega) ⟨_, hg1, hT, by
      intro h1 h2
      first
        | (exfalso; omega)
        | exact ⟨by omega, by omega, ex158_2⟩, by omega⟩ dX4_advance_196
                        · refine lv_aload_n hx hb dX4_advance_179 rfl (lv_at hl 0 rfl) ?_
                          refine r_iconst hx hb dX4_advance_180 (by decide) (by decide) (fun x180 e180 => ?_)
                          refine lv_aload_n hx hb dX4_advance_181 rfl (lv_at hl 0 rfl) ?_
                          refine gt_Tape_start hx hb hts ic_Tape hown hK hT g0 (hts _ mw_1_141) dX4_advance_182 (fun x182 i182 e182 g182 => ?_)
                          refine cl_Vi (rest := []) hC hK hSK (c_X4_refuse l z gk h0 (o0) g0 x180 x182) k_X4_refuse mw_2_66 ⟨rfl, rfl, Nat.le_of_ble_eq_true rfl, Nat.le_of_ble_eq_true rfl⟩ (rv_Tape hK hT g0) hT rfl hl.1 rfl (Nat.le_of_ble_eq_true rfl) dX4_advance_185 ⟨Nat.zero_le _, Nat.zero_le _⟩ hS (fun _ h => h) (fun _ _ h => h) (fun r185 H locs hpo hS => ?_)
                          obtain ⟨hT, u185_0, u185_1⟩ := hpo
                          refine r_if_eq (tgt := 195) hx hb dX4_advance_188 (by decide) (fun c188 => ?_) (fun c188 => ?_)
                          · refine r_iconst hx hb dX4_advance_195 (by decide) (by decide) (fun x195 e195 => ?_)
                            exact rt_z hx hb hr hlk hS (by omega) (by omega) ⟨_, hg1, hT, by
      intro h1 h2
      first
        | (exfalso; omega)
        | exact ⟨by omega, by omega, ex158_2⟩, by omega⟩ dX4_advance_196
                          · exfalso; omega
                    refine r_if_eq (tgt := 158) hx hb dX4_advance_116 (by decide) (fun c116 => ?_) (fun c116 => ?_)
                    · exact J158 ls _ _ _ (by omega) (by omega) (by exact ex115_2) hg1 hT hS (lv_sub hl [0, 1] rfl)
                    · refine lv_aload_n hx hb dX4_advance_119 rfl (lv_at hl 0 rfl) ?_
                      refine gt_Tape_next hx hb hts ic_Tape hown hK hT g0 (hts _ mw_1_139) dX4_advance_120 (fun x120 i120 e120 g120 => ?_)
                      refine lv_aload_n hx hb dX4_advance_123 rfl (lv_at hl 0 rfl) ?_
                      refine gt_Tape_length hx hb hts ic_Tape hown hK hT g0 (hts _ mw_1_134) dX4_advance_124 (fun x124 i124 e124 g124 => ?_)
                      have i124 := i124.trans (hg1 _ _ rfl)
                      refine r_icmp_ge (tgt := 158) hx hb dX4_advance_127 (by decide) (fun c127 => ?_) (fun c127 => ?_)
                      · exact J158 ls _ _ _ (by omega) (by omega) (by exact ex115_2) hg1 hT hS (lv_sub hl [0, 1] rfl)
                      · refine lv_aload_n hx hb dX4_advance_130 rfl (lv_at hl 0 rfl) ?_
                        refine lv_aload_n hx hb dX4_advance_131 rfl (lv_at hl 0 rfl) ?_
                        refine gt_Tape_next hx hb hts ic_Tape hown hK hT g0 (hts _ mw_1_139) dX4_advance_132 (fun x132 i132 e132 g132 => ?_)
                        refine cl_Vi (rest := []) hC hK hSK (c_X4_tokenAt l z gk h0 (o0) g0 x132 (by omega) pr0) k_X4_tokenAt mw_2_62 ⟨rfl, rfl, Nat.le_of_ble_eq_true rfl, Nat.le_of_ble_eq_true rfl⟩ (rv_Tape hK hT g0) hT rfl hl.1 rfl (Nat.le_of_ble_eq_true rfl) dX4_advance_135 ⟨Nat.zero_le _, Nat.zero_le _⟩ hS (fun _ h => h) (fun _ _ h => h) (fun r135 H locs hpo hS => ?_)
                        obtain ⟨hT, u135_0, u135_1, u135_2⟩ := hpo
                        have tb135 := ty_tp hT g0
                        refine lv_aload_n hx hb dX4_advance_138 rfl (lv_at hl 0 rfl) ?_
                        refine gt_Tape_token hx hb hts ic_Tape hown hK hT g0 (hts _ mw_1_140) dX4_advance_139 (fun x139 i139 e139 g139 => ?_)
                        refine r_icmp_ne (tgt := 158) hx hb dX4_advance_142 (by decide) (fun c142 => ?_) (fun c142 => ?_)
                        · exact J158 ls _ _ _ (by omega) (by omega) (by exact ex115_2) hg1 hT hS (lv_sub hl [0, 1] rfl)
                        · refine lv_aload_n hx hb dX4_advance_145 rfl (lv_at hl 0 rfl) ?_
                          refine lv_dup hx hb dX4_advance_146 rfl ?_
                          refine gt_Tape_next hx hb hts ic_Tape hown hK hT g0 (hts _ mw_1_139) dX4_advance_147 (fun x147 i147 e147 g147 => ?_)
                          refine r_iconst hx hb dX4_advance_150 (by decide) (by decide) (fun x150 e150 => ?_)
                          refine r_iadd hx hb dX4_advance_151 (by omega) (by omega) (fun x151 e151 => ?_)
                          refine pt_Tape_next hx hb hts ic_Tape hown hK hT hS g0 (hts _ mw_1_139) (by omega) (by omega) dX4_advance_152 (fun H locs hT hS => ?_)
                          obtain ⟨gk152, w152, hq152, y152, hg1, hT⟩ : ∃ g : Gh, g.1 h0 31 = x151.toInt ∧ (∀ b k, k ≠ 31 → g.1 b k = gk.1 b k) ∧ g.2 = gk.2 ∧ eqv g gh ∧ TY z (zA z) g H := ⟨_, gs_at _ _ _ _, fun b k hk => gs_nk _ _ _ _ hk, rfl, eqv_gs rfl hg1, hT⟩
                          have t152_30 := hq152 h0 30 (by decide)
                          have t152_32 := hq152 h0 32 (by decide)
                          have t152_33 := hq152 h0 33 (by decide)
                          have t152_39 := hq152 h0 39 (by decide)
                          refine lv_goto (tgt := 115) hx hb dX4_advance_155 (by decide) ?_
                          exact ih115 ls _ _ y115_1 _ (by omega) (by omega) (by omega) (by unfold dgt; intro h2 q9 h9 j h3 h4; rw [y152]; by_cases hj : (j : Int) < gk.1 h0 31; exact ex115_2 (by omega) q9 h9 j (by omega) hj; exact u135_1 (by omega) q9 h9 j (by omega)) (by omega) hg1 hT hS (lv_sub hl [0, 1] rfl)
                exact J115 (((160 - gk.1 h0 31)).toNat + 1) ls _ _ x109 _ (by omega) (by omega) (by omega) (by exact ex93_2) (by omega) hg1 hT hS (lv_sub hl [1, 0] rfl)
          refine r_if_eq (tgt := 93) hx hb dX4_advance_80 (by decide) (fun c80 => ?_) (fun c80 => ?_)
          · exact J93 ls _ _ _ (by omega) (by omega) (by unfold dgt; intro h2 q9 h9 j h3 h4; exfalso; omega) hg1 hT hS (lv_sub hl [0] rfl)
          · refine lv_aload_n hx hb dX4_advance_83 rfl (lv_at hl 0 rfl) ?_
            refine lv_dup hx hb dX4_advance_84 rfl ?_
            refine gt_Tape_next hx hb hts ic_Tape hown hK hT g0 (hts _ mw_1_139) dX4_advance_85 (fun x85 i85 e85 g85 => ?_)
            refine r_iconst hx hb dX4_advance_88 (by decide) (by decide) (fun x88 e88 => ?_)
            refine r_iadd hx hb dX4_advance_89 (by omega) (by omega) (fun x89 e89 => ?_)
            refine pt_Tape_next hx hb hts ic_Tape hown hK hT hS g0 (hts _ mw_1_139) (by omega) (by omega) dX4_advance_90 (fun H locs hT hS => ?_)
            obtain ⟨gk90, w90, hq90, y90, hg1, hT⟩ : ∃ g : Gh, g.1 h0 31 = x89.toInt ∧ (∀ b k, k ≠ 31 → g.1 b k = gk55.1 b k) ∧ g.2 = gk55.2 ∧ eqv g gh ∧ TY z (zA z) g H := ⟨_, gs_at _ _ _ _, fun b k hk => gs_nk _ _ _ _ hk, rfl, eqv_gs rfl hg1, hT⟩
            have t90_30 := hq90 h0 30 (by decide)
            have t90_32 := hq90 h0 32 (by decide)
            have t90_33 := hq90 h0 33 (by decide)
            have t90_39 := hq90 h0 39 (by decide)
            exact J93 ls _ _ _ (by omega) (by omega) (by unfold dgt; intro h2 q9 h9 j h3 h4; rw [y90, y55]; exact u52_1 (by omega) q9 h9 j (by omega)) hg1 hT hS (lv_sub hl [0] rfl)
        · refine lv_aload_n hx hb dX4_advance_66 rfl (lv_at hl 0 rfl) ?_
          refine r_iconst hx hb dX4_advance_67 (by decide) (by decide) (fun x67 e67 => ?_)
          refine lv_aload_n hx hb dX4_advance_68 rfl (lv_at hl 0 rfl) ?_
          refine gt_Tape_start hx hb hts ic_Tape hown hK hT g0 (hts _ mw_1_141) dX4_advance_69 (fun x69 i69 e69 g69 => ?_)
          refine cl_Vi (rest := []) hC hK hSK (c_X4_refuse l z gk55 h0 (o0) g0 x67 x69) k_X4_refuse mw_2_66 ⟨rfl, rfl, Nat.le_of_ble_eq_true rfl, Nat.le_of_ble_eq_true rfl⟩ (rv_Tape hK hT g0) hT rfl hl.1 rfl (Nat.le_of_ble_eq_true rfl) dX4_advance_72 ⟨Nat.zero_le _, Nat.zero_le _⟩ hS (fun _ h => h) (fun _ _ h => h) (fun r72 H locs hpo hS => ?_)
          obtain ⟨hT, u72_0, u72_1⟩ := hpo
          exact rt_z hx hb hr hlk hS (by omega) (by omega) ⟨_, hg1, hT, by
      intro h1 h2
      first
        | (exfalso; omega)
        | exact ⟨by omega, by omega, ex158_2⟩, by omega⟩ dX4_advance_75
      refine r_icmp_ge (tgt := 38) hx hb dX4_advance_8 (by decide) (fun c8 => ?_) (fun c8 => ?_)
      · exact J38 ls _ _ _ (by omega) hg1 hT hS (lv_sub hl [0] rfl)
      · refine lv_aload_n hx hb dX4_advance_11 rfl (lv_at hl 0 rfl) ?_
        refine gt_Tape_bytes hx hb hts ic_Tape hown hK hT g0 (hts _ mw_1_129) dX4_advance_12 (fun q12 hq12 => ?_)
        refine lv_aload_n hx hb dX4_advance_15 rfl (lv_at hl 0 rfl) ?_
        refine gt_Tape_next hx hb hts ic_Tape hown hK hT g0 (hts _ mw_1_139) dX4_advance_16 (fun x16 i16 e16 g16 => ?_)
        refine al_30 hx hb hK hT hq12 (by omega) (by omega) dX4_advance_19 (fun x19 i19 e19 => ?_)
        have n19 := ix_nat (i := x16) (by omega)
        unfold p30 at e19
        refine r_bipush hx hb dX4_advance_20 rfl (fun x20 e20 => ?_)
        refine r_icmp_ne (tgt := 38) hx hb dX4_advance_22 (by decide) (fun c22 => ?_) (fun c22 => ?_)
        · exact J38 ls _ _ _ (by omega) hg1 hT hS (lv_sub hl [0] rfl)
        · refine lv_aload_n hx hb dX4_advance_25 rfl (lv_at hl 0 rfl) ?_
          refine lv_dup hx hb dX4_advance_26 rfl ?_
          refine gt_Tape_next hx hb hts ic_Tape hown hK hT g0 (hts _ mw_1_139) dX4_advance_27 (fun x27 i27 e27 g27 => ?_)
          refine r_iconst hx hb dX4_advance_30 (by decide) (by decide) (fun x30 e30 => ?_)
          refine r_iadd hx hb dX4_advance_31 (by omega) (by omega) (fun x31 e31 => ?_)
          refine pt_Tape_next hx hb hts ic_Tape hown hK hT hS g0 (hts _ mw_1_139) (by omega) (by omega) dX4_advance_32 (fun H locs hT hS => ?_)
          obtain ⟨gk32, w32, hq32, y32, hg1, hT⟩ : ∃ g : Gh, g.1 h0 31 = x31.toInt ∧ (∀ b k, k ≠ 31 → g.1 b k = gk.1 b k) ∧ g.2 = gk.2 ∧ eqv g gh ∧ TY z (zA z) g H := ⟨_, gs_at _ _ _ _, fun b k hk => gs_nk _ _ _ _ hk, rfl, eqv_gs rfl hg1, hT⟩
          have t32_30 := hq32 h0 30 (by decide)
          have t32_32 := hq32 h0 32 (by decide)
          have t32_33 := hq32 h0 33 (by decide)
          have t32_39 := hq32 h0 39 (by decide)
          refine lv_goto (tgt := 0) hx hb dX4_advance_35 (by decide) ?_
          exact ih0 ls _ _ _ (by omega) (by omega) hg1 hT hS (lv_sub hl [0] rfl)
  exact J0 (((160 - gh.1 h0 31)).toNat + 1) ls _ _ _ (by omega) (by omega) hg1 hT hS (lv_sub hl [0] rfl)
theorem k_X4_number : cBV yX4_number cX4_number 3 (some .boolean) 1 := ⟨mw_2_145, ms_0_7, mw_1_2, mw_2_146, ⟨by decide, by decide, by decide⟩⟩
set_option maxHeartbeats 4000000 in
set_option maxRecDepth 100000 in
theorem c_X4_number (l : Launch) (z : Zt) (gh : Gh) (h0 o0 : Nat) (g0 : zG z h0 = (14, o0)) (p1 : Int32) (pr0 : zu z) : Met l yX4_number (uw yX4_number cX4_number 3 (some .boolean)) (rmF 3 107) (PcW z [.ref h0, .int p1] (fun H => TY z (zA z) gh H)) (QcI z (fun r H => ∃ gk : Gh, eqv gk gh ∧ TY z (zA z) gk H ∧ (r.toInt ≠ 0 → 0 ≤ gk.1 h0 39 ∧ gk.1 h0 39 ≤ p1.toInt) ∧ (0 ≤ r.toInt ∧ r.toInt ≤ 1))) 0 0 (zA z) := by
  refine Met.ofW (cc := cX4_number) (maxL := 3) (ret := (some .boolean)) (by decide) rfl ?_
  intro p e s m args below meth c s₁ B hml hv
  obtain ⟨rfl, hW, hK, hSK⟩ := hv
  have hx := B.exec
  have hb := B.bytes
  have hr := B.returns
  have hts : ∀ w ∈ lw_ok, w.before ([.ref h0, .int p1] : List Value).toArray s = true := fun w hw => atoms_spec (ws := uw yX4_number cX4_number 3 (some .boolean)) B.pre w (List.mem_cons_of_mem _ hw)
  have hown : s.vm.findClass RX4 = some m.cls := findClass_of_methodNamed B.named
  have hlk := B.notSynchronized
  have hC : CallFix p m c cX4_number 3 s ([.ref h0, .int p1] : List Value).toArray lw_ok RX4 := ⟨hx, hb, hml, hown, hts⟩
  have hS : va_S (zA z) s.heap s.heap [] := va_S.rf
  have hl := lv_entry ([.ref h0, .int p1]) (n := 3) (Nat.le_of_ble_eq_true rfl)
  rw [lg_entry_eq]
  generalize (lg_sl ([.ref h0, .int p1]) ++ List.replicate (3 - (lg_sl ([.ref h0, .int p1])).length) Slot.unset).toArray = ls at hl ⊢
  have hl : lv_has ls 3 [(0, .ref h0), (1, .int p1)] := hl
  show W p l e (rmF 3 107) s m ([.ref h0, .int p1] : List Value).toArray below meth c s.heap [] 0 0 (MQ below (QcI z (fun r H => ∃ gk : Gh, eqv gk gh ∧ TY z (zA z) gk H ∧ (r.toInt ≠ 0 → 0 ≤ gk.1 h0 39 ∧ gk.1 h0 39 ≤ p1.toInt) ∧ (0 ≤ r.toInt ∧ r.toInt ≤ 1))) ([.ref h0, .int p1] : List Value).toArray s 0 0 (zA z)) (F0 m 0 ls [])
  have hT : TY z (zA z) gh s.heap := hW
  have hg1 : eqv gh gh := eqv_rf gh
  have mx_p1 := i_mx p1
  refine lv_aload_n hx hb dX4_number_0 rfl (lv_at hl 0 rfl) ?_
  refine cl_Vi (rest := []) hC hK hSK (c_X4_advance l z gh h0 (o0) g0 pr0) k_X4_advance mw_2_58 ⟨rfl, rfl, Nat.le_of_ble_eq_true rfl, Nat.le_of_ble_eq_true rfl⟩ (rv_Tape hK hT g0) hT rfl hl.1 rfl (Nat.le_of_ble_eq_true rfl) dX4_number_1 ⟨Nat.zero_le _, Nat.zero_le _⟩ hS (fun _ h => h) (fun _ _ h => h) (fun r1 H locs hpo hS => ?_)
  obtain ⟨gk1, hz1, hT, u1_0, u1_1⟩ := hpo
  have hg1 := eqv_tr hz1 hg1
  have tz1_30 := hz1 h0 30 rfl
  refine r_if_ne (tgt := 9) hx hb dX4_number_4 (by decide) (fun c4 => ?_) (fun c4 => ?_)
  · refine lv_aload_n hx hb dX4_number_9 rfl (lv_at hl 0 rfl) ?_
    refine gt_Tape_token hx hb hts ic_Tape hown hK hT g0 (hts _ mw_1_140) dX4_number_10 (fun x10 i10 e10 g10 => ?_)
    refine r_iconst hx hb dX4_number_13 (by decide) (by decide) (fun x13 e13 => ?_)
    refine r_icmp_eq (tgt := 27) hx hb dX4_number_14 (by decide) (fun c14 => ?_) (fun c14 => ?_)
    · refine lv_aload_n hx hb dX4_number_27 rfl (lv_at hl 0 rfl) ?_
      refine r_iconst hx hb dX4_number_28 (by decide) (by decide) (fun x28 e28 => ?_)
      have v29 := u1_0 (by omega) (by omega)
      obtain ⟨va29, vb29, vc29⟩ := v29
      have tb29 := ty_tp hT g0
      have mx29 := i_mx x28
      refine pt_Tape_value hx hb hts ic_Tape hown hK hT hS g0 (hts _ mw_1_142) (by omega) (by omega) dX4_number_29 (fun H locs hT hS => ?_)
      obtain ⟨gk29, w29, hq29, y29, hg1, hT⟩ : ∃ g : Gh, g.1 h0 39 = x28.toInt ∧ (∀ b k, k ≠ 39 → g.1 b k = gk1.1 b k) ∧ g.2 = gk1.2 ∧ eqv g gh ∧ TY z (zA z) g H := ⟨_, gs_at _ _ _ _, fun b k hk => gs_nk _ _ _ _ hk, rfl, eqv_gs rfl hg1, hT⟩
      have t29_30 := hq29 h0 30 (by decide)
      have t29_31 := hq29 h0 31 (by decide)
      have t29_32 := hq29 h0 32 (by decide)
      have t29_33 := hq29 h0 33 (by decide)
      refine lv_aload_n hx hb dX4_number_32 rfl (lv_at hl 0 rfl) ?_
      refine gt_Tape_start hx hb hts ic_Tape hown hK hT g0 (hts _ mw_1_141) dX4_number_33 (fun x33 i33 e33 g33 => ?_)
      refine lv_istore_n (lv' := [(2, .int x33), (0, .ref h0), (1, .int p1)]) hx hb dX4_number_36 rfl hl (by decide) rfl (fun ls hl => ?_)
      have J37 : ∀ (n37 : Nat) (ls : Array Slot) (H : Heap) (locs : List Loc) (y37_2 : Int32) (gk : Gh), (0 ≤ y37_2.toInt ∧ y37_2.toInt ≤ 160) → (0 ≤ gk.1 h0 39) → (y37_2.toInt = gk.1 h0 33 → gk.1 h0 39 = 0) → (y37_2.toInt = gk.1 h0 33 + 1 → gk.1 h0 39 ≤ 9) → (gk.1 h0 33 ≤ y37_2.toInt) → (gk.1 h0 31 ≤ gk.1 h0 33 + 2) → (gk.1 h0 32 = 2) → (dgt z gk h0) → (0 ≤ gk.1 h0 33 ∧ gk.1 h0 31 ≤ 160) → (160 - y37_2.toInt) < (n37 : Int) → eqv gk gh → TY z (zA z) gk H → va_S (zA z) s.heap H locs → lv_has ls 3 [(0, .ref h0), (1, .int p1), (2, .int y37_2)] → W p l e (rmF 3 107) s m ([.ref h0, .int p1] : List Value).toArray below meth c H locs 0 0 (MQ below (QcI z (fun r H => ∃ gk : Gh, eqv gk gh ∧ TY z (zA z) gk H ∧ (r.toInt ≠ 0 → 0 ≤ gk.1 h0 39 ∧ gk.1 h0 39 ≤ p1.toInt) ∧ (0 ≤ r.toInt ∧ r.toInt ≤ 1))) ([.ref h0, .int p1] : List Value).toArray s 0 0 (zA z)) (F0 m 37 ls []) := by
        intro n37
        induction n37 with
        | zero => intro ls H locs y37_2 gk j37_y37_2 ex37_0 ex37_1 ex37_2 ex37_3 ex37_4 ex37_5 ex37_6 ex37_7 mm37 hg1 hT hS hl; exfalso; omega
        | succ n37 ih37 =>
          intro ls H locs y37_2 gk j37_y37_2 ex37_0 ex37_1 ex37_2 ex37_3 ex37_4 ex37_5 ex37_6 ex37_7 mm37 hg1 hT hS hl
          refine lv_iload_n hx hb dX4_number_37 rfl (lv_at hl 2 rfl) ?_
          refine lv_aload_n hx hb dX4_number_38 rfl (lv_at hl 0 rfl) ?_
          refine gt_Tape_next hx hb hts ic_Tape hown hK hT g0 (hts _ mw_1_139) dX4_number_39 (fun x39 i39 e39 g39 => ?_)
          refine r_icmp_ge (tgt := 72) hx hb dX4_number_42 (by decide) (fun c42 => ?_) (fun c42 => ?_)
          · refine lv_aload_n hx hb dX4_number_72 rfl (lv_at hl 0 rfl) ?_
            refine gt_Tape_value hx hb hts ic_Tape hown hK hT g0 (hts _ mw_1_142) dX4_number_73 (fun x73 i73 e73 g73 => ?_)
            refine lv_iload_n hx hb dX4_number_76 rfl (lv_at hl 1 rfl) ?_
            refine r_icmp_le (tgt := 92) hx hb dX4_number_77 (by decide) (fun c77 => ?_) (fun c77 => ?_)
            · refine r_iconst hx hb dX4_number_92 (by decide) (by decide) (fun x92 e92 => ?_)
              refine lv_goto (tgt := 97) hx hb dX4_number_93 (by decide) ?_
              exact rt_z hx hb hr hlk hS (by omega) (by omega) ⟨_, hg1, hT, by omega, by omega⟩ dX4_number_97
            · refine lv_aload_n hx hb dX4_number_80 rfl (lv_at hl 0 rfl) ?_
              refine r_iconst hx hb dX4_number_81 (by decide) (by decide) (fun x81 e81 => ?_)
              refine lv_aload_n hx hb dX4_number_82 rfl (lv_at hl 0 rfl) ?_
              refine gt_Tape_start hx hb hts ic_Tape hown hK hT g0 (hts _ mw_1_141) dX4_number_83 (fun x83 i83 e83 g83 => ?_)
              refine cl_Vi (rest := []) hC hK hSK (c_X4_refuse l z gk h0 (o0) g0 x81 x83) k_X4_refuse mw_2_66 ⟨rfl, rfl, Nat.le_of_ble_eq_true rfl, Nat.le_of_ble_eq_true rfl⟩ (rv_Tape hK hT g0) hT rfl hl.1 rfl (Nat.le_of_ble_eq_true rfl) dX4_number_86 ⟨Nat.zero_le _, Nat.zero_le _⟩ hS (fun _ h => h) (fun _ _ h => h) (fun r86 H locs hpo hS => ?_)
              obtain ⟨hT, u86_0, u86_1⟩ := hpo
              refine r_if_eq (tgt := 96) hx hb dX4_number_89 (by decide) (fun c89 => ?_) (fun c89 => ?_)
              · refine r_iconst hx hb dX4_number_96 (by decide) (by decide) (fun x96 e96 => ?_)
                exact rt_z hx hb hr hlk hS (by omega) (by omega) ⟨_, hg1, hT, by omega, by omega⟩ dX4_number_97
              · exfalso; omega
          · refine lv_aload_n hx hb dX4_number_45 rfl (lv_at hl 0 rfl) ?_
            refine lv_aload_n hx hb dX4_number_46 rfl (lv_at hl 0 rfl) ?_
            refine gt_Tape_value hx hb hts ic_Tape hown hK hT g0 (hts _ mw_1_142) dX4_number_47 (fun x47 i47 e47 g47 => ?_)
            refine r_bipush hx hb dX4_number_50 rfl (fun x50 e50 => ?_)
            refine r_imul (10) (by omega) hx hb dX4_number_52 (by omega) (by omega) (fun x52 e52 => ?_)
            refine lv_aload_n hx hb dX4_number_53 rfl (lv_at hl 0 rfl) ?_
            refine gt_Tape_bytes hx hb hts ic_Tape hown hK hT g0 (hts _ mw_1_129) dX4_number_54 (fun q54 hq54 => ?_)
            refine lv_iload_n hx hb dX4_number_57 rfl (lv_at hl 2 rfl) ?_
            refine al_30 hx hb hK hT hq54 (by omega) (by omega) dX4_number_58 (fun x58 i58 e58 => ?_)
            have n58 := ix_nat (i := y37_2) (by omega)
            unfold p30 at e58
            have k58 := ex37_6 ex37_5 q54 hq54 y37_2.toNatClampNeg (by omega) (by omega)
            rw [← i58] at k58
            refine r_iadd hx hb dX4_number_59 (by omega) (by omega) (fun x59 e59 => ?_)
            refine r_bipush hx hb dX4_number_60 rfl (fun x60 e60 => ?_)
            refine r_isub hx hb dX4_number_62 (by omega) (by omega) (fun x62 e62 => ?_)
            have mx63 := i_mx x62
            refine pt_Tape_value hx hb hts ic_Tape hown hK hT hS g0 (hts _ mw_1_142) (by omega) (by omega) dX4_number_63 (fun H locs hT hS => ?_)
            obtain ⟨gk63, w63, hq63, y63, hg1, hT⟩ : ∃ g : Gh, g.1 h0 39 = x62.toInt ∧ (∀ b k, k ≠ 39 → g.1 b k = gk.1 b k) ∧ g.2 = gk.2 ∧ eqv g gh ∧ TY z (zA z) g H := ⟨_, gs_at _ _ _ _, fun b k hk => gs_nk _ _ _ _ hk, rfl, eqv_gs rfl hg1, hT⟩
            have t63_30 := hq63 h0 30 (by decide)
            have t63_31 := hq63 h0 31 (by decide)
            have t63_32 := hq63 h0 32 (by decide)
            have t63_33 := hq63 h0 33 (by decide)
            refine r_iinc (lv' := fun v__ => [(2, .int v__), (0, .ref h0), (1, .int p1)]) hx hb dX4_number_66 hl (k := 2) rfl (by decide) (fun _ => rfl) ⟨by decide, by decide⟩ (by omega) (by omega) (fun x66 ls e66 hl => ?_)
            refine lv_goto (tgt := 37) hx hb dX4_number_69 (by decide) ?_
            exact ih37 ls _ _ x66 _ (by omega) (by omega) (by omega) (by omega) (by omega) (by omega) (by omega) (by unfold dgt; intro h2 q9 h9 j h3 h4; rw [y63]; exact ex37_6 (by omega) q9 h9 j (by omega) (by omega)) (by omega) (by omega) hg1 hT hS (lv_sub hl [1, 2, 0] rfl)
      exact J37 (((160 - x33.toInt)).toNat + 1) ls _ _ x33 _ (by omega) (by omega) (by omega) (by omega) (by omega) (by omega) (by omega) (by unfold dgt; intro h2 q9 h9 j h3 h4; rw [y29]; exact (u1_0 (by omega) (by omega)).2.2 (by omega) q9 h9 j (by omega) (by omega)) (by omega) (by omega) hg1 hT hS (lv_sub hl [1, 2, 0] rfl)
    · refine lv_aload_n hx hb dX4_number_17 rfl (lv_at hl 0 rfl) ?_
      refine r_iconst hx hb dX4_number_18 (by decide) (by decide) (fun x18 e18 => ?_)
      refine lv_aload_n hx hb dX4_number_19 rfl (lv_at hl 0 rfl) ?_
      refine gt_Tape_start hx hb hts ic_Tape hown hK hT g0 (hts _ mw_1_141) dX4_number_20 (fun x20 i20 e20 g20 => ?_)
      refine cl_Vi (rest := []) hC hK hSK (c_X4_refuse l z gk1 h0 (o0) g0 x18 x20) k_X4_refuse mw_2_66 ⟨rfl, rfl, Nat.le_of_ble_eq_true rfl, Nat.le_of_ble_eq_true rfl⟩ (rv_Tape hK hT g0) hT rfl hl.1 rfl (Nat.le_of_ble_eq_true rfl) dX4_number_23 ⟨Nat.zero_le _, Nat.zero_le _⟩ hS (fun _ h => h) (fun _ _ h => h) (fun r23 H locs hpo hS => ?_)
      obtain ⟨hT, u23_0, u23_1⟩ := hpo
      exact rt_z hx hb hr hlk hS (by omega) (by omega) ⟨_, hg1, hT, by omega, by omega⟩ dX4_number_26
  · refine r_iconst hx hb dX4_number_7 (by decide) (by decide) (fun x7 e7 => ?_)
    exact rt_z hx hb hr hlk hS (by omega) (by omega) ⟨_, hg1, hT, by omega, by omega⟩ dX4_number_8
theorem k_X4_semicolon : cBV yX4_semicolon cX4_semicolon 1 (some .boolean) 0 := ⟨mw_2_153, ms_0_8, mw_1_2, mw_2_154, ⟨by decide, by decide, by decide⟩⟩
set_option maxHeartbeats 4000000 in
set_option maxRecDepth 100000 in
theorem c_X4_semicolon (l : Launch) (z : Zt) (gh : Gh) (h0 o0 : Nat) (g0 : zG z h0 = (14, o0)) (pr0 : zu z) : Met l yX4_semicolon (uw yX4_semicolon cX4_semicolon 1 (some .boolean)) (rmF 3 107) (PcW z [.ref h0] (fun H => TY z (zA z) gh H)) (QcI z (fun r H => ∃ gk : Gh, eqv gk gh ∧ TY z (zA z) gk H ∧ (0 ≤ r.toInt ∧ r.toInt ≤ 1))) 0 0 (zA z) := by
  refine Met.ofW (cc := cX4_semicolon) (maxL := 1) (ret := (some .boolean)) (by decide) rfl ?_
  intro p e s m args below meth c s₁ B hml hv
  obtain ⟨rfl, hW, hK, hSK⟩ := hv
  have hx := B.exec
  have hb := B.bytes
  have hr := B.returns
  have hts : ∀ w ∈ lw_ok, w.before ([.ref h0] : List Value).toArray s = true := fun w hw => atoms_spec (ws := uw yX4_semicolon cX4_semicolon 1 (some .boolean)) B.pre w (List.mem_cons_of_mem _ hw)
  have hown : s.vm.findClass RX4 = some m.cls := findClass_of_methodNamed B.named
  have hlk := B.notSynchronized
  have hC : CallFix p m c cX4_semicolon 1 s ([.ref h0] : List Value).toArray lw_ok RX4 := ⟨hx, hb, hml, hown, hts⟩
  have hS : va_S (zA z) s.heap s.heap [] := va_S.rf
  have hl := lv_entry ([.ref h0]) (n := 1) (Nat.le_of_ble_eq_true rfl)
  rw [lg_entry_eq]
  generalize (lg_sl ([.ref h0]) ++ List.replicate (1 - (lg_sl ([.ref h0])).length) Slot.unset).toArray = ls at hl ⊢
  have hl : lv_has ls 1 [(0, .ref h0)] := hl
  show W p l e (rmF 3 107) s m ([.ref h0] : List Value).toArray below meth c s.heap [] 0 0 (MQ below (QcI z (fun r H => ∃ gk : Gh, eqv gk gh ∧ TY z (zA z) gk H ∧ (0 ≤ r.toInt ∧ r.toInt ≤ 1))) ([.ref h0] : List Value).toArray s 0 0 (zA z)) (F0 m 0 ls [])
  have hT : TY z (zA z) gh s.heap := hW
  have hg1 : eqv gh gh := eqv_rf gh
  refine lv_aload_n hx hb dX4_semicolon_0 rfl (lv_at hl 0 rfl) ?_
  refine cl_Vi (rest := []) hC hK hSK (c_X4_advance l z gh h0 (o0) g0 pr0) k_X4_advance mw_2_58 ⟨rfl, rfl, Nat.le_of_ble_eq_true rfl, Nat.le_of_ble_eq_true rfl⟩ (rv_Tape hK hT g0) hT rfl hl.1 rfl (Nat.le_of_ble_eq_true rfl) dX4_semicolon_1 ⟨Nat.zero_le _, Nat.zero_le _⟩ hS (fun _ h => h) (fun _ _ h => h) (fun r1 H locs hpo hS => ?_)
  obtain ⟨gk1, hz1, hT, u1_0, u1_1⟩ := hpo
  have hg1 := eqv_tr hz1 hg1
  refine r_if_ne (tgt := 9) hx hb dX4_semicolon_4 (by decide) (fun c4 => ?_) (fun c4 => ?_)
  · refine lv_aload_n hx hb dX4_semicolon_9 rfl (lv_at hl 0 rfl) ?_
    refine gt_Tape_token hx hb hts ic_Tape hown hK hT g0 (hts _ mw_1_140) dX4_semicolon_10 (fun x10 i10 e10 g10 => ?_)
    refine r_iconst hx hb dX4_semicolon_13 (by decide) (by decide) (fun x13 e13 => ?_)
    have J29 : ∀ (ls : Array Slot) (H : Heap) (locs : List Loc) (gk : Gh), eqv gk gh → TY z (zA z) gk H → va_S (zA z) s.heap H locs → lv_has ls 1 [(0, .ref h0)] → W p l e (rmF 3 107) s m ([.ref h0] : List Value).toArray below meth c H locs 0 0 (MQ below (QcI z (fun r H => ∃ gk : Gh, eqv gk gh ∧ TY z (zA z) gk H ∧ (0 ≤ r.toInt ∧ r.toInt ≤ 1))) ([.ref h0] : List Value).toArray s 0 0 (zA z)) (F0 m 29 ls []) := by
      intro ls H locs gk hg1 hT hS hl
      refine r_iconst hx hb dX4_semicolon_29 (by decide) (by decide) (fun x29 e29 => ?_)
      refine lv_goto (tgt := 34) hx hb dX4_semicolon_30 (by decide) ?_
      exact rt_z hx hb hr hlk hS (by omega) (by omega) ⟨_, hg1, hT, by omega⟩ dX4_semicolon_34
    refine r_icmp_eq (tgt := 29) hx hb dX4_semicolon_14 (by decide) (fun c14 => ?_) (fun c14 => ?_)
    · exact J29 ls _ _ _ hg1 hT hS (lv_sub hl [0] rfl)
    · refine lv_aload_n hx hb dX4_semicolon_17 rfl (lv_at hl 0 rfl) ?_
      refine r_iconst hx hb dX4_semicolon_18 (by decide) (by decide) (fun x18 e18 => ?_)
      refine lv_aload_n hx hb dX4_semicolon_19 rfl (lv_at hl 0 rfl) ?_
      refine gt_Tape_start hx hb hts ic_Tape hown hK hT g0 (hts _ mw_1_141) dX4_semicolon_20 (fun x20 i20 e20 g20 => ?_)
      refine cl_Vi (rest := []) hC hK hSK (c_X4_refuse l z gk1 h0 (o0) g0 x18 x20) k_X4_refuse mw_2_66 ⟨rfl, rfl, Nat.le_of_ble_eq_true rfl, Nat.le_of_ble_eq_true rfl⟩ (rv_Tape hK hT g0) hT rfl hl.1 rfl (Nat.le_of_ble_eq_true rfl) dX4_semicolon_23 ⟨Nat.zero_le _, Nat.zero_le _⟩ hS (fun _ h => h) (fun _ _ h => h) (fun r23 H locs hpo hS => ?_)
      obtain ⟨hT, u23_0, u23_1⟩ := hpo
      refine r_if_eq (tgt := 33) hx hb dX4_semicolon_26 (by decide) (fun c26 => ?_) (fun c26 => ?_)
      · refine r_iconst hx hb dX4_semicolon_33 (by decide) (by decide) (fun x33 e33 => ?_)
        exact rt_z hx hb hr hlk hS (by omega) (by omega) ⟨_, hg1, hT, by omega⟩ dX4_semicolon_34
      · exfalso; omega
  · refine r_iconst hx hb dX4_semicolon_7 (by decide) (by decide) (fun x7 e7 => ?_)
    exact rt_z hx hb hr hlk hS (by omega) (by omega) ⟨_, hg1, hT, by omega⟩ dX4_semicolon_8
theorem k_X4_isWord : cBV yX4_isWord cX4_isWord 3 (some .boolean) 1 := ⟨mw_2_89, ms_0_5, mw_1_2, mw_2_90, ⟨by decide, by decide, by decide⟩⟩
set_option maxHeartbeats 4000000 in
set_option maxRecDepth 100000 in
theorem c_X4_isWord (l : Launch) (z : Zt) (gh : Gh) (h0 o0 : Nat) (g0 : zG z h0 = (14, o0)) (ra1 ts N : Nat) : Met l yX4_isWord (uw yX4_isWord cX4_isWord 3 (some .boolean)) (rmF 5 230) (PcS z [.ref h0, .ref ra1] (fun H => TY z (zA z) gh H) ra1 ts N) (QcI z (fun r H => TY z (zA z) gh H ∧ (0 ≤ r.toInt ∧ r.toInt ≤ 1))) 0 0 (zA z) := by
  refine Met.ofW (cc := cX4_isWord) (maxL := 3) (ret := (some .boolean)) (by decide) rfl ?_
  intro p e s m args below meth c s₁ B hml hv
  obtain ⟨rfl, hW, hK, hSK, hsq⟩ := hv
  have hx := B.exec
  have hb := B.bytes
  have hr := B.returns
  have hts : ∀ w ∈ lw_ok, w.before ([.ref h0, .ref ra1] : List Value).toArray s = true := fun w hw => atoms_spec (ws := uw yX4_isWord cX4_isWord 3 (some .boolean)) B.pre w (List.mem_cons_of_mem _ hw)
  have hown : s.vm.findClass RX4 = some m.cls := findClass_of_methodNamed B.named
  have hlk := B.notSynchronized
  have hC : CallFix p m c cX4_isWord 3 s ([.ref h0, .ref ra1] : List Value).toArray lw_ok RX4 := ⟨hx, hb, hml, hown, hts⟩
  have hS : va_S (zA z) s.heap s.heap [] := va_S.rf
  have hl := lv_entry ([.ref h0, .ref ra1]) (n := 3) (Nat.le_of_ble_eq_true rfl)
  rw [lg_entry_eq]
  generalize (lg_sl ([.ref h0, .ref ra1]) ++ List.replicate (3 - (lg_sl ([.ref h0, .ref ra1])).length) Slot.unset).toArray = ls at hl ⊢
  have hl : lv_has ls 3 [(0, .ref h0), (1, .ref ra1)] := hl
  show W p l e (rmF 5 230) s m ([.ref h0, .ref ra1] : List Value).toArray below meth c s.heap [] 0 0 (MQ below (QcI z (fun r H => TY z (zA z) gh H ∧ (0 ≤ r.toInt ∧ r.toInt ≤ 1))) ([.ref h0, .ref ra1] : List Value).toArray s 0 0 (zA z)) (F0 m 0 ls [])
  have hT : TY z (zA z) gh s.heap := hW
  have sN := hsq.1
  refine lv_aload_n hx hb dX4_isWord_0 rfl (lv_at hl 1 rfl) ?_
  refine cs_Vi (rest := []) hC hK hSK hsq (c_J0_length_8abf5 l z gh ra1 ts N) k_J0_length_8abf5 mw_2_91 ⟨rfl, rfl, Nat.le_of_ble_eq_true rfl, Nat.le_of_ble_eq_true rfl⟩ (vk_rv hsq hS) hT rfl hl.1 rfl (Nat.le_of_ble_eq_true rfl) dX4_isWord_1 ⟨Nat.zero_le _, Nat.zero_le _⟩ hS (fun _ h => h) (fun _ _ h => h) (fun r1 H locs hpo hS => ?_)
  obtain ⟨hT, e1⟩ := hpo
  refine lv_aload_n hx hb dX4_isWord_4 rfl (lv_at hl 0 rfl) ?_
  refine gt_Tape_next hx hb hts ic_Tape hown hK hT g0 (hts _ mw_1_139) dX4_isWord_5 (fun x5 i5 e5 g5 => ?_)
  refine lv_aload_n hx hb dX4_isWord_8 rfl (lv_at hl 0 rfl) ?_
  refine gt_Tape_start hx hb hts ic_Tape hown hK hT g0 (hts _ mw_1_141) dX4_isWord_9 (fun x9 i9 e9 g9 => ?_)
  refine r_isub hx hb dX4_isWord_12 (by omega) (by omega) (fun x12 e12 => ?_)
  refine r_icmp_eq (tgt := 18) hx hb dX4_isWord_13 (by decide) (fun c13 => ?_) (fun c13 => ?_)
  · refine r_iconst hx hb dX4_isWord_18 (by decide) (by decide) (fun x18 e18 => ?_)
    refine lv_istore_n (lv' := [(2, .int x18), (0, .ref h0), (1, .ref ra1)]) hx hb dX4_isWord_19 rfl hl (by decide) rfl (fun ls hl => ?_)
    have J20 : ∀ (n20 : Nat) (ls : Array Slot) (H : Heap) (locs : List Loc) (y20_2 : Int32), (0 ≤ y20_2.toInt ∧ y20_2.toInt ≤ 7) → (7 - y20_2.toInt) < (n20 : Int) → TY z (zA z) gh H → va_S (zA z) s.heap H locs → lv_has ls 3 [(0, .ref h0), (1, .ref ra1), (2, .int y20_2)] → W p l e (rmF 5 230) s m ([.ref h0, .ref ra1] : List Value).toArray below meth c H locs 0 0 (MQ below (QcI z (fun r H => TY z (zA z) gh H ∧ (0 ≤ r.toInt ∧ r.toInt ≤ 1))) ([.ref h0, .ref ra1] : List Value).toArray s 0 0 (zA z)) (F0 m 20 ls []) := by
      intro n20
      induction n20 with
      | zero => intro ls H locs y20_2 j20_y20_2 mm20 hT hS hl; exfalso; omega
      | succ n20 ih20 =>
        intro ls H locs y20_2 j20_y20_2 mm20 hT hS hl
        refine lv_iload_n hx hb dX4_isWord_20 rfl (lv_at hl 2 rfl) ?_
        refine lv_aload_n hx hb dX4_isWord_21 rfl (lv_at hl 1 rfl) ?_
        refine cs_Vi (rest := [.int y20_2]) hC hK hSK hsq (c_J0_length_8abf5 l z gh ra1 ts N) k_J0_length_8abf5 mw_2_91 ⟨rfl, rfl, Nat.le_of_ble_eq_true rfl, Nat.le_of_ble_eq_true rfl⟩ (vk_rv hsq hS) hT rfl hl.1 rfl (Nat.le_of_ble_eq_true rfl) dX4_isWord_22 ⟨Nat.zero_le _, Nat.zero_le _⟩ hS (fun _ h => h) (fun _ _ h => h) (fun r22 H locs hpo hS => ?_)
        obtain ⟨hT, e22⟩ := hpo
        refine r_icmp_ge (tgt := 55) hx hb dX4_isWord_25 (by decide) (fun c25 => ?_) (fun c25 => ?_)
        · refine r_iconst hx hb dX4_isWord_55 (by decide) (by decide) (fun x55 e55 => ?_)
          exact rt_z hx hb hr hlk hS (by omega) (by omega) ⟨hT, by omega⟩ dX4_isWord_56
        · refine lv_aload_n hx hb dX4_isWord_28 rfl (lv_at hl 1 rfl) ?_
          refine lv_iload_n hx hb dX4_isWord_29 rfl (lv_at hl 2 rfl) ?_
          refine cs_Vi (rest := []) hC hK hSK hsq (c_J0_charAt_5068e l z gh ra1 ts N y20_2 (by omega) (by omega)) k_J0_charAt_5068e mw_2_101 ⟨rfl, rfl, Nat.le_of_ble_eq_true rfl, Nat.le_of_ble_eq_true rfl⟩ (vk_rv hsq hS) hT rfl hl.1 rfl (Nat.le_of_ble_eq_true rfl) dX4_isWord_30 ⟨Nat.zero_le _, Nat.zero_le _⟩ hS (fun _ h => h) (fun _ _ h => h) (fun r30 H locs hT hS => ?_)
          refine lv_aload_n hx hb dX4_isWord_33 rfl (lv_at hl 0 rfl) ?_
          refine gt_Tape_bytes hx hb hts ic_Tape hown hK hT g0 (hts _ mw_1_129) dX4_isWord_34 (fun q34 hq34 => ?_)
          refine lv_aload_n hx hb dX4_isWord_37 rfl (lv_at hl 0 rfl) ?_
          refine gt_Tape_start hx hb hts ic_Tape hown hK hT g0 (hts _ mw_1_141) dX4_isWord_38 (fun x38 i38 e38 g38 => ?_)
          refine lv_iload_n hx hb dX4_isWord_41 rfl (lv_at hl 2 rfl) ?_
          refine r_iadd hx hb dX4_isWord_42 (by omega) (by omega) (fun x42 e42 => ?_)
          refine al_30 hx hb hK hT hq34 (by omega) (by omega) dX4_isWord_43 (fun x43 i43 e43 => ?_)
          have n43 := ix_nat (i := x42) (by omega)
          unfold p30 at e43
          refine r_icmp_eq (tgt := 49) hx hb dX4_isWord_44 (by decide) (fun c44 => ?_) (fun c44 => ?_)
          · refine r_iinc (lv' := fun v__ => [(2, .int v__), (0, .ref h0), (1, .ref ra1)]) hx hb dX4_isWord_49 hl (k := 2) rfl (by decide) (fun _ => rfl) ⟨by decide, by decide⟩ (by omega) (by omega) (fun x49 ls e49 hl => ?_)
            refine lv_goto (tgt := 20) hx hb dX4_isWord_52 (by decide) ?_
            exact ih20 ls _ _ x49 (by omega) (by omega) hT hS (lv_sub hl [1, 2, 0] rfl)
          · refine r_iconst hx hb dX4_isWord_47 (by decide) (by decide) (fun x47 e47 => ?_)
            exact rt_z hx hb hr hlk hS (by omega) (by omega) ⟨hT, by omega⟩ dX4_isWord_48
    exact J20 (((7 - x18.toInt)).toNat + 1) ls _ _ x18 (by omega) (by omega) hT hS (lv_sub hl [1, 2, 0] rfl)
  · refine r_iconst hx hb dX4_isWord_16 (by decide) (by decide) (fun x16 e16 => ?_)
    exact rt_z hx hb hr hlk hS (by omega) (by omega) ⟨hT, by omega⟩ dX4_isWord_17
theorem k_X4_wordOfLine : cBS yX4_wordOfLine cX4_wordOfLine 1 (some (.object "java/lang/String")) 1 := ⟨mw_2_79, mw_1_2, mw_2_80, ⟨by decide, by decide, by decide⟩⟩
set_option maxHeartbeats 4000000 in
set_option maxRecDepth 100000 in
theorem c_X4_wordOfLine (l : Launch) (z : Zt) (gh : Gh) (p1 : Int32) : Met l yX4_wordOfLine (uw yX4_wordOfLine cX4_wordOfLine 1 (some (.object "java/lang/String"))) (rmF 1 64) (PcW z [.int p1] (fun H => TY z (zA z) gh H)) (QcR z (fun r H => TY z (zA z) gh H ∧ (∃ i : Nat, i < 10 ∧ r = zK z i))) 0 0 (zA z) := by
  refine Met.ofW (cc := cX4_wordOfLine) (maxL := 1) (ret := (some (.object "java/lang/String"))) (by decide) rfl ?_
  intro p e s m args below meth c s₁ B hml hv
  obtain ⟨rfl, hW, hK, hSK⟩ := hv
  have hx := B.exec
  have hb := B.bytes
  have hr := B.returns
  have hts : ∀ w ∈ lw_ok, w.before ([.int p1] : List Value).toArray s = true := fun w hw => atoms_spec (ws := uw yX4_wordOfLine cX4_wordOfLine 1 (some (.object "java/lang/String"))) B.pre w (List.mem_cons_of_mem _ hw)
  have hown : s.vm.findClass RX4 = some m.cls := findClass_of_methodNamed B.named
  have hlk := B.notSynchronized
  have hC : CallFix p m c cX4_wordOfLine 1 s ([.int p1] : List Value).toArray lw_ok RX4 := ⟨hx, hb, hml, hown, hts⟩
  have hS : va_S (zA z) s.heap s.heap [] := va_S.rf
  have hl := lv_entry ([.int p1]) (n := 1) (Nat.le_of_ble_eq_true rfl)
  rw [lg_entry_eq]
  generalize (lg_sl ([.int p1]) ++ List.replicate (1 - (lg_sl ([.int p1])).length) Slot.unset).toArray = ls at hl ⊢
  have hl : lv_has ls 1 [(0, .int p1)] := hl
  show W p l e (rmF 1 64) s m ([.int p1] : List Value).toArray below meth c s.heap [] 0 0 (MQ below (QcR z (fun r H => TY z (zA z) gh H ∧ (∃ i : Nat, i < 10 ∧ r = zK z i))) ([.int p1] : List Value).toArray s 0 0 (zA z)) (F0 m 0 ls [])
  have hT : TY z (zA z) gh s.heap := hW
  have mx_p1 := i_mx p1
  refine lv_iload_n hx hb dX4_wordOfLine_0 rfl (lv_at hl 0 rfl) ?_
  rcases (show p1.toInt = 0 ∨ p1.toInt = 1 ∨ p1.toInt = 2 ∨ p1.toInt = 3 ∨ p1.toInt = 4 ∨ (p1.toInt < 0 ∨ 4 < p1.toInt) by omega) with c1 | c1 | c1 | c1 | c1 | c1
  · refine lv_tableIn (off := 35) (tgt := 36) hx hb dX4_wordOfLine_1 (by omega) (by omega) (by rw [c1]; rfl) (by decide) ?_
    refine va_ldcS (own := RX4) hx hb hown (hSK.1 0 (by decide)).1 dX4_wordOfLine_36 ?_
    exact rt_r hx hb hr (Or.inl ⟨_, rfl⟩) hlk hS ⟨hT, 0, by decide, rfl⟩ dX4_wordOfLine_38
  · refine lv_tableIn (off := 38) (tgt := 39) hx hb dX4_wordOfLine_1 (by omega) (by omega) (by rw [c1]; rfl) (by decide) ?_
    refine va_ldcS (own := RX4) hx hb hown (hSK.1 1 (by decide)).1 dX4_wordOfLine_39 ?_
    exact rt_r hx hb hr (Or.inl ⟨_, rfl⟩) hlk hS ⟨hT, 1, by decide, rfl⟩ dX4_wordOfLine_41
  · refine lv_tableIn (off := 41) (tgt := 42) hx hb dX4_wordOfLine_1 (by omega) (by omega) (by rw [c1]; rfl) (by decide) ?_
    refine va_ldcS (own := RX4) hx hb hown (hSK.1 2 (by decide)).1 dX4_wordOfLine_42 ?_
    exact rt_r hx hb hr (Or.inl ⟨_, rfl⟩) hlk hS ⟨hT, 2, by decide, rfl⟩ dX4_wordOfLine_44
  · refine lv_tableIn (off := 44) (tgt := 45) hx hb dX4_wordOfLine_1 (by omega) (by omega) (by rw [c1]; rfl) (by decide) ?_
    refine va_ldcS (own := RX4) hx hb hown (hSK.1 3 (by decide)).1 dX4_wordOfLine_45 ?_
    exact rt_r hx hb hr (Or.inl ⟨_, rfl⟩) hlk hS ⟨hT, 3, by decide, rfl⟩ dX4_wordOfLine_47
  · refine lv_tableIn (off := 47) (tgt := 48) hx hb dX4_wordOfLine_1 (by omega) (by omega) (by rw [c1]; rfl) (by decide) ?_
    refine va_ldcS (own := RX4) hx hb hown (hSK.1 4 (by decide)).1 dX4_wordOfLine_48 ?_
    exact rt_r hx hb hr (Or.inl ⟨_, rfl⟩) hlk hS ⟨hT, 4, by decide, rfl⟩ dX4_wordOfLine_50
  · refine lv_tableOut (tgt := 51) hx hb dX4_wordOfLine_1 c1 (by decide) ?_
    refine va_ldcS (own := RX4) hx hb hown (hSK.1 5 (by decide)).1 dX4_wordOfLine_51 ?_
    exact rt_r hx hb hr (Or.inl ⟨_, rfl⟩) hlk hS ⟨hT, 5, by decide, rfl⟩ dX4_wordOfLine_53
theorem k_X4_wordOfFigure : cBS yX4_wordOfFigure cX4_wordOfFigure 1 (some (.object "java/lang/String")) 1 := ⟨mw_2_182, mw_1_2, mw_2_183, ⟨by decide, by decide, by decide⟩⟩
set_option maxHeartbeats 4000000 in
set_option maxRecDepth 100000 in
theorem c_X4_wordOfFigure (l : Launch) (z : Zt) (gh : Gh) (p1 : Int32) : Met l yX4_wordOfFigure (uw yX4_wordOfFigure cX4_wordOfFigure 1 (some (.object "java/lang/String"))) (rmF 1 64) (PcW z [.int p1] (fun H => TY z (zA z) gh H)) (QcR z (fun r H => TY z (zA z) gh H ∧ (∃ i : Nat, i < 10 ∧ r = zK z i))) 0 0 (zA z) := by
  refine Met.ofW (cc := cX4_wordOfFigure) (maxL := 1) (ret := (some (.object "java/lang/String"))) (by decide) rfl ?_
  intro p e s m args below meth c s₁ B hml hv
  obtain ⟨rfl, hW, hK, hSK⟩ := hv
  have hx := B.exec
  have hb := B.bytes
  have hr := B.returns
  have hts : ∀ w ∈ lw_ok, w.before ([.int p1] : List Value).toArray s = true := fun w hw => atoms_spec (ws := uw yX4_wordOfFigure cX4_wordOfFigure 1 (some (.object "java/lang/String"))) B.pre w (List.mem_cons_of_mem _ hw)
  have hown : s.vm.findClass RX4 = some m.cls := findClass_of_methodNamed B.named
  have hlk := B.notSynchronized
  have hC : CallFix p m c cX4_wordOfFigure 1 s ([.int p1] : List Value).toArray lw_ok RX4 := ⟨hx, hb, hml, hown, hts⟩
  have hS : va_S (zA z) s.heap s.heap [] := va_S.rf
  have hl := lv_entry ([.int p1]) (n := 1) (Nat.le_of_ble_eq_true rfl)
  rw [lg_entry_eq]
  generalize (lg_sl ([.int p1]) ++ List.replicate (1 - (lg_sl ([.int p1])).length) Slot.unset).toArray = ls at hl ⊢
  have hl : lv_has ls 1 [(0, .int p1)] := hl
  show W p l e (rmF 1 64) s m ([.int p1] : List Value).toArray below meth c s.heap [] 0 0 (MQ below (QcR z (fun r H => TY z (zA z) gh H ∧ (∃ i : Nat, i < 10 ∧ r = zK z i))) ([.int p1] : List Value).toArray s 0 0 (zA z)) (F0 m 0 ls [])
  have hT : TY z (zA z) gh s.heap := hW
  have mx_p1 := i_mx p1
  refine lv_iload_n hx hb dX4_wordOfFigure_0 rfl (lv_at hl 0 rfl) ?_
  rcases (show p1.toInt = 0 ∨ p1.toInt = 1 ∨ p1.toInt = 2 ∨ (p1.toInt < 0 ∨ 2 < p1.toInt) by omega) with c1 | c1 | c1 | c1
  · refine lv_tableIn (off := 27) (tgt := 28) hx hb dX4_wordOfFigure_1 (by omega) (by omega) (by rw [c1]; rfl) (by decide) ?_
    refine va_ldcS (own := RX4) hx hb hown (hSK.1 6 (by decide)).1 dX4_wordOfFigure_28 ?_
    exact rt_r hx hb hr (Or.inl ⟨_, rfl⟩) hlk hS ⟨hT, 6, by decide, rfl⟩ dX4_wordOfFigure_30
  · refine lv_tableIn (off := 30) (tgt := 31) hx hb dX4_wordOfFigure_1 (by omega) (by omega) (by rw [c1]; rfl) (by decide) ?_
    refine va_ldcS (own := RX4) hx hb hown (hSK.1 7 (by decide)).1 dX4_wordOfFigure_31 ?_
    exact rt_r hx hb hr (Or.inl ⟨_, rfl⟩) hlk hS ⟨hT, 7, by decide, rfl⟩ dX4_wordOfFigure_33
  · refine lv_tableIn (off := 33) (tgt := 34) hx hb dX4_wordOfFigure_1 (by omega) (by omega) (by rw [c1]; rfl) (by decide) ?_
    refine va_ldcS (own := RX4) hx hb hown (hSK.1 8 (by decide)).1 dX4_wordOfFigure_34 ?_
    exact rt_r hx hb hr (Or.inl ⟨_, rfl⟩) hlk hS ⟨hT, 8, by decide, rfl⟩ dX4_wordOfFigure_36
  · refine lv_tableOut (tgt := 37) hx hb dX4_wordOfFigure_1 c1 (by decide) ?_
    refine va_ldcS (own := RX4) hx hb hown (hSK.1 9 (by decide)).1 dX4_wordOfFigure_37 ?_
    exact rt_r hx hb hr (Or.inl ⟨_, rfl⟩) hlk hS ⟨hT, 9, by decide, rfl⟩ dX4_wordOfFigure_39
theorem k_X4_lineWord : cBV yX4_lineWord cX4_lineWord 2 (some .int) 0 := ⟨mw_2_76, ms_0_4, mw_1_2, mw_2_77, ⟨by decide, by decide, by decide⟩⟩
set_option maxHeartbeats 4000000 in
set_option maxRecDepth 100000 in
theorem c_X4_lineWord (l : Launch) (z : Zt) (gh : Gh) (h0 o0 : Nat) (g0 : zG z h0 = (14, o0)) : Met l yX4_lineWord (uw yX4_lineWord cX4_lineWord 2 (some .int)) (rmF 6 260) (PcW z [.ref h0] (fun H => TY z (zA z) gh H)) (QcI z (fun r H => TY z (zA z) gh H ∧ (-4 ≤ r.toInt ∧ r.toInt ≤ 5))) 0 0 (zA z) := by
  refine Met.ofW (cc := cX4_lineWord) (maxL := 2) (ret := (some .int)) (by decide) rfl ?_
  intro p e s m args below meth c s₁ B hml hv
  obtain ⟨rfl, hW, hK, hSK⟩ := hv
  have hx := B.exec
  have hb := B.bytes
  have hr := B.returns
  have hts : ∀ w ∈ lw_ok, w.before ([.ref h0] : List Value).toArray s = true := fun w hw => atoms_spec (ws := uw yX4_lineWord cX4_lineWord 2 (some .int)) B.pre w (List.mem_cons_of_mem _ hw)
  have hown : s.vm.findClass RX4 = some m.cls := findClass_of_methodNamed B.named
  have hlk := B.notSynchronized
  have hC : CallFix p m c cX4_lineWord 2 s ([.ref h0] : List Value).toArray lw_ok RX4 := ⟨hx, hb, hml, hown, hts⟩
  have hS : va_S (zA z) s.heap s.heap [] := va_S.rf
  have hl := lv_entry ([.ref h0]) (n := 2) (Nat.le_of_ble_eq_true rfl)
  rw [lg_entry_eq]
  generalize (lg_sl ([.ref h0]) ++ List.replicate (2 - (lg_sl ([.ref h0])).length) Slot.unset).toArray = ls at hl ⊢
  have hl : lv_has ls 2 [(0, .ref h0)] := hl
  show W p l e (rmF 6 260) s m ([.ref h0] : List Value).toArray below meth c s.heap [] 0 0 (MQ below (QcI z (fun r H => TY z (zA z) gh H ∧ (-4 ≤ r.toInt ∧ r.toInt ≤ 5))) ([.ref h0] : List Value).toArray s 0 0 (zA z)) (F0 m 0 ls [])
  have hT : TY z (zA z) gh s.heap := hW
  refine r_iconst hx hb dX4_lineWord_0 (by decide) (by decide) (fun x0 e0 => ?_)
  refine lv_istore_n (lv' := [(1, .int x0), (0, .ref h0)]) hx hb dX4_lineWord_1 rfl hl (by decide) rfl (fun ls hl => ?_)
  have J2 : ∀ (n2 : Nat) (ls : Array Slot) (H : Heap) (locs : List Loc) (y2_1 : Int32), (0 ≤ y2_1.toInt ∧ y2_1.toInt ≤ 6) → (6 - y2_1.toInt) < (n2 : Int) → TY z (zA z) gh H → va_S (zA z) s.heap H locs → lv_has ls 2 [(0, .ref h0), (1, .int y2_1)] → W p l e (rmF 6 260) s m ([.ref h0] : List Value).toArray below meth c H locs 0 0 (MQ below (QcI z (fun r H => TY z (zA z) gh H ∧ (-4 ≤ r.toInt ∧ r.toInt ≤ 5))) ([.ref h0] : List Value).toArray s 0 0 (zA z)) (F0 m 2 ls []) := by
    intro n2
    induction n2 with
    | zero => intro ls H locs y2_1 j2_y2_1 mm2 hT hS hl; exfalso; omega
    | succ n2 ih2 =>
      intro ls H locs y2_1 j2_y2_1 mm2 hT hS hl
      refine lv_iload_n hx hb dX4_lineWord_2 rfl (lv_at hl 1 rfl) ?_
      refine r_bipush hx hb dX4_lineWord_3 rfl (fun x3 e3 => ?_)
      refine r_icmp_ge (tgt := 27) hx hb dX4_lineWord_5 (by decide) (fun c5 => ?_) (fun c5 => ?_)
      · refine r_bipush hx hb dX4_lineWord_27 rfl (fun x27 e27 => ?_)
        exact rt_i hx hb hr hlk hS ⟨hT, by omega⟩ dX4_lineWord_29
      · refine lv_aload_n hx hb dX4_lineWord_8 rfl (lv_at hl 0 rfl) ?_
        refine lv_iload_n hx hb dX4_lineWord_9 rfl (lv_at hl 1 rfl) ?_
        refine cl_Sr (rest := [.ref h0]) hC hK hSK (c_X4_wordOfLine l z gh y2_1) k_X4_wordOfLine mw_2_78 ⟨rfl, rfl, Nat.le_of_ble_eq_true rfl, Nat.le_of_ble_eq_true rfl⟩ hT rfl hl.1 rfl (Nat.le_of_ble_eq_true rfl) dX4_lineWord_10 ⟨Nat.zero_le _, Nat.zero_le _⟩ hS (fun _ h => h) (fun _ _ h => h) (fun rw10 H locs hpo hS => ?_)
        obtain ⟨hT, iw10, iv10, ie10⟩ := hpo
        obtain ⟨tw10, nw10, hsw10⟩ := (hSK.1 iw10 iv10).2
        rw [← ie10] at hsw10
        refine cs_Vi (rest := []) hC hK hSK hsw10 (c_X4_isWord l z gh h0 _ g0 rw10 tw10 nw10) k_X4_isWord mw_2_87 ⟨rfl, rfl, Nat.le_of_ble_eq_true rfl, Nat.le_of_ble_eq_true rfl⟩ (rv_Tape hK hT g0) hT rfl hl.1 rfl (Nat.le_of_ble_eq_true rfl) dX4_lineWord_13 ⟨Nat.zero_le _, Nat.zero_le _⟩ hS (fun _ h => h) (fun _ _ h => h) (fun r13 H locs hpo hS => ?_)
        obtain ⟨hT, ub13⟩ := hpo
        refine r_if_eq (tgt := 21) hx hb dX4_lineWord_16 (by decide) (fun c16 => ?_) (fun c16 => ?_)
        · refine r_iinc (lv' := fun v__ => [(1, .int v__), (0, .ref h0)]) hx hb dX4_lineWord_21 hl (k := 1) rfl (by decide) (fun _ => rfl) ⟨by decide, by decide⟩ (by omega) (by omega) (fun x21 ls e21 hl => ?_)
          refine lv_goto (tgt := 2) hx hb dX4_lineWord_24 (by decide) ?_
          exact ih2 ls _ _ x21 (by omega) (by omega) hT hS (lv_sub hl [1, 0] rfl)
        · refine lv_iload_n hx hb dX4_lineWord_19 rfl (lv_at hl 1 rfl) ?_
          exact rt_i hx hb hr hlk hS ⟨hT, by omega⟩ dX4_lineWord_20
  exact J2 (((6 - x0.toInt)).toNat + 1) ls _ _ x0 (by omega) (by omega) hT hS (lv_sub hl [1, 0] rfl)
theorem k_X4_figureWord : cBV yX4_figureWord cX4_figureWord 2 (some .int) 0 := ⟨mw_2_179, ms_0_11, mw_1_2, mw_2_180, ⟨by decide, by decide, by decide⟩⟩
set_option maxHeartbeats 4000000 in
set_option maxRecDepth 100000 in
theorem c_X4_figureWord (l : Launch) (z : Zt) (gh : Gh) (h0 o0 : Nat) (g0 : zG z h0 = (14, o0)) : Met l yX4_figureWord (uw yX4_figureWord cX4_figureWord 2 (some .int)) (rmF 6 260) (PcW z [.ref h0] (fun H => TY z (zA z) gh H)) (QcI z (fun r H => TY z (zA z) gh H ∧ (-4 ≤ r.toInt ∧ r.toInt ≤ 3))) 0 0 (zA z) := by
  refine Met.ofW (cc := cX4_figureWord) (maxL := 2) (ret := (some .int)) (by decide) rfl ?_
  intro p e s m args below meth c s₁ B hml hv
  obtain ⟨rfl, hW, hK, hSK⟩ := hv
  have hx := B.exec
  have hb := B.bytes
  have hr := B.returns
  have hts : ∀ w ∈ lw_ok, w.before ([.ref h0] : List Value).toArray s = true := fun w hw => atoms_spec (ws := uw yX4_figureWord cX4_figureWord 2 (some .int)) B.pre w (List.mem_cons_of_mem _ hw)
  have hown : s.vm.findClass RX4 = some m.cls := findClass_of_methodNamed B.named
  have hlk := B.notSynchronized
  have hC : CallFix p m c cX4_figureWord 2 s ([.ref h0] : List Value).toArray lw_ok RX4 := ⟨hx, hb, hml, hown, hts⟩
  have hS : va_S (zA z) s.heap s.heap [] := va_S.rf
  have hl := lv_entry ([.ref h0]) (n := 2) (Nat.le_of_ble_eq_true rfl)
  rw [lg_entry_eq]
  generalize (lg_sl ([.ref h0]) ++ List.replicate (2 - (lg_sl ([.ref h0])).length) Slot.unset).toArray = ls at hl ⊢
  have hl : lv_has ls 2 [(0, .ref h0)] := hl
  show W p l e (rmF 6 260) s m ([.ref h0] : List Value).toArray below meth c s.heap [] 0 0 (MQ below (QcI z (fun r H => TY z (zA z) gh H ∧ (-4 ≤ r.toInt ∧ r.toInt ≤ 3))) ([.ref h0] : List Value).toArray s 0 0 (zA z)) (F0 m 0 ls [])
  have hT : TY z (zA z) gh s.heap := hW
  refine r_iconst hx hb dX4_figureWord_0 (by decide) (by decide) (fun x0 e0 => ?_)
  refine lv_istore_n (lv' := [(1, .int x0), (0, .ref h0)]) hx hb dX4_figureWord_1 rfl hl (by decide) rfl (fun ls hl => ?_)
  have J2 : ∀ (n2 : Nat) (ls : Array Slot) (H : Heap) (locs : List Loc) (y2_1 : Int32), (0 ≤ y2_1.toInt ∧ y2_1.toInt ≤ 4) → (4 - y2_1.toInt) < (n2 : Int) → TY z (zA z) gh H → va_S (zA z) s.heap H locs → lv_has ls 2 [(0, .ref h0), (1, .int y2_1)] → W p l e (rmF 6 260) s m ([.ref h0] : List Value).toArray below meth c H locs 0 0 (MQ below (QcI z (fun r H => TY z (zA z) gh H ∧ (-4 ≤ r.toInt ∧ r.toInt ≤ 3))) ([.ref h0] : List Value).toArray s 0 0 (zA z)) (F0 m 2 ls []) := by
    intro n2
    induction n2 with
    | zero => intro ls H locs y2_1 j2_y2_1 mm2 hT hS hl; exfalso; omega
    | succ n2 ih2 =>
      intro ls H locs y2_1 j2_y2_1 mm2 hT hS hl
      refine lv_iload_n hx hb dX4_figureWord_2 rfl (lv_at hl 1 rfl) ?_
      refine r_iconst hx hb dX4_figureWord_3 (by decide) (by decide) (fun x3 e3 => ?_)
      refine r_icmp_ge (tgt := 26) hx hb dX4_figureWord_4 (by decide) (fun c4 => ?_) (fun c4 => ?_)
      · refine r_bipush hx hb dX4_figureWord_26 rfl (fun x26 e26 => ?_)
        exact rt_i hx hb hr hlk hS ⟨hT, by omega⟩ dX4_figureWord_28
      · refine lv_aload_n hx hb dX4_figureWord_7 rfl (lv_at hl 0 rfl) ?_
        refine lv_iload_n hx hb dX4_figureWord_8 rfl (lv_at hl 1 rfl) ?_
        refine cl_Sr (rest := [.ref h0]) hC hK hSK (c_X4_wordOfFigure l z gh y2_1) k_X4_wordOfFigure mw_2_181 ⟨rfl, rfl, Nat.le_of_ble_eq_true rfl, Nat.le_of_ble_eq_true rfl⟩ hT rfl hl.1 rfl (Nat.le_of_ble_eq_true rfl) dX4_figureWord_9 ⟨Nat.zero_le _, Nat.zero_le _⟩ hS (fun _ h => h) (fun _ _ h => h) (fun rw9 H locs hpo hS => ?_)
        obtain ⟨hT, iw9, iv9, ie9⟩ := hpo
        obtain ⟨tw9, nw9, hsw9⟩ := (hSK.1 iw9 iv9).2
        rw [← ie9] at hsw9
        refine cs_Vi (rest := []) hC hK hSK hsw9 (c_X4_isWord l z gh h0 _ g0 rw9 tw9 nw9) k_X4_isWord mw_2_87 ⟨rfl, rfl, Nat.le_of_ble_eq_true rfl, Nat.le_of_ble_eq_true rfl⟩ (rv_Tape hK hT g0) hT rfl hl.1 rfl (Nat.le_of_ble_eq_true rfl) dX4_figureWord_12 ⟨Nat.zero_le _, Nat.zero_le _⟩ hS (fun _ h => h) (fun _ _ h => h) (fun r12 H locs hpo hS => ?_)
        obtain ⟨hT, ub12⟩ := hpo
        refine r_if_eq (tgt := 20) hx hb dX4_figureWord_15 (by decide) (fun c15 => ?_) (fun c15 => ?_)
        · refine r_iinc (lv' := fun v__ => [(1, .int v__), (0, .ref h0)]) hx hb dX4_figureWord_20 hl (k := 1) rfl (by decide) (fun _ => rfl) ⟨by decide, by decide⟩ (by omega) (by omega) (fun x20 ls e20 hl => ?_)
          refine lv_goto (tgt := 2) hx hb dX4_figureWord_23 (by decide) ?_
          exact ih2 ls _ _ x20 (by omega) (by omega) hT hS (lv_sub hl [1, 0] rfl)
        · refine lv_iload_n hx hb dX4_figureWord_18 rfl (lv_at hl 1 rfl) ?_
          exact rt_i hx hb hr hlk hS ⟨hT, by omega⟩ dX4_figureWord_19
  exact J2 (((4 - x0.toInt)).toNat + 1) ls _ _ x0 (by omega) (by omega) hT hS (lv_sub hl [1, 0] rfl)
theorem k_X4_manLine : cBV yX4_manLine cX4_manLine 3 (some .boolean) 1 := ⟨mw_2_141, ms_0_6, mw_1_2, mw_2_142, ⟨by decide, by decide, by decide⟩⟩
set_option maxHeartbeats 4000000 in
set_option maxRecDepth 100000 in
theorem c_X4_manLine (l : Launch) (z : Zt) (v : Nat → Nat → Int) (h0 o0 : Nat) (g0 : zG z h0 = (14, o0)) (p1 : Int32) : Met l yX4_manLine (uw yX4_manLine cX4_manLine 3 (some .boolean)) (rmF 4 129) (PcW z [.ref h0, .int p1] (fun H => WX z v H)) (QcI z (fun r H => WX z v H ∧ (0 ≤ r.toInt ∧ r.toInt ≤ 1))) 0 0 (zA z) := by
  refine Met.ofW (cc := cX4_manLine) (maxL := 3) (ret := (some .boolean)) (by decide) rfl ?_
  intro p e s m args below meth c s₁ B hml hv
  obtain ⟨rfl, hW, hK, hSK⟩ := hv
  have hx := B.exec
  have hb := B.bytes
  have hr := B.returns
  have hts : ∀ w ∈ lw_ok, w.before ([.ref h0, .int p1] : List Value).toArray s = true := fun w hw => atoms_spec (ws := uw yX4_manLine cX4_manLine 3 (some .boolean)) B.pre w (List.mem_cons_of_mem _ hw)
  have hown : s.vm.findClass RX4 = some m.cls := findClass_of_methodNamed B.named
  have hlk := B.notSynchronized
  have hC : CallFix p m c cX4_manLine 3 s ([.ref h0, .int p1] : List Value).toArray lw_ok RX4 := ⟨hx, hb, hml, hown, hts⟩
  have hS : va_S (zA z) s.heap s.heap [] := va_S.rf
  have hl := lv_entry ([.ref h0, .int p1]) (n := 3) (Nat.le_of_ble_eq_true rfl)
  rw [lg_entry_eq]
  generalize (lg_sl ([.ref h0, .int p1]) ++ List.replicate (3 - (lg_sl ([.ref h0, .int p1])).length) Slot.unset).toArray = ls at hl ⊢
  have hl : lv_has ls 3 [(0, .ref h0), (1, .int p1)] := hl
  show W p l e (rmF 4 129) s m ([.ref h0, .int p1] : List Value).toArray below meth c s.heap [] 0 0 (MQ below (QcI z (fun r H => WX z v H ∧ (0 ≤ r.toInt ∧ r.toInt ≤ 1))) ([.ref h0, .int p1] : List Value).toArray s 0 0 (zA z)) (F0 m 0 ls [])
  obtain ⟨gh, hwf, hvis, hT⟩ := hW
  have mx_p1 := i_mx p1
  refine lv_aload_n hx hb dX4_manLine_0 rfl (lv_at hl 0 rfl) ?_
  refine gt_Tape_draft hx hb hts ic_Tape hown hK hT g0 (hts _ mw_1_131) dX4_manLine_1 (fun q1 hq1 => ?_)
  refine gt_Evening_floor hx hb hts ic_Evening hown hK hT hq1 (hts _ mw_1_92) dX4_manLine_4 (fun q4 hq4 => ?_)
  refine gt_Floor_men hx hb hts ic_Floor hown hK hT hq4 (hts _ mw_1_63) dX4_manLine_7 (fun x7 i7 e7 g7 => ?_)
  refine r_iconst hx hb dX4_manLine_10 (by decide) (by decide) (fun x10 e10 => ?_)
  refine r_icmp_lt (tgt := 24) hx hb dX4_manLine_11 (by decide) (fun c11 => ?_) (fun c11 => ?_)
  · refine lv_aload_n hx hb dX4_manLine_24 rfl (lv_at hl 0 rfl) ?_
    refine r_bipush hx hb dX4_manLine_25 rfl (fun x25 e25 => ?_)
    refine cl_Vi (rest := []) hC hK hSK (c_X4_number l z gh h0 (o0) g0 x25 hwf.2.2) k_X4_number mw_2_143 ⟨rfl, rfl, Nat.le_of_ble_eq_true rfl, Nat.le_of_ble_eq_true rfl⟩ (rv_Tape hK hT g0) hT rfl hl.1 rfl (Nat.le_of_ble_eq_true rfl) dX4_manLine_27 ⟨Nat.zero_le _, Nat.zero_le _⟩ hS (fun _ h => h) (fun _ _ h => h) (fun r27 H locs hpo hS => ?_)
    obtain ⟨gh27, hz27, hT, u27_0, u27_1⟩ := hpo
    have hwf := wf_of hz27 hwf
    have hvis := vis_of hz27 hvis
    refine r_if_ne (tgt := 35) hx hb dX4_manLine_30 (by decide) (fun c30 => ?_) (fun c30 => ?_)
    · refine lv_aload_n hx hb dX4_manLine_35 rfl (lv_at hl 0 rfl) ?_
      refine gt_Tape_value hx hb hts ic_Tape hown hK hT g0 (hts _ mw_1_142) dX4_manLine_36 (fun x36 i36 e36 g36 => ?_)
      refine lv_istore_n (lv' := [(2, .int x36), (0, .ref h0), (1, .int p1)]) hx hb dX4_manLine_39 rfl hl (by decide) rfl (fun ls hl => ?_)
      refine lv_aload_n hx hb dX4_manLine_40 rfl (lv_at hl 1 rfl) ?_
      refine r_bipush hx hb dX4_manLine_41 rfl (fun x41 e41 => ?_)
      refine cl_Vi (rest := []) hC hK hSK (c_X4_number l z gh27 h0 (o0) g0 x41 hwf.2.2) k_X4_number mw_2_143 ⟨rfl, rfl, Nat.le_of_ble_eq_true rfl, Nat.le_of_ble_eq_true rfl⟩ (rv_Tape hK hT g0) hT rfl hl.1 rfl (Nat.le_of_ble_eq_true rfl) dX4_manLine_43 ⟨Nat.zero_le _, Nat.zero_le _⟩ hS (fun _ h => h) (fun _ _ h => h) (fun r43 H locs hpo hS => ?_)
      obtain ⟨gh43, hz43, hT, u43_0, u43_1⟩ := hpo
      have hwf := wf_of hz43 hwf
      have hvis := vis_of hz43 hvis
      refine r_if_ne (tgt := 51) hx hb dX4_manLine_46 (by decide) (fun c46 => ?_) (fun c46 => ?_)
      · refine lv_aload_n hx hb dX4_manLine_51 rfl (lv_at hl 1 rfl) ?_
        refine gt_Tape_draft hx hb hts ic_Tape hown hK hT g0 (hts _ mw_1_131) dX4_manLine_52 (fun q52 hq52 => ?_)
        refine gt_Evening_floor hx hb hts ic_Evening hown hK hT hq52 (hts _ mw_1_92) dX4_manLine_55 (fun q55 hq55 => ?_)
        refine lv_iload_n hx hb dX4_manLine_58 rfl (lv_at hl 2 rfl) ?_
        refine lv_iload_n hx hb dX4_manLine_59 rfl (lv_at hl 0 rfl) ?_
        refine lv_aload_n hx hb dX4_manLine_60 rfl (lv_at hl 1 rfl) ?_
        refine gt_Tape_value hx hb hts ic_Tape hown hK hT g0 (hts _ mw_1_142) dX4_manLine_61 (fun x61 i61 e61 g61 => ?_)
        refine cl_Vv (rest := []) hC hK hSK (c_X1_addMan l z v q55 (2) hq55 p1 x36 x61) k_X1_addMan mw_2_147 ⟨rfl, rfl, Nat.le_of_ble_eq_true rfl, Nat.le_of_ble_eq_true rfl⟩ (rv_Floor hK hT hq55) ⟨_, hwf, hvis, hT⟩ rfl hl.1 rfl (Nat.le_of_ble_eq_true rfl) dX4_manLine_64 ⟨Nat.zero_le _, Nat.zero_le _⟩ hS (fun _ h => h) (fun _ _ h => h) (fun H locs hpo hS => ?_)
        obtain ⟨gh64, hwf, hvis, hT⟩ := hpo
        refine lv_aload_n hx hb dX4_manLine_67 rfl (lv_at hl 1 rfl) ?_
        refine cl_Vi (rest := []) hC hK hSK (c_X4_semicolon l z gh64 h0 (o0) g0 hwf.2.2) k_X4_semicolon mw_2_151 ⟨rfl, rfl, Nat.le_of_ble_eq_true rfl, Nat.le_of_ble_eq_true rfl⟩ (rv_Tape hK hT g0) hT rfl hl.1 rfl (Nat.le_of_ble_eq_true rfl) dX4_manLine_68 ⟨Nat.zero_le _, Nat.zero_le _⟩ hS (fun _ h => h) (fun _ _ h => h) (fun r68 H locs hpo hS => ?_)
        obtain ⟨gh68, hz68, hT, u68_0⟩ := hpo
        have hwf := wf_of hz68 hwf
        have hvis := vis_of hz68 hvis
        exact rt_z hx hb hr hlk hS (by omega) (by omega) ⟨⟨_, hwf, hvis, hT⟩, by omega⟩ dX4_manLine_71
      · refine r_iconst hx hb dX4_manLine_49 (by decide) (by decide) (fun x49 e49 => ?_)
        exact rt_z hx hb hr hlk hS (by omega) (by omega) ⟨⟨_, hwf, hvis, hT⟩, by omega⟩ dX4_manLine_50
    · refine r_iconst hx hb dX4_manLine_33 (by decide) (by decide) (fun x33 e33 => ?_)
      exact rt_z hx hb hr hlk hS (by omega) (by omega) ⟨⟨_, hwf, hvis, hT⟩, by omega⟩ dX4_manLine_34
  · refine lv_aload_n hx hb dX4_manLine_14 rfl (lv_at hl 0 rfl) ?_
    refine r_iconst hx hb dX4_manLine_15 (by decide) (by decide) (fun x15 e15 => ?_)
    refine lv_aload_n hx hb dX4_manLine_16 rfl (lv_at hl 0 rfl) ?_
    refine gt_Tape_start hx hb hts ic_Tape hown hK hT g0 (hts _ mw_1_141) dX4_manLine_17 (fun x17 i17 e17 g17 => ?_)
    refine cl_Vi (rest := []) hC hK hSK (c_X4_refuse l z gh h0 (o0) g0 x15 x17) k_X4_refuse mw_2_66 ⟨rfl, rfl, Nat.le_of_ble_eq_true rfl, Nat.le_of_ble_eq_true rfl⟩ (rv_Tape hK hT g0) hT rfl hl.1 rfl (Nat.le_of_ble_eq_true rfl) dX4_manLine_20 ⟨Nat.zero_le _, Nat.zero_le _⟩ hS (fun _ h => h) (fun _ _ h => h) (fun r20 H locs hpo hS => ?_)
    obtain ⟨hT, u20_0, u20_1⟩ := hpo
    exact rt_z hx hb hr hlk hS (by omega) (by omega) ⟨⟨_, hwf, hvis, hT⟩, by omega⟩ dX4_manLine_23
theorem k_X4_cousinsLine : cBV yX4_cousinsLine cX4_cousinsLine 2 (some .boolean) 0 := ⟨mw_2_157, ms_0_9, mw_1_2, mw_2_158, ⟨by decide, by decide, by decide⟩⟩
set_option maxHeartbeats 4000000 in
set_option maxRecDepth 100000 in
theorem c_X4_cousinsLine (l : Launch) (z : Zt) (gh : Gh) (h0 o0 : Nat) (g0 : zG z h0 = (14, o0)) (pr0 : zu z) : Met l yX4_cousinsLine (uw yX4_cousinsLine cX4_cousinsLine 2 (some .boolean)) (rmF 4 129) (PcW z [.ref h0] (fun H => TY z (zA z) gh H)) (QcI z (fun r H => ∃ gk : Gh, eqv gk gh ∧ TY z (zA z) gk H ∧ (0 ≤ r.toInt ∧ r.toInt ≤ 1))) 0 0 (zA z) := by
  refine Met.ofW (cc := cX4_cousinsLine) (maxL := 2) (ret := (some .boolean)) (by decide) rfl ?_
  intro p e s m args below meth c s₁ B hml hv
  obtain ⟨rfl, hW, hK, hSK⟩ := hv
  have hx := B.exec
  have hb := B.bytes
  have hr := B.returns
  have hts : ∀ w ∈ lw_ok, w.before ([.ref h0] : List Value).toArray s = true := fun w hw => atoms_spec (ws := uw yX4_cousinsLine cX4_cousinsLine 2 (some .boolean)) B.pre w (List.mem_cons_of_mem _ hw)
  have hown : s.vm.findClass RX4 = some m.cls := findClass_of_methodNamed B.named
  have hlk := B.notSynchronized
  have hC : CallFix p m c cX4_cousinsLine 2 s ([.ref h0] : List Value).toArray lw_ok RX4 := ⟨hx, hb, hml, hown, hts⟩
  have hS : va_S (zA z) s.heap s.heap [] := va_S.rf
  have hl := lv_entry ([.ref h0]) (n := 2) (Nat.le_of_ble_eq_true rfl)
  rw [lg_entry_eq]
  generalize (lg_sl ([.ref h0]) ++ List.replicate (2 - (lg_sl ([.ref h0])).length) Slot.unset).toArray = ls at hl ⊢
  have hl : lv_has ls 2 [(0, .ref h0)] := hl
  show W p l e (rmF 4 129) s m ([.ref h0] : List Value).toArray below meth c s.heap [] 0 0 (MQ below (QcI z (fun r H => ∃ gk : Gh, eqv gk gh ∧ TY z (zA z) gk H ∧ (0 ≤ r.toInt ∧ r.toInt ≤ 1))) ([.ref h0] : List Value).toArray s 0 0 (zA z)) (F0 m 0 ls [])
  have hT : TY z (zA z) gh s.heap := hW
  have hg1 : eqv gh gh := eqv_rf gh
  refine lv_aload_n hx hb dX4_cousinsLine_0 rfl (lv_at hl 0 rfl) ?_
  refine gt_Tape_draft hx hb hts ic_Tape hown hK hT g0 (hts _ mw_1_131) dX4_cousinsLine_1 (fun q1 hq1 => ?_)
  refine cl_Vi (rest := []) hC hK hSK (c_X0_allKin l z gh q1 (2) hq1) k_X0_allKin mw_2_159 ⟨rfl, rfl, Nat.le_of_ble_eq_true rfl, Nat.le_of_ble_eq_true rfl⟩ (rv_Evening hK hT hq1) hT rfl hl.1 rfl (Nat.le_of_ble_eq_true rfl) dX4_cousinsLine_4 ⟨Nat.zero_le _, Nat.zero_le _⟩ hS (fun _ h => h) (fun _ _ h => h) (fun r4 H locs hpo hS => ?_)
  have hT := hpo
  refine r_bipush hx hb dX4_cousinsLine_7 rfl (fun x7 e7 => ?_)
  refine r_icmp_lt (tgt := 22) hx hb dX4_cousinsLine_9 (by decide) (fun c9 => ?_) (fun c9 => ?_)
  · refine lv_aload_n hx hb dX4_cousinsLine_22 rfl (lv_at hl 0 rfl) ?_
    refine r_iconst hx hb dX4_cousinsLine_23 (by decide) (by decide) (fun x23 e23 => ?_)
    refine cl_Vi (rest := []) hC hK hSK (c_X4_number l z gh h0 (o0) g0 x23 pr0) k_X4_number mw_2_143 ⟨rfl, rfl, Nat.le_of_ble_eq_true rfl, Nat.le_of_ble_eq_true rfl⟩ (rv_Tape hK hT g0) hT rfl hl.1 rfl (Nat.le_of_ble_eq_true rfl) dX4_cousinsLine_24 ⟨Nat.zero_le _, Nat.zero_le _⟩ hS (fun _ h => h) (fun _ _ h => h) (fun r24 H locs hpo hS => ?_)
    obtain ⟨gk24, hz24, hT, u24_0, u24_1⟩ := hpo
    have hg1 := eqv_tr hz24 hg1
    have tz24_30 := hz24 h0 30 rfl
    refine r_if_ne (tgt := 32) hx hb dX4_cousinsLine_27 (by decide) (fun c27 => ?_) (fun c27 => ?_)
    · refine lv_aload_n hx hb dX4_cousinsLine_32 rfl (lv_at hl 0 rfl) ?_
      refine gt_Tape_value hx hb hts ic_Tape hown hK hT g0 (hts _ mw_1_142) dX4_cousinsLine_33 (fun x33 i33 e33 g33 => ?_)
      refine lv_istore_n (lv' := [(1, .int x33), (0, .ref h0)]) hx hb dX4_cousinsLine_36 rfl hl (by decide) rfl (fun ls hl => ?_)
      refine lv_aload_n hx hb dX4_cousinsLine_37 rfl (lv_at hl 1 rfl) ?_
      refine r_iconst hx hb dX4_cousinsLine_38 (by decide) (by decide) (fun x38 e38 => ?_)
      refine cl_Vi (rest := []) hC hK hSK (c_X4_number l z gk24 h0 (o0) g0 x38 pr0) k_X4_number mw_2_143 ⟨rfl, rfl, Nat.le_of_ble_eq_true rfl, Nat.le_of_ble_eq_true rfl⟩ (rv_Tape hK hT g0) hT rfl hl.1 rfl (Nat.le_of_ble_eq_true rfl) dX4_cousinsLine_39 ⟨Nat.zero_le _, Nat.zero_le _⟩ hS (fun _ h => h) (fun _ _ h => h) (fun r39 H locs hpo hS => ?_)
      obtain ⟨gk39, hz39, hT, u39_0, u39_1⟩ := hpo
      have hg1 := eqv_tr hz39 hg1
      have tz39_30 := hz39 h0 30 rfl
      refine r_if_ne (tgt := 47) hx hb dX4_cousinsLine_42 (by decide) (fun c42 => ?_) (fun c42 => ?_)
      · refine lv_aload_n hx hb dX4_cousinsLine_47 rfl (lv_at hl 1 rfl) ?_
        refine gt_Tape_draft hx hb hts ic_Tape hown hK hT g0 (hts _ mw_1_131) dX4_cousinsLine_48 (fun q48 hq48 => ?_)
        refine lv_iload_n hx hb dX4_cousinsLine_51 rfl (lv_at hl 0 rfl) ?_
        refine lv_aload_n hx hb dX4_cousinsLine_52 rfl (lv_at hl 1 rfl) ?_
        refine gt_Tape_value hx hb hts ic_Tape hown hK hT g0 (hts _ mw_1_142) dX4_cousinsLine_53 (fun x53 i53 e53 g53 => ?_)
        refine cl_Vi (rest := []) hC hK hSK (c_X0_areKin l z gk39 q48 (2) hq48 x33 x53 (by omega)) k_X0_areKin mw_2_169 ⟨rfl, rfl, Nat.le_of_ble_eq_true rfl, Nat.le_of_ble_eq_true rfl⟩ (rv_Evening hK hT hq48) hT rfl hl.1 rfl (Nat.le_of_ble_eq_true rfl) dX4_cousinsLine_56 ⟨Nat.zero_le _, Nat.zero_le _⟩ hS (fun _ h => h) (fun _ _ h => h) (fun r56 H locs hpo hS => ?_)
        obtain ⟨hT, u56_0⟩ := hpo
        refine r_if_eq (tgt := 72) hx hb dX4_cousinsLine_59 (by decide) (fun c59 => ?_) (fun c59 => ?_)
        · refine lv_aload_n hx hb dX4_cousinsLine_72 rfl (lv_at hl 1 rfl) ?_
          refine gt_Tape_draft hx hb hts ic_Tape hown hK hT g0 (hts _ mw_1_131) dX4_cousinsLine_73 (fun q73 hq73 => ?_)
          refine gt_Evening_kin hx hb hts ic_Evening hown hK hT hq73 (hts _ mw_1_94) dX4_cousinsLine_76 (fun q76 hq76 => ?_)
          refine lv_iload_n hx hb dX4_cousinsLine_79 rfl (lv_at hl 0 rfl) ?_
          refine lv_dup2_11 hx hb dX4_cousinsLine_80 rfl rfl ?_
          refine al_20 hx hb hK hT hq76 (by omega) (by omega) dX4_cousinsLine_81 (fun x81 => ?_)
          refine r_iconst hx hb dX4_cousinsLine_82 (by decide) (by decide) (fun x82 e82 => ?_)
          refine lv_aload_n hx hb dX4_cousinsLine_83 rfl (lv_at hl 1 rfl) ?_
          refine gt_Tape_value hx hb hts ic_Tape hown hK hT g0 (hts _ mw_1_142) dX4_cousinsLine_84 (fun x84 i84 e84 g84 => ?_)
          refine w_ishl hx hb dX4_cousinsLine_87 (fun x87 => ?_)
          refine w_ior hx hb dX4_cousinsLine_88 (fun x88 => ?_)
          refine as_20 hx hb hK hT hS hq76 (by omega) (by omega) dX4_cousinsLine_89 (fun H locs hT hS => ?_)
          refine lv_aload_n hx hb dX4_cousinsLine_90 rfl (lv_at hl 1 rfl) ?_
          refine cl_Vi (rest := []) hC hK hSK (c_X4_semicolon l z gk39 h0 (o0) g0 pr0) k_X4_semicolon mw_2_151 ⟨rfl, rfl, Nat.le_of_ble_eq_true rfl, Nat.le_of_ble_eq_true rfl⟩ (rv_Tape hK hT g0) hT rfl hl.1 rfl (Nat.le_of_ble_eq_true rfl) dX4_cousinsLine_91 ⟨Nat.zero_le _, Nat.zero_le _⟩ hS (fun _ h => h) (fun _ _ h => h) (fun r91 H locs hpo hS => ?_)
          obtain ⟨gk91, hz91, hT, u91_0⟩ := hpo
          have hg1 := eqv_tr hz91 hg1
          have tz91_30 := hz91 h0 30 rfl
          exact rt_z hx hb hr hlk hS (by omega) (by omega) ⟨_, hg1, hT, by omega⟩ dX4_cousinsLine_94
        · refine lv_aload_n hx hb dX4_cousinsLine_62 rfl (lv_at hl 1 rfl) ?_
          refine r_iconst hx hb dX4_cousinsLine_63 (by decide) (by decide) (fun x63 e63 => ?_)
          refine lv_aload_n hx hb dX4_cousinsLine_64 rfl (lv_at hl 1 rfl) ?_
          refine gt_Tape_start hx hb hts ic_Tape hown hK hT g0 (hts _ mw_1_141) dX4_cousinsLine_65 (fun x65 i65 e65 g65 => ?_)
          refine cl_Vi (rest := []) hC hK hSK (c_X4_refuse l z gk39 h0 (o0) g0 x63 x65) k_X4_refuse mw_2_66 ⟨rfl, rfl, Nat.le_of_ble_eq_true rfl, Nat.le_of_ble_eq_true rfl⟩ (rv_Tape hK hT g0) hT rfl hl.1 rfl (Nat.le_of_ble_eq_true rfl) dX4_cousinsLine_68 ⟨Nat.zero_le _, Nat.zero_le _⟩ hS (fun _ h => h) (fun _ _ h => h) (fun r68 H locs hpo hS => ?_)
          obtain ⟨hT, u68_0, u68_1⟩ := hpo
          exact rt_z hx hb hr hlk hS (by omega) (by omega) ⟨_, hg1, hT, by omega⟩ dX4_cousinsLine_71
      · refine r_iconst hx hb dX4_cousinsLine_45 (by decide) (by decide) (fun x45 e45 => ?_)
        exact rt_z hx hb hr hlk hS (by omega) (by omega) ⟨_, hg1, hT, by omega⟩ dX4_cousinsLine_46
    · refine r_iconst hx hb dX4_cousinsLine_30 (by decide) (by decide) (fun x30 e30 => ?_)
      exact rt_z hx hb hr hlk hS (by omega) (by omega) ⟨_, hg1, hT, by omega⟩ dX4_cousinsLine_31
  · refine lv_aload_n hx hb dX4_cousinsLine_12 rfl (lv_at hl 0 rfl) ?_
    refine r_iconst hx hb dX4_cousinsLine_13 (by decide) (by decide) (fun x13 e13 => ?_)
    refine lv_aload_n hx hb dX4_cousinsLine_14 rfl (lv_at hl 0 rfl) ?_
    refine gt_Tape_start hx hb hts ic_Tape hown hK hT g0 (hts _ mw_1_141) dX4_cousinsLine_15 (fun x15 i15 e15 g15 => ?_)
    refine cl_Vi (rest := []) hC hK hSK (c_X4_refuse l z gh h0 (o0) g0 x13 x15) k_X4_refuse mw_2_66 ⟨rfl, rfl, Nat.le_of_ble_eq_true rfl, Nat.le_of_ble_eq_true rfl⟩ (rv_Tape hK hT g0) hT rfl hl.1 rfl (Nat.le_of_ble_eq_true rfl) dX4_cousinsLine_18 ⟨Nat.zero_le _, Nat.zero_le _⟩ hS (fun _ h => h) (fun _ _ h => h) (fun r18 H locs hpo hS => ?_)
    obtain ⟨hT, u18_0, u18_1⟩ := hpo
    exact rt_z hx hb hr hlk hS (by omega) (by omega) ⟨_, hg1, hT, by omega⟩ dX4_cousinsLine_21
theorem k_X4_programLine : cBV yX4_programLine cX4_programLine 3 (some .boolean) 0 := ⟨mw_2_175, ms_0_10, mw_1_2, mw_2_176, ⟨by decide, by decide, by decide⟩⟩
set_option maxHeartbeats 4000000 in
set_option maxRecDepth 100000 in
theorem c_X4_programLine (l : Launch) (z : Zt) (gh : Gh) (h0 o0 : Nat) (g0 : zG z h0 = (14, o0)) (pr0 : zu z) : Met l yX4_programLine (uw yX4_programLine cX4_programLine 3 (some .boolean)) (rmF 7 281) (PcW z [.ref h0] (fun H => TY z (zA z) gh H)) (QcI z (fun r H => ∃ gk : Gh, eqv gk gh ∧ TY z (zA z) gk H ∧ (0 ≤ r.toInt ∧ r.toInt ≤ 1))) 0 0 (zA z) := by
  refine Met.ofW (cc := cX4_programLine) (maxL := 3) (ret := (some .boolean)) (by decide) rfl ?_
  intro p e s m args below meth c s₁ B hml hv
  obtain ⟨rfl, hW, hK, hSK⟩ := hv
  have hx := B.exec
  have hb := B.bytes
  have hr := B.returns
  have hts : ∀ w ∈ lw_ok, w.before ([.ref h0] : List Value).toArray s = true := fun w hw => atoms_spec (ws := uw yX4_programLine cX4_programLine 3 (some .boolean)) B.pre w (List.mem_cons_of_mem _ hw)
  have hown : s.vm.findClass RX4 = some m.cls := findClass_of_methodNamed B.named
  have hlk := B.notSynchronized
  have hC : CallFix p m c cX4_programLine 3 s ([.ref h0] : List Value).toArray lw_ok RX4 := ⟨hx, hb, hml, hown, hts⟩
  have hS : va_S (zA z) s.heap s.heap [] := va_S.rf
  have hl := lv_entry ([.ref h0]) (n := 3) (Nat.le_of_ble_eq_true rfl)
  rw [lg_entry_eq]
  generalize (lg_sl ([.ref h0]) ++ List.replicate (3 - (lg_sl ([.ref h0])).length) Slot.unset).toArray = ls at hl ⊢
  have hl : lv_has ls 3 [(0, .ref h0)] := hl
  show W p l e (rmF 7 281) s m ([.ref h0] : List Value).toArray below meth c s.heap [] 0 0 (MQ below (QcI z (fun r H => ∃ gk : Gh, eqv gk gh ∧ TY z (zA z) gk H ∧ (0 ≤ r.toInt ∧ r.toInt ≤ 1))) ([.ref h0] : List Value).toArray s 0 0 (zA z)) (F0 m 0 ls [])
  have hT : TY z (zA z) gh s.heap := hW
  have hg1 : eqv gh gh := eqv_rf gh
  refine lv_aload_n hx hb dX4_programLine_0 rfl (lv_at hl 0 rfl) ?_
  refine gt_Tape_hasProgram hx hb hts ic_Tape hown hK hT g0 (hts _ mw_1_143) dX4_programLine_1 (fun x1 e1 g1 => ?_)
  refine r_if_eq (tgt := 17) hx hb dX4_programLine_4 (by decide) (fun c4 => ?_) (fun c4 => ?_)
  · refine lv_aload_n hx hb dX4_programLine_17 rfl (lv_at hl 0 rfl) ?_
    refine r_iconst hx hb dX4_programLine_18 (by decide) (by decide) (fun x18 e18 => ?_)
    refine pt_Tape_hasProgram hx hb hts ic_Tape hown hK hT hS g0 (hts _ mw_1_143) (by omega) (by omega) dX4_programLine_19 (fun H locs hT hS => ?_)
    refine r_iconst hx hb dX4_programLine_22 (by decide) (by decide) (fun x22 e22 => ?_)
    refine lv_istore_n (lv' := [(1, .int x22), (0, .ref h0)]) hx hb dX4_programLine_23 rfl hl (by decide) rfl (fun ls hl => ?_)
    have J24 : ∀ (n24 : Nat) (ls : Array Slot) (H : Heap) (locs : List Loc) (y24_1 : Int32) (gk : Gh), (0 ≤ y24_1.toInt ∧ y24_1.toInt ≤ 9) → (9 - y24_1.toInt) < (n24 : Int) → eqv gk gh → TY z (zA z) gk H → va_S (zA z) s.heap H locs → lv_has ls 3 [(0, .ref h0), (1, .int y24_1)] → W p l e (rmF 7 281) s m ([.ref h0] : List Value).toArray below meth c H locs 0 0 (MQ below (QcI z (fun r H => ∃ gk : Gh, eqv gk gh ∧ TY z (zA z) gk H ∧ (0 ≤ r.toInt ∧ r.toInt ≤ 1))) ([.ref h0] : List Value).toArray s 0 0 (zA z)) (F0 m 24 ls []) := by
      intro n24
      induction n24 with
      | zero => intro ls H locs y24_1 gk j24_y24_1 mm24 hg1 hT hS hl; exfalso; omega
      | succ n24 ih24 =>
        intro ls H locs y24_1 gk j24_y24_1 mm24 hg1 hT hS hl
        refine lv_iload_n hx hb dX4_programLine_24 rfl (lv_at hl 1 rfl) ?_
        refine r_bipush hx hb dX4_programLine_25 rfl (fun x25 e25 => ?_)
        refine r_icmp_gt (tgt := 119) hx hb dX4_programLine_27 (by decide) (fun c27 => ?_) (fun c27 => ?_)
        · refine r_iconst hx hb dX4_programLine_119 (by decide) (by decide) (fun x119 e119 => ?_)
          exact rt_z hx hb hr hlk hS (by omega) (by omega) ⟨_, hg1, hT, by omega⟩ dX4_programLine_120
        · refine lv_aload_n hx hb dX4_programLine_30 rfl (lv_at hl 0 rfl) ?_
          refine cl_Vi (rest := []) hC hK hSK (c_X4_advance l z gk h0 (o0) g0 pr0) k_X4_advance mw_2_58 ⟨rfl, rfl, Nat.le_of_ble_eq_true rfl, Nat.le_of_ble_eq_true rfl⟩ (rv_Tape hK hT g0) hT rfl hl.1 rfl (Nat.le_of_ble_eq_true rfl) dX4_programLine_31 ⟨Nat.zero_le _, Nat.zero_le _⟩ hS (fun _ h => h) (fun _ _ h => h) (fun r31 H locs hpo hS => ?_)
          obtain ⟨gk31, hz31, hT, u31_0, u31_1⟩ := hpo
          have hg1 := eqv_tr hz31 hg1
          refine r_if_ne (tgt := 39) hx hb dX4_programLine_34 (by decide) (fun c34 => ?_) (fun c34 => ?_)
          · refine lv_aload_n hx hb dX4_programLine_39 rfl (lv_at hl 0 rfl) ?_
            refine gt_Tape_token hx hb hts ic_Tape hown hK hT g0 (hts _ mw_1_140) dX4_programLine_40 (fun x40 i40 e40 g40 => ?_)
            refine r_iconst hx hb dX4_programLine_43 (by decide) (by decide) (fun x43 e43 => ?_)
            refine r_icmp_ne (tgt := 49) hx hb dX4_programLine_44 (by decide) (fun c44 => ?_) (fun c44 => ?_)
            · refine lv_aload_n hx hb dX4_programLine_49 rfl (lv_at hl 0 rfl) ?_
              refine gt_Tape_token hx hb hts ic_Tape hown hK hT g0 (hts _ mw_1_140) dX4_programLine_50 (fun x50 i50 e50 g50 => ?_)
              refine r_iconst hx hb dX4_programLine_53 (by decide) (by decide) (fun x53 e53 => ?_)
              have J66 : ∀ (ls : Array Slot) (H : Heap) (locs : List Loc) (t66_0 : Int32) (gk : Gh), (-4 ≤ t66_0.toInt ∧ t66_0.toInt ≤ 3) → (9 - y24_1.toInt) < ((n24 + 1 : Nat) : Int) → eqv gk gh → TY z (zA z) gk H → va_S (zA z) s.heap H locs → lv_has ls 3 [(0, .ref h0), (1, .int y24_1)] → W p l e (rmF 7 281) s m ([.ref h0] : List Value).toArray below meth c H locs 0 0 (MQ below (QcI z (fun r H => ∃ gk : Gh, eqv gk gh ∧ TY z (zA z) gk H ∧ (0 ≤ r.toInt ∧ r.toInt ≤ 1))) ([.ref h0] : List Value).toArray s 0 0 (zA z)) (F0 m 66 ls [.int t66_0]) := by
                intro ls H locs t66_0 gk j66_t66_0 mf66_24 hg1 hT hS hl
                refine lv_istore_n (lv' := [(2, .int t66_0), (0, .ref h0), (1, .int y24_1)]) hx hb dX4_programLine_66 rfl hl (by decide) rfl (fun ls hl => ?_)
                refine lv_iload_n hx hb dX4_programLine_67 rfl (lv_at hl 0 rfl) ?_
                refine r_bipush hx hb dX4_programLine_68 rfl (fun x68 e68 => ?_)
                refine r_icmp_ne (tgt := 83) hx hb dX4_programLine_70 (by decide) (fun c70 => ?_) (fun c70 => ?_)
                · refine lv_aload_n hx hb dX4_programLine_83 rfl (lv_at hl 1 rfl) ?_
                  refine gt_Tape_draft hx hb hts ic_Tape hown hK hT g0 (hts _ mw_1_131) dX4_programLine_84 (fun q84 hq84 => ?_)
                  refine gt_Evening_figures hx hb hts ic_Evening hown hK hT hq84 (hts _ mw_1_109) dX4_programLine_87 (fun x87 i87 e87 g87 => ?_)
                  refine r_bipush hx hb dX4_programLine_90 rfl (fun x90 e90 => ?_)
                  refine r_icmp_lt (tgt := 105) hx hb dX4_programLine_92 (by decide) (fun c92 => ?_) (fun c92 => ?_)
                  · refine lv_aload_n hx hb dX4_programLine_105 rfl (lv_at hl 1 rfl) ?_
                    refine gt_Tape_draft hx hb hts ic_Tape hown hK hT g0 (hts _ mw_1_131) dX4_programLine_106 (fun q106 hq106 => ?_)
                    refine lv_iload_n hx hb dX4_programLine_109 rfl (lv_at hl 0 rfl) ?_
                    refine cl_Vv (rest := []) hC hK hSK (c_X0_addFigure l z gk q106 (2) hq106 t66_0) k_X0_addFigure mw_2_188 ⟨rfl, rfl, Nat.le_of_ble_eq_true rfl, Nat.le_of_ble_eq_true rfl⟩ (rv_Evening hK hT hq106) hT rfl hl.1 rfl (Nat.le_of_ble_eq_true rfl) dX4_programLine_110 ⟨Nat.zero_le _, Nat.zero_le _⟩ hS (fun _ h => h) (fun _ _ h => h) (fun H locs hpo hS => ?_)
                    obtain ⟨gk110, hz110, hT⟩ := hpo
                    have hg1 := eqv_tr hz110 hg1
                    refine r_iinc (lv' := fun v__ => [(1, .int v__), (2, .int t66_0), (0, .ref h0)]) hx hb dX4_programLine_113 hl (k := 2) rfl (by decide) (fun _ => rfl) ⟨by decide, by decide⟩ (by omega) (by omega) (fun x113 ls e113 hl => ?_)
                    refine lv_goto (tgt := 24) hx hb dX4_programLine_116 (by decide) ?_
                    exact ih24 ls _ _ x113 _ (by omega) (by omega) hg1 hT hS (lv_sub hl [2, 0] rfl)
                  · refine lv_aload_n hx hb dX4_programLine_95 rfl (lv_at hl 1 rfl) ?_
                    refine r_iconst hx hb dX4_programLine_96 (by decide) (by decide) (fun x96 e96 => ?_)
                    refine lv_aload_n hx hb dX4_programLine_97 rfl (lv_at hl 1 rfl) ?_
                    refine gt_Tape_start hx hb hts ic_Tape hown hK hT g0 (hts _ mw_1_141) dX4_programLine_98 (fun x98 i98 e98 g98 => ?_)
                    refine cl_Vi (rest := []) hC hK hSK (c_X4_refuse l z gk h0 (o0) g0 x96 x98) k_X4_refuse mw_2_66 ⟨rfl, rfl, Nat.le_of_ble_eq_true rfl, Nat.le_of_ble_eq_true rfl⟩ (rv_Tape hK hT g0) hT rfl hl.1 rfl (Nat.le_of_ble_eq_true rfl) dX4_programLine_101 ⟨Nat.zero_le _, Nat.zero_le _⟩ hS (fun _ h => h) (fun _ _ h => h) (fun r101 H locs hpo hS => ?_)
                    obtain ⟨hT, u101_0, u101_1⟩ := hpo
                    exact rt_z hx hb hr hlk hS (by omega) (by omega) ⟨_, hg1, hT, by omega⟩ dX4_programLine_104
                · refine lv_aload_n hx hb dX4_programLine_73 rfl (lv_at hl 1 rfl) ?_
                  refine r_iconst hx hb dX4_programLine_74 (by decide) (by decide) (fun x74 e74 => ?_)
                  refine lv_aload_n hx hb dX4_programLine_75 rfl (lv_at hl 1 rfl) ?_
                  refine gt_Tape_start hx hb hts ic_Tape hown hK hT g0 (hts _ mw_1_141) dX4_programLine_76 (fun x76 i76 e76 g76 => ?_)
                  refine cl_Vi (rest := []) hC hK hSK (c_X4_refuse l z gk h0 (o0) g0 x74 x76) k_X4_refuse mw_2_66 ⟨rfl, rfl, Nat.le_of_ble_eq_true rfl, Nat.le_of_ble_eq_true rfl⟩ (rv_Tape hK hT g0) hT rfl hl.1 rfl (Nat.le_of_ble_eq_true rfl) dX4_programLine_79 ⟨Nat.zero_le _, Nat.zero_le _⟩ hS (fun _ h => h) (fun _ _ h => h) (fun r79 H locs hpo hS => ?_)
                  obtain ⟨hT, u79_0, u79_1⟩ := hpo
                  exact rt_z hx hb hr hlk hS (by omega) (by omega) ⟨_, hg1, hT, by omega⟩ dX4_programLine_82
              refine r_icmp_ne (tgt := 64) hx hb dX4_programLine_54 (by decide) (fun c54 => ?_) (fun c54 => ?_)
              · refine r_bipush hx hb dX4_programLine_64 rfl (fun x64 e64 => ?_)
                exact J66 ls _ _ x64 _ (by omega) (by omega) hg1 hT hS (lv_sub hl [0, 1] rfl)
              · refine lv_aload_n hx hb dX4_programLine_57 rfl (lv_at hl 0 rfl) ?_
                refine cl_Vi (rest := []) hC hK hSK (c_X4_figureWord l z gk31 h0 (o0) g0) k_X4_figureWord mw_2_177 ⟨rfl, rfl, Nat.le_of_ble_eq_true rfl, Nat.le_of_ble_eq_true rfl⟩ (rv_Tape hK hT g0) hT rfl hl.1 rfl (Nat.le_of_ble_eq_true rfl) dX4_programLine_58 ⟨Nat.zero_le _, Nat.zero_le _⟩ hS (fun _ h => h) (fun _ _ h => h) (fun r58 H locs hpo hS => ?_)
                obtain ⟨hT, u58_0⟩ := hpo
                refine lv_goto (tgt := 66) hx hb dX4_programLine_61 (by decide) ?_
                exact J66 ls _ _ r58 _ (by omega) (by omega) hg1 hT hS (lv_sub hl [0, 1] rfl)
            · refine r_iconst hx hb dX4_programLine_47 (by decide) (by decide) (fun x47 e47 => ?_)
              exact rt_z hx hb hr hlk hS (by omega) (by omega) ⟨_, hg1, hT, by omega⟩ dX4_programLine_48
          · refine r_iconst hx hb dX4_programLine_37 (by decide) (by decide) (fun x37 e37 => ?_)
            exact rt_z hx hb hr hlk hS (by omega) (by omega) ⟨_, hg1, hT, by omega⟩ dX4_programLine_38
    exact J24 (((9 - x22.toInt)).toNat + 1) ls _ _ x22 _ (by omega) (by omega) hg1 hT hS (lv_sub hl [1, 0] rfl)
  · refine lv_aload_n hx hb dX4_programLine_7 rfl (lv_at hl 0 rfl) ?_
    refine r_iconst hx hb dX4_programLine_8 (by decide) (by decide) (fun x8 e8 => ?_)
    refine lv_aload_n hx hb dX4_programLine_9 rfl (lv_at hl 0 rfl) ?_
    refine gt_Tape_start hx hb hts ic_Tape hown hK hT g0 (hts _ mw_1_141) dX4_programLine_10 (fun x10 i10 e10 g10 => ?_)
    refine cl_Vi (rest := []) hC hK hSK (c_X4_refuse l z gh h0 (o0) g0 x8 x10) k_X4_refuse mw_2_66 ⟨rfl, rfl, Nat.le_of_ble_eq_true rfl, Nat.le_of_ble_eq_true rfl⟩ (rv_Tape hK hT g0) hT rfl hl.1 rfl (Nat.le_of_ble_eq_true rfl) dX4_programLine_13 ⟨Nat.zero_le _, Nat.zero_le _⟩ hS (fun _ h => h) (fun _ _ h => h) (fun r13 H locs hpo hS => ?_)
    obtain ⟨hT, u13_0, u13_1⟩ := hpo
    exact rt_z hx hb hr hlk hS (by omega) (by omega) ⟨_, hg1, hT, by omega⟩ dX4_programLine_16
theorem k_X4_oneLine : cBV yX4_oneLine cX4_oneLine 2 (some .boolean) 0 := ⟨mw_2_72, ms_0_3, mw_1_2, mw_2_73, ⟨by decide, by decide, by decide⟩⟩
set_option maxHeartbeats 4000000 in
set_option maxRecDepth 100000 in
theorem c_X4_oneLine (l : Launch) (z : Zt) (v : Nat → Nat → Int) (h0 o0 : Nat) (g0 : zG z h0 = (14, o0)) : Met l yX4_oneLine (uw yX4_oneLine cX4_oneLine 2 (some .boolean)) (rmF 8 303) (PcW z [.ref h0] (fun H => WX z v H)) (QcI z (fun r H => WX z v H ∧ (0 ≤ r.toInt ∧ r.toInt ≤ 1))) 0 0 (zA z) := by
  refine Met.ofW (cc := cX4_oneLine) (maxL := 2) (ret := (some .boolean)) (by decide) rfl ?_
  intro p e s m args below meth c s₁ B hml hv
  obtain ⟨rfl, hW, hK, hSK⟩ := hv
  have hx := B.exec
  have hb := B.bytes
  have hr := B.returns
  have hts : ∀ w ∈ lw_ok, w.before ([.ref h0] : List Value).toArray s = true := fun w hw => atoms_spec (ws := uw yX4_oneLine cX4_oneLine 2 (some .boolean)) B.pre w (List.mem_cons_of_mem _ hw)
  have hown : s.vm.findClass RX4 = some m.cls := findClass_of_methodNamed B.named
  have hlk := B.notSynchronized
  have hC : CallFix p m c cX4_oneLine 2 s ([.ref h0] : List Value).toArray lw_ok RX4 := ⟨hx, hb, hml, hown, hts⟩
  have hS : va_S (zA z) s.heap s.heap [] := va_S.rf
  have hl := lv_entry ([.ref h0]) (n := 2) (Nat.le_of_ble_eq_true rfl)
  rw [lg_entry_eq]
  generalize (lg_sl ([.ref h0]) ++ List.replicate (2 - (lg_sl ([.ref h0])).length) Slot.unset).toArray = ls at hl ⊢
  have hl : lv_has ls 2 [(0, .ref h0)] := hl
  show W p l e (rmF 8 303) s m ([.ref h0] : List Value).toArray below meth c s.heap [] 0 0 (MQ below (QcI z (fun r H => WX z v H ∧ (0 ≤ r.toInt ∧ r.toInt ≤ 1))) ([.ref h0] : List Value).toArray s 0 0 (zA z)) (F0 m 0 ls [])
  obtain ⟨gh, hwf, hvis, hT⟩ := hW
  refine lv_aload_n hx hb dX4_oneLine_0 rfl (lv_at hl 0 rfl) ?_
  refine gt_Tape_token hx hb hts ic_Tape hown hK hT g0 (hts _ mw_1_140) dX4_oneLine_1 (fun x1 i1 e1 g1 => ?_)
  refine r_iconst hx hb dX4_oneLine_4 (by decide) (by decide) (fun x4 e4 => ?_)
  have J17 : ∀ (ls : Array Slot) (H : Heap) (locs : List Loc) (t17_0 : Int32) (gh : Gh), (-4 ≤ t17_0.toInt ∧ t17_0.toInt ≤ 5) → wf z gh → vis z gh v → TY z (zA z) gh H → va_S (zA z) s.heap H locs → lv_has ls 2 [(0, .ref h0)] → W p l e (rmF 8 303) s m ([.ref h0] : List Value).toArray below meth c H locs 0 0 (MQ below (QcI z (fun r H => WX z v H ∧ (0 ≤ r.toInt ∧ r.toInt ≤ 1))) ([.ref h0] : List Value).toArray s 0 0 (zA z)) (F0 m 17 ls [.int t17_0]) := by
    intro ls H locs t17_0 gh j17_t17_0 hwf hvis hT hS hl
    refine lv_istore_n (lv' := [(1, .int t17_0), (0, .ref h0)]) hx hb dX4_oneLine_17 rfl hl (by decide) rfl (fun ls hl => ?_)
    refine lv_iload_n hx hb dX4_oneLine_18 rfl (lv_at hl 0 rfl) ?_
    refine r_bipush hx hb dX4_oneLine_19 rfl (fun x19 e19 => ?_)
    refine r_icmp_ne (tgt := 34) hx hb dX4_oneLine_21 (by decide) (fun c21 => ?_) (fun c21 => ?_)
    · refine lv_iload_n hx hb dX4_oneLine_34 rfl (lv_at hl 0 rfl) ?_
      refine r_iconst hx hb dX4_oneLine_35 (by decide) (by decide) (fun x35 e35 => ?_)
      refine r_icmp_ge (tgt := 45) hx hb dX4_oneLine_36 (by decide) (fun c36 => ?_) (fun c36 => ?_)
      · refine lv_iload_n hx hb dX4_oneLine_45 rfl (lv_at hl 0 rfl) ?_
        refine r_iconst hx hb dX4_oneLine_46 (by decide) (by decide) (fun x46 e46 => ?_)
        refine r_icmp_ne (tgt := 57) hx hb dX4_oneLine_47 (by decide) (fun c47 => ?_) (fun c47 => ?_)
        · refine lv_aload_n hx hb dX4_oneLine_57 rfl (lv_at hl 1 rfl) ?_
          refine cl_Vi (rest := []) hC hK hSK (c_X4_programLine l z gh h0 (o0) g0 hwf.2.2) k_X4_programLine mw_2_173 ⟨rfl, rfl, Nat.le_of_ble_eq_true rfl, Nat.le_of_ble_eq_true rfl⟩ (rv_Tape hK hT g0) hT rfl hl.1 rfl (Nat.le_of_ble_eq_true rfl) dX4_oneLine_58 ⟨Nat.zero_le _, Nat.zero_le _⟩ hS (fun _ h => h) (fun _ _ h => h) (fun r58 H locs hpo hS => ?_)
          obtain ⟨gh58, hz58, hT, u58_0⟩ := hpo
          have hwf := wf_of hz58 hwf
          have hvis := vis_of hz58 hvis
          exact rt_z hx hb hr hlk hS (by omega) (by omega) ⟨⟨_, hwf, hvis, hT⟩, by omega⟩ dX4_oneLine_61
        · refine lv_aload_n hx hb dX4_oneLine_50 rfl (lv_at hl 1 rfl) ?_
          refine cl_Vi (rest := []) hC hK hSK (c_X4_cousinsLine l z gh h0 (o0) g0 hwf.2.2) k_X4_cousinsLine mw_2_155 ⟨rfl, rfl, Nat.le_of_ble_eq_true rfl, Nat.le_of_ble_eq_true rfl⟩ (rv_Tape hK hT g0) hT rfl hl.1 rfl (Nat.le_of_ble_eq_true rfl) dX4_oneLine_51 ⟨Nat.zero_le _, Nat.zero_le _⟩ hS (fun _ h => h) (fun _ _ h => h) (fun r51 H locs hpo hS => ?_)
          obtain ⟨gh51, hz51, hT, u51_0⟩ := hpo
          have hwf := wf_of hz51 hwf
          have hvis := vis_of hz51 hvis
          refine lv_goto (tgt := 61) hx hb dX4_oneLine_54 (by decide) ?_
          exact rt_z hx hb hr hlk hS (by omega) (by omega) ⟨⟨_, hwf, hvis, hT⟩, by omega⟩ dX4_oneLine_61
      · refine lv_aload_n hx hb dX4_oneLine_39 rfl (lv_at hl 1 rfl) ?_
        refine lv_iload_n hx hb dX4_oneLine_40 rfl (lv_at hl 0 rfl) ?_
        refine cl_Vi (rest := []) hC hK hSK (c_X4_manLine l z v h0 (o0) g0 t17_0) k_X4_manLine mw_2_139 ⟨rfl, rfl, Nat.le_of_ble_eq_true rfl, Nat.le_of_ble_eq_true rfl⟩ (rv_Tape hK hT g0) ⟨_, hwf, hvis, hT⟩ rfl hl.1 rfl (Nat.le_of_ble_eq_true rfl) dX4_oneLine_41 ⟨Nat.zero_le _, Nat.zero_le _⟩ hS (fun _ h => h) (fun _ _ h => h) (fun r41 H locs hpo hS => ?_)
        obtain ⟨⟨gh41, hwf, hvis, hT⟩, u41_0⟩ := hpo
        exact rt_z hx hb hr hlk hS (by omega) (by omega) ⟨⟨_, hwf, hvis, hT⟩, by omega⟩ dX4_oneLine_44
    · refine lv_aload_n hx hb dX4_oneLine_24 rfl (lv_at hl 1 rfl) ?_
      refine r_iconst hx hb dX4_oneLine_25 (by decide) (by decide) (fun x25 e25 => ?_)
      refine lv_aload_n hx hb dX4_oneLine_26 rfl (lv_at hl 1 rfl) ?_
      refine gt_Tape_start hx hb hts ic_Tape hown hK hT g0 (hts _ mw_1_141) dX4_oneLine_27 (fun x27 i27 e27 g27 => ?_)
      refine cl_Vi (rest := []) hC hK hSK (c_X4_refuse l z gh h0 (o0) g0 x25 x27) k_X4_refuse mw_2_66 ⟨rfl, rfl, Nat.le_of_ble_eq_true rfl, Nat.le_of_ble_eq_true rfl⟩ (rv_Tape hK hT g0) hT rfl hl.1 rfl (Nat.le_of_ble_eq_true rfl) dX4_oneLine_30 ⟨Nat.zero_le _, Nat.zero_le _⟩ hS (fun _ h => h) (fun _ _ h => h) (fun r30 H locs hpo hS => ?_)
      obtain ⟨hT, u30_0, u30_1⟩ := hpo
      exact rt_z hx hb hr hlk hS (by omega) (by omega) ⟨⟨_, hwf, hvis, hT⟩, by omega⟩ dX4_oneLine_33
  refine r_icmp_ne (tgt := 15) hx hb dX4_oneLine_5 (by decide) (fun c5 => ?_) (fun c5 => ?_)
  · refine r_bipush hx hb dX4_oneLine_15 rfl (fun x15 e15 => ?_)
    exact J17 ls _ _ x15 _ (by omega) hwf hvis hT hS (lv_sub hl [0] rfl)
  · refine lv_aload_n hx hb dX4_oneLine_8 rfl (lv_at hl 0 rfl) ?_
    refine cl_Vi (rest := []) hC hK hSK (c_X4_lineWord l z gh h0 (o0) g0) k_X4_lineWord mw_2_74 ⟨rfl, rfl, Nat.le_of_ble_eq_true rfl, Nat.le_of_ble_eq_true rfl⟩ (rv_Tape hK hT g0) hT rfl hl.1 rfl (Nat.le_of_ble_eq_true rfl) dX4_oneLine_9 ⟨Nat.zero_le _, Nat.zero_le _⟩ hS (fun _ h => h) (fun _ _ h => h) (fun r9 H locs hpo hS => ?_)
    obtain ⟨hT, u9_0⟩ := hpo
    refine lv_goto (tgt := 17) hx hb dX4_oneLine_12 (by decide) ?_
    exact J17 ls _ _ r9 _ (by omega) hwf hvis hT hS (lv_sub hl [0] rfl)
theorem k_X4_wholeText : cBV yX4_wholeText cX4_wholeText 2 (some .int) 0 := ⟨mw_2_48, mw_2_49, mw_1_2, mw_2_50, ⟨by decide, by decide, by decide⟩⟩
set_option maxHeartbeats 4000000 in
set_option maxRecDepth 100000 in
theorem c_X4_wholeText (l : Launch) (z : Zt) (v : Nat → Nat → Int) (h0 o0 : Nat) (g0 : zG z h0 = (14, o0)) : Met l yX4_wholeText (uw yX4_wholeText cX4_wholeText 2 (some .int)) (rmF 9 324) (PcW z [.ref h0] (fun H => WX z v H)) (QcI z (fun r H => WX z v H)) 0 0 (zA z) := by
  refine Met.ofW (cc := cX4_wholeText) (maxL := 2) (ret := (some .int)) (by decide) rfl ?_
  intro p e s m args below meth c s₁ B hml hv
  obtain ⟨rfl, hW, hK, hSK⟩ := hv
  have hx := B.exec
  have hb := B.bytes
  have hr := B.returns
  have hts : ∀ w ∈ lw_ok, w.before ([.ref h0] : List Value).toArray s = true := fun w hw => atoms_spec (ws := uw yX4_wholeText cX4_wholeText 2 (some .int)) B.pre w (List.mem_cons_of_mem _ hw)
  have hown : s.vm.findClass RX4 = some m.cls := findClass_of_methodNamed B.named
  have hlk := B.notSynchronized
  have hC : CallFix p m c cX4_wholeText 2 s ([.ref h0] : List Value).toArray lw_ok RX4 := ⟨hx, hb, hml, hown, hts⟩
  have hS : va_S (zA z) s.heap s.heap [] := va_S.rf
  have hl := lv_entry ([.ref h0]) (n := 2) (Nat.le_of_ble_eq_true rfl)
  rw [lg_entry_eq]
  generalize (lg_sl ([.ref h0]) ++ List.replicate (2 - (lg_sl ([.ref h0])).length) Slot.unset).toArray = ls at hl ⊢
  have hl : lv_has ls 2 [(0, .ref h0)] := hl
  show W p l e (rmF 9 324) s m ([.ref h0] : List Value).toArray below meth c s.heap [] 0 0 (MQ below (QcI z (fun r H => WX z v H)) ([.ref h0] : List Value).toArray s 0 0 (zA z)) (F0 m 0 ls [])
  obtain ⟨gh, hwf, hvis, hT⟩ := hW
  refine lv_aload_n hx hb dX4_wholeText_0 rfl (lv_at hl 0 rfl) ?_
  refine gt_Tape_draft hx hb hts ic_Tape hown hK hT g0 (hts _ mw_1_131) dX4_wholeText_1 (fun q1 hq1 => ?_)
  refine cl_Vv (rest := []) hC hK hSK (c_X0_empty l z v q1 (2) hq1) k_X0_empty mw_2_51 ⟨rfl, rfl, Nat.le_of_ble_eq_true rfl, Nat.le_of_ble_eq_true rfl⟩ (rv_Evening hK hT hq1) ⟨_, hwf, hvis, hT⟩ rfl hl.1 rfl (Nat.le_of_ble_eq_true rfl) dX4_wholeText_4 ⟨Nat.zero_le _, Nat.zero_le _⟩ hS (fun _ h => h) (fun _ _ h => h) (fun H locs hpo hS => ?_)
  obtain ⟨gh4, hwf, hvis, hT⟩ := hpo
  refine lv_aload_n hx hb dX4_wholeText_7 rfl (lv_at hl 0 rfl) ?_
  refine r_iconst hx hb dX4_wholeText_8 (by decide) (by decide) (fun x8 e8 => ?_)
  refine pt_Tape_faultFound hx hb hts ic_Tape hown hK hT hS g0 (hts _ mw_1_135) dX4_wholeText_9 (fun H locs hT hS => ?_)
  refine lv_aload_n hx hb dX4_wholeText_12 rfl (lv_at hl 0 rfl) ?_
  refine r_iconst hx hb dX4_wholeText_13 (by decide) (by decide) (fun x13 e13 => ?_)
  refine pt_Tape_place hx hb hts ic_Tape hown hK hT hS g0 (hts _ mw_1_137) dX4_wholeText_14 (fun H locs hT hS => ?_)
  refine lv_aload_n hx hb dX4_wholeText_17 rfl (lv_at hl 0 rfl) ?_
  refine r_iconst hx hb dX4_wholeText_18 (by decide) (by decide) (fun x18 e18 => ?_)
  refine pt_Tape_next hx hb hts ic_Tape hown hK hT hS g0 (hts _ mw_1_139) (by omega) (by omega) dX4_wholeText_19 (fun H locs hT hS => ?_)
  obtain ⟨gh19, w19, hq19, hwf, hvis, hT⟩ : ∃ g : Gh, g.1 h0 31 = x18.toInt ∧ (∀ b k, k ≠ 31 → g.1 b k = gh4.1 b k) ∧ wf z g ∧ vis z g v ∧ TY z (zA z) g H := ⟨_, gs_at _ _ _ _, fun b k hk => gs_nk _ _ _ _ hk, wf_of (eqv_gs rfl (eqv_rf _)) hwf, vis_of (eqv_gs rfl (eqv_rf _)) hvis, hT⟩
  refine lv_aload_n hx hb dX4_wholeText_22 rfl (lv_at hl 0 rfl) ?_
  refine r_iconst hx hb dX4_wholeText_23 (by decide) (by decide) (fun x23 e23 => ?_)
  refine pt_Tape_hasProgram hx hb hts ic_Tape hown hK hT hS g0 (hts _ mw_1_143) (by omega) (by omega) dX4_wholeText_24 (fun H locs hT hS => ?_)
  refine r_iconst hx hb dX4_wholeText_27 (by decide) (by decide) (fun x27 e27 => ?_)
  refine lv_istore_n (lv' := [(1, .int x27), (0, .ref h0)]) hx hb dX4_wholeText_28 rfl hl (by decide) rfl (fun ls hl => ?_)
  have J29 : ∀ (n29 : Nat) (ls : Array Slot) (H : Heap) (locs : List Loc) (y29_1 : Int32) (gh : Gh), (0 ≤ y29_1.toInt ∧ y29_1.toInt ≤ 161) → (161 - y29_1.toInt) < (n29 : Int) → wf z gh → vis z gh v → TY z (zA z) gh H → va_S (zA z) s.heap H locs → lv_has ls 2 [(0, .ref h0), (1, .int y29_1)] → W p l e (rmF 9 324) s m ([.ref h0] : List Value).toArray below meth c H locs 0 0 (MQ below (QcI z (fun r H => WX z v H)) ([.ref h0] : List Value).toArray s 0 0 (zA z)) (F0 m 29 ls []) := by
    intro n29
    induction n29 with
    | zero => intro ls H locs y29_1 gh j29_y29_1 mm29 hwf hvis hT hS hl; exfalso; omega
    | succ n29 ih29 =>
      intro ls H locs y29_1 gh j29_y29_1 mm29 hwf hvis hT hS hl
      refine lv_iload_n hx hb dX4_wholeText_29 rfl (lv_at hl 1 rfl) ?_
      refine r_sipush hx hb dX4_wholeText_30 rfl (fun x30 e30 => ?_)
      have J65 : ∀ (ls : Array Slot) (H : Heap) (locs : List Loc) (gh : Gh), wf z gh → vis z gh v → TY z (zA z) gh H → va_S (zA z) s.heap H locs → lv_has ls 2 [(0, .ref h0), (1, .int y29_1)] → W p l e (rmF 9 324) s m ([.ref h0] : List Value).toArray below meth c H locs 0 0 (MQ below (QcI z (fun r H => WX z v H)) ([.ref h0] : List Value).toArray s 0 0 (zA z)) (F0 m 65 ls []) := by
        intro ls H locs gh hwf hvis hT hS hl
        refine lv_aload_n hx hb dX4_wholeText_65 rfl (lv_at hl 0 rfl) ?_
        refine gt_Tape_faultFound hx hb hts ic_Tape hown hK hT g0 (hts _ mw_1_135) dX4_wholeText_66 (fun x66 => ?_)
        refine r_if_ne (tgt := 93) hx hb dX4_wholeText_69 (by decide) (fun c69 => ?_) (fun c69 => ?_)
        · refine lv_iload_n hx hb dX4_wholeText_93 rfl (lv_at hl 1 rfl) ?_
          exact rt_i hx hb hr hlk hS ⟨_, hwf, hvis, hT⟩ dX4_wholeText_94
        · refine lv_aload_n hx hb dX4_wholeText_72 rfl (lv_at hl 0 rfl) ?_
          refine gt_Tape_draft hx hb hts ic_Tape hown hK hT g0 (hts _ mw_1_131) dX4_wholeText_73 (fun q73 hq73 => ?_)
          refine cl_Vi (rest := []) hC hK hSK (c_X0_hasStrangers l z gh q73 (2) hq73) k_X0_hasStrangers mw_2_192 ⟨rfl, rfl, Nat.le_of_ble_eq_true rfl, Nat.le_of_ble_eq_true rfl⟩ (rv_Evening hK hT hq73) hT rfl hl.1 rfl (Nat.le_of_ble_eq_true rfl) dX4_wholeText_76 ⟨Nat.zero_le _, Nat.zero_le _⟩ hS (fun _ h => h) (fun _ _ h => h) (fun r76 H locs hpo hS => ?_)
          obtain ⟨hT, u76_0⟩ := hpo
          refine r_if_eq (tgt := 93) hx hb dX4_wholeText_79 (by decide) (fun c79 => ?_) (fun c79 => ?_)
          · refine lv_iload_n hx hb dX4_wholeText_93 rfl (lv_at hl 1 rfl) ?_
            exact rt_i hx hb hr hlk hS ⟨_, hwf, hvis, hT⟩ dX4_wholeText_94
          · refine lv_aload_n hx hb dX4_wholeText_82 rfl (lv_at hl 0 rfl) ?_
            refine r_bipush hx hb dX4_wholeText_83 rfl (fun x83 e83 => ?_)
            refine lv_aload_n hx hb dX4_wholeText_85 rfl (lv_at hl 0 rfl) ?_
            refine gt_Tape_length hx hb hts ic_Tape hown hK hT g0 (hts _ mw_1_134) dX4_wholeText_86 (fun x86 i86 e86 g86 => ?_)
            refine cl_Vi (rest := []) hC hK hSK (c_X4_refuse l z gh h0 (o0) g0 x83 x86) k_X4_refuse mw_2_66 ⟨rfl, rfl, Nat.le_of_ble_eq_true rfl, Nat.le_of_ble_eq_true rfl⟩ (rv_Tape hK hT g0) hT rfl hl.1 rfl (Nat.le_of_ble_eq_true rfl) dX4_wholeText_89 ⟨Nat.zero_le _, Nat.zero_le _⟩ hS (fun _ h => h) (fun _ _ h => h) (fun r89 H locs hpo hS => ?_)
            obtain ⟨hT, u89_0, u89_1⟩ := hpo
            refine lv_pop hx hb dX4_wholeText_92 rfl ?_
            refine lv_iload_n hx hb dX4_wholeText_93 rfl (lv_at hl 1 rfl) ?_
            exact rt_i hx hb hr hlk hS ⟨_, hwf, hvis, hT⟩ dX4_wholeText_94
      refine r_icmp_gt (tgt := 65) hx hb dX4_wholeText_33 (by decide) (fun c33 => ?_) (fun c33 => ?_)
      · exact J65 ls _ _ _ hwf hvis hT hS (lv_sub hl [0, 1] rfl)
      · refine lv_aload_n hx hb dX4_wholeText_36 rfl (lv_at hl 0 rfl) ?_
        refine cl_Vi (rest := []) hC hK hSK (c_X4_advance l z gh h0 (o0) g0 hwf.2.2) k_X4_advance mw_2_58 ⟨rfl, rfl, Nat.le_of_ble_eq_true rfl, Nat.le_of_ble_eq_true rfl⟩ (rv_Tape hK hT g0) hT rfl hl.1 rfl (Nat.le_of_ble_eq_true rfl) dX4_wholeText_37 ⟨Nat.zero_le _, Nat.zero_le _⟩ hS (fun _ h => h) (fun _ _ h => h) (fun r37 H locs hpo hS => ?_)
        obtain ⟨gh37, hz37, hT, u37_0, u37_1⟩ := hpo
        have hwf := wf_of hz37 hwf
        have hvis := vis_of hz37 hvis
        refine r_if_eq (tgt := 65) hx hb dX4_wholeText_40 (by decide) (fun c40 => ?_) (fun c40 => ?_)
        · exact J65 ls _ _ _ hwf hvis hT hS (lv_sub hl [0, 1] rfl)
        · refine lv_aload_n hx hb dX4_wholeText_43 rfl (lv_at hl 0 rfl) ?_
          refine gt_Tape_token hx hb hts ic_Tape hown hK hT g0 (hts _ mw_1_140) dX4_wholeText_44 (fun x44 i44 e44 g44 => ?_)
          refine r_if_eq (tgt := 65) hx hb dX4_wholeText_47 (by decide) (fun c47 => ?_) (fun c47 => ?_)
          · exact J65 ls _ _ _ hwf hvis hT hS (lv_sub hl [0, 1] rfl)
          · refine lv_aload_n hx hb dX4_wholeText_50 rfl (lv_at hl 0 rfl) ?_
            refine cl_Vi (rest := []) hC hK hSK (c_X4_oneLine l z v h0 (o0) g0) k_X4_oneLine mw_2_70 ⟨rfl, rfl, Nat.le_of_ble_eq_true rfl, Nat.le_of_ble_eq_true rfl⟩ (rv_Tape hK hT g0) ⟨_, hwf, hvis, hT⟩ rfl hl.1 rfl (Nat.le_of_ble_eq_true rfl) dX4_wholeText_51 ⟨Nat.zero_le _, Nat.zero_le _⟩ hS (fun _ h => h) (fun _ _ h => h) (fun r51 H locs hpo hS => ?_)
            obtain ⟨⟨gh51, hwf, hvis, hT⟩, u51_0⟩ := hpo
            refine r_if_ne (tgt := 59) hx hb dX4_wholeText_54 (by decide) (fun c54 => ?_) (fun c54 => ?_)
            · refine r_iinc (lv' := fun v__ => [(1, .int v__), (0, .ref h0)]) hx hb dX4_wholeText_59 hl (k := 1) rfl (by decide) (fun _ => rfl) ⟨by decide, by decide⟩ (by omega) (by omega) (fun x59 ls e59 hl => ?_)
              refine lv_goto (tgt := 29) hx hb dX4_wholeText_62 (by decide) ?_
              exact ih29 ls _ _ x59 _ (by omega) (by omega) hwf hvis hT hS (lv_sub hl [1, 0] rfl)
            · refine lv_iload_n hx hb dX4_wholeText_57 rfl (lv_at hl 1 rfl) ?_
              exact rt_i hx hb hr hlk hS ⟨_, hwf, hvis, hT⟩ dX4_wholeText_58
  exact J29 (((161 - x27.toInt)).toNat + 1) ls _ _ x27 _ (by omega) (by omega) hwf hvis hT hS (lv_sub hl [1, 0] rfl)
