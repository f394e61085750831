theorem k_J6_bitCount_0f7a4 : cBS yJ6_bitCount_0f7a4 cJ6_bitCount_0f7a4 1 (some .int) 1 := ⟨mw_2_164, mw_1_14, mw_2_165, ⟨by decide, by decide, by decide⟩⟩
set_option maxHeartbeats 4000000 in
set_option maxRecDepth 100000 in
theorem c_bitCount (l : Launch) (z : Zt) (σ : Sg) (p1 : Int32) (out : Int) (hF : D_bitCount p1.toInt = some out) : Met l yJ6_bitCount_0f7a4 (uw yJ6_bitCount_0f7a4 cJ6_bitCount_0f7a4 1 (some .int)) (rmF 1 64) (PcW z [.int p1] (fun H => TY z (zA z) σ H)) (QcI z (fun r H => some r.toInt = some out ∧ TY z (zA z) σ H ∧ (0 ≤ r.toInt ∧ r.toInt ≤ 32))) 0 0 (zA z) := by
  refine Met.ofW (cc := cJ6_bitCount_0f7a4) (maxL := 1) (ret := (some .int)) (by decide) rfl ?_
  intro p e s m args below meth c s₁ B hml hv
  obtain ⟨rfl, hT, hK, hSK⟩ := hv
  have hx := B.exec
  have hb := B.bytes
  have hr := B.returns
  have hts : ∀ w ∈ lw_ok, w.before ([.int p1] : List Value).toArray s = true := fun w hw => atoms_spec (ws := uw yJ6_bitCount_0f7a4 cJ6_bitCount_0f7a4 1 (some .int)) B.pre w (List.mem_cons_of_mem _ hw)
  have hown : s.vm.findClass RJ6 = some m.cls := findClass_of_methodNamed B.named
  have hlk := B.notSynchronized
  have hC : CallFix p m c cJ6_bitCount_0f7a4 1 s ([.int p1] : List Value).toArray lw_ok RJ6 := ⟨hx, hb, hml, hown, hts⟩
  have hS : va_S (zA z) s.heap s.heap [] := va_S.rf
  have hl := lv_entry ([.int p1]) (n := 1) (Nat.le_of_ble_eq_true rfl)
  rw [lg_entry_eq]
  generalize (lg_sl ([.int p1]) ++ List.replicate (1 - (lg_sl ([.int p1])).length) Slot.unset).toArray = ls at hl ⊢
  have hl : lv_has ls 1 [(0, .int p1)] := hl
  show W p l e (rmF 1 64) s m ([.int p1] : List Value).toArray below meth c s.heap [] 0 0 (MQ below (QcI z (fun r H => some r.toInt = some out ∧ TY z (zA z) σ H ∧ (0 ≤ r.toInt ∧ r.toInt ≤ 32))) ([.int p1] : List Value).toArray s 0 0 (zA z)) (F0 m 0 ls [])
  unfold D_bitCount at hF
  have mx_p1 := i_mx p1
  refine lv_iload_n hx hb dJ6_bitCount_0f7a4_0 rfl (lv_at hl 0 rfl) ?_
  refine lv_iload_n hx hb dJ6_bitCount_0f7a4_1 rfl (lv_at hl 0 rfl) ?_
  refine r_iconst hx hb dJ6_bitCount_0f7a4_2 (by decide) (by decide) (fun x2 e2 => ?_)
  have hF := bn hF e2
  refine x_iushr hx hb dJ6_bitCount_0f7a4_3 (fun x3 e3 => ?_)
  have hF := bn hF e3
  refine r_ldcw (1431655765) rfl hx hb hts hown mw_2_166 dJ6_bitCount_0f7a4_4 (fun x4 e4 => ?_)
  have hF := bn hF e4
  refine x_iandr hx hb dJ6_bitCount_0f7a4_7 (by omega) (fun x7 e7 g7 h7 => ?_)
  have hF := bn hF e7
  refine x_isub hx hb dJ6_bitCount_0f7a4_8 (fun x8 e8 => ?_)
  have hF := bn hF e8
  refine lv_istore_n (lv' := [(0, .int x8)]) hx hb dJ6_bitCount_0f7a4_9 rfl hl (by decide) rfl (fun ls hl => ?_)
  refine lv_iload_n hx hb dJ6_bitCount_0f7a4_10 rfl (lv_at hl 0 rfl) ?_
  refine r_ldcw (858993459) rfl hx hb hts hown mw_2_167 dJ6_bitCount_0f7a4_11 (fun x11 e11 => ?_)
  have hF := bn hF e11
  refine x_iandr hx hb dJ6_bitCount_0f7a4_14 (by omega) (fun x14 e14 g14 h14 => ?_)
  have hF := bn hF e14
  refine lv_iload_n hx hb dJ6_bitCount_0f7a4_15 rfl (lv_at hl 0 rfl) ?_
  refine r_iconst hx hb dJ6_bitCount_0f7a4_16 (by decide) (by decide) (fun x16 e16 => ?_)
  have hF := bn hF e16
  refine x_iushr hx hb dJ6_bitCount_0f7a4_17 (fun x17 e17 => ?_)
  have hF := bn hF e17
  refine r_ldcw (858993459) rfl hx hb hts hown mw_2_167 dJ6_bitCount_0f7a4_18 (fun x18 e18 => ?_)
  have hF := bn hF e18
  refine x_iandr hx hb dJ6_bitCount_0f7a4_21 (by omega) (fun x21 e21 g21 h21 => ?_)
  have hF := bn hF e21
  refine r_iadd hx hb dJ6_bitCount_0f7a4_22 (by omega) (by omega) (fun x22 e22 => ?_)
  have hF := bn hF e22
  refine lv_istore_n (lv' := [(0, .int x22)]) hx hb dJ6_bitCount_0f7a4_23 rfl hl (by decide) rfl (fun ls hl => ?_)
  refine lv_iload_n hx hb dJ6_bitCount_0f7a4_24 rfl (lv_at hl 0 rfl) ?_
  refine lv_iload_n hx hb dJ6_bitCount_0f7a4_25 rfl (lv_at hl 0 rfl) ?_
  refine r_iconst hx hb dJ6_bitCount_0f7a4_26 (by decide) (by decide) (fun x26 e26 => ?_)
  have hF := bn hF e26
  refine x_iushr hx hb dJ6_bitCount_0f7a4_27 (fun x27 e27 => ?_)
  have hF := bn hF e27
  refine x_iadd hx hb dJ6_bitCount_0f7a4_28 (fun x28 e28 => ?_)
  have hF := bn hF e28
  refine r_ldcw (252645135) rfl hx hb hts hown mw_2_168 dJ6_bitCount_0f7a4_29 (fun x29 e29 => ?_)
  have hF := bn hF e29
  refine x_iandr hx hb dJ6_bitCount_0f7a4_32 (by omega) (fun x32 e32 g32 h32 => ?_)
  have hF := bn hF e32
  refine lv_istore_n (lv' := [(0, .int x32)]) hx hb dJ6_bitCount_0f7a4_33 rfl hl (by decide) rfl (fun ls hl => ?_)
  refine lv_iload_n hx hb dJ6_bitCount_0f7a4_34 rfl (lv_at hl 0 rfl) ?_
  refine lv_iload_n hx hb dJ6_bitCount_0f7a4_35 rfl (lv_at hl 0 rfl) ?_
  refine r_bipush hx hb dJ6_bitCount_0f7a4_36 rfl (fun x36 e36 => ?_)
  have hF := bn hF e36
  refine x_iushr hx hb dJ6_bitCount_0f7a4_38 (fun x38 e38 => ?_)
  have hF := bn hF e38
  refine x_iadd hx hb dJ6_bitCount_0f7a4_39 (fun x39 e39 => ?_)
  have hF := bn hF e39
  refine lv_istore_n (lv' := [(0, .int x39)]) hx hb dJ6_bitCount_0f7a4_40 rfl hl (by decide) rfl (fun ls hl => ?_)
  refine lv_iload_n hx hb dJ6_bitCount_0f7a4_41 rfl (lv_at hl 0 rfl) ?_
  refine lv_iload_n hx hb dJ6_bitCount_0f7a4_42 rfl (lv_at hl 0 rfl) ?_
  refine r_bipush hx hb dJ6_bitCount_0f7a4_43 rfl (fun x43 e43 => ?_)
  have hF := bn hF e43
  refine x_iushr hx hb dJ6_bitCount_0f7a4_45 (fun x45 e45 => ?_)
  have hF := bn hF e45
  refine x_iadd hx hb dJ6_bitCount_0f7a4_46 (fun x46 e46 => ?_)
  have hF := bn hF e46
  refine lv_istore_n (lv' := [(0, .int x46)]) hx hb dJ6_bitCount_0f7a4_47 rfl hl (by decide) rfl (fun ls hl => ?_)
  refine lv_iload_n hx hb dJ6_bitCount_0f7a4_48 rfl (lv_at hl 0 rfl) ?_
  refine r_bipush hx hb dJ6_bitCount_0f7a4_49 rfl (fun x49 e49 => ?_)
  have hF := bn hF e49
  refine x_iandr hx hb dJ6_bitCount_0f7a4_51 (by omega) (fun x51 e51 g51 h51 => ?_)
  have hF := bn hF e51
  obtain ⟨k52, hF⟩ := ck hF
  exact rt_i hx hb hr hlk hS ⟨hF, hT, (by omega)⟩ dJ6_bitCount_0f7a4_52
theorem k_J7_fill_53178 : cBS yJ7_fill_53178 cJ7_fill_53178 4 none 2 := ⟨mw_2_56, mw_1_9, mw_2_57, ⟨by decide, by decide, by decide⟩⟩
set_option maxHeartbeats 4000000 in
set_option maxRecDepth 100000 in
theorem c_fill20 (l : Launch) (z : Zt) (σ : Sg) (ra1 o0 : Nat) (hra1 : zG z ra1 = (20, o0)) (p2 : Int32) (out : Lo) (hF : D_fill20 (σ o0) p2.toInt = some out) : Met l yJ7_fill_53178 (uw yJ7_fill_53178 cJ7_fill_53178 4 none) (rmF 1 64) (PcW z [.ref ra1, .int p2] (fun H => TY z (zA z) σ H)) (QcV z (fun H => ∃ σ' : Sg, some (σ' o0) = some out ∧ FR σ σ' o0 ∧ TY z (zA z) σ' H)) 0 0 (zA z) := by
  refine Met.ofW (cc := cJ7_fill_53178) (maxL := 4) (ret := none) (by decide) rfl ?_
  intro p e s m args below meth c s₁ B hml hv
  obtain ⟨rfl, hT, hK, hSK⟩ := hv
  have hx := B.exec
  have hb := B.bytes
  have hr := B.returns
  have hts : ∀ w ∈ lw_ok, w.before ([.ref ra1, .int p2] : List Value).toArray s = true := fun w hw => atoms_spec (ws := uw yJ7_fill_53178 cJ7_fill_53178 4 none) B.pre w (List.mem_cons_of_mem _ hw)
  have hown : s.vm.findClass RJ7 = some m.cls := findClass_of_methodNamed B.named
  have hlk := B.notSynchronized
  have hC : CallFix p m c cJ7_fill_53178 4 s ([.ref ra1, .int p2] : List Value).toArray lw_ok RJ7 := ⟨hx, hb, hml, hown, hts⟩
  have hS : va_S (zA z) s.heap s.heap [] := va_S.rf
  have hl := lv_entry ([.ref ra1, .int p2]) (n := 4) (Nat.le_of_ble_eq_true rfl)
  rw [lg_entry_eq]
  generalize (lg_sl ([.ref ra1, .int p2]) ++ List.replicate (4 - (lg_sl ([.ref ra1, .int p2])).length) Slot.unset).toArray = ls at hl ⊢
  have hl : lv_has ls 4 [(0, .ref ra1), (1, .int p2)] := hl
  show W p l e (rmF 1 64) s m ([.ref ra1, .int p2] : List Value).toArray below meth c s.heap [] 0 0 (MQ below (QcV z (fun H => ∃ σ' : Sg, some (σ' o0) = some out ∧ FR σ σ' o0 ∧ TY z (zA z) σ' H)) ([.ref ra1, .int p2] : List Value).toArray s 0 0 (zA z)) (F0 m 0 ls [])
  have hfr : FR σ σ o0 := FR_rf σ o0
  unfold D_fill20 at hF
  have mx_p2 := i_mx p2
  refine r_iconst hx hb dJ7_fill_53178_0 (by decide) (by decide) (fun x0 e0 => ?_)
  have hF := bn hF e0
  refine lv_istore_n (lv' := [(2, .int x0), (0, .ref ra1), (1, .int p2)]) hx hb dJ7_fill_53178_1 rfl hl (by decide) rfl (fun ls hl => ?_)
  refine lv_aload_n hx hb dJ7_fill_53178_2 rfl (lv_at hl 1 rfl) ?_
  refine an_20 hx hb hK hT hra1 dJ7_fill_53178_3 (fun x3 e3 => ?_)
  have hF := bn hF e3
  refine lv_istore_n (lv' := [(3, .int x3), (2, .int x0), (0, .ref ra1), (1, .int p2)]) hx hb dJ7_fill_53178_4 rfl hl (by decide) rfl (fun ls hl => ?_)
  have J5 : ∀ (n5 : Nat) (ls : Array Slot) (H : Heap) (locs : List Loc) (y5_2 : Int32) (σj5 : Sg), (0 ≤ y5_2.toInt ∧ y5_2.toInt ≤ 5) → D_fill20_5 p2.toInt x3.toInt n5 (σj5 o0) y5_2.toInt = some out → FR σ σj5 o0 → TY z (zA z) σj5 H → va_S (zA z) s.heap H locs → lv_has ls 4 [(0, .ref ra1), (1, .int p2), (2, .int y5_2), (3, .int x3)] → W p l e (rmF 1 64) s m ([.ref ra1, .int p2] : List Value).toArray below meth c H locs 0 0 (MQ below (QcV z (fun H => ∃ σ' : Sg, some (σ' o0) = some out ∧ FR σ σ' o0 ∧ TY z (zA z) σ' H)) ([.ref ra1, .int p2] : List Value).toArray s 0 0 (zA z)) (F0 m 5 ls []) := by
    intro n5
    induction n5 with
    | zero => intro ls H locs y5_2 σj5 j5_y5_2 hF hfr hT hS hl; exact (no_s hF).elim
    | succ n5 ih5 =>
      intro ls H locs y5_2 σj5 j5_y5_2 hF hfr hT hS hl
      rw [D_fill20_5.eq_2] at hF
      refine lv_iload_n hx hb dJ7_fill_53178_5 rfl (lv_at hl 2 rfl) ?_
      refine lv_iload_n hx hb dJ7_fill_53178_6 rfl (lv_at hl 3 rfl) ?_
      refine r_icmp_ge (tgt := 20) hx hb dJ7_fill_53178_7 (by decide) (fun c7 => ?_) (fun c7 => ?_)
      · have hF := ifn hF (Int.not_lt.mpr c7)
        exact rt_v hx hb hr hlk hS ⟨σj5, hF, hfr, hT⟩ dJ7_fill_53178_20
      · have hF := ifp hF c7
        refine lv_aload_n hx hb dJ7_fill_53178_10 rfl (lv_at hl 0 rfl) ?_
        refine lv_iload_n hx hb dJ7_fill_53178_11 rfl (lv_at hl 2 rfl) ?_
        refine lv_iload_n hx hb dJ7_fill_53178_12 rfl (lv_at hl 1 rfl) ?_
        refine as_20 hx hb hK hT hS hra1 (by omega) (by omega) dJ7_fill_53178_13 (fun H locs hT hS => ?_)
        obtain ⟨σ13, hF, hfr, hT⟩ := wrL hF hfr hT
        refine r_iinc (lv' := fun v__ => [(2, .int v__), (0, .ref ra1), (1, .int p2), (3, .int x3)]) hx hb dJ7_fill_53178_14 hl (k := 2) rfl (by decide) (fun _ => rfl) ⟨by decide, by decide⟩ (by omega) (by omega) (fun x14 ls e14 hl => ?_)
        have hF := bn hF e14
        refine lv_goto (tgt := 5) hx hb dJ7_fill_53178_17 (by decide) ?_
        exact ih5 ls _ _ x14 σ13 (by omega) hF hfr hT hS (lv_sub hl [1, 2, 0, 3] rfl)
  exact J5 5000 ls _ _ x0 σ (by omega) hF hfr hT hS (lv_sub hl [2, 3, 1, 0] rfl)
set_option maxHeartbeats 4000000 in
set_option maxRecDepth 100000 in
theorem c_fill23 (l : Launch) (z : Zt) (σ : Sg) (ra1 o0 : Nat) (hra1 : zG z ra1 = (23, o0)) (p2 : Int32) (out : Lo) (hF : D_fill23 (σ o0) p2.toInt = some out) : Met l yJ7_fill_53178 (uw yJ7_fill_53178 cJ7_fill_53178 4 none) (rmF 1 64) (PcW z [.ref ra1, .int p2] (fun H => TY z (zA z) σ H)) (QcV z (fun H => ∃ σ' : Sg, some (σ' o0) = some out ∧ FR σ σ' o0 ∧ TY z (zA z) σ' H)) 0 0 (zA z) := by
  refine Met.ofW (cc := cJ7_fill_53178) (maxL := 4) (ret := none) (by decide) rfl ?_
  intro p e s m args below meth c s₁ B hml hv
  obtain ⟨rfl, hT, hK, hSK⟩ := hv
  have hx := B.exec
  have hb := B.bytes
  have hr := B.returns
  have hts : ∀ w ∈ lw_ok, w.before ([.ref ra1, .int p2] : List Value).toArray s = true := fun w hw => atoms_spec (ws := uw yJ7_fill_53178 cJ7_fill_53178 4 none) B.pre w (List.mem_cons_of_mem _ hw)
  have hown : s.vm.findClass RJ7 = some m.cls := findClass_of_methodNamed B.named
  have hlk := B.notSynchronized
  have hC : CallFix p m c cJ7_fill_53178 4 s ([.ref ra1, .int p2] : List Value).toArray lw_ok RJ7 := ⟨hx, hb, hml, hown, hts⟩
  have hS : va_S (zA z) s.heap s.heap [] := va_S.rf
  have hl := lv_entry ([.ref ra1, .int p2]) (n := 4) (Nat.le_of_ble_eq_true rfl)
  rw [lg_entry_eq]
  generalize (lg_sl ([.ref ra1, .int p2]) ++ List.replicate (4 - (lg_sl ([.ref ra1, .int p2])).length) Slot.unset).toArray = ls at hl ⊢
  have hl : lv_has ls 4 [(0, .ref ra1), (1, .int p2)] := hl
  show W p l e (rmF 1 64) s m ([.ref ra1, .int p2] : List Value).toArray below meth c s.heap [] 0 0 (MQ below (QcV z (fun H => ∃ σ' : Sg, some (σ' o0) = some out ∧ FR σ σ' o0 ∧ TY z (zA z) σ' H)) ([.ref ra1, .int p2] : List Value).toArray s 0 0 (zA z)) (F0 m 0 ls [])
  have hfr : FR σ σ o0 := FR_rf σ o0
  unfold D_fill23 at hF
  have mx_p2 := i_mx p2
  refine r_iconst hx hb dJ7_fill_53178_0 (by decide) (by decide) (fun x0 e0 => ?_)
  have hF := bn hF e0
  refine lv_istore_n (lv' := [(2, .int x0), (0, .ref ra1), (1, .int p2)]) hx hb dJ7_fill_53178_1 rfl hl (by decide) rfl (fun ls hl => ?_)
  refine lv_aload_n hx hb dJ7_fill_53178_2 rfl (lv_at hl 1 rfl) ?_
  refine an_23 hx hb hK hT hra1 dJ7_fill_53178_3 (fun x3 e3 => ?_)
  have hF := bn hF e3
  refine lv_istore_n (lv' := [(3, .int x3), (2, .int x0), (0, .ref ra1), (1, .int p2)]) hx hb dJ7_fill_53178_4 rfl hl (by decide) rfl (fun ls hl => ?_)
  have J5 : ∀ (n5 : Nat) (ls : Array Slot) (H : Heap) (locs : List Loc) (y5_2 : Int32) (σj5 : Sg), (0 ≤ y5_2.toInt ∧ y5_2.toInt ≤ 40) → D_fill23_5 p2.toInt x3.toInt n5 (σj5 o0) y5_2.toInt = some out → FR σ σj5 o0 → TY z (zA z) σj5 H → va_S (zA z) s.heap H locs → lv_has ls 4 [(0, .ref ra1), (1, .int p2), (2, .int y5_2), (3, .int x3)] → W p l e (rmF 1 64) s m ([.ref ra1, .int p2] : List Value).toArray below meth c H locs 0 0 (MQ below (QcV z (fun H => ∃ σ' : Sg, some (σ' o0) = some out ∧ FR σ σ' o0 ∧ TY z (zA z) σ' H)) ([.ref ra1, .int p2] : List Value).toArray s 0 0 (zA z)) (F0 m 5 ls []) := by
    intro n5
    induction n5 with
    | zero => intro ls H locs y5_2 σj5 j5_y5_2 hF hfr hT hS hl; exact (no_s hF).elim
    | succ n5 ih5 =>
      intro ls H locs y5_2 σj5 j5_y5_2 hF hfr hT hS hl
      rw [D_fill23_5.eq_2] at hF
      refine lv_iload_n hx hb dJ7_fill_53178_5 rfl (lv_at hl 2 rfl) ?_
      refine lv_iload_n hx hb dJ7_fill_53178_6 rfl (lv_at hl 3 rfl) ?_
      refine r_icmp_ge (tgt := 20) hx hb dJ7_fill_53178_7 (by decide) (fun c7 => ?_) (fun c7 => ?_)
      · have hF := ifn hF (Int.not_lt.mpr c7)
        exact rt_v hx hb hr hlk hS ⟨σj5, hF, hfr, hT⟩ dJ7_fill_53178_20
      · have hF := ifp hF c7
        refine lv_aload_n hx hb dJ7_fill_53178_10 rfl (lv_at hl 0 rfl) ?_
        refine lv_iload_n hx hb dJ7_fill_53178_11 rfl (lv_at hl 2 rfl) ?_
        refine lv_iload_n hx hb dJ7_fill_53178_12 rfl (lv_at hl 1 rfl) ?_
        refine as_23 hx hb hK hT hS hra1 (by omega) (by omega) dJ7_fill_53178_13 (fun H locs hT hS => ?_)
        obtain ⟨σ13, hF, hfr, hT⟩ := wrL hF hfr hT
        refine r_iinc (lv' := fun v__ => [(2, .int v__), (0, .ref ra1), (1, .int p2), (3, .int x3)]) hx hb dJ7_fill_53178_14 hl (k := 2) rfl (by decide) (fun _ => rfl) ⟨by decide, by decide⟩ (by omega) (by omega) (fun x14 ls e14 hl => ?_)
        have hF := bn hF e14
        refine lv_goto (tgt := 5) hx hb dJ7_fill_53178_17 (by decide) ?_
        exact ih5 ls _ _ x14 σ13 (by omega) hF hfr hT hS (lv_sub hl [1, 2, 0, 3] rfl)
  exact J5 5000 ls _ _ x0 σ (by omega) hF hfr hT hS (lv_sub hl [2, 3, 1, 0] rfl)
theorem k_X1_stature : cBV yX1_stature cX1_stature 3 (some .int) 1 := ⟨mw_2_230, mw_2_231, mw_1_4, mw_2_232, ⟨by decide, by decide, by decide⟩⟩
set_option maxHeartbeats 4000000 in
set_option maxRecDepth 100000 in
theorem c_X1_stature (l : Launch) (z : Zt) (σ : Sg) (h0 o0 : Nat) (g0 : zG z h0 = (11, o0)) (p1 : Int32) (out : Int) (hF : D_X1_stature (σ o0) p1.toInt = some out) (bp1 : 0 ≤ p1.toInt ∧ p1.toInt ≤ 4) : Met l yX1_stature (uw yX1_stature cX1_stature 3 (some .int)) (rmF 1 64) (PcW z [.ref h0, .int p1] (fun H => TY z (zA z) σ H)) (QcI z (fun r H => some r.toInt = some out ∧ TY z (zA z) σ H ∧ (-2 ≤ r.toInt ∧ r.toInt ≤ 21))) 0 0 (zA z) := by
  refine Met.ofW (cc := cX1_stature) (maxL := 3) (ret := (some .int)) (by decide) rfl ?_
  intro p e s m args below meth c s₁ B hml hv
  obtain ⟨rfl, hT, hK, hSK⟩ := hv
  have hx := B.exec
  have hb := B.bytes
  have hr := B.returns
  have hts : ∀ w ∈ lw_ok, w.before ([.ref h0, .int p1] : List Value).toArray s = true := fun w hw => atoms_spec (ws := uw yX1_stature cX1_stature 3 (some .int)) B.pre w (List.mem_cons_of_mem _ hw)
  have hown : s.vm.findClass RX1 = some m.cls := findClass_of_methodNamed B.named
  have hlk := B.notSynchronized
  have hC : CallFix p m c cX1_stature 3 s ([.ref h0, .int p1] : List Value).toArray lw_ok RX1 := ⟨hx, hb, hml, hown, hts⟩
  have hS : va_S (zA z) s.heap s.heap [] := va_S.rf
  have hl := lv_entry ([.ref h0, .int p1]) (n := 3) (Nat.le_of_ble_eq_true rfl)
  rw [lg_entry_eq]
  generalize (lg_sl ([.ref h0, .int p1]) ++ List.replicate (3 - (lg_sl ([.ref h0, .int p1])).length) Slot.unset).toArray = ls at hl ⊢
  have hl : lv_has ls 3 [(0, .ref h0), (1, .int p1)] := hl
  show W p l e (rmF 1 64) s m ([.ref h0, .int p1] : List Value).toArray below meth c s.heap [] 0 0 (MQ below (QcI z (fun r H => some r.toInt = some out ∧ TY z (zA z) σ H ∧ (-2 ≤ r.toInt ∧ r.toInt ≤ 21))) ([.ref h0, .int p1] : List Value).toArray s 0 0 (zA z)) (F0 m 0 ls [])
  unfold D_X1_stature at hF
  refine lv_aload_n hx hb dX1_stature_0 rfl (lv_at hl 0 rfl) ?_
  refine gt_Floor_height hx hb hts ic_Floor hown hK hT g0 (hts _ mw_1_45) dX1_stature_1 (fun q1 hq1 => ?_)
  refine lv_iload_n hx hb dX1_stature_4 rfl (lv_at hl 1 rfl) ?_
  refine al_52 hx hb hK hT hq1 (by omega) (by omega) dX1_stature_5 (fun x5 e5 g5 => ?_)
  have hF := bn hF e5
  refine lv_aload_n hx hb dX1_stature_6 rfl (lv_at hl 0 rfl) ?_
  refine gt_Floor_heels hx hb hts ic_Floor hown hK hT g0 (hts _ mw_1_47) dX1_stature_7 (fun q7 hq7 => ?_)
  refine lv_iload_n hx hb dX1_stature_10 rfl (lv_at hl 1 rfl) ?_
  refine al_53 hx hb hK hT hq7 (by omega) (by omega) dX1_stature_11 (fun x11 e11 g11 => ?_)
  have hF := bn hF e11
  refine r_iadd hx hb dX1_stature_12 (by omega) (by omega) (fun x12 e12 => ?_)
  have hF := bn hF e12
  refine lv_istore_n (lv' := [(2, .int x12), (0, .ref h0), (1, .int p1)]) hx hb dX1_stature_13 rfl hl (by decide) rfl (fun ls hl => ?_)
  refine lv_aload_n hx hb dX1_stature_14 rfl (lv_at hl 1 rfl) ?_
  refine gt_Floor_kind hx hb hts ic_Floor hown hK hT g0 (hts _ mw_1_43) dX1_stature_15 (fun q15 hq15 => ?_)
  refine lv_iload_n hx hb dX1_stature_18 rfl (lv_at hl 2 rfl) ?_
  refine al_51 hx hb hK hT hq15 (by omega) (by omega) dX1_stature_19 (fun x19 e19 => ?_)
  have hF := bn hF e19
  refine r_iconst hx hb dX1_stature_20 (by decide) (by decide) (fun x20 e20 => ?_)
  have hF := bn hF e20
  refine r_icmp_ne (tgt := 28) hx hb dX1_stature_21 (by decide) (fun c21 => ?_) (fun c21 => ?_)
  · have hF := ifn hF c21
    refine lv_aload_n hx hb dX1_stature_28 rfl (lv_at hl 1 rfl) ?_
    refine gt_Floor_kind hx hb hts ic_Floor hown hK hT g0 (hts _ mw_1_43) dX1_stature_29 (fun q29 hq29 => ?_)
    refine lv_iload_n hx hb dX1_stature_32 rfl (lv_at hl 2 rfl) ?_
    refine al_51 hx hb hK hT hq29 (by omega) (by omega) dX1_stature_33 (fun x33 e33 => ?_)
    have hF := bn hF e33
    refine r_iconst hx hb dX1_stature_34 (by decide) (by decide) (fun x34 e34 => ?_)
    have hF := bn hF e34
    refine r_icmp_ne (tgt := 44) hx hb dX1_stature_35 (by decide) (fun c35 => ?_) (fun c35 => ?_)
    · have hF := ifn hF c35
      refine lv_iload_n hx hb dX1_stature_44 rfl (lv_at hl 0 rfl) ?_
      exact rt_i hx hb hr hlk hS ⟨hF, hT, (by omega)⟩ dX1_stature_45
    · have hF := ifp hF c35
      refine lv_iload_n hx hb dX1_stature_38 rfl (lv_at hl 0 rfl) ?_
      refine r_iconst hx hb dX1_stature_39 (by decide) (by decide) (fun x39 e39 => ?_)
      have hF := bn hF e39
      refine r_iadd hx hb dX1_stature_40 (by omega) (by omega) (fun x40 e40 => ?_)
      have hF := bn hF e40
      refine lv_goto (tgt := 45) hx hb dX1_stature_41 (by decide) ?_
      exact rt_i hx hb hr hlk hS ⟨hF, hT, (by omega)⟩ dX1_stature_45
  · have hF := ifp hF c21
    refine lv_iload_n hx hb dX1_stature_24 rfl (lv_at hl 0 rfl) ?_
    refine r_iconst hx hb dX1_stature_25 (by decide) (by decide) (fun x25 e25 => ?_)
    have hF := bn hF e25
    refine r_isub hx hb dX1_stature_26 (by omega) (by omega) (fun x26 e26 => ?_)
    have hF := bn hF e26
    exact rt_i hx hb hr hlk hS ⟨hF, hT, (by omega)⟩ dX1_stature_27
theorem k_X1_standsAhead : cBV yX1_standsAhead cX1_standsAhead 4 (some .boolean) 2 := ⟨mw_3_0, ms_0_13, mw_1_4, mw_3_1, ⟨by decide, by decide, by decide⟩⟩
set_option maxHeartbeats 4000000 in
set_option maxRecDepth 100000 in
theorem c_X1_standsAhead (l : Launch) (z : Zt) (σ : Sg) (h0 o0 : Nat) (g0 : zG z h0 = (11, o0)) (p1 : Int32) (p2 : Int32) (out : Int) (hF : D_X1_standsAhead (σ o0) p1.toInt p2.toInt = some out) (bp1 : 0 ≤ p1.toInt ∧ p1.toInt ≤ 4) (bp2 : 0 ≤ p2.toInt ∧ p2.toInt ≤ 4) : Met l yX1_standsAhead (uw yX1_standsAhead cX1_standsAhead 4 (some .boolean)) (rmF 1 64) (PcW z [.ref h0, .int p1, .int p2] (fun H => TY z (zA z) σ H)) (QcI z (fun r H => some r.toInt = some out ∧ TY z (zA z) σ H ∧ (0 ≤ r.toInt ∧ r.toInt ≤ 1))) 0 0 (zA z) := by
  refine Met.ofW (cc := cX1_standsAhead) (maxL := 4) (ret := (some .boolean)) (by decide) rfl ?_
  intro p e s m args below meth c s₁ B hml hv
  obtain ⟨rfl, hT, hK, hSK⟩ := hv
  have hx := B.exec
  have hb := B.bytes
  have hr := B.returns
  have hts : ∀ w ∈ lw_ok, w.before ([.ref h0, .int p1, .int p2] : List Value).toArray s = true := fun w hw => atoms_spec (ws := uw yX1_standsAhead cX1_standsAhead 4 (some .boolean)) B.pre w (List.mem_cons_of_mem _ hw)
  have hown : s.vm.findClass RX1 = some m.cls := findClass_of_methodNamed B.named
  have hlk := B.notSynchronized
  have hC : CallFix p m c cX1_standsAhead 4 s ([.ref h0, .int p1, .int p2] : List Value).toArray lw_ok RX1 := ⟨hx, hb, hml, hown, hts⟩
  have hS : va_S (zA z) s.heap s.heap [] := va_S.rf
  have hl := lv_entry ([.ref h0, .int p1, .int p2]) (n := 4) (Nat.le_of_ble_eq_true rfl)
  rw [lg_entry_eq]
  generalize (lg_sl ([.ref h0, .int p1, .int p2]) ++ List.replicate (4 - (lg_sl ([.ref h0, .int p1, .int p2])).length) Slot.unset).toArray = ls at hl ⊢
  have hl : lv_has ls 4 [(0, .ref h0), (1, .int p1), (2, .int p2)] := hl
  show W p l e (rmF 1 64) s m ([.ref h0, .int p1, .int p2] : List Value).toArray below meth c s.heap [] 0 0 (MQ below (QcI z (fun r H => some r.toInt = some out ∧ TY z (zA z) σ H ∧ (0 ≤ r.toInt ∧ r.toInt ≤ 1))) ([.ref h0, .int p1, .int p2] : List Value).toArray s 0 0 (zA z)) (F0 m 0 ls [])
  unfold D_X1_standsAhead at hF
  refine lv_aload_n hx hb dX1_standsAhead_0 rfl (lv_at hl 0 rfl) ?_
  refine gt_Floor_statures hx hb hts ic_Floor hown hK hT g0 (hts _ mw_1_55) dX1_standsAhead_1 (fun q1 hq1 => ?_)
  refine lv_iload_n hx hb dX1_standsAhead_4 rfl (lv_at hl 1 rfl) ?_
  refine al_55 hx hb hK hT hq1 (by omega) (by omega) dX1_standsAhead_5 (fun x5 e5 g5 => ?_)
  have hF := bn hF e5
  refine lv_aload_n hx hb dX1_standsAhead_6 rfl (lv_at hl 0 rfl) ?_
  refine gt_Floor_statures hx hb hts ic_Floor hown hK hT g0 (hts _ mw_1_55) dX1_standsAhead_7 (fun q7 hq7 => ?_)
  refine lv_iload_n hx hb dX1_standsAhead_10 rfl (lv_at hl 2 rfl) ?_
  refine al_55 hx hb hK hT hq7 (by omega) (by omega) dX1_standsAhead_11 (fun x11 e11 g11 => ?_)
  have hF := bn hF e11
  refine r_isub hx hb dX1_standsAhead_12 (by omega) (by omega) (fun x12 e12 => ?_)
  have hF := bn hF e12
  refine lv_istore_n (lv' := [(3, .int x12), (0, .ref h0), (1, .int p1), (2, .int p2)]) hx hb dX1_standsAhead_13 rfl hl (by decide) rfl (fun ls hl => ?_)
  refine lv_iload_n hx hb dX1_standsAhead_14 rfl (lv_at hl 0 rfl) ?_
  have J37 : ∀ (ls : Array Slot) (H : Heap) (locs : List Loc), (-23 ≤ x12.toInt ∧ x12.toInt ≤ 0) → D_X1_standsAhead_37 = some out → TY z (zA z) σ H → va_S (zA z) s.heap H locs → lv_has ls 4 [(0, .ref h0), (1, .int p1), (2, .int p2), (3, .int x12)] → W p l e (rmF 1 64) s m ([.ref h0, .int p1, .int p2] : List Value).toArray below meth c H locs 0 0 (MQ below (QcI z (fun r H => some r.toInt = some out ∧ TY z (zA z) σ H ∧ (0 ≤ r.toInt ∧ r.toInt ≤ 1))) ([.ref h0, .int p1, .int p2] : List Value).toArray s 0 0 (zA z)) (F0 m 37 ls []) := by
    intro ls H locs j37_x12 hF hT hS hl
    unfold D_X1_standsAhead_37 at hF
    refine r_iconst hx hb dX1_standsAhead_37 (by decide) (by decide) (fun x37 e37 => ?_)
    have hF := bn hF e37
    refine lv_goto (tgt := 42) hx hb dX1_standsAhead_38 (by decide) ?_
    exact rt_z hx hb hr hlk hS (by omega) (by omega) ⟨hF, hT, (by omega)⟩ dX1_standsAhead_42
  refine r_if_lt (tgt := 37) hx hb dX1_standsAhead_15 (by decide) (fun c15 => ?_) (fun c15 => ?_)
  · have hF := ifp hF c15
    exact J37 ls _ _ (by omega) hF hT hS (lv_sub hl [1, 2, 3, 0] rfl)
  · have hF := ifn hF (Int.not_lt.mpr c15)
    refine lv_iload_n hx hb dX1_standsAhead_18 rfl (lv_at hl 0 rfl) ?_
    have J41 : ∀ (ls : Array Slot) (H : Heap) (locs : List Loc), D_X1_standsAhead_41 = some out → TY z (zA z) σ H → va_S (zA z) s.heap H locs → lv_has ls 4 [(0, .ref h0), (1, .int p1), (2, .int p2), (3, .int x12)] → W p l e (rmF 1 64) s m ([.ref h0, .int p1, .int p2] : List Value).toArray below meth c H locs 0 0 (MQ below (QcI z (fun r H => some r.toInt = some out ∧ TY z (zA z) σ H ∧ (0 ≤ r.toInt ∧ r.toInt ≤ 1))) ([.ref h0, .int p1, .int p2] : List Value).toArray s 0 0 (zA z)) (F0 m 41 ls []) := by
      intro ls H locs hF hT hS hl
      unfold D_X1_standsAhead_41 at hF
      refine r_iconst hx hb dX1_standsAhead_41 (by decide) (by decide) (fun x41 e41 => ?_)
      have hF := bn hF e41
      exact rt_z hx hb hr hlk hS (by omega) (by omega) ⟨hF, hT, (by omega)⟩ dX1_standsAhead_42
    refine r_if_ne (tgt := 41) hx hb dX1_standsAhead_19 (by decide) (fun c19 => ?_) (fun c19 => ?_)
    · have hF := ifn hF c19
      exact J41 ls _ _ hF hT hS (lv_sub hl [1, 2, 3, 0] rfl)
    · have hF := ifp hF c19
      refine lv_aload_n hx hb dX1_standsAhead_22 rfl (lv_at hl 1 rfl) ?_
      refine gt_Floor_heat hx hb hts ic_Floor hown hK hT g0 (hts _ mw_1_49) dX1_standsAhead_23 (fun q23 hq23 => ?_)
      refine lv_iload_n hx hb dX1_standsAhead_26 rfl (lv_at hl 2 rfl) ?_
      refine al_54 hx hb hK hT hq23 (by omega) (by omega) dX1_standsAhead_27 (fun x27 e27 g27 => ?_)
      have hF := bn hF e27
      refine lv_aload_n hx hb dX1_standsAhead_28 rfl (lv_at hl 1 rfl) ?_
      refine gt_Floor_heat hx hb hts ic_Floor hown hK hT g0 (hts _ mw_1_49) dX1_standsAhead_29 (fun q29 hq29 => ?_)
      refine lv_iload_n hx hb dX1_standsAhead_32 rfl (lv_at hl 3 rfl) ?_
      refine al_54 hx hb hK hT hq29 (by omega) (by omega) dX1_standsAhead_33 (fun x33 e33 g33 => ?_)
      have hF := bn hF e33
      refine r_icmp_le (tgt := 41) hx hb dX1_standsAhead_34 (by decide) (fun c34 => ?_) (fun c34 => ?_)
      · have hF := ifn hF (Int.not_lt.mpr c34)
        exact J41 ls _ _ hF hT hS (lv_sub hl [1, 2, 3, 0] rfl)
      · have hF := ifp hF c34
        exact J37 ls _ _ (by omega) hF hT hS (lv_sub hl [1, 2, 3, 0] rfl)
theorem k_X1_lineUp : cBV yX1_lineUp cX1_lineUp 3 none 0 := ⟨mw_2_234, mw_2_235, mw_1_4, mw_2_236, ⟨by decide, by decide, by decide⟩⟩
set_option maxHeartbeats 4000000 in
set_option maxRecDepth 100000 in
theorem c_X1_lineUp (l : Launch) (z : Zt) (σ : Sg) (h0 o0 : Nat) (g0 : zG z h0 = (11, o0)) (out : Lo) (hF : D_X1_lineUp (σ o0) = some out) : Met l yX1_lineUp (uw yX1_lineUp cX1_lineUp 3 none) (rmF 2 87) (PcW z [.ref h0] (fun H => TY z (zA z) σ H)) (QcV z (fun H => ∃ σ' : Sg, some (σ' o0) = some out ∧ FR σ σ' o0 ∧ TY z (zA z) σ' H)) 0 0 (zA z) := by
  refine Met.ofW (cc := cX1_lineUp) (maxL := 3) (ret := none) (by decide) rfl ?_
  intro p e s m args below meth c s₁ B hml hv
  obtain ⟨rfl, hT, hK, hSK⟩ := hv
  have hx := B.exec
  have hb := B.bytes
  have hr := B.returns
  have hts : ∀ w ∈ lw_ok, w.before ([.ref h0] : List Value).toArray s = true := fun w hw => atoms_spec (ws := uw yX1_lineUp cX1_lineUp 3 none) B.pre w (List.mem_cons_of_mem _ hw)
  have hown : s.vm.findClass RX1 = some m.cls := findClass_of_methodNamed B.named
  have hlk := B.notSynchronized
  have hC : CallFix p m c cX1_lineUp 3 s ([.ref h0] : List Value).toArray lw_ok RX1 := ⟨hx, hb, hml, hown, hts⟩
  have hS : va_S (zA z) s.heap s.heap [] := va_S.rf
  have hl := lv_entry ([.ref h0]) (n := 3) (Nat.le_of_ble_eq_true rfl)
  rw [lg_entry_eq]
  generalize (lg_sl ([.ref h0]) ++ List.replicate (3 - (lg_sl ([.ref h0])).length) Slot.unset).toArray = ls at hl ⊢
  have hl : lv_has ls 3 [(0, .ref h0)] := hl
  show W p l e (rmF 2 87) s m ([.ref h0] : List Value).toArray below meth c s.heap [] 0 0 (MQ below (QcV z (fun H => ∃ σ' : Sg, some (σ' o0) = some out ∧ FR σ σ' o0 ∧ TY z (zA z) σ' H)) ([.ref h0] : List Value).toArray s 0 0 (zA z)) (F0 m 0 ls [])
  have hfr : FR σ σ o0 := FR_rf σ o0
  unfold D_X1_lineUp at hF
  refine r_iconst hx hb dX1_lineUp_0 (by decide) (by decide) (fun x0 e0 => ?_)
  have hF := bn hF e0
  refine lv_istore_n (lv' := [(1, .int x0), (0, .ref h0)]) hx hb dX1_lineUp_1 rfl hl (by decide) rfl (fun ls hl => ?_)
  have J2 : ∀ (n2 : Nat) (ls : Array Slot) (H : Heap) (locs : List Loc) (y2_1 : Int32) (σj2 : Sg), (0 ≤ y2_1.toInt ∧ y2_1.toInt ≤ 5) → D_X1_lineUp_2 n2 (σj2 o0) y2_1.toInt = some out → FR σ σj2 o0 → TY z (zA z) σj2 H → va_S (zA z) s.heap H locs → lv_has ls 3 [(0, .ref h0), (1, .int y2_1)] → W p l e (rmF 2 87) s m ([.ref h0] : List Value).toArray below meth c H locs 0 0 (MQ below (QcV z (fun H => ∃ σ' : Sg, some (σ' o0) = some out ∧ FR σ σ' o0 ∧ TY z (zA z) σ' H)) ([.ref h0] : List Value).toArray s 0 0 (zA z)) (F0 m 2 ls []) := by
    intro n2
    induction n2 with
    | zero => intro ls H locs y2_1 σj2 j2_y2_1 hF hfr hT hS hl; exact (no_s hF).elim
    | succ n2 ih2 =>
      intro ls H locs y2_1 σj2 j2_y2_1 hF hfr hT hS hl
      rw [D_X1_lineUp_2.eq_2] at hF
      refine lv_iload_n hx hb dX1_lineUp_2 rfl (lv_at hl 1 rfl) ?_
      refine lv_aload_n hx hb dX1_lineUp_3 rfl (lv_at hl 0 rfl) ?_
      refine gt_Floor_men hx hb hts ic_Floor hown hK hT g0 (hts _ mw_1_60) dX1_lineUp_4 (fun x4 e4 f4 g4 => ?_)
      have hF := bn hF e4
      refine r_icmp_ge (tgt := 76) hx hb dX1_lineUp_7 (by decide) (fun c7 => ?_) (fun c7 => ?_)
      · have hF := ifn hF (Int.not_lt.mpr c7)
        refine r_iconst hx hb dX1_lineUp_76 (by decide) (by decide) (fun x76 e76 => ?_)
        have hF := bn hF e76
        refine lv_istore_n (lv' := [(1, .int x76), (0, .ref h0)]) hx hb dX1_lineUp_77 rfl hl (by decide) rfl (fun ls hl => ?_)
        have J78 : ∀ (n78 : Nat) (ls : Array Slot) (H : Heap) (locs : List Loc) (y78_1 : Int32) (σj78 : Sg), (0 ≤ y78_1.toInt ∧ y78_1.toInt ≤ 5) → D_X1_lineUp_78 n78 (σj78 o0) y78_1.toInt = some out → FR σ σj78 o0 → TY z (zA z) σj78 H → va_S (zA z) s.heap H locs → lv_has ls 3 [(0, .ref h0), (1, .int y78_1)] → W p l e (rmF 2 87) s m ([.ref h0] : List Value).toArray below meth c H locs 0 0 (MQ below (QcV z (fun H => ∃ σ' : Sg, some (σ' o0) = some out ∧ FR σ σ' o0 ∧ TY z (zA z) σ' H)) ([.ref h0] : List Value).toArray s 0 0 (zA z)) (F0 m 78 ls []) := by
          intro n78
          induction n78 with
          | zero => intro ls H locs y78_1 σj78 j78_y78_1 hF hfr hT hS hl; exact (no_s hF).elim
          | succ n78 ih78 =>
            intro ls H locs y78_1 σj78 j78_y78_1 hF hfr hT hS hl
            rw [D_X1_lineUp_78.eq_2] at hF
            refine lv_iload_n hx hb dX1_lineUp_78 rfl (lv_at hl 1 rfl) ?_
            refine lv_aload_n hx hb dX1_lineUp_79 rfl (lv_at hl 0 rfl) ?_
            refine gt_Floor_men hx hb hts ic_Floor hown hK hT g0 (hts _ mw_1_60) dX1_lineUp_80 (fun x80 e80 f80 g80 => ?_)
            have hF := bn hF e80
            refine r_icmp_ge (tgt := 104) hx hb dX1_lineUp_83 (by decide) (fun c83 => ?_) (fun c83 => ?_)
            · have hF := ifn hF (Int.not_lt.mpr c83)
              exact rt_v hx hb hr hlk hS ⟨σj78, hF, hfr, hT⟩ dX1_lineUp_104
            · have hF := ifp hF c83
              refine lv_aload_n hx hb dX1_lineUp_86 rfl (lv_at hl 0 rfl) ?_
              refine gt_Floor_rankOf hx hb hts ic_Floor hown hK hT g0 (hts _ mw_1_58) dX1_lineUp_87 (fun q87 hq87 => ?_)
              refine lv_aload_n hx hb dX1_lineUp_90 rfl (lv_at hl 0 rfl) ?_
              refine gt_Floor_byRank hx hb hts ic_Floor hown hK hT g0 (hts _ mw_1_56) dX1_lineUp_91 (fun q91 hq91 => ?_)
              refine lv_iload_n hx hb dX1_lineUp_94 rfl (lv_at hl 1 rfl) ?_
              refine al_28 hx hb hK hT hq91 (by omega) (by omega) dX1_lineUp_95 (fun x95 e95 g95 => ?_)
              have hF := bn hF e95
              refine lv_iload_n hx hb dX1_lineUp_96 rfl (lv_at hl 1 rfl) ?_
              refine as_29 hx hb hK hT hS hq87 (by omega) (by omega) ⟨by omega, by omega⟩ dX1_lineUp_97 (fun H locs hT hS => ?_)
              obtain ⟨σ97, hF, hfr, hT⟩ := wrL hF hfr hT
              refine r_iinc (lv' := fun v__ => [(1, .int v__), (0, .ref h0)]) hx hb dX1_lineUp_98 hl (k := 1) rfl (by decide) (fun _ => rfl) ⟨by decide, by decide⟩ (by omega) (by omega) (fun x98 ls e98 hl => ?_)
              have hF := bn hF e98
              refine lv_goto (tgt := 78) hx hb dX1_lineUp_101 (by decide) ?_
              exact ih78 ls _ _ x98 σ97 (by omega) hF hfr hT hS (lv_sub hl [1, 0] rfl)
        exact J78 5000 ls _ _ x76 σj2 (by omega) hF hfr hT hS (lv_sub hl [1, 0] rfl)
      · have hF := ifp hF c7
        refine lv_aload_n hx hb dX1_lineUp_10 rfl (lv_at hl 0 rfl) ?_
        refine gt_Floor_statures hx hb hts ic_Floor hown hK hT g0 (hts _ mw_1_55) dX1_lineUp_11 (fun q11 hq11 => ?_)
        refine lv_iload_n hx hb dX1_lineUp_14 rfl (lv_at hl 1 rfl) ?_
        refine lv_aload_n hx hb dX1_lineUp_15 rfl (lv_at hl 0 rfl) ?_
        refine lv_iload_n hx hb dX1_lineUp_16 rfl (lv_at hl 1 rfl) ?_
        obtain ⟨v17, hd17, -⟩ := bd0_s hF
        refine cl_Vi (rest := [.int y2_1, .ref q11]) hC hK hSK (c_X1_stature l z σj2 h0 (o0) g0 y2_1 v17 hd17 (by omega)) k_X1_stature mw_2_237 ⟨rfl, rfl, Nat.le_of_ble_eq_true rfl, Nat.le_of_ble_eq_true rfl⟩ (rv_Floor hK hT g0) hT rfl hl.1 rfl (Nat.le_of_ble_eq_true rfl) dX1_lineUp_17 ⟨Nat.zero_le _, Nat.zero_le _⟩ hS (fun _ h => h) (fun _ _ h => h) (fun r17 H locs hpo hS => ?_)
        obtain ⟨he17, hT, u17_0⟩ := hpo
        have hF := bd0_r hF hd17 he17
        refine as_55 hx hb hK hT hS hq11 (by omega) (by omega) ⟨by omega, by omega⟩ dX1_lineUp_20 (fun H locs hT hS => ?_)
        obtain ⟨σ20, hF, hfr, hT⟩ := wrL hF hfr hT
        refine lv_iload_n hx hb dX1_lineUp_21 rfl (lv_at hl 1 rfl) ?_
        refine lv_istore_n (lv' := [(2, .int y2_1), (0, .ref h0), (1, .int y2_1)]) hx hb dX1_lineUp_22 rfl hl (by decide) rfl (fun ls hl => ?_)
        have J23 : ∀ (n23 : Nat) (ls : Array Slot) (H : Heap) (locs : List Loc) (y23_2 : Int32) (σj23 : Sg), (0 ≤ y23_2.toInt ∧ y23_2.toInt ≤ 4) → D_X1_lineUp_23 (D_X1_lineUp_2 n2) y2_1.toInt n23 (σj23 o0) y23_2.toInt = some out → FR σ σj23 o0 → TY z (zA z) σj23 H → va_S (zA z) s.heap H locs → lv_has ls 3 [(0, .ref h0), (1, .int y2_1), (2, .int y23_2)] → W p l e (rmF 2 87) s m ([.ref h0] : List Value).toArray below meth c H locs 0 0 (MQ below (QcV z (fun H => ∃ σ' : Sg, some (σ' o0) = some out ∧ FR σ σ' o0 ∧ TY z (zA z) σ' H)) ([.ref h0] : List Value).toArray s 0 0 (zA z)) (F0 m 23 ls []) := by
          intro n23
          induction n23 with
          | zero => intro ls H locs y23_2 σj23 j23_y23_2 hF hfr hT hS hl; exact (no_s hF).elim
          | succ n23 ih23 =>
            intro ls H locs y23_2 σj23 j23_y23_2 hF hfr hT hS hl
            rw [D_X1_lineUp_23.eq_2] at hF
            refine lv_iload_n hx hb dX1_lineUp_23 rfl (lv_at hl 2 rfl) ?_
            have J63 : ∀ (ls : Array Slot) (H : Heap) (locs : List Loc) (σj63 : Sg), D_X1_lineUp_63 (D_X1_lineUp_2 n2) y23_2.toInt y2_1.toInt (σj63 o0) = some out → FR σ σj63 o0 → TY z (zA z) σj63 H → va_S (zA z) s.heap H locs → lv_has ls 3 [(0, .ref h0), (1, .int y2_1), (2, .int y23_2)] → W p l e (rmF 2 87) s m ([.ref h0] : List Value).toArray below meth c H locs 0 0 (MQ below (QcV z (fun H => ∃ σ' : Sg, some (σ' o0) = some out ∧ FR σ σ' o0 ∧ TY z (zA z) σ' H)) ([.ref h0] : List Value).toArray s 0 0 (zA z)) (F0 m 63 ls []) := by
              intro ls H locs σj63 hF hfr hT hS hl
              unfold D_X1_lineUp_63 at hF
              refine lv_aload_n hx hb dX1_lineUp_63 rfl (lv_at hl 0 rfl) ?_
              refine gt_Floor_byRank hx hb hts ic_Floor hown hK hT g0 (hts _ mw_1_56) dX1_lineUp_64 (fun q64 hq64 => ?_)
              refine lv_iload_n hx hb dX1_lineUp_67 rfl (lv_at hl 2 rfl) ?_
              refine lv_iload_n hx hb dX1_lineUp_68 rfl (lv_at hl 1 rfl) ?_
              refine as_28 hx hb hK hT hS hq64 (by omega) (by omega) ⟨by omega, by omega⟩ dX1_lineUp_69 (fun H locs hT hS => ?_)
              obtain ⟨σ69, hF, hfr, hT⟩ := wrL hF hfr hT
              refine r_iinc (lv' := fun v__ => [(1, .int v__), (0, .ref h0), (2, .int y23_2)]) hx hb dX1_lineUp_70 hl (k := 1) rfl (by decide) (fun _ => rfl) ⟨by decide, by decide⟩ (by omega) (by omega) (fun x70 ls e70 hl => ?_)
              have hF := bn hF e70
              refine lv_goto (tgt := 2) hx hb dX1_lineUp_73 (by decide) ?_
              exact ih2 ls _ _ x70 σ69 (by omega) hF hfr hT hS (lv_sub hl [1, 0] rfl)
            refine r_if_le (tgt := 63) hx hb dX1_lineUp_24 (by decide) (fun c24 => ?_) (fun c24 => ?_)
            · have hF := ifn hF (Int.not_lt.mpr c24)
              exact J63 ls _ _ σj23 hF hfr hT hS (lv_sub hl [0, 1, 2] rfl)
            · have hF := ifp hF c24
              refine lv_aload_n hx hb dX1_lineUp_27 rfl (lv_at hl 0 rfl) ?_
              refine lv_iload_n hx hb dX1_lineUp_28 rfl (lv_at hl 1 rfl) ?_
              refine lv_aload_n hx hb dX1_lineUp_29 rfl (lv_at hl 0 rfl) ?_
              refine gt_Floor_byRank hx hb hts ic_Floor hown hK hT g0 (hts _ mw_1_56) dX1_lineUp_30 (fun q30 hq30 => ?_)
              refine lv_iload_n hx hb dX1_lineUp_33 rfl (lv_at hl 2 rfl) ?_
              refine r_iconst hx hb dX1_lineUp_34 (by decide) (by decide) (fun x34 e34 => ?_)
              have hF := bn hF e34
              refine r_isub hx hb dX1_lineUp_35 (by omega) (by omega) (fun x35 e35 => ?_)
              have hF := bn hF e35
              refine al_28 hx hb hK hT hq30 (by omega) (by omega) dX1_lineUp_36 (fun x36 e36 g36 => ?_)
              have hF := bn hF e36
              obtain ⟨v37, hd37, -⟩ := bd0_s hF
              refine cl_Vi (rest := []) hC hK hSK (c_X1_standsAhead l z σj23 h0 (o0) g0 y2_1 x36 v37 hd37 (by omega) (by omega)) k_X1_standsAhead mw_2_238 ⟨rfl, rfl, Nat.le_of_ble_eq_true rfl, Nat.le_of_ble_eq_true rfl⟩ (rv_Floor hK hT g0) hT rfl hl.1 rfl (Nat.le_of_ble_eq_true rfl) dX1_lineUp_37 ⟨Nat.zero_le _, Nat.zero_le _⟩ hS (fun _ h => h) (fun _ _ h => h) (fun r37 H locs hpo hS => ?_)
              obtain ⟨he37, hT, u37_0⟩ := hpo
              have hF := bd0_r hF hd37 he37
              refine r_if_eq (tgt := 63) hx hb dX1_lineUp_40 (by decide) (fun c40 => ?_) (fun c40 => ?_)
              · have hF := ifp hF c40
                exact J63 ls _ _ σj23 hF hfr hT hS (lv_sub hl [0, 1, 2] rfl)
              · have hF := ifn hF c40
                refine lv_aload_n hx hb dX1_lineUp_43 rfl (lv_at hl 0 rfl) ?_
                refine gt_Floor_byRank hx hb hts ic_Floor hown hK hT g0 (hts _ mw_1_56) dX1_lineUp_44 (fun q44 hq44 => ?_)
                refine lv_iload_n hx hb dX1_lineUp_47 rfl (lv_at hl 2 rfl) ?_
                refine lv_aload_n hx hb dX1_lineUp_48 rfl (lv_at hl 0 rfl) ?_
                refine gt_Floor_byRank hx hb hts ic_Floor hown hK hT g0 (hts _ mw_1_56) dX1_lineUp_49 (fun q49 hq49 => ?_)
                refine lv_iload_n hx hb dX1_lineUp_52 rfl (lv_at hl 2 rfl) ?_
                refine r_iconst hx hb dX1_lineUp_53 (by decide) (by decide) (fun x53 e53 => ?_)
                have hF := bn hF e53
                refine r_isub hx hb dX1_lineUp_54 (by omega) (by omega) (fun x54 e54 => ?_)
                have hF := bn hF e54
                refine al_28 hx hb hK hT hq49 (by omega) (by omega) dX1_lineUp_55 (fun x55 e55 g55 => ?_)
                have hF := bn hF e55
                refine as_28 hx hb hK hT hS hq44 (by omega) (by omega) ⟨by omega, by omega⟩ dX1_lineUp_56 (fun H locs hT hS => ?_)
                obtain ⟨σ56, hF, hfr, hT⟩ := wrL hF hfr hT
                refine r_iinc (lv' := fun v__ => [(2, .int v__), (0, .ref h0), (1, .int y2_1)]) hx hb dX1_lineUp_57 hl (k := 2) rfl (by decide) (fun _ => rfl) ⟨by decide, by decide⟩ (by omega) (by omega) (fun x57 ls e57 hl => ?_)
                have hF := bn hF e57
                refine lv_goto (tgt := 23) hx hb dX1_lineUp_60 (by decide) ?_
                exact ih23 ls _ _ x57 σ56 (by omega) hF hfr hT hS (lv_sub hl [1, 2, 0] rfl)
        exact J23 5000 ls _ _ y2_1 σ20 (by omega) hF hfr hT hS (lv_sub hl [1, 2, 0] rfl)
  exact J2 5000 ls _ _ x0 σ (by omega) hF hfr hT hS (lv_sub hl [1, 0] rfl)
theorem k_X1_nextRank : cBV yX1_nextRank cX1_nextRank 3 (some .int) 2 := ⟨mw_3_66, ms_0_14, mw_1_4, mw_3_67, ⟨by decide, by decide, by decide⟩⟩
set_option maxHeartbeats 4000000 in
set_option maxRecDepth 100000 in
theorem c_X1_nextRank (l : Launch) (z : Zt) (σ : Sg) (h0 o0 : Nat) (g0 : zG z h0 = (11, o0)) (p1 : Int32) (p2 : Int32) (out : Int) (hF : D_X1_nextRank (σ o0) p1.toInt p2.toInt = some out) (bp2 : 0 ≤ p2.toInt ∧ p2.toInt ≤ 4) : Met l yX1_nextRank (uw yX1_nextRank cX1_nextRank 3 (some .int)) (rmF 1 64) (PcW z [.ref h0, .int p1, .int p2] (fun H => TY z (zA z) σ H)) (QcI z (fun r H => some r.toInt = some out ∧ TY z (zA z) σ H ∧ (0 ≤ r.toInt ∧ r.toInt ≤ 4))) 0 0 (zA z) := by
  refine Met.ofW (cc := cX1_nextRank) (maxL := 3) (ret := (some .int)) (by decide) rfl ?_
  intro p e s m args below meth c s₁ B hml hv
  obtain ⟨rfl, hT, hK, hSK⟩ := hv
  have hx := B.exec
  have hb := B.bytes
  have hr := B.returns
  have hts : ∀ w ∈ lw_ok, w.before ([.ref h0, .int p1, .int p2] : List Value).toArray s = true := fun w hw => atoms_spec (ws := uw yX1_nextRank cX1_nextRank 3 (some .int)) B.pre w (List.mem_cons_of_mem _ hw)
  have hown : s.vm.findClass RX1 = some m.cls := findClass_of_methodNamed B.named
  have hlk := B.notSynchronized
  have hC : CallFix p m c cX1_nextRank 3 s ([.ref h0, .int p1, .int p2] : List Value).toArray lw_ok RX1 := ⟨hx, hb, hml, hown, hts⟩
  have hS : va_S (zA z) s.heap s.heap [] := va_S.rf
  have hl := lv_entry ([.ref h0, .int p1, .int p2]) (n := 3) (Nat.le_of_ble_eq_true rfl)
  rw [lg_entry_eq]
  generalize (lg_sl ([.ref h0, .int p1, .int p2]) ++ List.replicate (3 - (lg_sl ([.ref h0, .int p1, .int p2])).length) Slot.unset).toArray = ls at hl ⊢
  have hl : lv_has ls 3 [(0, .ref h0), (1, .int p1), (2, .int p2)] := hl
  show W p l e (rmF 1 64) s m ([.ref h0, .int p1, .int p2] : List Value).toArray below meth c s.heap [] 0 0 (MQ below (QcI z (fun r H => some r.toInt = some out ∧ TY z (zA z) σ H ∧ (0 ≤ r.toInt ∧ r.toInt ≤ 4))) ([.ref h0, .int p1, .int p2] : List Value).toArray s 0 0 (zA z)) (F0 m 0 ls [])
  unfold D_X1_nextRank at hF
  have mx_p1 := i_mx p1
  refine lv_aload_n hx hb dX1_nextRank_0 rfl (lv_at hl 0 rfl) ?_
  refine gt_Floor_men hx hb hts ic_Floor hown hK hT g0 (hts _ mw_1_60) dX1_nextRank_1 (fun x1 e1 f1 g1 => ?_)
  have hF := bn hF e1
  refine r_iconst hx hb dX1_nextRank_4 (by decide) (by decide) (fun x4 e4 => ?_)
  have hF := bn hF e4
  refine r_icmp_ge (tgt := 10) hx hb dX1_nextRank_5 (by decide) (fun c5 => ?_) (fun c5 => ?_)
  · have hF := ifn hF (Int.not_lt.mpr c5)
    refine lv_iload_n hx hb dX1_nextRank_10 rfl (lv_at hl 1 rfl) ?_
    rcases (show p1.toInt = 0 ∨ p1.toInt = 1 ∨ p1.toInt = 2 ∨ (p1.toInt < 0 ∨ 2 < p1.toInt) by omega) with c11 | c11 | c11 | c11
    · have hF := ifp hF c11
      refine lv_tableIn (off := 25) (tgt := 36) hx hb dX1_nextRank_11 (by omega) (by omega) (by rw [c11]; rfl) (by decide) ?_
      refine lv_iload_n hx hb dX1_nextRank_36 rfl (lv_at hl 2 rfl) ?_
      refine r_iconst hx hb dX1_nextRank_37 (by decide) (by decide) (fun x37 e37 => ?_)
      have hF := bn hF e37
      refine r_iadd hx hb dX1_nextRank_38 (by omega) (by omega) (fun x38 e38 => ?_)
      have hF := bn hF e38
      refine lv_aload_n hx hb dX1_nextRank_39 rfl (lv_at hl 0 rfl) ?_
      refine gt_Floor_men hx hb hts ic_Floor hown hK hT g0 (hts _ mw_1_60) dX1_nextRank_40 (fun x40 e40 f40 g40 => ?_)
      have hF := bn hF e40
      obtain ⟨ky43, hF⟩ := ck hF
      refine r_irem hx hb dX1_nextRank_43 (by omega) (by omega) (fun x43 e43 g43 h43 => ?_)
      have hF := bn hF e43
      exact rt_i hx hb hr hlk hS ⟨hF, hT, (by omega)⟩ dX1_nextRank_44
    · have hF := ifn hF (by omega)
      have hF := ifp hF c11
      refine lv_tableIn (off := 34) (tgt := 45) hx hb dX1_nextRank_11 (by omega) (by omega) (by rw [c11]; rfl) (by decide) ?_
      refine lv_iload_n hx hb dX1_nextRank_45 rfl (lv_at hl 2 rfl) ?_
      refine lv_aload_n hx hb dX1_nextRank_46 rfl (lv_at hl 0 rfl) ?_
      refine gt_Floor_men hx hb hts ic_Floor hown hK hT g0 (hts _ mw_1_60) dX1_nextRank_47 (fun x47 e47 f47 g47 => ?_)
      have hF := bn hF e47
      refine r_iadd hx hb dX1_nextRank_50 (by omega) (by omega) (fun x50 e50 => ?_)
      have hF := bn hF e50
      refine r_iconst hx hb dX1_nextRank_51 (by decide) (by decide) (fun x51 e51 => ?_)
      have hF := bn hF e51
      refine r_isub hx hb dX1_nextRank_52 (by omega) (by omega) (fun x52 e52 => ?_)
      have hF := bn hF e52
      refine lv_aload_n hx hb dX1_nextRank_53 rfl (lv_at hl 0 rfl) ?_
      refine gt_Floor_men hx hb hts ic_Floor hown hK hT g0 (hts _ mw_1_60) dX1_nextRank_54 (fun x54 e54 f54 g54 => ?_)
      have hF := bn hF e54
      obtain ⟨kx57, hF⟩ := ck hF
      obtain ⟨ky57, hF⟩ := ck hF
      refine r_irem hx hb dX1_nextRank_57 (by omega) (by omega) (fun x57 e57 g57 h57 => ?_)
      have hF := bn hF e57
      exact rt_i hx hb hr hlk hS ⟨hF, hT, (by omega)⟩ dX1_nextRank_58
    · have hF := ifn hF (by omega)
      have hF := ifn hF (by omega)
      have hF := ifp hF c11
      refine lv_tableIn (off := 48) (tgt := 59) hx hb dX1_nextRank_11 (by omega) (by omega) (by rw [c11]; rfl) (by decide) ?_
      refine lv_iload_n hx hb dX1_nextRank_59 rfl (lv_at hl 2 rfl) ?_
      refine r_iconst hx hb dX1_nextRank_60 (by decide) (by decide) (fun x60 e60 => ?_)
      have hF := bn hF e60
      refine r_iadd hx hb dX1_nextRank_61 (by omega) (by omega) (fun x61 e61 => ?_)
      have hF := bn hF e61
      refine lv_aload_n hx hb dX1_nextRank_62 rfl (lv_at hl 0 rfl) ?_
      refine gt_Floor_men hx hb hts ic_Floor hown hK hT g0 (hts _ mw_1_60) dX1_nextRank_63 (fun x63 e63 f63 g63 => ?_)
      have hF := bn hF e63
      obtain ⟨ky66, hF⟩ := ck hF
      refine r_irem hx hb dX1_nextRank_66 (by omega) (by omega) (fun x66 e66 g66 h66 => ?_)
      have hF := bn hF e66
      exact rt_i hx hb hr hlk hS ⟨hF, hT, (by omega)⟩ dX1_nextRank_67
    · have hF := ifn hF (by omega)
      have hF := ifn hF (by omega)
      have hF := ifn hF (by omega)
      refine lv_tableOut (tgt := 68) hx hb dX1_nextRank_11 c11 (by decide) ?_
      refine lv_aload_n hx hb dX1_nextRank_68 rfl (lv_at hl 0 rfl) ?_
      refine gt_Floor_men hx hb hts ic_Floor hown hK hT g0 (hts _ mw_1_60) dX1_nextRank_69 (fun x69 e69 f69 g69 => ?_)
      have hF := bn hF e69
      refine r_iconst hx hb dX1_nextRank_72 (by decide) (by decide) (fun x72 e72 => ?_)
      have hF := bn hF e72
      refine r_isub hx hb dX1_nextRank_73 (by omega) (by omega) (fun x73 e73 => ?_)
      have hF := bn hF e73
      refine lv_iload_n hx hb dX1_nextRank_74 rfl (lv_at hl 2 rfl) ?_
      refine r_isub hx hb dX1_nextRank_75 (by omega) (by omega) (fun x75 e75 => ?_)
      have hF := bn hF e75
      obtain ⟨k76, hF⟩ := ck hF
      exact rt_i hx hb hr hlk hS ⟨hF, hT, (by omega)⟩ dX1_nextRank_76
  · have hF := ifp hF c5
    refine r_iconst hx hb dX1_nextRank_8 (by decide) (by decide) (fun x8 e8 => ?_)
    have hF := bn hF e8
    exact rt_i hx hb hr hlk hS ⟨hF, hT, (by omega)⟩ dX1_nextRank_9
theorem k_X1_change : cBV yX1_change cX1_change 3 none 1 := ⟨mw_3_61, mw_3_62, mw_1_4, mw_3_63, ⟨by decide, by decide, by decide⟩⟩
set_option maxHeartbeats 4000000 in
set_option maxRecDepth 100000 in
theorem c_X1_change (l : Launch) (z : Zt) (σ : Sg) (h0 o0 : Nat) (g0 : zG z h0 = (11, o0)) (p1 : Int32) (out : Lo) (hF : D_X1_change (σ o0) p1.toInt = some out) : Met l yX1_change (uw yX1_change cX1_change 3 none) (rmF 2 86) (PcW z [.ref h0, .int p1] (fun H => TY z (zA z) σ H)) (QcV z (fun H => ∃ σ' : Sg, some (σ' o0) = some out ∧ FR σ σ' o0 ∧ TY z (zA z) σ' H)) 0 0 (zA z) := by
  refine Met.ofW (cc := cX1_change) (maxL := 3) (ret := none) (by decide) rfl ?_
  intro p e s m args below meth c s₁ B hml hv
  obtain ⟨rfl, hT, hK, hSK⟩ := hv
  have hx := B.exec
  have hb := B.bytes
  have hr := B.returns
  have hts : ∀ w ∈ lw_ok, w.before ([.ref h0, .int p1] : List Value).toArray s = true := fun w hw => atoms_spec (ws := uw yX1_change cX1_change 3 none) B.pre w (List.mem_cons_of_mem _ hw)
  have hown : s.vm.findClass RX1 = some m.cls := findClass_of_methodNamed B.named
  have hlk := B.notSynchronized
  have hC : CallFix p m c cX1_change 3 s ([.ref h0, .int p1] : List Value).toArray lw_ok RX1 := ⟨hx, hb, hml, hown, hts⟩
  have hS : va_S (zA z) s.heap s.heap [] := va_S.rf
  have hl := lv_entry ([.ref h0, .int p1]) (n := 3) (Nat.le_of_ble_eq_true rfl)
  rw [lg_entry_eq]
  generalize (lg_sl ([.ref h0, .int p1]) ++ List.replicate (3 - (lg_sl ([.ref h0, .int p1])).length) Slot.unset).toArray = ls at hl ⊢
  have hl : lv_has ls 3 [(0, .ref h0), (1, .int p1)] := hl
  show W p l e (rmF 2 86) s m ([.ref h0, .int p1] : List Value).toArray below meth c s.heap [] 0 0 (MQ below (QcV z (fun H => ∃ σ' : Sg, some (σ' o0) = some out ∧ FR σ σ' o0 ∧ TY z (zA z) σ' H)) ([.ref h0, .int p1] : List Value).toArray s 0 0 (zA z)) (F0 m 0 ls [])
  have hfr : FR σ σ o0 := FR_rf σ o0
  unfold D_X1_change at hF
  have mx_p1 := i_mx p1
  refine r_iconst hx hb dX1_change_0 (by decide) (by decide) (fun x0 e0 => ?_)
  have hF := bn hF e0
  refine lv_istore_n (lv' := [(2, .int x0), (0, .ref h0), (1, .int p1)]) hx hb dX1_change_1 rfl hl (by decide) rfl (fun ls hl => ?_)
  have J2 : ∀ (n2 : Nat) (ls : Array Slot) (H : Heap) (locs : List Loc) (y2_2 : Int32) (σj2 : Sg), (0 ≤ y2_2.toInt ∧ y2_2.toInt ≤ 5) → D_X1_change_2 p1.toInt n2 (σj2 o0) y2_2.toInt = some out → FR σ σj2 o0 → TY z (zA z) σj2 H → va_S (zA z) s.heap H locs → lv_has ls 3 [(0, .ref h0), (1, .int p1), (2, .int y2_2)] → W p l e (rmF 2 86) s m ([.ref h0, .int p1] : List Value).toArray below meth c H locs 0 0 (MQ below (QcV z (fun H => ∃ σ' : Sg, some (σ' o0) = some out ∧ FR σ σ' o0 ∧ TY z (zA z) σ' H)) ([.ref h0, .int p1] : List Value).toArray s 0 0 (zA z)) (F0 m 2 ls []) := by
    intro n2
    induction n2 with
    | zero => intro ls H locs y2_2 σj2 j2_y2_2 hF hfr hT hS hl; exact (no_s hF).elim
    | succ n2 ih2 =>
      intro ls H locs y2_2 σj2 j2_y2_2 hF hfr hT hS hl
      rw [D_X1_change_2.eq_2] at hF
      refine lv_iload_n hx hb dX1_change_2 rfl (lv_at hl 2 rfl) ?_
      refine lv_aload_n hx hb dX1_change_3 rfl (lv_at hl 0 rfl) ?_
      refine gt_Floor_men hx hb hts ic_Floor hown hK hT g0 (hts _ mw_1_60) dX1_change_4 (fun x4 e4 f4 g4 => ?_)
      have hF := bn hF e4
      refine r_icmp_ge (tgt := 43) hx hb dX1_change_7 (by decide) (fun c7 => ?_) (fun c7 => ?_)
      · have hF := ifn hF (Int.not_lt.mpr c7)
        exact rt_v hx hb hr hlk hS ⟨σj2, hF, hfr, hT⟩ dX1_change_43
      · have hF := ifp hF c7
        refine lv_aload_n hx hb dX1_change_10 rfl (lv_at hl 0 rfl) ?_
        refine gt_Floor_partner hx hb hts ic_Floor hown hK hT g0 (hts _ mw_1_51) dX1_change_11 (fun q11 hq11 => ?_)
        refine lv_iload_n hx hb dX1_change_14 rfl (lv_at hl 2 rfl) ?_
        refine lv_aload_n hx hb dX1_change_15 rfl (lv_at hl 0 rfl) ?_
        refine gt_Floor_byRank hx hb hts ic_Floor hown hK hT g0 (hts _ mw_1_56) dX1_change_16 (fun q16 hq16 => ?_)
        refine lv_aload_n hx hb dX1_change_19 rfl (lv_at hl 0 rfl) ?_
        refine lv_iload_n hx hb dX1_change_20 rfl (lv_at hl 1 rfl) ?_
        refine lv_aload_n hx hb dX1_change_21 rfl (lv_at hl 0 rfl) ?_
        refine gt_Floor_rankOf hx hb hts ic_Floor hown hK hT g0 (hts _ mw_1_58) dX1_change_22 (fun q22 hq22 => ?_)
        refine lv_aload_n hx hb dX1_change_25 rfl (lv_at hl 0 rfl) ?_
        refine gt_Floor_partner hx hb hts ic_Floor hown hK hT g0 (hts _ mw_1_51) dX1_change_26 (fun q26 hq26 => ?_)
        refine lv_iload_n hx hb dX1_change_29 rfl (lv_at hl 2 rfl) ?_
        refine al_27 hx hb hK hT hq26 (by omega) (by omega) dX1_change_30 (fun x30 e30 g30 => ?_)
        have hF := bn hF e30
        refine al_29 hx hb hK hT hq22 (by omega) (by omega) dX1_change_31 (fun x31 e31 g31 => ?_)
        have hF := bn hF e31
        obtain ⟨v32, hd32, -⟩ := bd0_s hF
        refine cl_Vi (rest := [.ref q16, .int y2_2, .ref q11]) hC hK hSK (c_X1_nextRank l z σj2 h0 (o0) g0 p1 x31 v32 hd32 (by omega)) k_X1_nextRank mw_3_64 ⟨rfl, rfl, Nat.le_of_ble_eq_true rfl, Nat.le_of_ble_eq_true rfl⟩ (rv_Floor hK hT g0) hT rfl hl.1 rfl (Nat.le_of_ble_eq_true rfl) dX1_change_32 ⟨Nat.zero_le _, Nat.zero_le _⟩ hS (fun _ h => h) (fun _ _ h => h) (fun r32 H locs hpo hS => ?_)
        obtain ⟨he32, hT, u32_0⟩ := hpo
        have hF := bd0_r hF hd32 he32
        refine al_28 hx hb hK hT hq16 (by omega) (by omega) dX1_change_35 (fun x35 e35 g35 => ?_)
        have hF := bn hF e35
        refine as_27 hx hb hK hT hS hq11 (by omega) (by omega) ⟨by omega, by omega⟩ dX1_change_36 (fun H locs hT hS => ?_)
        obtain ⟨σ36, hF, hfr, hT⟩ := wrL hF hfr hT
        refine r_iinc (lv' := fun v__ => [(2, .int v__), (0, .ref h0), (1, .int p1)]) hx hb dX1_change_37 hl (k := 2) rfl (by decide) (fun _ => rfl) ⟨by decide, by decide⟩ (by omega) (by omega) (fun x37 ls e37 hl => ?_)
        have hF := bn hF e37
        refine lv_goto (tgt := 2) hx hb dX1_change_40 (by decide) ?_
        exact ih2 ls _ _ x37 σ36 (by omega) hF hfr hT hS (lv_sub hl [1, 2, 0] rfl)
  exact J2 5000 ls _ _ x0 σ (by omega) hF hfr hT hS (lv_sub hl [1, 2, 0] rfl)
theorem k_X1_wear : cBV yX1_wear cX1_wear 4 none 0 := ⟨mw_3_70, ms_0_15, mw_1_4, mw_3_71, ⟨by decide, by decide, by decide⟩⟩
set_option maxHeartbeats 4000000 in
set_option maxRecDepth 100000 in
theorem c_X1_wear (l : Launch) (z : Zt) (σ : Sg) (h0 o0 : Nat) (g0 : zG z h0 = (11, o0)) (out : Lo) (hF : D_X1_wear (σ o0) = some out) : Met l yX1_wear (uw yX1_wear cX1_wear 4 none) (rmF 1 64) (PcW z [.ref h0] (fun H => TY z (zA z) σ H)) (QcV z (fun H => ∃ σ' : Sg, some (σ' o0) = some out ∧ FR σ σ' o0 ∧ TY z (zA z) σ' H)) 0 0 (zA z) := by
  refine Met.ofW (cc := cX1_wear) (maxL := 4) (ret := none) (by decide) rfl ?_
  intro p e s m args below meth c s₁ B hml hv
  obtain ⟨rfl, hT, hK, hSK⟩ := hv
  have hx := B.exec
  have hb := B.bytes
  have hr := B.returns
  have hts : ∀ w ∈ lw_ok, w.before ([.ref h0] : List Value).toArray s = true := fun w hw => atoms_spec (ws := uw yX1_wear cX1_wear 4 none) B.pre w (List.mem_cons_of_mem _ hw)
  have hown : s.vm.findClass RX1 = some m.cls := findClass_of_methodNamed B.named
  have hlk := B.notSynchronized
  have hC : CallFix p m c cX1_wear 4 s ([.ref h0] : List Value).toArray lw_ok RX1 := ⟨hx, hb, hml, hown, hts⟩
  have hS : va_S (zA z) s.heap s.heap [] := va_S.rf
  have hl := lv_entry ([.ref h0]) (n := 4) (Nat.le_of_ble_eq_true rfl)
  rw [lg_entry_eq]
  generalize (lg_sl ([.ref h0]) ++ List.replicate (4 - (lg_sl ([.ref h0])).length) Slot.unset).toArray = ls at hl ⊢
  have hl : lv_has ls 4 [(0, .ref h0)] := hl
  show W p l e (rmF 1 64) s m ([.ref h0] : List Value).toArray below meth c s.heap [] 0 0 (MQ below (QcV z (fun H => ∃ σ' : Sg, some (σ' o0) = some out ∧ FR σ σ' o0 ∧ TY z (zA z) σ' H)) ([.ref h0] : List Value).toArray s 0 0 (zA z)) (F0 m 0 ls [])
  have hfr : FR σ σ o0 := FR_rf σ o0
  unfold D_X1_wear at hF
  refine lv_aload_n hx hb dX1_wear_0 rfl (lv_at hl 0 rfl) ?_
  refine gt_Floor_danced hx hb hts ic_Floor hown hK hT g0 (hts _ mw_1_64) dX1_wear_1 (fun x1 e1 f1 g1 => ?_)
  have hF := bn hF e1
  refine r_iconst hx hb dX1_wear_4 (by decide) (by decide) (fun x4 e4 => ?_)
  have hF := bn hF e4
  refine r_irem hx hb dX1_wear_5 (by omega) (by omega) (fun x5 e5 g5 h5 => ?_)
  have hF := bn hF e5
  refine r_iconst hx hb dX1_wear_6 (by decide) (by decide) (fun x6 e6 => ?_)
  have hF := bn hF e6
  have J15 : ∀ (ls : Array Slot) (H : Heap) (locs : List Loc) (t15_0 : Int32) (σj15 : Sg), (0 ≤ t15_0.toInt ∧ t15_0.toInt ≤ 1) → D_X1_wear_15 (σj15 o0) t15_0.toInt = some out → FR σ σj15 o0 → TY z (zA z) σj15 H → va_S (zA z) s.heap H locs → lv_has ls 4 [(0, .ref h0)] → W p l e (rmF 1 64) s m ([.ref h0] : List Value).toArray below meth c H locs 0 0 (MQ below (QcV z (fun H => ∃ σ' : Sg, some (σ' o0) = some out ∧ FR σ σ' o0 ∧ TY z (zA z) σ' H)) ([.ref h0] : List Value).toArray s 0 0 (zA z)) (F0 m 15 ls [.int t15_0]) := by
    intro ls H locs t15_0 σj15 j15_t15_0 hF hfr hT hS hl
    unfold D_X1_wear_15 at hF
    refine lv_istore_n (lv' := [(1, .int t15_0), (0, .ref h0)]) hx hb dX1_wear_15 rfl hl (by decide) rfl (fun ls hl => ?_)
    refine r_iconst hx hb dX1_wear_16 (by decide) (by decide) (fun x16 e16 => ?_)
    have hF := bn hF e16
    refine lv_istore_n (lv' := [(2, .int x16), (1, .int t15_0), (0, .ref h0)]) hx hb dX1_wear_17 rfl hl (by decide) rfl (fun ls hl => ?_)
    have J18 : ∀ (n18 : Nat) (ls : Array Slot) (H : Heap) (locs : List Loc) (y18_2 : Int32) (σj18 : Sg), (0 ≤ y18_2.toInt ∧ y18_2.toInt ≤ 5) → D_X1_wear_18 t15_0.toInt n18 (σj18 o0) y18_2.toInt = some out → FR σ σj18 o0 → TY z (zA z) σj18 H → va_S (zA z) s.heap H locs → lv_has ls 4 [(0, .ref h0), (1, .int t15_0), (2, .int y18_2)] → W p l e (rmF 1 64) s m ([.ref h0] : List Value).toArray below meth c H locs 0 0 (MQ below (QcV z (fun H => ∃ σ' : Sg, some (σ' o0) = some out ∧ FR σ σ' o0 ∧ TY z (zA z) σ' H)) ([.ref h0] : List Value).toArray s 0 0 (zA z)) (F0 m 18 ls []) := by
      intro n18
      induction n18 with
      | zero => intro ls H locs y18_2 σj18 j18_y18_2 hF hfr hT hS hl; exact (no_s hF).elim
      | succ n18 ih18 =>
        intro ls H locs y18_2 σj18 j18_y18_2 hF hfr hT hS hl
        rw [D_X1_wear_18.eq_2] at hF
        refine lv_iload_n hx hb dX1_wear_18 rfl (lv_at hl 2 rfl) ?_
        refine lv_aload_n hx hb dX1_wear_19 rfl (lv_at hl 0 rfl) ?_
        refine gt_Floor_men hx hb hts ic_Floor hown hK hT g0 (hts _ mw_1_60) dX1_wear_20 (fun x20 e20 f20 g20 => ?_)
        have hF := bn hF e20
        refine r_icmp_ge (tgt := 85) hx hb dX1_wear_23 (by decide) (fun c23 => ?_) (fun c23 => ?_)
        · have hF := ifn hF (Int.not_lt.mpr c23)
          exact rt_v hx hb hr hlk hS ⟨σj18, hF, hfr, hT⟩ dX1_wear_85
        · have hF := ifp hF c23
          refine lv_aload_n hx hb dX1_wear_26 rfl (lv_at hl 0 rfl) ?_
          refine gt_Floor_kind hx hb hts ic_Floor hown hK hT g0 (hts _ mw_1_43) dX1_wear_27 (fun q27 hq27 => ?_)
          refine lv_iload_n hx hb dX1_wear_30 rfl (lv_at hl 2 rfl) ?_
          refine al_51 hx hb hK hT hq27 (by omega) (by omega) dX1_wear_31 (fun x31 e31 => ?_)
          have hF := bn hF e31
          refine r_iconst hx hb dX1_wear_32 (by decide) (by decide) (fun x32 e32 => ?_)
          have hF := bn hF e32
          have J55 : ∀ (ls : Array Slot) (H : Heap) (locs : List Loc) (t55_0 : Int32) (σj55 : Sg), (0 ≤ t55_0.toInt ∧ t55_0.toInt ≤ 1) → D_X1_wear_55 (D_X1_wear_18 t15_0.toInt n18) y18_2.toInt (σj55 o0) t55_0.toInt = some out → FR σ σj55 o0 → TY z (zA z) σj55 H → va_S (zA z) s.heap H locs → lv_has ls 4 [(0, .ref h0), (1, .int t15_0), (2, .int y18_2)] → W p l e (rmF 1 64) s m ([.ref h0] : List Value).toArray below meth c H locs 0 0 (MQ below (QcV z (fun H => ∃ σ' : Sg, some (σ' o0) = some out ∧ FR σ σ' o0 ∧ TY z (zA z) σ' H)) ([.ref h0] : List Value).toArray s 0 0 (zA z)) (F0 m 55 ls [.int t55_0]) := by
            intro ls H locs t55_0 σj55 j55_t55_0 hF hfr hT hS hl
            unfold D_X1_wear_55 at hF
            refine lv_istore_n (lv' := [(3, .int t55_0), (0, .ref h0), (1, .int t15_0), (2, .int y18_2)]) hx hb dX1_wear_55 rfl hl (by decide) rfl (fun ls hl => ?_)
            refine lv_iload_n hx hb dX1_wear_56 rfl (lv_at hl 0 rfl) ?_
            have J79 : ∀ (ls : Array Slot) (H : Heap) (locs : List Loc) (σj79 : Sg), D_X1_wear_79 (D_X1_wear_18 t15_0.toInt n18) y18_2.toInt (σj79 o0) = some out → FR σ σj79 o0 → TY z (zA z) σj79 H → va_S (zA z) s.heap H locs → lv_has ls 4 [(0, .ref h0), (1, .int t15_0), (2, .int y18_2), (3, .int t55_0)] → W p l e (rmF 1 64) s m ([.ref h0] : List Value).toArray below meth c H locs 0 0 (MQ below (QcV z (fun H => ∃ σ' : Sg, some (σ' o0) = some out ∧ FR σ σ' o0 ∧ TY z (zA z) σ' H)) ([.ref h0] : List Value).toArray s 0 0 (zA z)) (F0 m 79 ls []) := by
              intro ls H locs σj79 hF hfr hT hS hl
              unfold D_X1_wear_79 at hF
              refine r_iinc (lv' := fun v__ => [(2, .int v__), (0, .ref h0), (1, .int t15_0), (3, .int t55_0)]) hx hb dX1_wear_79 hl (k := 2) rfl (by decide) (fun _ => rfl) ⟨by decide, by decide⟩ (by omega) (by omega) (fun x79 ls e79 hl => ?_)
              have hF := bn hF e79
              refine lv_goto (tgt := 18) hx hb dX1_wear_82 (by decide) ?_
              exact ih18 ls _ _ x79 σj79 (by omega) hF hfr hT hS (lv_sub hl [1, 2, 0] rfl)
            refine r_if_eq (tgt := 79) hx hb dX1_wear_57 (by decide) (fun c57 => ?_) (fun c57 => ?_)
            · have hF := ifp hF c57
              exact J79 ls _ _ σj55 hF hfr hT hS (lv_sub hl [1, 2, 3, 0] rfl)
            · have hF := ifn hF c57
              refine lv_aload_n hx hb dX1_wear_60 rfl (lv_at hl 1 rfl) ?_
              refine gt_Floor_heels hx hb hts ic_Floor hown hK hT g0 (hts _ mw_1_47) dX1_wear_61 (fun q61 hq61 => ?_)
              refine lv_iload_n hx hb dX1_wear_64 rfl (lv_at hl 3 rfl) ?_
              refine al_53 hx hb hK hT hq61 (by omega) (by omega) dX1_wear_65 (fun x65 e65 g65 => ?_)
              have hF := bn hF e65
              refine r_if_le (tgt := 79) hx hb dX1_wear_66 (by decide) (fun c66 => ?_) (fun c66 => ?_)
              · have hF := ifn hF (Int.not_lt.mpr c66)
                exact J79 ls _ _ σj55 hF hfr hT hS (lv_sub hl [1, 2, 3, 0] rfl)
              · have hF := ifp hF c66
                refine lv_aload_n hx hb dX1_wear_69 rfl (lv_at hl 1 rfl) ?_
                refine gt_Floor_heels hx hb hts ic_Floor hown hK hT g0 (hts _ mw_1_47) dX1_wear_70 (fun q70 hq70 => ?_)
                refine lv_iload_n hx hb dX1_wear_73 rfl (lv_at hl 3 rfl) ?_
                refine lv_dup2_11 hx hb dX1_wear_74 rfl rfl ?_
                refine al_53 hx hb hK hT hq70 (by omega) (by omega) dX1_wear_75 (fun x75 e75 g75 => ?_)
                have hF := bn hF e75
                refine r_iconst hx hb dX1_wear_76 (by decide) (by decide) (fun x76 e76 => ?_)
                have hF := bn hF e76
                refine r_isub hx hb dX1_wear_77 (by omega) (by omega) (fun x77 e77 => ?_)
                have hF := bn hF e77
                obtain ⟨kv78, hF⟩ := ck hF
                refine as_53 hx hb hK hT hS hq70 (by omega) (by omega) ⟨by omega, by omega⟩ dX1_wear_78 (fun H locs hT hS => ?_)
                obtain ⟨σ78, hF, hfr, hT⟩ := wrL hF hfr hT
                exact J79 ls _ _ σ78 hF hfr hT hS (lv_sub hl [1, 2, 3, 0] rfl)
          refine r_icmp_ne (tgt := 40) hx hb dX1_wear_33 (by decide) (fun c33 => ?_) (fun c33 => ?_)
          · have hF := ifn hF c33
            refine lv_aload_n hx hb dX1_wear_40 rfl (lv_at hl 0 rfl) ?_
            refine gt_Floor_kind hx hb hts ic_Floor hown hK hT g0 (hts _ mw_1_43) dX1_wear_41 (fun q41 hq41 => ?_)
            refine lv_iload_n hx hb dX1_wear_44 rfl (lv_at hl 2 rfl) ?_
            refine al_51 hx hb hK hT hq41 (by omega) (by omega) dX1_wear_45 (fun x45 e45 => ?_)
            have hF := bn hF e45
            refine r_iconst hx hb dX1_wear_46 (by decide) (by decide) (fun x46 e46 => ?_)
            have hF := bn hF e46
            refine r_icmp_eq (tgt := 54) hx hb dX1_wear_47 (by decide) (fun c47 => ?_) (fun c47 => ?_)
            · have hF := ifp hF c47
              refine r_iconst hx hb dX1_wear_54 (by decide) (by decide) (fun x54 e54 => ?_)
              have hF := bn hF e54
              exact J55 ls _ _ x54 σj18 (by omega) hF hfr hT hS (lv_sub hl [0, 1, 2] rfl)
            · have hF := ifn hF c47
              refine r_iconst hx hb dX1_wear_50 (by decide) (by decide) (fun x50 e50 => ?_)
              have hF := bn hF e50
              refine lv_goto (tgt := 55) hx hb dX1_wear_51 (by decide) ?_
              exact J55 ls _ _ x50 σj18 (by omega) hF hfr hT hS (lv_sub hl [0, 1, 2] rfl)
          · have hF := ifp hF c33
            refine lv_iload_n hx hb dX1_wear_36 rfl (lv_at hl 1 rfl) ?_
            refine lv_goto (tgt := 55) hx hb dX1_wear_37 (by decide) ?_
            exact J55 ls _ _ t15_0 σj18 (by omega) hF hfr hT hS (lv_sub hl [0, 1, 2] rfl)
    exact J18 5000 ls _ _ x16 σj15 (by omega) hF hfr hT hS (lv_sub hl [2, 1, 0] rfl)
  refine r_icmp_ne (tgt := 14) hx hb dX1_wear_7 (by decide) (fun c7 => ?_) (fun c7 => ?_)
  · have hF := ifn hF c7
    refine r_iconst hx hb dX1_wear_14 (by decide) (by decide) (fun x14 e14 => ?_)
    have hF := bn hF e14
    exact J15 ls _ _ x14 σ (by omega) hF hfr hT hS (lv_sub hl [0] rfl)
  · have hF := ifp hF c7
    refine r_iconst hx hb dX1_wear_10 (by decide) (by decide) (fun x10 e10 => ?_)
    have hF := bn hF e10
    refine lv_goto (tgt := 15) hx hb dX1_wear_11 (by decide) ?_
    exact J15 ls _ _ x10 σ (by omega) hF hfr hT hS (lv_sub hl [0] rfl)
theorem k_X1_warm : cBV yX1_warm cX1_warm 2 none 0 := ⟨mw_3_74, ms_1_0, mw_1_4, mw_3_75, ⟨by decide, by decide, by decide⟩⟩
set_option maxHeartbeats 4000000 in
set_option maxRecDepth 100000 in
theorem c_X1_warm (l : Launch) (z : Zt) (σ : Sg) (h0 o0 : Nat) (g0 : zG z h0 = (11, o0)) (out : Lo) (hF : D_X1_warm (σ o0) = some out) : Met l yX1_warm (uw yX1_warm cX1_warm 2 none) (rmF 1 64) (PcW z [.ref h0] (fun H => TY z (zA z) σ H)) (QcV z (fun H => ∃ σ' : Sg, some (σ' o0) = some out ∧ FR σ σ' o0 ∧ TY z (zA z) σ' H)) 0 0 (zA z) := by
  refine Met.ofW (cc := cX1_warm) (maxL := 2) (ret := none) (by decide) rfl ?_
  intro p e s m args below meth c s₁ B hml hv
  obtain ⟨rfl, hT, hK, hSK⟩ := hv
  have hx := B.exec
  have hb := B.bytes
  have hr := B.returns
  have hts : ∀ w ∈ lw_ok, w.before ([.ref h0] : List Value).toArray s = true := fun w hw => atoms_spec (ws := uw yX1_warm cX1_warm 2 none) B.pre w (List.mem_cons_of_mem _ hw)
  have hown : s.vm.findClass RX1 = some m.cls := findClass_of_methodNamed B.named
  have hlk := B.notSynchronized
  have hC : CallFix p m c cX1_warm 2 s ([.ref h0] : List Value).toArray lw_ok RX1 := ⟨hx, hb, hml, hown, hts⟩
  have hS : va_S (zA z) s.heap s.heap [] := va_S.rf
  have hl := lv_entry ([.ref h0]) (n := 2) (Nat.le_of_ble_eq_true rfl)
  rw [lg_entry_eq]
  generalize (lg_sl ([.ref h0]) ++ List.replicate (2 - (lg_sl ([.ref h0])).length) Slot.unset).toArray = ls at hl ⊢
  have hl : lv_has ls 2 [(0, .ref h0)] := hl
  show W p l e (rmF 1 64) s m ([.ref h0] : List Value).toArray below meth c s.heap [] 0 0 (MQ below (QcV z (fun H => ∃ σ' : Sg, some (σ' o0) = some out ∧ FR σ σ' o0 ∧ TY z (zA z) σ' H)) ([.ref h0] : List Value).toArray s 0 0 (zA z)) (F0 m 0 ls [])
  have hfr : FR σ σ o0 := FR_rf σ o0
  unfold D_X1_warm at hF
  refine r_iconst hx hb dX1_warm_0 (by decide) (by decide) (fun x0 e0 => ?_)
  have hF := bn hF e0
  refine lv_istore_n (lv' := [(1, .int x0), (0, .ref h0)]) hx hb dX1_warm_1 rfl hl (by decide) rfl (fun ls hl => ?_)
  have J2 : ∀ (n2 : Nat) (ls : Array Slot) (H : Heap) (locs : List Loc) (y2_1 : Int32) (σj2 : Sg), (0 ≤ y2_1.toInt ∧ y2_1.toInt ≤ 5) → D_X1_warm_2 n2 (σj2 o0) y2_1.toInt = some out → FR σ σj2 o0 → TY z (zA z) σj2 H → va_S (zA z) s.heap H locs → lv_has ls 2 [(0, .ref h0), (1, .int y2_1)] → W p l e (rmF 1 64) s m ([.ref h0] : List Value).toArray below meth c H locs 0 0 (MQ below (QcV z (fun H => ∃ σ' : Sg, some (σ' o0) = some out ∧ FR σ σ' o0 ∧ TY z (zA z) σ' H)) ([.ref h0] : List Value).toArray s 0 0 (zA z)) (F0 m 2 ls []) := by
    intro n2
    induction n2 with
    | zero => intro ls H locs y2_1 σj2 j2_y2_1 hF hfr hT hS hl; exact (no_s hF).elim
    | succ n2 ih2 =>
      intro ls H locs y2_1 σj2 j2_y2_1 hF hfr hT hS hl
      rw [D_X1_warm_2.eq_2] at hF
      refine lv_iload_n hx hb dX1_warm_2 rfl (lv_at hl 1 rfl) ?_
      refine lv_aload_n hx hb dX1_warm_3 rfl (lv_at hl 0 rfl) ?_
      refine gt_Floor_men hx hb hts ic_Floor hown hK hT g0 (hts _ mw_1_60) dX1_warm_4 (fun x4 e4 f4 g4 => ?_)
      have hF := bn hF e4
      refine r_icmp_ge (tgt := 45) hx hb dX1_warm_7 (by decide) (fun c7 => ?_) (fun c7 => ?_)
      · have hF := ifn hF (Int.not_lt.mpr c7)
        exact rt_v hx hb hr hlk hS ⟨σj2, hF, hfr, hT⟩ dX1_warm_45
      · have hF := ifp hF c7
        refine lv_aload_n hx hb dX1_warm_10 rfl (lv_at hl 0 rfl) ?_
        refine gt_Floor_partner hx hb hts ic_Floor hown hK hT g0 (hts _ mw_1_51) dX1_warm_11 (fun q11 hq11 => ?_)
        refine lv_iload_n hx hb dX1_warm_14 rfl (lv_at hl 1 rfl) ?_
        refine al_27 hx hb hK hT hq11 (by omega) (by omega) dX1_warm_15 (fun x15 e15 g15 => ?_)
        have hF := bn hF e15
        refine lv_iload_n hx hb dX1_warm_16 rfl (lv_at hl 1 rfl) ?_
        have J39 : ∀ (ls : Array Slot) (H : Heap) (locs : List Loc) (σj39 : Sg), D_X1_warm_39 (D_X1_warm_2 n2) y2_1.toInt (σj39 o0) = some out → FR σ σj39 o0 → TY z (zA z) σj39 H → va_S (zA z) s.heap H locs → lv_has ls 2 [(0, .ref h0), (1, .int y2_1)] → W p l e (rmF 1 64) s m ([.ref h0] : List Value).toArray below meth c H locs 0 0 (MQ below (QcV z (fun H => ∃ σ' : Sg, some (σ' o0) = some out ∧ FR σ σ' o0 ∧ TY z (zA z) σ' H)) ([.ref h0] : List Value).toArray s 0 0 (zA z)) (F0 m 39 ls []) := by
          intro ls H locs σj39 hF hfr hT hS hl
          unfold D_X1_warm_39 at hF
          refine r_iinc (lv' := fun v__ => [(1, .int v__), (0, .ref h0)]) hx hb dX1_warm_39 hl (k := 1) rfl (by decide) (fun _ => rfl) ⟨by decide, by decide⟩ (by omega) (by omega) (fun x39 ls e39 hl => ?_)
          have hF := bn hF e39
          refine lv_goto (tgt := 2) hx hb dX1_warm_42 (by decide) ?_
          exact ih2 ls _ _ x39 σj39 (by omega) hF hfr hT hS (lv_sub hl [1, 0] rfl)
        refine r_icmp_ne (tgt := 39) hx hb dX1_warm_17 (by decide) (fun c17 => ?_) (fun c17 => ?_)
        · have hF := ifn hF c17
          exact J39 ls _ _ σj2 hF hfr hT hS (lv_sub hl [0, 1] rfl)
        · have hF := ifp hF c17
          refine lv_aload_n hx hb dX1_warm_20 rfl (lv_at hl 0 rfl) ?_
          refine gt_Floor_heat hx hb hts ic_Floor hown hK hT g0 (hts _ mw_1_49) dX1_warm_21 (fun q21 hq21 => ?_)
          refine lv_iload_n hx hb dX1_warm_24 rfl (lv_at hl 1 rfl) ?_
          refine lv_aload_n hx hb dX1_warm_25 rfl (lv_at hl 0 rfl) ?_
          refine gt_Floor_heat hx hb hts ic_Floor hown hK hT g0 (hts _ mw_1_49) dX1_warm_26 (fun q26 hq26 => ?_)
          refine lv_iload_n hx hb dX1_warm_29 rfl (lv_at hl 1 rfl) ?_
          refine al_54 hx hb hK hT hq26 (by omega) (by omega) dX1_warm_30 (fun x30 e30 g30 => ?_)
          have hF := bn hF e30
          refine r_iconst hx hb dX1_warm_31 (by decide) (by decide) (fun x31 e31 => ?_)
          have hF := bn hF e31
          refine r_iadd hx hb dX1_warm_32 (by omega) (by omega) (fun x32 e32 => ?_)
          have hF := bn hF e32
          refine r_bipush hx hb dX1_warm_33 rfl (fun x33 e33 => ?_)
          have hF := bn hF e33
          refine r_min hx hb (hml.trans hl.1.symm) hts hown mw_3_76 (Nat.le_of_ble_eq_true rfl) (Nat.le_of_ble_eq_true rfl) ⟨Nat.zero_le _, Nat.zero_le _⟩ dX1_warm_35 (fun x35 e35 => ?_)
          have hF := bn hF e35
          have g35 := e35
          refine as_54 hx hb hK hT hS hq21 (by omega) (by omega) ⟨by omega, by omega⟩ dX1_warm_38 (fun H locs hT hS => ?_)
          obtain ⟨σ38, hF, hfr, hT⟩ := wrL hF hfr hT
          exact J39 ls _ _ σ38 hF hfr hT hS (lv_sub hl [0, 1] rfl)
  exact J2 5000 ls _ _ x0 σ (by omega) hF hfr hT hS (lv_sub hl [1, 0] rfl)
theorem k_X1_step : cBV yX1_step cX1_step 2 none 1 := ⟨mw_3_56, mw_3_57, mw_1_4, mw_3_58, ⟨by decide, by decide, by decide⟩⟩
set_option maxHeartbeats 4000000 in
set_option maxRecDepth 100000 in
theorem c_X1_step (l : Launch) (z : Zt) (σ : Sg) (h0 o0 : Nat) (g0 : zG z h0 = (11, o0)) (p1 : Int32) (out : Lo) (hF : D_X1_step (σ o0) p1.toInt = some out) : Met l yX1_step (uw yX1_step cX1_step 2 none) (rmF 3 109) (PcW z [.ref h0, .int p1] (fun H => TY z (zA z) σ H)) (QcV z (fun H => ∃ σ' : Sg, some (σ' o0) = some out ∧ FR σ σ' o0 ∧ TY z (zA z) σ' H)) 0 0 (zA z) := by
  refine Met.ofW (cc := cX1_step) (maxL := 2) (ret := none) (by decide) rfl ?_
  intro p e s m args below meth c s₁ B hml hv
  obtain ⟨rfl, hT, hK, hSK⟩ := hv
  have hx := B.exec
  have hb := B.bytes
  have hr := B.returns
  have hts : ∀ w ∈ lw_ok, w.before ([.ref h0, .int p1] : List Value).toArray s = true := fun w hw => atoms_spec (ws := uw yX1_step cX1_step 2 none) B.pre w (List.mem_cons_of_mem _ hw)
  have hown : s.vm.findClass RX1 = some m.cls := findClass_of_methodNamed B.named
  have hlk := B.notSynchronized
  have hC : CallFix p m c cX1_step 2 s ([.ref h0, .int p1] : List Value).toArray lw_ok RX1 := ⟨hx, hb, hml, hown, hts⟩
  have hS : va_S (zA z) s.heap s.heap [] := va_S.rf
  have hl := lv_entry ([.ref h0, .int p1]) (n := 2) (Nat.le_of_ble_eq_true rfl)
  rw [lg_entry_eq]
  generalize (lg_sl ([.ref h0, .int p1]) ++ List.replicate (2 - (lg_sl ([.ref h0, .int p1])).length) Slot.unset).toArray = ls at hl ⊢
  have hl : lv_has ls 2 [(0, .ref h0), (1, .int p1)] := hl
  show W p l e (rmF 3 109) s m ([.ref h0, .int p1] : List Value).toArray below meth c s.heap [] 0 0 (MQ below (QcV z (fun H => ∃ σ' : Sg, some (σ' o0) = some out ∧ FR σ σ' o0 ∧ TY z (zA z) σ' H)) ([.ref h0, .int p1] : List Value).toArray s 0 0 (zA z)) (F0 m 0 ls [])
  have hfr : FR σ σ o0 := FR_rf σ o0
  unfold D_X1_step at hF
  have mx_p1 := i_mx p1
  refine lv_aload_n hx hb dX1_step_0 rfl (lv_at hl 0 rfl) ?_
  obtain ⟨s1, hd1, -⟩ := bd1_s hF
  refine cl_Vv (rest := []) hC hK hSK (c_X1_lineUp l z σ h0 (o0) g0 s1 hd1) k_X1_lineUp mw_3_59 ⟨rfl, rfl, Nat.le_of_ble_eq_true rfl, Nat.le_of_ble_eq_true rfl⟩ (rv_Floor hK hT g0) hT rfl hl.1 rfl (Nat.le_of_ble_eq_true rfl) dX1_step_1 ⟨Nat.zero_le _, Nat.zero_le _⟩ hS (fun _ h => h) (fun _ _ h => h) (fun H locs hpo hS => ?_)
  obtain ⟨σ1, he1, hf1, hT⟩ := hpo
  have hF := bd1_r hF hd1 he1
  have hfr := FR_tr hf1 hfr
  refine lv_aload_n hx hb dX1_step_4 rfl (lv_at hl 0 rfl) ?_
  refine lv_iload_n hx hb dX1_step_5 rfl (lv_at hl 1 rfl) ?_
  obtain ⟨s6, hd6, -⟩ := bd1_s hF
  refine cl_Vv (rest := []) hC hK hSK (c_X1_change l z σ1 h0 (o0) g0 p1 s6 hd6) k_X1_change mw_3_60 ⟨rfl, rfl, Nat.le_of_ble_eq_true rfl, Nat.le_of_ble_eq_true rfl⟩ (rv_Floor hK hT g0) hT rfl hl.1 rfl (Nat.le_of_ble_eq_true rfl) dX1_step_6 ⟨Nat.zero_le _, Nat.zero_le _⟩ hS (fun _ h => h) (fun _ _ h => h) (fun H locs hpo hS => ?_)
  obtain ⟨σ6, he6, hf6, hT⟩ := hpo
  have hF := bd1_r hF hd6 he6
  have hfr := FR_tr hf6 hfr
  refine lv_aload_n hx hb dX1_step_9 rfl (lv_at hl 0 rfl) ?_
  obtain ⟨s10, hd10, -⟩ := bd1_s hF
  refine cl_Vv (rest := []) hC hK hSK (c_X1_wear l z σ6 h0 (o0) g0 s10 hd10) k_X1_wear mw_3_68 ⟨rfl, rfl, Nat.le_of_ble_eq_true rfl, Nat.le_of_ble_eq_true rfl⟩ (rv_Floor hK hT g0) hT rfl hl.1 rfl (Nat.le_of_ble_eq_true rfl) dX1_step_10 ⟨Nat.zero_le _, Nat.zero_le _⟩ hS (fun _ h => h) (fun _ _ h => h) (fun H locs hpo hS => ?_)
  obtain ⟨σ10, he10, hf10, hT⟩ := hpo
  have hF := bd1_r hF hd10 he10
  have hfr := FR_tr hf10 hfr
  refine lv_aload_n hx hb dX1_step_13 rfl (lv_at hl 0 rfl) ?_
  obtain ⟨s14, hd14, -⟩ := bd1_s hF
  refine cl_Vv (rest := []) hC hK hSK (c_X1_warm l z σ10 h0 (o0) g0 s14 hd14) k_X1_warm mw_3_72 ⟨rfl, rfl, Nat.le_of_ble_eq_true rfl, Nat.le_of_ble_eq_true rfl⟩ (rv_Floor hK hT g0) hT rfl hl.1 rfl (Nat.le_of_ble_eq_true rfl) dX1_step_14 ⟨Nat.zero_le _, Nat.zero_le _⟩ hS (fun _ h => h) (fun _ _ h => h) (fun H locs hpo hS => ?_)
  obtain ⟨σ14, he14, hf14, hT⟩ := hpo
  have hF := bd1_r hF hd14 he14
  have hfr := FR_tr hf14 hfr
  refine lv_aload_n hx hb dX1_step_17 rfl (lv_at hl 0 rfl) ?_
  refine lv_aload_n hx hb dX1_step_18 rfl (lv_at hl 0 rfl) ?_
  refine gt_Floor_danced hx hb hts ic_Floor hown hK hT g0 (hts _ mw_1_64) dX1_step_19 (fun x19 e19 f19 g19 => ?_)
  have hF := bn hF e19
  refine r_iconst hx hb dX1_step_22 (by decide) (by decide) (fun x22 e22 => ?_)
  have hF := bn hF e22
  refine r_iadd hx hb dX1_step_23 (by omega) (by omega) (fun x23 e23 => ?_)
  have hF := bn hF e23
  refine r_sipush hx hb dX1_step_24 rfl (fun x24 e24 => ?_)
  have hF := bn hF e24
  refine r_min hx hb (hml.trans hl.1.symm) hts hown mw_3_76 (Nat.le_of_ble_eq_true rfl) (Nat.le_of_ble_eq_true rfl) ⟨Nat.zero_le _, Nat.zero_le _⟩ dX1_step_27 (fun x27 e27 => ?_)
  have hF := bn hF e27
  have g27 := e27
  refine pt_Floor_danced hx hb hts ic_Floor hown hK hT hS g0 (hts _ mw_1_64) (by omega) (by omega) dX1_step_30 (fun H locs hT hS => ?_)
  obtain ⟨σ30, hF, hfr, hT⟩ := wrL hF hfr hT
  exact rt_v hx hb hr hlk hS ⟨σ30, hF, hfr, hT⟩ dX1_step_33
theorem k_X1_roundBits : cBV yX1_roundBits cX1_roundBits 3 (some .int) 0 := ⟨mw_2_218, mw_2_219, mw_1_4, mw_2_220, ⟨by decide, by decide, by decide⟩⟩
set_option maxHeartbeats 4000000 in
set_option maxRecDepth 100000 in
theorem c_X1_roundBits (l : Launch) (z : Zt) (σ : Sg) (h0 o0 : Nat) (g0 : zG z h0 = (11, o0)) (out : Int) (hF : D_X1_roundBits (σ o0) = some out) : Met l yX1_roundBits (uw yX1_roundBits cX1_roundBits 3 (some .int)) (rmF 1 64) (PcW z [.ref h0] (fun H => TY z (zA z) σ H)) (QcI z (fun r H => some r.toInt = some out ∧ TY z (zA z) σ H)) 0 0 (zA z) := by
  refine Met.ofW (cc := cX1_roundBits) (maxL := 3) (ret := (some .int)) (by decide) rfl ?_
  intro p e s m args below meth c s₁ B hml hv
  obtain ⟨rfl, hT, hK, hSK⟩ := hv
  have hx := B.exec
  have hb := B.bytes
  have hr := B.returns
  have hts : ∀ w ∈ lw_ok, w.before ([.ref h0] : List Value).toArray s = true := fun w hw => atoms_spec (ws := uw yX1_roundBits cX1_roundBits 3 (some .int)) B.pre w (List.mem_cons_of_mem _ hw)
  have hown : s.vm.findClass RX1 = some m.cls := findClass_of_methodNamed B.named
  have hlk := B.notSynchronized
  have hC : CallFix p m c cX1_roundBits 3 s ([.ref h0] : List Value).toArray lw_ok RX1 := ⟨hx, hb, hml, hown, hts⟩
  have hS : va_S (zA z) s.heap s.heap [] := va_S.rf
  have hl := lv_entry ([.ref h0]) (n := 3) (Nat.le_of_ble_eq_true rfl)
  rw [lg_entry_eq]
  generalize (lg_sl ([.ref h0]) ++ List.replicate (3 - (lg_sl ([.ref h0])).length) Slot.unset).toArray = ls at hl ⊢
  have hl : lv_has ls 3 [(0, .ref h0)] := hl
  show W p l e (rmF 1 64) s m ([.ref h0] : List Value).toArray below meth c s.heap [] 0 0 (MQ below (QcI z (fun r H => some r.toInt = some out ∧ TY z (zA z) σ H)) ([.ref h0] : List Value).toArray s 0 0 (zA z)) (F0 m 0 ls [])
  unfold D_X1_roundBits at hF
  refine r_iconst hx hb dX1_roundBits_0 (by decide) (by decide) (fun x0 e0 => ?_)
  have hF := bn hF e0
  refine lv_istore_n (lv' := [(1, .int x0), (0, .ref h0)]) hx hb dX1_roundBits_1 rfl hl (by decide) rfl (fun ls hl => ?_)
  refine r_iconst hx hb dX1_roundBits_2 (by decide) (by decide) (fun x2 e2 => ?_)
  have hF := bn hF e2
  refine lv_istore_n (lv' := [(2, .int x2), (1, .int x0), (0, .ref h0)]) hx hb dX1_roundBits_3 rfl hl (by decide) rfl (fun ls hl => ?_)
  have J4 : ∀ (n4 : Nat) (ls : Array Slot) (H : Heap) (locs : List Loc) (y4_1 : Int32) (y4_2 : Int32), (0 ≤ y4_2.toInt ∧ y4_2.toInt ≤ 5) → D_X1_roundBits_4 (σ o0) n4 y4_1.toInt y4_2.toInt = some out → TY z (zA z) σ H → va_S (zA z) s.heap H locs → lv_has ls 3 [(0, .ref h0), (1, .int y4_1), (2, .int y4_2)] → W p l e (rmF 1 64) s m ([.ref h0] : List Value).toArray below meth c H locs 0 0 (MQ below (QcI z (fun r H => some r.toInt = some out ∧ TY z (zA z) σ H)) ([.ref h0] : List Value).toArray s 0 0 (zA z)) (F0 m 4 ls []) := by
    intro n4
    induction n4 with
    | zero => intro ls H locs y4_1 y4_2 j4_y4_2 hF hT hS hl; exact (no_s hF).elim
    | succ n4 ih4 =>
      intro ls H locs y4_1 y4_2 j4_y4_2 hF hT hS hl
      rw [D_X1_roundBits_4.eq_2] at hF
      refine lv_iload_n hx hb dX1_roundBits_4 rfl (lv_at hl 2 rfl) ?_
      refine lv_aload_n hx hb dX1_roundBits_5 rfl (lv_at hl 0 rfl) ?_
      refine gt_Floor_men hx hb hts ic_Floor hown hK hT g0 (hts _ mw_1_60) dX1_roundBits_6 (fun x6 e6 f6 g6 => ?_)
      have hF := bn hF e6
      refine r_icmp_ge (tgt := 34) hx hb dX1_roundBits_9 (by decide) (fun c9 => ?_) (fun c9 => ?_)
      · have hF := ifn hF (Int.not_lt.mpr c9)
        refine lv_iload_n hx hb dX1_roundBits_34 rfl (lv_at hl 1 rfl) ?_
        exact rt_i hx hb hr hlk hS ⟨hF, hT⟩ dX1_roundBits_35
      · have hF := ifp hF c9
        refine lv_aload_n hx hb dX1_roundBits_12 rfl (lv_at hl 0 rfl) ?_
        refine gt_Floor_partner hx hb hts ic_Floor hown hK hT g0 (hts _ mw_1_51) dX1_roundBits_13 (fun q13 hq13 => ?_)
        refine lv_iload_n hx hb dX1_roundBits_16 rfl (lv_at hl 2 rfl) ?_
        refine al_27 hx hb hK hT hq13 (by omega) (by omega) dX1_roundBits_17 (fun x17 e17 g17 => ?_)
        have hF := bn hF e17
        refine lv_iload_n hx hb dX1_roundBits_18 rfl (lv_at hl 2 rfl) ?_
        have J28 : ∀ (ls : Array Slot) (H : Heap) (locs : List Loc) (y28_1 : Int32), D_X1_roundBits_28 (D_X1_roundBits_4 (σ o0) n4) y4_2.toInt y28_1.toInt = some out → TY z (zA z) σ H → va_S (zA z) s.heap H locs → lv_has ls 3 [(0, .ref h0), (1, .int y28_1), (2, .int y4_2)] → W p l e (rmF 1 64) s m ([.ref h0] : List Value).toArray below meth c H locs 0 0 (MQ below (QcI z (fun r H => some r.toInt = some out ∧ TY z (zA z) σ H)) ([.ref h0] : List Value).toArray s 0 0 (zA z)) (F0 m 28 ls []) := by
          intro ls H locs y28_1 hF hT hS hl
          unfold D_X1_roundBits_28 at hF
          refine r_iinc (lv' := fun v__ => [(2, .int v__), (0, .ref h0), (1, .int y28_1)]) hx hb dX1_roundBits_28 hl (k := 2) rfl (by decide) (fun _ => rfl) ⟨by decide, by decide⟩ (by omega) (by omega) (fun x28 ls e28 hl => ?_)
          have hF := bn hF e28
          refine lv_goto (tgt := 4) hx hb dX1_roundBits_31 (by decide) ?_
          exact ih4 ls _ _ y28_1 x28 (by omega) hF hT hS (lv_sub hl [1, 2, 0] rfl)
        refine r_icmp_ne (tgt := 28) hx hb dX1_roundBits_19 (by decide) (fun c19 => ?_) (fun c19 => ?_)
        · have hF := ifn hF c19
          exact J28 ls _ _ y4_1 hF hT hS (lv_sub hl [0, 1, 2] rfl)
        · have hF := ifp hF c19
          refine lv_iload_n hx hb dX1_roundBits_22 rfl (lv_at hl 1 rfl) ?_
          refine r_iconst hx hb dX1_roundBits_23 (by decide) (by decide) (fun x23 e23 => ?_)
          have hF := bn hF e23
          refine lv_iload_n hx hb dX1_roundBits_24 rfl (lv_at hl 2 rfl) ?_
          refine x_shl1 hx hb dX1_roundBits_25 (by omega) (by omega) (by omega) (fun x25 e25 g25 h25 => ?_)
          have hF := bn hF e25
          refine x_ior hx hb dX1_roundBits_26 (fun x26 e26 => ?_)
          have hF := bn hF e26
          refine lv_istore_n (lv' := [(1, .int x26), (0, .ref h0), (2, .int y4_2)]) hx hb dX1_roundBits_27 rfl hl (by decide) rfl (fun ls hl => ?_)
          exact J28 ls _ _ x26 hF hT hS (lv_sub hl [1, 0, 2] rfl)
  exact J4 5000 ls _ _ x0 x2 (by omega) hF hT hS (lv_sub hl [2, 1, 0] rfl)
theorem k_X1_womanWith : cBV yX1_womanWith cX1_womanWith 3 (some .int) 1 := ⟨mw_3_3, mw_3_4, mw_1_4, mw_3_5, ⟨by decide, by decide, by decide⟩⟩
set_option maxHeartbeats 4000000 in
set_option maxRecDepth 100000 in
theorem c_X1_womanWith (l : Launch) (z : Zt) (σ : Sg) (h0 o0 : Nat) (g0 : zG z h0 = (11, o0)) (p1 : Int32) (out : Int) (hF : D_X1_womanWith (σ o0) p1.toInt = some out) : Met l yX1_womanWith (uw yX1_womanWith cX1_womanWith 3 (some .int)) (rmF 1 64) (PcW z [.ref h0, .int p1] (fun H => TY z (zA z) σ H)) (QcI z (fun r H => some r.toInt = some out ∧ TY z (zA z) σ H)) 0 0 (zA z) := by
  refine Met.ofW (cc := cX1_womanWith) (maxL := 3) (ret := (some .int)) (by decide) rfl ?_
  intro p e s m args below meth c s₁ B hml hv
  obtain ⟨rfl, hT, hK, hSK⟩ := hv
  have hx := B.exec
  have hb := B.bytes
  have hr := B.returns
  have hts : ∀ w ∈ lw_ok, w.before ([.ref h0, .int p1] : List Value).toArray s = true := fun w hw => atoms_spec (ws := uw yX1_womanWith cX1_womanWith 3 (some .int)) B.pre w (List.mem_cons_of_mem _ hw)
  have hown : s.vm.findClass RX1 = some m.cls := findClass_of_methodNamed B.named
  have hlk := B.notSynchronized
  have hC : CallFix p m c cX1_womanWith 3 s ([.ref h0, .int p1] : List Value).toArray lw_ok RX1 := ⟨hx, hb, hml, hown, hts⟩
  have hS : va_S (zA z) s.heap s.heap [] := va_S.rf
  have hl := lv_entry ([.ref h0, .int p1]) (n := 3) (Nat.le_of_ble_eq_true rfl)
  rw [lg_entry_eq]
  generalize (lg_sl ([.ref h0, .int p1]) ++ List.replicate (3 - (lg_sl ([.ref h0, .int p1])).length) Slot.unset).toArray = ls at hl ⊢
  have hl : lv_has ls 3 [(0, .ref h0), (1, .int p1)] := hl
  show W p l e (rmF 1 64) s m ([.ref h0, .int p1] : List Value).toArray below meth c s.heap [] 0 0 (MQ below (QcI z (fun r H => some r.toInt = some out ∧ TY z (zA z) σ H)) ([.ref h0, .int p1] : List Value).toArray s 0 0 (zA z)) (F0 m 0 ls [])
  unfold D_X1_womanWith at hF
  have mx_p1 := i_mx p1
  refine r_iconst hx hb dX1_womanWith_0 (by decide) (by decide) (fun x0 e0 => ?_)
  have hF := bn hF e0
  refine lv_istore_n (lv' := [(2, .int x0), (0, .ref h0), (1, .int p1)]) hx hb dX1_womanWith_1 rfl hl (by decide) rfl (fun ls hl => ?_)
  have J2 : ∀ (n2 : Nat) (ls : Array Slot) (H : Heap) (locs : List Loc) (y2_2 : Int32), (0 ≤ y2_2.toInt ∧ y2_2.toInt ≤ 5) → D_X1_womanWith_2 p1.toInt (σ o0) n2 y2_2.toInt = some out → TY z (zA z) σ H → va_S (zA z) s.heap H locs → lv_has ls 3 [(0, .ref h0), (1, .int p1), (2, .int y2_2)] → W p l e (rmF 1 64) s m ([.ref h0, .int p1] : List Value).toArray below meth c H locs 0 0 (MQ below (QcI z (fun r H => some r.toInt = some out ∧ TY z (zA z) σ H)) ([.ref h0, .int p1] : List Value).toArray s 0 0 (zA z)) (F0 m 2 ls []) := by
    intro n2
    induction n2 with
    | zero => intro ls H locs y2_2 j2_y2_2 hF hT hS hl; exact (no_s hF).elim
    | succ n2 ih2 =>
      intro ls H locs y2_2 j2_y2_2 hF hT hS hl
      rw [D_X1_womanWith_2.eq_2] at hF
      refine lv_iload_n hx hb dX1_womanWith_2 rfl (lv_at hl 2 rfl) ?_
      refine lv_aload_n hx hb dX1_womanWith_3 rfl (lv_at hl 0 rfl) ?_
      refine gt_Floor_men hx hb hts ic_Floor hown hK hT g0 (hts _ mw_1_60) dX1_womanWith_4 (fun x4 e4 f4 g4 => ?_)
      have hF := bn hF e4
      refine r_icmp_ge (tgt := 28) hx hb dX1_womanWith_7 (by decide) (fun c7 => ?_) (fun c7 => ?_)
      · have hF := ifn hF (Int.not_lt.mpr c7)
        refine r_bipush hx hb dX1_womanWith_28 rfl (fun x28 e28 => ?_)
        have hF := bn hF e28
        exact rt_i hx hb hr hlk hS ⟨hF, hT⟩ dX1_womanWith_30
      · have hF := ifp hF c7
        refine lv_aload_n hx hb dX1_womanWith_10 rfl (lv_at hl 0 rfl) ?_
        refine gt_Floor_partner hx hb hts ic_Floor hown hK hT g0 (hts _ mw_1_51) dX1_womanWith_11 (fun q11 hq11 => ?_)
        refine lv_iload_n hx hb dX1_womanWith_14 rfl (lv_at hl 2 rfl) ?_
        refine al_27 hx hb hK hT hq11 (by omega) (by omega) dX1_womanWith_15 (fun x15 e15 g15 => ?_)
        have hF := bn hF e15
        refine lv_iload_n hx hb dX1_womanWith_16 rfl (lv_at hl 1 rfl) ?_
        refine r_icmp_ne (tgt := 22) hx hb dX1_womanWith_17 (by decide) (fun c17 => ?_) (fun c17 => ?_)
        · have hF := ifn hF c17
          refine r_iinc (lv' := fun v__ => [(2, .int v__), (0, .ref h0), (1, .int p1)]) hx hb dX1_womanWith_22 hl (k := 2) rfl (by decide) (fun _ => rfl) ⟨by decide, by decide⟩ (by omega) (by omega) (fun x22 ls e22 hl => ?_)
          have hF := bn hF e22
          refine lv_goto (tgt := 2) hx hb dX1_womanWith_25 (by decide) ?_
          exact ih2 ls _ _ x22 (by omega) hF hT hS (lv_sub hl [1, 2, 0] rfl)
        · have hF := ifp hF c17
          refine lv_iload_n hx hb dX1_womanWith_20 rfl (lv_at hl 2 rfl) ?_
          exact rt_i hx hb hr hlk hS ⟨hF, hT⟩ dX1_womanWith_21
  exact J2 5000 ls _ _ x0 (by omega) hF hT hS (lv_sub hl [1, 2, 0] rfl)
theorem k_X1_isPairedAs : cBV yX1_isPairedAs cX1_isPairedAs 3 (some .boolean) 1 := ⟨mw_3_137, mw_3_138, mw_1_4, mw_3_139, ⟨by decide, by decide, by decide⟩⟩
set_option maxHeartbeats 4000000 in
set_option maxRecDepth 100000 in
theorem c_X1_isPairedAs (l : Launch) (z : Zt) (σ : Sg) (h0 o0 : Nat) (g0 : zG z h0 = (11, o0)) (ra1 ora1 : Nat) (hra1 : zG z ra1 = (11, ora1)) (out : Int) (hF : D_X1_isPairedAs o0 ora1 σ = some out) : Met l yX1_isPairedAs (uw yX1_isPairedAs cX1_isPairedAs 3 (some .boolean)) (rmF 1 64) (PcW z [.ref h0, .ref ra1] (fun H => TY z (zA z) σ H)) (QcI z (fun r H => some r.toInt = some out ∧ TY z (zA z) σ H ∧ (0 ≤ r.toInt ∧ r.toInt ≤ 1))) 0 0 (zA z) := by
  refine Met.ofW (cc := cX1_isPairedAs) (maxL := 3) (ret := (some .boolean)) (by decide) rfl ?_
  intro p e s m args below meth c s₁ B hml hv
  obtain ⟨rfl, hT, hK, hSK⟩ := hv
  have hx := B.exec
  have hb := B.bytes
  have hr := B.returns
  have hts : ∀ w ∈ lw_ok, w.before ([.ref h0, .ref ra1] : List Value).toArray s = true := fun w hw => atoms_spec (ws := uw yX1_isPairedAs cX1_isPairedAs 3 (some .boolean)) B.pre w (List.mem_cons_of_mem _ hw)
  have hown : s.vm.findClass RX1 = some m.cls := findClass_of_methodNamed B.named
  have hlk := B.notSynchronized
  have hC : CallFix p m c cX1_isPairedAs 3 s ([.ref h0, .ref ra1] : List Value).toArray lw_ok RX1 := ⟨hx, hb, hml, hown, hts⟩
  have hS : va_S (zA z) s.heap s.heap [] := va_S.rf
  have hl := lv_entry ([.ref h0, .ref ra1]) (n := 3) (Nat.le_of_ble_eq_true rfl)
  rw [lg_entry_eq]
  generalize (lg_sl ([.ref h0, .ref ra1]) ++ List.replicate (3 - (lg_sl ([.ref h0, .ref ra1])).length) Slot.unset).toArray = ls at hl ⊢
  have hl : lv_has ls 3 [(0, .ref h0), (1, .ref ra1)] := hl
  show W p l e (rmF 1 64) s m ([.ref h0, .ref ra1] : List Value).toArray below meth c s.heap [] 0 0 (MQ below (QcI z (fun r H => some r.toInt = some out ∧ TY z (zA z) σ H ∧ (0 ≤ r.toInt ∧ r.toInt ≤ 1))) ([.ref h0, .ref ra1] : List Value).toArray s 0 0 (zA z)) (F0 m 0 ls [])
  unfold D_X1_isPairedAs at hF
  refine r_iconst hx hb dX1_isPairedAs_0 (by decide) (by decide) (fun x0 e0 => ?_)
  have hF := bn hF e0
  refine lv_istore_n (lv' := [(2, .int x0), (0, .ref h0), (1, .ref ra1)]) hx hb dX1_isPairedAs_1 rfl hl (by decide) rfl (fun ls hl => ?_)
  have J2 : ∀ (n2 : Nat) (ls : Array Slot) (H : Heap) (locs : List Loc) (y2_2 : Int32), (0 ≤ y2_2.toInt ∧ y2_2.toInt ≤ 5) → D_X1_isPairedAs_2 o0 ora1 σ n2 y2_2.toInt = some out → TY z (zA z) σ H → va_S (zA z) s.heap H locs → lv_has ls 3 [(0, .ref h0), (1, .ref ra1), (2, .int y2_2)] → W p l e (rmF 1 64) s m ([.ref h0, .ref ra1] : List Value).toArray below meth c H locs 0 0 (MQ below (QcI z (fun r H => some r.toInt = some out ∧ TY z (zA z) σ H ∧ (0 ≤ r.toInt ∧ r.toInt ≤ 1))) ([.ref h0, .ref ra1] : List Value).toArray s 0 0 (zA z)) (F0 m 2 ls []) := by
    intro n2
    induction n2 with
    | zero => intro ls H locs y2_2 j2_y2_2 hF hT hS hl; exact (no_s hF).elim
    | succ n2 ih2 =>
      intro ls H locs y2_2 j2_y2_2 hF hT hS hl
      rw [D_X1_isPairedAs_2.eq_2] at hF
      refine lv_iload_n hx hb dX1_isPairedAs_2 rfl (lv_at hl 2 rfl) ?_
      refine lv_aload_n hx hb dX1_isPairedAs_3 rfl (lv_at hl 0 rfl) ?_
      refine gt_Floor_men hx hb hts ic_Floor hown hK hT g0 (hts _ mw_1_60) dX1_isPairedAs_4 (fun x4 e4 f4 g4 => ?_)
      have hF := bn hF e4
      refine r_icmp_ge (tgt := 33) hx hb dX1_isPairedAs_7 (by decide) (fun c7 => ?_) (fun c7 => ?_)
      · have hF := ifn hF (Int.not_lt.mpr c7)
        refine r_iconst hx hb dX1_isPairedAs_33 (by decide) (by decide) (fun x33 e33 => ?_)
        have hF := bn hF e33
        exact rt_z hx hb hr hlk hS (by omega) (by omega) ⟨hF, hT, (by omega)⟩ dX1_isPairedAs_34
      · have hF := ifp hF c7
        refine lv_aload_n hx hb dX1_isPairedAs_10 rfl (lv_at hl 0 rfl) ?_
        refine gt_Floor_partner hx hb hts ic_Floor hown hK hT g0 (hts _ mw_1_51) dX1_isPairedAs_11 (fun q11 hq11 => ?_)
        refine lv_iload_n hx hb dX1_isPairedAs_14 rfl (lv_at hl 2 rfl) ?_
        refine al_27 hx hb hK hT hq11 (by omega) (by omega) dX1_isPairedAs_15 (fun x15 e15 g15 => ?_)
        have hF := bn hF e15
        refine lv_aload_n hx hb dX1_isPairedAs_16 rfl (lv_at hl 1 rfl) ?_
        refine gt_Floor_partner hx hb hts ic_Floor hown hK hT hra1 (hts _ mw_1_51) dX1_isPairedAs_17 (fun q17 hq17 => ?_)
        refine lv_iload_n hx hb dX1_isPairedAs_20 rfl (lv_at hl 2 rfl) ?_
        refine al_27 hx hb hK hT hq17 (by omega) (by omega) dX1_isPairedAs_21 (fun x21 e21 g21 => ?_)
        have hF := bn hF e21
        refine r_icmp_eq (tgt := 27) hx hb dX1_isPairedAs_22 (by decide) (fun c22 => ?_) (fun c22 => ?_)
        · have hF := ifp hF c22
          refine r_iinc (lv' := fun v__ => [(2, .int v__), (0, .ref h0), (1, .ref ra1)]) hx hb dX1_isPairedAs_27 hl (k := 2) rfl (by decide) (fun _ => rfl) ⟨by decide, by decide⟩ (by omega) (by omega) (fun x27 ls e27 hl => ?_)
          have hF := bn hF e27
          refine lv_goto (tgt := 2) hx hb dX1_isPairedAs_30 (by decide) ?_
          exact ih2 ls _ _ x27 (by omega) hF hT hS (lv_sub hl [1, 2, 0] rfl)
        · have hF := ifn hF c22
          refine r_iconst hx hb dX1_isPairedAs_25 (by decide) (by decide) (fun x25 e25 => ?_)
          have hF := bn hF e25
          exact rt_z hx hb hr hlk hS (by omega) (by omega) ⟨hF, hT, (by omega)⟩ dX1_isPairedAs_26
  exact J2 5000 ls _ _ x0 (by omega) hF hT hS (lv_sub hl [1, 2, 0] rfl)
theorem k_X1_copyFrom : cBV yX1_copyFrom cX1_copyFrom 3 none 1 := ⟨mw_2_201, mw_2_202, mw_1_4, mw_2_203, ⟨by decide, by decide, by decide⟩⟩
set_option maxHeartbeats 4000000 in
set_option maxRecDepth 100000 in
theorem c_X1_copyFrom (l : Launch) (z : Zt) (σ : Sg) (h0 o0 : Nat) (g0 : zG z h0 = (11, o0)) (ra1 ora1 : Nat) (hra1 : zG z ra1 = (11, ora1)) (out : Sg) (hF : D_X1_copyFrom o0 ora1 σ = some out) : Met l yX1_copyFrom (uw yX1_copyFrom cX1_copyFrom 3 none) (rmF 1 64) (PcW z [.ref h0, .ref ra1] (fun H => TY z (zA z) σ H)) (QcV z (fun H => ∃ σ' : Sg, some (σ') = some out ∧ TY z (zA z) σ' H)) 0 0 (zA z) := by
  refine Met.ofW (cc := cX1_copyFrom) (maxL := 3) (ret := none) (by decide) rfl ?_
  intro p e s m args below meth c s₁ B hml hv
  obtain ⟨rfl, hT, hK, hSK⟩ := hv
  have hx := B.exec
  have hb := B.bytes
  have hr := B.returns
  have hts : ∀ w ∈ lw_ok, w.before ([.ref h0, .ref ra1] : List Value).toArray s = true := fun w hw => atoms_spec (ws := uw yX1_copyFrom cX1_copyFrom 3 none) B.pre w (List.mem_cons_of_mem _ hw)
  have hown : s.vm.findClass RX1 = some m.cls := findClass_of_methodNamed B.named
  have hlk := B.notSynchronized
  have hC : CallFix p m c cX1_copyFrom 3 s ([.ref h0, .ref ra1] : List Value).toArray lw_ok RX1 := ⟨hx, hb, hml, hown, hts⟩
  have hS : va_S (zA z) s.heap s.heap [] := va_S.rf
  have hl := lv_entry ([.ref h0, .ref ra1]) (n := 3) (Nat.le_of_ble_eq_true rfl)
  rw [lg_entry_eq]
  generalize (lg_sl ([.ref h0, .ref ra1]) ++ List.replicate (3 - (lg_sl ([.ref h0, .ref ra1])).length) Slot.unset).toArray = ls at hl ⊢
  have hl : lv_has ls 3 [(0, .ref h0), (1, .ref ra1)] := hl
  show W p l e (rmF 1 64) s m ([.ref h0, .ref ra1] : List Value).toArray below meth c s.heap [] 0 0 (MQ below (QcV z (fun H => ∃ σ' : Sg, some (σ') = some out ∧ TY z (zA z) σ' H)) ([.ref h0, .ref ra1] : List Value).toArray s 0 0 (zA z)) (F0 m 0 ls [])
  unfold D_X1_copyFrom at hF
  refine lv_aload_n hx hb dX1_copyFrom_0 rfl (lv_at hl 0 rfl) ?_
  refine lv_aload_n hx hb dX1_copyFrom_1 rfl (lv_at hl 1 rfl) ?_
  refine gt_Floor_men hx hb hts ic_Floor hown hK hT hra1 (hts _ mw_1_60) dX1_copyFrom_2 (fun x2 e2 f2 g2 => ?_)
  have hF := bn hF e2
  refine pt_Floor_men hx hb hts ic_Floor hown hK hT hS g0 (hts _ mw_1_60) (by omega) (by omega) dX1_copyFrom_5 (fun H locs hT hS => ?_)
  obtain ⟨σ5, hF, hT⟩ := wrG hF hT
  refine lv_aload_n hx hb dX1_copyFrom_8 rfl (lv_at hl 0 rfl) ?_
  refine lv_aload_n hx hb dX1_copyFrom_9 rfl (lv_at hl 1 rfl) ?_
  refine gt_Floor_danced hx hb hts ic_Floor hown hK hT hra1 (hts _ mw_1_64) dX1_copyFrom_10 (fun x10 e10 f10 g10 => ?_)
  have hF := bn hF e10
  refine pt_Floor_danced hx hb hts ic_Floor hown hK hT hS g0 (hts _ mw_1_64) (by omega) (by omega) dX1_copyFrom_13 (fun H locs hT hS => ?_)
  obtain ⟨σ13, hF, hT⟩ := wrG hF hT
  refine r_iconst hx hb dX1_copyFrom_16 (by decide) (by decide) (fun x16 e16 => ?_)
  have hF := bn hF e16
  refine lv_istore_n (lv' := [(2, .int x16), (0, .ref h0), (1, .ref ra1)]) hx hb dX1_copyFrom_17 rfl hl (by decide) rfl (fun ls hl => ?_)
  have J18 : ∀ (n18 : Nat) (ls : Array Slot) (H : Heap) (locs : List Loc) (y18_2 : Int32) (σj18 : Sg), (0 ≤ y18_2.toInt ∧ y18_2.toInt ≤ 5) → D_X1_copyFrom_18 o0 ora1 n18 σj18 y18_2.toInt = some out → TY z (zA z) σj18 H → va_S (zA z) s.heap H locs → lv_has ls 3 [(0, .ref h0), (1, .ref ra1), (2, .int y18_2)] → W p l e (rmF 1 64) s m ([.ref h0, .ref ra1] : List Value).toArray below meth c H locs 0 0 (MQ below (QcV z (fun H => ∃ σ' : Sg, some (σ') = some out ∧ TY z (zA z) σ' H)) ([.ref h0, .ref ra1] : List Value).toArray s 0 0 (zA z)) (F0 m 18 ls []) := by
    intro n18
    induction n18 with
    | zero => intro ls H locs y18_2 σj18 j18_y18_2 hF hT hS hl; exact (no_s hF).elim
    | succ n18 ih18 =>
      intro ls H locs y18_2 σj18 j18_y18_2 hF hT hS hl
      rw [D_X1_copyFrom_18.eq_2] at hF
      refine lv_iload_n hx hb dX1_copyFrom_18 rfl (lv_at hl 2 rfl) ?_
      refine lv_aload_n hx hb dX1_copyFrom_19 rfl (lv_at hl 0 rfl) ?_
      refine gt_Floor_men hx hb hts ic_Floor hown hK hT g0 (hts _ mw_1_60) dX1_copyFrom_20 (fun x20 e20 f20 g20 => ?_)
      have hF := bn hF e20
      refine r_icmp_ge (tgt := 92) hx hb dX1_copyFrom_23 (by decide) (fun c23 => ?_) (fun c23 => ?_)
      · have hF := ifn hF (Int.not_lt.mpr c23)
        exact rt_v hx hb hr hlk hS ⟨σj18, hF, hT⟩ dX1_copyFrom_92
      · have hF := ifp hF c23
        refine lv_aload_n hx hb dX1_copyFrom_26 rfl (lv_at hl 0 rfl) ?_
        refine gt_Floor_kind hx hb hts ic_Floor hown hK hT g0 (hts _ mw_1_43) dX1_copyFrom_27 (fun q27 hq27 => ?_)
        refine lv_iload_n hx hb dX1_copyFrom_30 rfl (lv_at hl 2 rfl) ?_
        refine lv_aload_n hx hb dX1_copyFrom_31 rfl (lv_at hl 1 rfl) ?_
        refine gt_Floor_kind hx hb hts ic_Floor hown hK hT hra1 (hts _ mw_1_43) dX1_copyFrom_32 (fun q32 hq32 => ?_)
        refine lv_iload_n hx hb dX1_copyFrom_35 rfl (lv_at hl 2 rfl) ?_
        refine al_51 hx hb hK hT hq32 (by omega) (by omega) dX1_copyFrom_36 (fun x36 e36 => ?_)
        have hF := bn hF e36
        refine as_51 hx hb hK hT hS hq27 (by omega) (by omega) dX1_copyFrom_37 (fun H locs hT hS => ?_)
        obtain ⟨σ37, hF, hT⟩ := wrG hF hT
        refine lv_aload_n hx hb dX1_copyFrom_38 rfl (lv_at hl 0 rfl) ?_
        refine gt_Floor_height hx hb hts ic_Floor hown hK hT g0 (hts _ mw_1_45) dX1_copyFrom_39 (fun q39 hq39 => ?_)
        refine lv_iload_n hx hb dX1_copyFrom_42 rfl (lv_at hl 2 rfl) ?_
        refine lv_aload_n hx hb dX1_copyFrom_43 rfl (lv_at hl 1 rfl) ?_
        refine gt_Floor_height hx hb hts ic_Floor hown hK hT hra1 (hts _ mw_1_45) dX1_copyFrom_44 (fun q44 hq44 => ?_)
        refine lv_iload_n hx hb dX1_copyFrom_47 rfl (lv_at hl 2 rfl) ?_
        refine al_52 hx hb hK hT hq44 (by omega) (by omega) dX1_copyFrom_48 (fun x48 e48 g48 => ?_)
        have hF := bn hF e48
        refine as_52 hx hb hK hT hS hq39 (by omega) (by omega) ⟨by omega, by omega⟩ dX1_copyFrom_49 (fun H locs hT hS => ?_)
        obtain ⟨σ49, hF, hT⟩ := wrG hF hT
        refine lv_aload_n hx hb dX1_copyFrom_50 rfl (lv_at hl 0 rfl) ?_
        refine gt_Floor_heels hx hb hts ic_Floor hown hK hT g0 (hts _ mw_1_47) dX1_copyFrom_51 (fun q51 hq51 => ?_)
        refine lv_iload_n hx hb dX1_copyFrom_54 rfl (lv_at hl 2 rfl) ?_
        refine lv_aload_n hx hb dX1_copyFrom_55 rfl (lv_at hl 1 rfl) ?_
        refine gt_Floor_heels hx hb hts ic_Floor hown hK hT hra1 (hts _ mw_1_47) dX1_copyFrom_56 (fun q56 hq56 => ?_)
        refine lv_iload_n hx hb dX1_copyFrom_59 rfl (lv_at hl 2 rfl) ?_
        refine al_53 hx hb hK hT hq56 (by omega) (by omega) dX1_copyFrom_60 (fun x60 e60 g60 => ?_)
        have hF := bn hF e60
        refine as_53 hx hb hK hT hS hq51 (by omega) (by omega) ⟨by omega, by omega⟩ dX1_copyFrom_61 (fun H locs hT hS => ?_)
        obtain ⟨σ61, hF, hT⟩ := wrG hF hT
        refine lv_aload_n hx hb dX1_copyFrom_62 rfl (lv_at hl 0 rfl) ?_
        refine gt_Floor_heat hx hb hts ic_Floor hown hK hT g0 (hts _ mw_1_49) dX1_copyFrom_63 (fun q63 hq63 => ?_)
        refine lv_iload_n hx hb dX1_copyFrom_66 rfl (lv_at hl 2 rfl) ?_
        refine lv_aload_n hx hb dX1_copyFrom_67 rfl (lv_at hl 1 rfl) ?_
        refine gt_Floor_heat hx hb hts ic_Floor hown hK hT hra1 (hts _ mw_1_49) dX1_copyFrom_68 (fun q68 hq68 => ?_)
        refine lv_iload_n hx hb dX1_copyFrom_71 rfl (lv_at hl 2 rfl) ?_
        refine al_54 hx hb hK hT hq68 (by omega) (by omega) dX1_copyFrom_72 (fun x72 e72 g72 => ?_)
        have hF := bn hF e72
        refine as_54 hx hb hK hT hS hq63 (by omega) (by omega) ⟨by omega, by omega⟩ dX1_copyFrom_73 (fun H locs hT hS => ?_)
        obtain ⟨σ73, hF, hT⟩ := wrG hF hT
        refine lv_aload_n hx hb dX1_copyFrom_74 rfl (lv_at hl 0 rfl) ?_
        refine gt_Floor_partner hx hb hts ic_Floor hown hK hT g0 (hts _ mw_1_51) dX1_copyFrom_75 (fun q75 hq75 => ?_)
        refine lv_iload_n hx hb dX1_copyFrom_78 rfl (lv_at hl 2 rfl) ?_
        refine lv_aload_n hx hb dX1_copyFrom_79 rfl (lv_at hl 1 rfl) ?_
        refine gt_Floor_partner hx hb hts ic_Floor hown hK hT hra1 (hts _ mw_1_51) dX1_copyFrom_80 (fun q80 hq80 => ?_)
        refine lv_iload_n hx hb dX1_copyFrom_83 rfl (lv_at hl 2 rfl) ?_
        refine al_27 hx hb hK hT hq80 (by omega) (by omega) dX1_copyFrom_84 (fun x84 e84 g84 => ?_)
        have hF := bn hF e84
        refine as_27 hx hb hK hT hS hq75 (by omega) (by omega) ⟨by omega, by omega⟩ dX1_copyFrom_85 (fun H locs hT hS => ?_)
        obtain ⟨σ85, hF, hT⟩ := wrG hF hT
        refine r_iinc (lv' := fun v__ => [(2, .int v__), (0, .ref h0), (1, .ref ra1)]) hx hb dX1_copyFrom_86 hl (k := 2) rfl (by decide) (fun _ => rfl) ⟨by decide, by decide⟩ (by omega) (by omega) (fun x86 ls e86 hl => ?_)
        have hF := bn hF e86
        refine lv_goto (tgt := 18) hx hb dX1_copyFrom_89 (by decide) ?_
        exact ih18 ls _ _ x86 σ85 (by omega) hF hT hS (lv_sub hl [1, 2, 0] rfl)
  exact J18 5000 ls _ _ x16 σ13 (by omega) hF hT hS (lv_sub hl [1, 2, 0] rfl)
theorem k_X1_addMan : cBV yX1_addMan cX1_addMan 4 none 3 := ⟨mw_2_148, mw_2_149, mw_1_4, mw_2_150, ⟨by decide, by decide, by decide⟩⟩
set_option maxHeartbeats 4000000 in
set_option maxRecDepth 100000 in
theorem c_X1_addMan (l : Launch) (z : Zt) (σ : Sg) (h0 o0 : Nat) (g0 : zG z h0 = (11, o0)) (p1 : Int32) (p2 : Int32) (p3 : Int32) (out : Lo) (hF : D_X1_addMan (σ o0) p1.toInt p2.toInt p3.toInt = some out) (bp2 : 0 ≤ p2.toInt ∧ p2.toInt ≤ 9) (bp3 : 0 ≤ p3.toInt ∧ p3.toInt ≤ 9) : Met l yX1_addMan (uw yX1_addMan cX1_addMan 4 none) (rmF 1 64) (PcW z [.ref h0, .int p1, .int p2, .int p3] (fun H => TY z (zA z) σ H)) (QcV z (fun H => ∃ σ' : Sg, some (σ' o0) = some out ∧ FR σ σ' o0 ∧ TY z (zA z) σ' H)) 0 0 (zA z) := by
  refine Met.ofW (cc := cX1_addMan) (maxL := 4) (ret := none) (by decide) rfl ?_
  intro p e s m args below meth c s₁ B hml hv
  obtain ⟨rfl, hT, hK, hSK⟩ := hv
  have hx := B.exec
  have hb := B.bytes
  have hr := B.returns
  have hts : ∀ w ∈ lw_ok, w.before ([.ref h0, .int p1, .int p2, .int p3] : List Value).toArray s = true := fun w hw => atoms_spec (ws := uw yX1_addMan cX1_addMan 4 none) B.pre w (List.mem_cons_of_mem _ hw)
  have hown : s.vm.findClass RX1 = some m.cls := findClass_of_methodNamed B.named
  have hlk := B.notSynchronized
  have hC : CallFix p m c cX1_addMan 4 s ([.ref h0, .int p1, .int p2, .int p3] : List Value).toArray lw_ok RX1 := ⟨hx, hb, hml, hown, hts⟩
  have hS : va_S (zA z) s.heap s.heap [] := va_S.rf
  have hl := lv_entry ([.ref h0, .int p1, .int p2, .int p3]) (n := 4) (Nat.le_of_ble_eq_true rfl)
  rw [lg_entry_eq]
  generalize (lg_sl ([.ref h0, .int p1, .int p2, .int p3]) ++ List.replicate (4 - (lg_sl ([.ref h0, .int p1, .int p2, .int p3])).length) Slot.unset).toArray = ls at hl ⊢
  have hl : lv_has ls 4 [(0, .ref h0), (1, .int p1), (2, .int p2), (3, .int p3)] := hl
  show W p l e (rmF 1 64) s m ([.ref h0, .int p1, .int p2, .int p3] : List Value).toArray below meth c s.heap [] 0 0 (MQ below (QcV z (fun H => ∃ σ' : Sg, some (σ' o0) = some out ∧ FR σ σ' o0 ∧ TY z (zA z) σ' H)) ([.ref h0, .int p1, .int p2, .int p3] : List Value).toArray s 0 0 (zA z)) (F0 m 0 ls [])
  have hfr : FR σ σ o0 := FR_rf σ o0
  unfold D_X1_addMan at hF
  have mx_p1 := i_mx p1
  refine lv_aload_n hx hb dX1_addMan_0 rfl (lv_at hl 0 rfl) ?_
  refine gt_Floor_men hx hb hts ic_Floor hown hK hT g0 (hts _ mw_1_60) dX1_addMan_1 (fun x1 e1 f1 g1 => ?_)
  have hF := bn hF e1
  refine r_iconst hx hb dX1_addMan_4 (by decide) (by decide) (fun x4 e4 => ?_)
  have hF := bn hF e4
  refine r_icmp_ge (tgt := 71) hx hb dX1_addMan_5 (by decide) (fun c5 => ?_) (fun c5 => ?_)
  · have hF := ifn hF (Int.not_lt.mpr c5)
    exact rt_v hx hb hr hlk hS ⟨σ, hF, hfr, hT⟩ dX1_addMan_71
  · have hF := ifp hF c5
    refine lv_aload_n hx hb dX1_addMan_8 rfl (lv_at hl 0 rfl) ?_
    refine gt_Floor_kind hx hb hts ic_Floor hown hK hT g0 (hts _ mw_1_43) dX1_addMan_9 (fun q9 hq9 => ?_)
    refine lv_aload_n hx hb dX1_addMan_12 rfl (lv_at hl 0 rfl) ?_
    refine gt_Floor_men hx hb hts ic_Floor hown hK hT g0 (hts _ mw_1_60) dX1_addMan_13 (fun x13 e13 f13 g13 => ?_)
    have hF := bn hF e13
    refine lv_iload_n hx hb dX1_addMan_16 rfl (lv_at hl 1 rfl) ?_
    obtain ⟨kb17, hF⟩ := ck hF
    refine as_51 hx hb hK hT hS hq9 (by omega) (by omega) dX1_addMan_17 (fun H locs hT hS => ?_)
    obtain ⟨σ17, hF, hfr, hT⟩ := wrL hF hfr hT
    refine lv_aload_n hx hb dX1_addMan_18 rfl (lv_at hl 0 rfl) ?_
    refine gt_Floor_height hx hb hts ic_Floor hown hK hT g0 (hts _ mw_1_45) dX1_addMan_19 (fun q19 hq19 => ?_)
    refine lv_aload_n hx hb dX1_addMan_22 rfl (lv_at hl 0 rfl) ?_
    refine gt_Floor_men hx hb hts ic_Floor hown hK hT g0 (hts _ mw_1_60) dX1_addMan_23 (fun x23 e23 f23 g23 => ?_)
    have hF := bn hF e23
    refine lv_iload_n hx hb dX1_addMan_26 rfl (lv_at hl 2 rfl) ?_
    obtain ⟨kb27, hF⟩ := ck hF
    refine as_52 hx hb hK hT hS hq19 (by omega) (by omega) ⟨by omega, by omega⟩ dX1_addMan_27 (fun H locs hT hS => ?_)
    obtain ⟨σ27, hF, hfr, hT⟩ := wrL hF hfr hT
    refine lv_aload_n hx hb dX1_addMan_28 rfl (lv_at hl 0 rfl) ?_
    refine gt_Floor_heels hx hb hts ic_Floor hown hK hT g0 (hts _ mw_1_47) dX1_addMan_29 (fun q29 hq29 => ?_)
    refine lv_aload_n hx hb dX1_addMan_32 rfl (lv_at hl 0 rfl) ?_
    refine gt_Floor_men hx hb hts ic_Floor hown hK hT g0 (hts _ mw_1_60) dX1_addMan_33 (fun x33 e33 f33 g33 => ?_)
    have hF := bn hF e33
    refine lv_iload_n hx hb dX1_addMan_36 rfl (lv_at hl 3 rfl) ?_
    obtain ⟨kb37, hF⟩ := ck hF
    refine as_53 hx hb hK hT hS hq29 (by omega) (by omega) ⟨by omega, by omega⟩ dX1_addMan_37 (fun H locs hT hS => ?_)
    obtain ⟨σ37, hF, hfr, hT⟩ := wrL hF hfr hT
    refine lv_aload_n hx hb dX1_addMan_38 rfl (lv_at hl 0 rfl) ?_
    refine gt_Floor_heat hx hb hts ic_Floor hown hK hT g0 (hts _ mw_1_49) dX1_addMan_39 (fun q39 hq39 => ?_)
    refine lv_aload_n hx hb dX1_addMan_42 rfl (lv_at hl 0 rfl) ?_
    refine gt_Floor_men hx hb hts ic_Floor hown hK hT g0 (hts _ mw_1_60) dX1_addMan_43 (fun x43 e43 f43 g43 => ?_)
    have hF := bn hF e43
    refine r_iconst hx hb dX1_addMan_46 (by decide) (by decide) (fun x46 e46 => ?_)
    have hF := bn hF e46
    obtain ⟨kb47, hF⟩ := ck hF
    refine as_54 hx hb hK hT hS hq39 (by omega) (by omega) ⟨by omega, by omega⟩ dX1_addMan_47 (fun H locs hT hS => ?_)
    obtain ⟨σ47, hF, hfr, hT⟩ := wrL hF hfr hT
    refine lv_aload_n hx hb dX1_addMan_48 rfl (lv_at hl 0 rfl) ?_
    refine gt_Floor_partner hx hb hts ic_Floor hown hK hT g0 (hts _ mw_1_51) dX1_addMan_49 (fun q49 hq49 => ?_)
    refine lv_aload_n hx hb dX1_addMan_52 rfl (lv_at hl 0 rfl) ?_
    refine gt_Floor_men hx hb hts ic_Floor hown hK hT g0 (hts _ mw_1_60) dX1_addMan_53 (fun x53 e53 f53 g53 => ?_)
    have hF := bn hF e53
    refine lv_aload_n hx hb dX1_addMan_56 rfl (lv_at hl 0 rfl) ?_
    refine gt_Floor_men hx hb hts ic_Floor hown hK hT g0 (hts _ mw_1_60) dX1_addMan_57 (fun x57 e57 f57 g57 => ?_)
    have hF := bn hF e57
    obtain ⟨kb60, hF⟩ := ck hF
    obtain ⟨kv60, hF⟩ := ck hF
    refine as_27 hx hb hK hT hS hq49 (by omega) (by omega) ⟨by omega, by omega⟩ dX1_addMan_60 (fun H locs hT hS => ?_)
    obtain ⟨σ60, hF, hfr, hT⟩ := wrL hF hfr hT
    refine lv_aload_n hx hb dX1_addMan_61 rfl (lv_at hl 0 rfl) ?_
    refine lv_dup hx hb dX1_addMan_62 rfl ?_
    refine gt_Floor_men hx hb hts ic_Floor hown hK hT g0 (hts _ mw_1_60) dX1_addMan_63 (fun x63 e63 f63 g63 => ?_)
    have hF := bn hF e63
    refine r_iconst hx hb dX1_addMan_66 (by decide) (by decide) (fun x66 e66 => ?_)
    have hF := bn hF e66
    refine r_iadd hx hb dX1_addMan_67 (by omega) (by omega) (fun x67 e67 => ?_)
    have hF := bn hF e67
    obtain ⟨k68, hF⟩ := ck hF
    refine pt_Floor_men hx hb hts ic_Floor hown hK hT hS g0 (hts _ mw_1_60) (by omega) (by omega) dX1_addMan_68 (fun H locs hT hS => ?_)
    obtain ⟨σ68, hF, hfr, hT⟩ := wrL hF hfr hT
    exact rt_v hx hb hr hlk hS ⟨σ68, hF, hfr, hT⟩ dX1_addMan_71
theorem k_X0_areKin : cBV yX0_areKin cX0_areKin 3 (some .boolean) 2 := ⟨mw_2_170, mw_2_171, mw_1_3, mw_2_172, ⟨by decide, by decide, by decide⟩⟩
set_option maxHeartbeats 4000000 in
set_option maxRecDepth 100000 in
theorem c_X0_areKin (l : Launch) (z : Zt) (σ : Sg) (h0 o0 : Nat) (g0 : zG z h0 = (10, o0)) (p1 : Int32) (p2 : Int32) (out : Int) (hF : D_X0_areKin (σ o0) p1.toInt p2.toInt = some out) (bp1 : 0 ≤ p1.toInt ∧ p1.toInt ≤ 4) : Met l yX0_areKin (uw yX0_areKin cX0_areKin 3 (some .boolean)) (rmF 1 64) (PcW z [.ref h0, .int p1, .int p2] (fun H => TY z (zA z) σ H)) (QcI z (fun r H => some r.toInt = some out ∧ TY z (zA z) σ H ∧ (0 ≤ r.toInt ∧ r.toInt ≤ 1))) 0 0 (zA z) := by
  refine Met.ofW (cc := cX0_areKin) (maxL := 3) (ret := (some .boolean)) (by decide) rfl ?_
  intro p e s m args below meth c s₁ B hml hv
  obtain ⟨rfl, hT, hK, hSK⟩ := hv
  have hx := B.exec
  have hb := B.bytes
  have hr := B.returns
  have hts : ∀ w ∈ lw_ok, w.before ([.ref h0, .int p1, .int p2] : List Value).toArray s = true := fun w hw => atoms_spec (ws := uw yX0_areKin cX0_areKin 3 (some .boolean)) B.pre w (List.mem_cons_of_mem _ hw)
  have hown : s.vm.findClass RX0 = some m.cls := findClass_of_methodNamed B.named
  have hlk := B.notSynchronized
  have hC : CallFix p m c cX0_areKin 3 s ([.ref h0, .int p1, .int p2] : List Value).toArray lw_ok RX0 := ⟨hx, hb, hml, hown, hts⟩
  have hS : va_S (zA z) s.heap s.heap [] := va_S.rf
  have hl := lv_entry ([.ref h0, .int p1, .int p2]) (n := 3) (Nat.le_of_ble_eq_true rfl)
  rw [lg_entry_eq]
  generalize (lg_sl ([.ref h0, .int p1, .int p2]) ++ List.replicate (3 - (lg_sl ([.ref h0, .int p1, .int p2])).length) Slot.unset).toArray = ls at hl ⊢
  have hl : lv_has ls 3 [(0, .ref h0), (1, .int p1), (2, .int p2)] := hl
  show W p l e (rmF 1 64) s m ([.ref h0, .int p1, .int p2] : List Value).toArray below meth c s.heap [] 0 0 (MQ below (QcI z (fun r H => some r.toInt = some out ∧ TY z (zA z) σ H ∧ (0 ≤ r.toInt ∧ r.toInt ≤ 1))) ([.ref h0, .int p1, .int p2] : List Value).toArray s 0 0 (zA z)) (F0 m 0 ls [])
  unfold D_X0_areKin at hF
  have mx_p2 := i_mx p2
  refine lv_aload_n hx hb dX0_areKin_0 rfl (lv_at hl 0 rfl) ?_
  refine gt_Evening_kin hx hb hts ic_Evening hown hK hT g0 (hts _ mw_1_93) dX0_areKin_1 (fun q1 hq1 => ?_)
  refine lv_iload_n hx hb dX0_areKin_4 rfl (lv_at hl 1 rfl) ?_
  refine al_20 hx hb hK hT hq1 (by omega) (by omega) dX0_areKin_5 (fun x5 e5 => ?_)
  have hF := bn hF e5
  refine lv_iload_n hx hb dX0_areKin_6 rfl (lv_at hl 2 rfl) ?_
  refine x_ishr hx hb dX0_areKin_7 (fun x7 e7 => ?_)
  have hF := bn hF e7
  refine r_iconst hx hb dX0_areKin_8 (by decide) (by decide) (fun x8 e8 => ?_)
  have hF := bn hF e8
  refine x_iandr hx hb dX0_areKin_9 (by omega) (fun x9 e9 g9 h9 => ?_)
  have hF := bn hF e9
  refine r_iconst hx hb dX0_areKin_10 (by decide) (by decide) (fun x10 e10 => ?_)
  have hF := bn hF e10
  refine r_icmp_ne (tgt := 18) hx hb dX0_areKin_11 (by decide) (fun c11 => ?_) (fun c11 => ?_)
  · have hF := ifn hF c11
    refine r_iconst hx hb dX0_areKin_18 (by decide) (by decide) (fun x18 e18 => ?_)
    have hF := bn hF e18
    exact rt_z hx hb hr hlk hS (by omega) (by omega) ⟨hF, hT, (by omega)⟩ dX0_areKin_19
  · have hF := ifp hF c11
    refine r_iconst hx hb dX0_areKin_14 (by decide) (by decide) (fun x14 e14 => ?_)
    have hF := bn hF e14
    refine lv_goto (tgt := 19) hx hb dX0_areKin_15 (by decide) ?_
    exact rt_z hx hb hr hlk hS (by omega) (by omega) ⟨hF, hT, (by omega)⟩ dX0_areKin_19
theorem k_X0_allKin : cBV yX0_allKin cX0_allKin 3 (some .int) 0 := ⟨mw_2_160, mw_2_161, mw_1_3, mw_2_162, ⟨by decide, by decide, by decide⟩⟩
set_option maxHeartbeats 4000000 in
set_option maxRecDepth 100000 in
theorem c_X0_allKin (l : Launch) (z : Zt) (σ : Sg) (h0 o0 : Nat) (g0 : zG z h0 = (10, o0)) (out : Int) (hF : D_X0_allKin (σ o0) = some out) : Met l yX0_allKin (uw yX0_allKin cX0_allKin 3 (some .int)) (rmF 2 84) (PcW z [.ref h0] (fun H => TY z (zA z) σ H)) (QcI z (fun r H => some r.toInt = some out ∧ TY z (zA z) σ H)) 0 0 (zA z) := by
  refine Met.ofW (cc := cX0_allKin) (maxL := 3) (ret := (some .int)) (by decide) rfl ?_
  intro p e s m args below meth c s₁ B hml hv
  obtain ⟨rfl, hT, hK, hSK⟩ := hv
  have hx := B.exec
  have hb := B.bytes
  have hr := B.returns
  have hts : ∀ w ∈ lw_ok, w.before ([.ref h0] : List Value).toArray s = true := fun w hw => atoms_spec (ws := uw yX0_allKin cX0_allKin 3 (some .int)) B.pre w (List.mem_cons_of_mem _ hw)
  have hown : s.vm.findClass RX0 = some m.cls := findClass_of_methodNamed B.named
  have hlk := B.notSynchronized
  have hC : CallFix p m c cX0_allKin 3 s ([.ref h0] : List Value).toArray lw_ok RX0 := ⟨hx, hb, hml, hown, hts⟩
  have hS : va_S (zA z) s.heap s.heap [] := va_S.rf
  have hl := lv_entry ([.ref h0]) (n := 3) (Nat.le_of_ble_eq_true rfl)
  rw [lg_entry_eq]
  generalize (lg_sl ([.ref h0]) ++ List.replicate (3 - (lg_sl ([.ref h0])).length) Slot.unset).toArray = ls at hl ⊢
  have hl : lv_has ls 3 [(0, .ref h0)] := hl
  show W p l e (rmF 2 84) s m ([.ref h0] : List Value).toArray below meth c s.heap [] 0 0 (MQ below (QcI z (fun r H => some r.toInt = some out ∧ TY z (zA z) σ H)) ([.ref h0] : List Value).toArray s 0 0 (zA z)) (F0 m 0 ls [])
  unfold D_X0_allKin at hF
  refine r_iconst hx hb dX0_allKin_0 (by decide) (by decide) (fun x0 e0 => ?_)
  have hF := bn hF e0
  refine lv_istore_n (lv' := [(1, .int x0), (0, .ref h0)]) hx hb dX0_allKin_1 rfl hl (by decide) rfl (fun ls hl => ?_)
  refine r_iconst hx hb dX0_allKin_2 (by decide) (by decide) (fun x2 e2 => ?_)
  have hF := bn hF e2
  refine lv_istore_n (lv' := [(2, .int x2), (1, .int x0), (0, .ref h0)]) hx hb dX0_allKin_3 rfl hl (by decide) rfl (fun ls hl => ?_)
  have J4 : ∀ (n4 : Nat) (ls : Array Slot) (H : Heap) (locs : List Loc) (y4_1 : Int32) (y4_2 : Int32), (0 ≤ y4_2.toInt ∧ y4_2.toInt ≤ 5) → D_X0_allKin_4 (σ o0) n4 y4_1.toInt y4_2.toInt = some out → TY z (zA z) σ H → va_S (zA z) s.heap H locs → lv_has ls 3 [(0, .ref h0), (1, .int y4_1), (2, .int y4_2)] → W p l e (rmF 2 84) s m ([.ref h0] : List Value).toArray below meth c H locs 0 0 (MQ below (QcI z (fun r H => some r.toInt = some out ∧ TY z (zA z) σ H)) ([.ref h0] : List Value).toArray s 0 0 (zA z)) (F0 m 4 ls []) := by
    intro n4
    induction n4 with
    | zero => intro ls H locs y4_1 y4_2 j4_y4_2 hF hT hS hl; exact (no_s hF).elim
    | succ n4 ih4 =>
      intro ls H locs y4_1 y4_2 j4_y4_2 hF hT hS hl
      rw [D_X0_allKin_4.eq_2] at hF
      refine lv_iload_n hx hb dX0_allKin_4 rfl (lv_at hl 2 rfl) ?_
      refine r_iconst hx hb dX0_allKin_5 (by decide) (by decide) (fun x5 e5 => ?_)
      have hF := bn hF e5
      refine r_icmp_ge (tgt := 27) hx hb dX0_allKin_6 (by decide) (fun c6 => ?_) (fun c6 => ?_)
      · have hF := ifn hF (Int.not_lt.mpr c6)
        refine lv_iload_n hx hb dX0_allKin_27 rfl (lv_at hl 1 rfl) ?_
        exact rt_i hx hb hr hlk hS ⟨hF, hT⟩ dX0_allKin_28
      · have hF := ifp hF c6
        refine lv_iload_n hx hb dX0_allKin_9 rfl (lv_at hl 1 rfl) ?_
        refine lv_aload_n hx hb dX0_allKin_10 rfl (lv_at hl 0 rfl) ?_
        refine gt_Evening_kin hx hb hts ic_Evening hown hK hT g0 (hts _ mw_1_93) dX0_allKin_11 (fun q11 hq11 => ?_)
        refine lv_iload_n hx hb dX0_allKin_14 rfl (lv_at hl 2 rfl) ?_
        refine al_20 hx hb hK hT hq11 (by omega) (by omega) dX0_allKin_15 (fun x15 e15 => ?_)
        have hF := bn hF e15
        obtain ⟨v16, hd16, -⟩ := bd0_s hF
        refine cl_Si (rest := [.int y4_1]) hC hK hSK (c_bitCount l z σ x15 v16 hd16) k_J6_bitCount_0f7a4 mw_2_163 ⟨rfl, rfl, Nat.le_of_ble_eq_true rfl, Nat.le_of_ble_eq_true rfl⟩ hT rfl hl.1 rfl (Nat.le_of_ble_eq_true rfl) dX0_allKin_16 ⟨Nat.zero_le _, Nat.zero_le _⟩ hS (fun _ h => h) (fun _ _ h => h) (fun r16 H locs hpo hS => ?_)
        obtain ⟨he16, hT, u16_0⟩ := hpo
        have hF := bd0_r hF hd16 he16
        refine x_iadd hx hb dX0_allKin_19 (fun x19 e19 => ?_)
        have hF := bn hF e19
        refine lv_istore_n (lv' := [(1, .int x19), (0, .ref h0), (2, .int y4_2)]) hx hb dX0_allKin_20 rfl hl (by decide) rfl (fun ls hl => ?_)
        refine r_iinc (lv' := fun v__ => [(2, .int v__), (1, .int x19), (0, .ref h0)]) hx hb dX0_allKin_21 hl (k := 2) rfl (by decide) (fun _ => rfl) ⟨by decide, by decide⟩ (by omega) (by omega) (fun x21 ls e21 hl => ?_)
        have hF := bn hF e21
        refine lv_goto (tgt := 4) hx hb dX0_allKin_24 (by decide) ?_
        exact ih4 ls _ _ x19 x21 (by omega) hF hT hS (lv_sub hl [2, 1, 0] rfl)
  exact J4 5000 ls _ _ x0 x2 (by omega) hF hT hS (lv_sub hl [2, 1, 0] rfl)
theorem k_X0_hasStrangers : cBV yX0_hasStrangers cX0_hasStrangers 3 (some .boolean) 0 := ⟨mw_2_193, mw_2_194, mw_1_3, mw_2_195, ⟨by decide, by decide, by decide⟩⟩
set_option maxHeartbeats 4000000 in
set_option maxRecDepth 100000 in
theorem c_X0_hasStrangers (l : Launch) (z : Zt) (σ : Sg) (h0 o0 : Nat) (g0 : zG z h0 = (10, o0)) (out : Int) (hF : D_X0_hasStrangers (σ o0) = some out) : Met l yX0_hasStrangers (uw yX0_hasStrangers cX0_hasStrangers 3 (some .boolean)) (rmF 1 64) (PcW z [.ref h0] (fun H => TY z (zA z) σ H)) (QcI z (fun r H => some r.toInt = some out ∧ TY z (zA z) σ H ∧ (0 ≤ r.toInt ∧ r.toInt ≤ 1))) 0 0 (zA z) := by
  refine Met.ofW (cc := cX0_hasStrangers) (maxL := 3) (ret := (some .boolean)) (by decide) rfl ?_
  intro p e s m args below meth c s₁ B hml hv
  obtain ⟨rfl, hT, hK, hSK⟩ := hv
  have hx := B.exec
  have hb := B.bytes
  have hr := B.returns
  have hts : ∀ w ∈ lw_ok, w.before ([.ref h0] : List Value).toArray s = true := fun w hw => atoms_spec (ws := uw yX0_hasStrangers cX0_hasStrangers 3 (some .boolean)) B.pre w (List.mem_cons_of_mem _ hw)
  have hown : s.vm.findClass RX0 = some m.cls := findClass_of_methodNamed B.named
  have hlk := B.notSynchronized
  have hC : CallFix p m c cX0_hasStrangers 3 s ([.ref h0] : List Value).toArray lw_ok RX0 := ⟨hx, hb, hml, hown, hts⟩
  have hS : va_S (zA z) s.heap s.heap [] := va_S.rf
  have hl := lv_entry ([.ref h0]) (n := 3) (Nat.le_of_ble_eq_true rfl)
  rw [lg_entry_eq]
  generalize (lg_sl ([.ref h0]) ++ List.replicate (3 - (lg_sl ([.ref h0])).length) Slot.unset).toArray = ls at hl ⊢
  have hl : lv_has ls 3 [(0, .ref h0)] := hl
  show W p l e (rmF 1 64) s m ([.ref h0] : List Value).toArray below meth c s.heap [] 0 0 (MQ below (QcI z (fun r H => some r.toInt = some out ∧ TY z (zA z) σ H ∧ (0 ≤ r.toInt ∧ r.toInt ≤ 1))) ([.ref h0] : List Value).toArray s 0 0 (zA z)) (F0 m 0 ls [])
  unfold D_X0_hasStrangers at hF
  refine r_iconst hx hb dX0_hasStrangers_0 (by decide) (by decide) (fun x0 e0 => ?_)
  have hF := bn hF e0
  refine lv_istore_n (lv' := [(1, .int x0), (0, .ref h0)]) hx hb dX0_hasStrangers_1 rfl hl (by decide) rfl (fun ls hl => ?_)
  have J2 : ∀ (n2 : Nat) (ls : Array Slot) (H : Heap) (locs : List Loc) (y2_1 : Int32), (0 ≤ y2_1.toInt ∧ y2_1.toInt ≤ 5) → D_X0_hasStrangers_2 (σ o0) n2 y2_1.toInt = some out → TY z (zA z) σ H → va_S (zA z) s.heap H locs → lv_has ls 3 [(0, .ref h0), (1, .int y2_1)] → W p l e (rmF 1 64) s m ([.ref h0] : List Value).toArray below meth c H locs 0 0 (MQ below (QcI z (fun r H => some r.toInt = some out ∧ TY z (zA z) σ H ∧ (0 ≤ r.toInt ∧ r.toInt ≤ 1))) ([.ref h0] : List Value).toArray s 0 0 (zA z)) (F0 m 2 ls []) := by
    intro n2
    induction n2 with
    | zero => intro ls H locs y2_1 j2_y2_1 hF hT hS hl; exact (no_s hF).elim
    | succ n2 ih2 =>
      intro ls H locs y2_1 j2_y2_1 hF hT hS hl
      rw [D_X0_hasStrangers_2.eq_2] at hF
      refine lv_iload_n hx hb dX0_hasStrangers_2 rfl (lv_at hl 1 rfl) ?_
      refine r_iconst hx hb dX0_hasStrangers_3 (by decide) (by decide) (fun x3 e3 => ?_)
      have hF := bn hF e3
      refine r_icmp_ge (tgt := 55) hx hb dX0_hasStrangers_4 (by decide) (fun c4 => ?_) (fun c4 => ?_)
      · have hF := ifn hF (Int.not_lt.mpr c4)
        refine r_iconst hx hb dX0_hasStrangers_55 (by decide) (by decide) (fun x55 e55 => ?_)
        have hF := bn hF e55
        exact rt_z hx hb hr hlk hS (by omega) (by omega) ⟨hF, hT, (by omega)⟩ dX0_hasStrangers_56
      · have hF := ifp hF c4
        refine lv_iload_n hx hb dX0_hasStrangers_7 rfl (lv_at hl 1 rfl) ?_
        refine lv_aload_n hx hb dX0_hasStrangers_8 rfl (lv_at hl 0 rfl) ?_
        refine gt_Evening_floor hx hb hts ic_Evening hown hK hT g0 (hts _ mw_1_89) dX0_hasStrangers_9 (fun q9 hq9 => ?_)
        refine gt_Floor_men hx hb hts ic_Floor hown hK hT hq9 (hts _ mw_1_61) dX0_hasStrangers_12 (fun x12 e12 f12 g12 => ?_)
        have hF := bn hF e12
        have J33 : ∀ (ls : Array Slot) (H : Heap) (locs : List Loc) (t33_0 : Int32), (0 ≤ t33_0.toInt ∧ t33_0.toInt ≤ 255) → D_X0_hasStrangers_33 (D_X0_hasStrangers_2 (σ o0) n2) y2_1.toInt (σ o0) t33_0.toInt = some out → TY z (zA z) σ H → va_S (zA z) s.heap H locs → lv_has ls 3 [(0, .ref h0), (1, .int y2_1)] → W p l e (rmF 1 64) s m ([.ref h0] : List Value).toArray below meth c H locs 0 0 (MQ below (QcI z (fun r H => some r.toInt = some out ∧ TY z (zA z) σ H ∧ (0 ≤ r.toInt ∧ r.toInt ≤ 1))) ([.ref h0] : List Value).toArray s 0 0 (zA z)) (F0 m 33 ls [.int t33_0]) := by
          intro ls H locs t33_0 j33_t33_0 hF hT hS hl
          unfold D_X0_hasStrangers_33 at hF
          refine lv_istore_n (lv' := [(2, .int t33_0), (0, .ref h0), (1, .int y2_1)]) hx hb dX0_hasStrangers_33 rfl hl (by decide) rfl (fun ls hl => ?_)
          refine lv_aload_n hx hb dX0_hasStrangers_34 rfl (lv_at hl 1 rfl) ?_
          refine gt_Evening_kin hx hb hts ic_Evening hown hK hT g0 (hts _ mw_1_93) dX0_hasStrangers_35 (fun q35 hq35 => ?_)
          refine lv_iload_n hx hb dX0_hasStrangers_38 rfl (lv_at hl 2 rfl) ?_
          refine al_20 hx hb hK hT hq35 (by omega) (by omega) dX0_hasStrangers_39 (fun x39 e39 => ?_)
          have hF := bn hF e39
          refine lv_iload_n hx hb dX0_hasStrangers_40 rfl (lv_at hl 0 rfl) ?_
          refine r_iconst hx hb dX0_hasStrangers_41 (by decide) (by decide) (fun x41 e41 => ?_)
          have hF := bn hF e41
          refine x_ixor hx hb dX0_hasStrangers_42 (fun x42 e42 => ?_)
          have hF := bn hF e42
          refine x_iand hx hb dX0_hasStrangers_43 (fun x43 e43 => ?_)
          have hF := bn hF e43
          refine r_if_eq (tgt := 49) hx hb dX0_hasStrangers_44 (by decide) (fun c44 => ?_) (fun c44 => ?_)
          · have hF := ifp hF c44
            refine r_iinc (lv' := fun v__ => [(1, .int v__), (2, .int t33_0), (0, .ref h0)]) hx hb dX0_hasStrangers_49 hl (k := 2) rfl (by decide) (fun _ => rfl) ⟨by decide, by decide⟩ (by omega) (by omega) (fun x49 ls e49 hl => ?_)
            have hF := bn hF e49
            refine lv_goto (tgt := 2) hx hb dX0_hasStrangers_52 (by decide) ?_
            exact ih2 ls _ _ x49 (by omega) hF hT hS (lv_sub hl [2, 0] rfl)
          · have hF := ifn hF c44
            refine r_iconst hx hb dX0_hasStrangers_47 (by decide) (by decide) (fun x47 e47 => ?_)
            have hF := bn hF e47
            exact rt_z hx hb hr hlk hS (by omega) (by omega) ⟨hF, hT, (by omega)⟩ dX0_hasStrangers_48
        refine r_icmp_ge (tgt := 32) hx hb dX0_hasStrangers_15 (by decide) (fun c15 => ?_) (fun c15 => ?_)
        · have hF := ifn hF (Int.not_lt.mpr c15)
          refine r_iconst hx hb dX0_hasStrangers_32 (by decide) (by decide) (fun x32 e32 => ?_)
          have hF := bn hF e32
          exact J33 ls _ _ x32 (by omega) hF hT hS (lv_sub hl [0, 1] rfl)
        · have hF := ifp hF c15
          refine r_iconst hx hb dX0_hasStrangers_18 (by decide) (by decide) (fun x18 e18 => ?_)
          have hF := bn hF e18
          refine lv_aload_n hx hb dX0_hasStrangers_19 rfl (lv_at hl 0 rfl) ?_
          refine gt_Evening_floor hx hb hts ic_Evening hown hK hT g0 (hts _ mw_1_89) dX0_hasStrangers_20 (fun q20 hq20 => ?_)
          refine gt_Floor_men hx hb hts ic_Floor hown hK hT hq20 (hts _ mw_1_61) dX0_hasStrangers_23 (fun x23 e23 f23 g23 => ?_)
          have hF := bn hF e23
          refine x_shl1 hx hb dX0_hasStrangers_26 (by omega) (by omega) (by omega) (fun x26 e26 g26 h26 => ?_)
          have hF := bn hF e26
          refine r_iconst hx hb dX0_hasStrangers_27 (by decide) (by decide) (fun x27 e27 => ?_)
          have hF := bn hF e27
          refine r_isub hx hb dX0_hasStrangers_28 (by omega) (by omega) (fun x28 e28 => ?_)
          have hF := bn hF e28
          refine lv_goto (tgt := 33) hx hb dX0_hasStrangers_29 (by decide) ?_
          exact J33 ls _ _ x28 (by omega) hF hT hS (lv_sub hl [0, 1] rfl)
  exact J2 5000 ls _ _ x0 (by omega) hF hT hS (lv_sub hl [1, 0] rfl)
theorem k_X0_cousinsMeet : cBV yX0_cousinsMeet cX0_cousinsMeet 3 (some .boolean) 1 := ⟨mw_3_163, mw_3_164, mw_1_3, mw_3_165, ⟨by decide, by decide, by decide⟩⟩
set_option maxHeartbeats 4000000 in
set_option maxRecDepth 100000 in
theorem c_X0_cousinsMeet (l : Launch) (z : Zt) (σ : Sg) (h0 o0 : Nat) (g0 : zG z h0 = (10, o0)) (ra1 ora1 : Nat) (hra1 : zG z ra1 = (11, ora1)) (out : Int) (hF : D_X0_cousinsMeet o0 ora1 σ = some out) : Met l yX0_cousinsMeet (uw yX0_cousinsMeet cX0_cousinsMeet 3 (some .boolean)) (rmF 2 86) (PcW z [.ref h0, .ref ra1] (fun H => TY z (zA z) σ H)) (QcI z (fun r H => some r.toInt = some out ∧ TY z (zA z) σ H ∧ (0 ≤ r.toInt ∧ r.toInt ≤ 1))) 0 0 (zA z) := by
  refine Met.ofW (cc := cX0_cousinsMeet) (maxL := 3) (ret := (some .boolean)) (by decide) rfl ?_
  intro p e s m args below meth c s₁ B hml hv
  obtain ⟨rfl, hT, hK, hSK⟩ := hv
  have hx := B.exec
  have hb := B.bytes
  have hr := B.returns
  have hts : ∀ w ∈ lw_ok, w.before ([.ref h0, .ref ra1] : List Value).toArray s = true := fun w hw => atoms_spec (ws := uw yX0_cousinsMeet cX0_cousinsMeet 3 (some .boolean)) B.pre w (List.mem_cons_of_mem _ hw)
  have hown : s.vm.findClass RX0 = some m.cls := findClass_of_methodNamed B.named
  have hlk := B.notSynchronized
  have hC : CallFix p m c cX0_cousinsMeet 3 s ([.ref h0, .ref ra1] : List Value).toArray lw_ok RX0 := ⟨hx, hb, hml, hown, hts⟩
  have hS : va_S (zA z) s.heap s.heap [] := va_S.rf
  have hl := lv_entry ([.ref h0, .ref ra1]) (n := 3) (Nat.le_of_ble_eq_true rfl)
  rw [lg_entry_eq]
  generalize (lg_sl ([.ref h0, .ref ra1]) ++ List.replicate (3 - (lg_sl ([.ref h0, .ref ra1])).length) Slot.unset).toArray = ls at hl ⊢
  have hl : lv_has ls 3 [(0, .ref h0), (1, .ref ra1)] := hl
  show W p l e (rmF 2 86) s m ([.ref h0, .ref ra1] : List Value).toArray below meth c s.heap [] 0 0 (MQ below (QcI z (fun r H => some r.toInt = some out ∧ TY z (zA z) σ H ∧ (0 ≤ r.toInt ∧ r.toInt ≤ 1))) ([.ref h0, .ref ra1] : List Value).toArray s 0 0 (zA z)) (F0 m 0 ls [])
  unfold D_X0_cousinsMeet at hF
  refine r_iconst hx hb dX0_cousinsMeet_0 (by decide) (by decide) (fun x0 e0 => ?_)
  have hF := bn hF e0
  refine lv_istore_n (lv' := [(2, .int x0), (0, .ref h0), (1, .ref ra1)]) hx hb dX0_cousinsMeet_1 rfl hl (by decide) rfl (fun ls hl => ?_)
  have J2 : ∀ (n2 : Nat) (ls : Array Slot) (H : Heap) (locs : List Loc) (y2_2 : Int32), (0 ≤ y2_2.toInt ∧ y2_2.toInt ≤ 5) → D_X0_cousinsMeet_2 o0 ora1 σ n2 y2_2.toInt = some out → TY z (zA z) σ H → va_S (zA z) s.heap H locs → lv_has ls 3 [(0, .ref h0), (1, .ref ra1), (2, .int y2_2)] → W p l e (rmF 2 86) s m ([.ref h0, .ref ra1] : List Value).toArray below meth c H locs 0 0 (MQ below (QcI z (fun r H => some r.toInt = some out ∧ TY z (zA z) σ H ∧ (0 ≤ r.toInt ∧ r.toInt ≤ 1))) ([.ref h0, .ref ra1] : List Value).toArray s 0 0 (zA z)) (F0 m 2 ls []) := by
    intro n2
    induction n2 with
    | zero => intro ls H locs y2_2 j2_y2_2 hF hT hS hl; exact (no_s hF).elim
    | succ n2 ih2 =>
      intro ls H locs y2_2 j2_y2_2 hF hT hS hl
      rw [D_X0_cousinsMeet_2.eq_2] at hF
      refine lv_iload_n hx hb dX0_cousinsMeet_2 rfl (lv_at hl 2 rfl) ?_
      refine lv_aload_n hx hb dX0_cousinsMeet_3 rfl (lv_at hl 1 rfl) ?_
      refine gt_Floor_men hx hb hts ic_Floor hown hK hT hra1 (hts _ mw_1_61) dX0_cousinsMeet_4 (fun x4 e4 f4 g4 => ?_)
      have hF := bn hF e4
      refine r_icmp_ge (tgt := 32) hx hb dX0_cousinsMeet_7 (by decide) (fun c7 => ?_) (fun c7 => ?_)
      · have hF := ifn hF (Int.not_lt.mpr c7)
        refine r_iconst hx hb dX0_cousinsMeet_32 (by decide) (by decide) (fun x32 e32 => ?_)
        have hF := bn hF e32
        exact rt_z hx hb hr hlk hS (by omega) (by omega) ⟨hF, hT, (by omega)⟩ dX0_cousinsMeet_33
      · have hF := ifp hF c7
        refine lv_aload_n hx hb dX0_cousinsMeet_10 rfl (lv_at hl 0 rfl) ?_
        refine lv_iload_n hx hb dX0_cousinsMeet_11 rfl (lv_at hl 2 rfl) ?_
        refine lv_aload_n hx hb dX0_cousinsMeet_12 rfl (lv_at hl 1 rfl) ?_
        refine gt_Floor_partner hx hb hts ic_Floor hown hK hT hra1 (hts _ mw_1_53) dX0_cousinsMeet_13 (fun q13 hq13 => ?_)
        refine lv_iload_n hx hb dX0_cousinsMeet_16 rfl (lv_at hl 2 rfl) ?_
        refine al_27 hx hb hK hT hq13 (by omega) (by omega) dX0_cousinsMeet_17 (fun x17 e17 g17 => ?_)
        have hF := bn hF e17
        obtain ⟨v18, hd18, -⟩ := bd0_s hF
        refine cl_Vi (rest := []) hC hK hSK (c_X0_areKin l z σ h0 (o0) g0 y2_2 x17 v18 hd18 (by omega)) k_X0_areKin mw_3_166 ⟨rfl, rfl, Nat.le_of_ble_eq_true rfl, Nat.le_of_ble_eq_true rfl⟩ (rv_Evening hK hT g0) hT rfl hl.1 rfl (Nat.le_of_ble_eq_true rfl) dX0_cousinsMeet_18 ⟨Nat.zero_le _, Nat.zero_le _⟩ hS (fun _ h => h) (fun _ _ h => h) (fun r18 H locs hpo hS => ?_)
        obtain ⟨he18, hT, u18_0⟩ := hpo
        have hF := bd0_r hF hd18 he18
        refine r_if_eq (tgt := 26) hx hb dX0_cousinsMeet_21 (by decide) (fun c21 => ?_) (fun c21 => ?_)
        · have hF := ifp hF c21
          refine r_iinc (lv' := fun v__ => [(2, .int v__), (0, .ref h0), (1, .ref ra1)]) hx hb dX0_cousinsMeet_26 hl (k := 2) rfl (by decide) (fun _ => rfl) ⟨by decide, by decide⟩ (by omega) (by omega) (fun x26 ls e26 hl => ?_)
          have hF := bn hF e26
          refine lv_goto (tgt := 2) hx hb dX0_cousinsMeet_29 (by decide) ?_
          exact ih2 ls _ _ x26 (by omega) hF hT hS (lv_sub hl [1, 2, 0] rfl)
        · have hF := ifn hF c21
          refine r_iconst hx hb dX0_cousinsMeet_24 (by decide) (by decide) (fun x24 e24 => ?_)
          have hF := bn hF e24
          exact rt_z hx hb hr hlk hS (by omega) (by omega) ⟨hF, hT, (by omega)⟩ dX0_cousinsMeet_25
  exact J2 5000 ls _ _ x0 (by omega) hF hT hS (lv_sub hl [1, 2, 0] rfl)
theorem k_X0_addFigure : cBV yX0_addFigure cX0_addFigure 2 none 1 := ⟨mw_2_189, mw_2_190, mw_1_3, mw_2_191, ⟨by decide, by decide, by decide⟩⟩
set_option maxHeartbeats 4000000 in
set_option maxRecDepth 100000 in
theorem c_X0_addFigure (l : Launch) (z : Zt) (σ : Sg) (h0 o0 : Nat) (g0 : zG z h0 = (10, o0)) (p1 : Int32) (out : Lo) (hF : D_X0_addFigure (σ o0) p1.toInt = some out) : Met l yX0_addFigure (uw yX0_addFigure cX0_addFigure 2 none) (rmF 1 64) (PcW z [.ref h0, .int p1] (fun H => TY z (zA z) σ H)) (QcV z (fun H => ∃ σ' : Sg, some (σ' o0) = some out ∧ FR σ σ' o0 ∧ TY z (zA z) σ' H)) 0 0 (zA z) := by
  refine Met.ofW (cc := cX0_addFigure) (maxL := 2) (ret := none) (by decide) rfl ?_
  intro p e s m args below meth c s₁ B hml hv
  obtain ⟨rfl, hT, hK, hSK⟩ := hv
  have hx := B.exec
  have hb := B.bytes
  have hr := B.returns
  have hts : ∀ w ∈ lw_ok, w.before ([.ref h0, .int p1] : List Value).toArray s = true := fun w hw => atoms_spec (ws := uw yX0_addFigure cX0_addFigure 2 none) B.pre w (List.mem_cons_of_mem _ hw)
  have hown : s.vm.findClass RX0 = some m.cls := findClass_of_methodNamed B.named
  have hlk := B.notSynchronized
  have hC : CallFix p m c cX0_addFigure 2 s ([.ref h0, .int p1] : List Value).toArray lw_ok RX0 := ⟨hx, hb, hml, hown, hts⟩
  have hS : va_S (zA z) s.heap s.heap [] := va_S.rf
  have hl := lv_entry ([.ref h0, .int p1]) (n := 2) (Nat.le_of_ble_eq_true rfl)
  rw [lg_entry_eq]
  generalize (lg_sl ([.ref h0, .int p1]) ++ List.replicate (2 - (lg_sl ([.ref h0, .int p1])).length) Slot.unset).toArray = ls at hl ⊢
  have hl : lv_has ls 2 [(0, .ref h0), (1, .int p1)] := hl
  show W p l e (rmF 1 64) s m ([.ref h0, .int p1] : List Value).toArray below meth c s.heap [] 0 0 (MQ below (QcV z (fun H => ∃ σ' : Sg, some (σ' o0) = some out ∧ FR σ σ' o0 ∧ TY z (zA z) σ' H)) ([.ref h0, .int p1] : List Value).toArray s 0 0 (zA z)) (F0 m 0 ls [])
  have hfr : FR σ σ o0 := FR_rf σ o0
  unfold D_X0_addFigure at hF
  have mx_p1 := i_mx p1
  refine lv_aload_n hx hb dX0_addFigure_0 rfl (lv_at hl 0 rfl) ?_
  refine gt_Evening_figures hx hb hts ic_Evening hown hK hT g0 (hts _ mw_1_107) dX0_addFigure_1 (fun x1 e1 f1 g1 => ?_)
  have hF := bn hF e1
  refine r_bipush hx hb dX0_addFigure_4 rfl (fun x4 e4 => ?_)
  have hF := bn hF e4
  refine r_icmp_ge (tgt := 29) hx hb dX0_addFigure_6 (by decide) (fun c6 => ?_) (fun c6 => ?_)
  · have hF := ifn hF (Int.not_lt.mpr c6)
    exact rt_v hx hb hr hlk hS ⟨σ, hF, hfr, hT⟩ dX0_addFigure_29
  · have hF := ifp hF c6
    refine lv_aload_n hx hb dX0_addFigure_9 rfl (lv_at hl 0 rfl) ?_
    refine gt_Evening_program hx hb hts ic_Evening hown hK hT g0 (hts _ mw_1_96) dX0_addFigure_10 (fun q10 hq10 => ?_)
    refine lv_aload_n hx hb dX0_addFigure_13 rfl (lv_at hl 0 rfl) ?_
    refine gt_Evening_figures hx hb hts ic_Evening hown hK hT g0 (hts _ mw_1_107) dX0_addFigure_14 (fun x14 e14 f14 g14 => ?_)
    have hF := bn hF e14
    refine lv_iload_n hx hb dX0_addFigure_17 rfl (lv_at hl 1 rfl) ?_
    obtain ⟨kb18, hF⟩ := ck hF
    refine as_21 hx hb hK hT hS hq10 (by omega) (by omega) dX0_addFigure_18 (fun H locs hT hS => ?_)
    obtain ⟨σ18, hF, hfr, hT⟩ := wrL hF hfr hT
    refine lv_aload_n hx hb dX0_addFigure_19 rfl (lv_at hl 0 rfl) ?_
    refine lv_dup hx hb dX0_addFigure_20 rfl ?_
    refine gt_Evening_figures hx hb hts ic_Evening hown hK hT g0 (hts _ mw_1_107) dX0_addFigure_21 (fun x21 e21 f21 g21 => ?_)
    have hF := bn hF e21
    refine r_iconst hx hb dX0_addFigure_24 (by decide) (by decide) (fun x24 e24 => ?_)
    have hF := bn hF e24
    refine r_iadd hx hb dX0_addFigure_25 (by omega) (by omega) (fun x25 e25 => ?_)
    have hF := bn hF e25
    obtain ⟨k26, hF⟩ := ck hF
    refine pt_Evening_figures hx hb hts ic_Evening hown hK hT hS g0 (hts _ mw_1_107) (by omega) (by omega) dX0_addFigure_26 (fun H locs hT hS => ?_)
    obtain ⟨σ26, hF, hfr, hT⟩ := wrL hF hfr hT
    exact rt_v hx hb hr hlk hS ⟨σ26, hF, hfr, hT⟩ dX0_addFigure_29
theorem k_X0_addSeen : cBV yX0_addSeen cX0_addSeen 4 none 3 := ⟨mw_3_217, mw_3_218, mw_1_3, mw_3_219, ⟨by decide, by decide, by decide⟩⟩
set_option maxHeartbeats 4000000 in
set_option maxRecDepth 100000 in
theorem c_X0_addSeen (l : Launch) (z : Zt) (σ : Sg) (h0 o0 : Nat) (g0 : zG z h0 = (10, o0)) (p1 : Int32) (p2 : Int32) (p3 : Int32) (out : Lo) (hF : D_X0_addSeen (σ o0) p1.toInt p2.toInt p3.toInt = some out) (bp1 : 0 ≤ p1.toInt ∧ p1.toInt ≤ 4) (bp2 : 0 ≤ p2.toInt ∧ p2.toInt ≤ 8) : Met l yX0_addSeen (uw yX0_addSeen cX0_addSeen 4 none) (rmF 1 64) (PcW z [.ref h0, .int p1, .int p2, .int p3] (fun H => TY z (zA z) σ H)) (QcV z (fun H => ∃ σ' : Sg, some (σ' o0) = some out ∧ FR σ σ' o0 ∧ TY z (zA z) σ' H)) 0 0 (zA z) := by
  refine Met.ofW (cc := cX0_addSeen) (maxL := 4) (ret := none) (by decide) rfl ?_
  intro p e s m args below meth c s₁ B hml hv
  obtain ⟨rfl, hT, hK, hSK⟩ := hv
  have hx := B.exec
  have hb := B.bytes
  have hr := B.returns
  have hts : ∀ w ∈ lw_ok, w.before ([.ref h0, .int p1, .int p2, .int p3] : List Value).toArray s = true := fun w hw => atoms_spec (ws := uw yX0_addSeen cX0_addSeen 4 none) B.pre w (List.mem_cons_of_mem _ hw)
  have hown : s.vm.findClass RX0 = some m.cls := findClass_of_methodNamed B.named
  have hlk := B.notSynchronized
  have hC : CallFix p m c cX0_addSeen 4 s ([.ref h0, .int p1, .int p2, .int p3] : List Value).toArray lw_ok RX0 := ⟨hx, hb, hml, hown, hts⟩
  have hS : va_S (zA z) s.heap s.heap [] := va_S.rf
  have hl := lv_entry ([.ref h0, .int p1, .int p2, .int p3]) (n := 4) (Nat.le_of_ble_eq_true rfl)
  rw [lg_entry_eq]
  generalize (lg_sl ([.ref h0, .int p1, .int p2, .int p3]) ++ List.replicate (4 - (lg_sl ([.ref h0, .int p1, .int p2, .int p3])).length) Slot.unset).toArray = ls at hl ⊢
  have hl : lv_has ls 4 [(0, .ref h0), (1, .int p1), (2, .int p2), (3, .int p3)] := hl
  show W p l e (rmF 1 64) s m ([.ref h0, .int p1, .int p2, .int p3] : List Value).toArray below meth c s.heap [] 0 0 (MQ below (QcV z (fun H => ∃ σ' : Sg, some (σ' o0) = some out ∧ FR σ σ' o0 ∧ TY z (zA z) σ' H)) ([.ref h0, .int p1, .int p2, .int p3] : List Value).toArray s 0 0 (zA z)) (F0 m 0 ls [])
  have hfr : FR σ σ o0 := FR_rf σ o0
  unfold D_X0_addSeen at hF
  have mx_p3 := i_mx p3
  refine lv_aload_n hx hb dX0_addSeen_0 rfl (lv_at hl 0 rfl) ?_
  refine gt_Evening_seen hx hb hts ic_Evening hown hK hT g0 (hts _ mw_1_110) dX0_addSeen_1 (fun x1 e1 f1 g1 => ?_)
  have hF := bn hF e1
  refine r_bipush hx hb dX0_addSeen_4 rfl (fun x4 e4 => ?_)
  have hF := bn hF e4
  refine r_icmp_ge (tgt := 49) hx hb dX0_addSeen_6 (by decide) (fun c6 => ?_) (fun c6 => ?_)
  · have hF := ifn hF (Int.not_lt.mpr c6)
    exact rt_v hx hb hr hlk hS ⟨σ, hF, hfr, hT⟩ dX0_addSeen_49
  · have hF := ifp hF c6
    refine lv_aload_n hx hb dX0_addSeen_9 rfl (lv_at hl 0 rfl) ?_
    refine gt_Evening_seenWoman hx hb hts ic_Evening hown hK hT g0 (hts _ mw_1_100) dX0_addSeen_10 (fun q10 hq10 => ?_)
    refine lv_aload_n hx hb dX0_addSeen_13 rfl (lv_at hl 0 rfl) ?_
    refine gt_Evening_seen hx hb hts ic_Evening hown hK hT g0 (hts _ mw_1_110) dX0_addSeen_14 (fun x14 e14 f14 g14 => ?_)
    have hF := bn hF e14
    refine lv_iload_n hx hb dX0_addSeen_17 rfl (lv_at hl 1 rfl) ?_
    obtain ⟨kb18, hF⟩ := ck hF
    refine as_25 hx hb hK hT hS hq10 (by omega) (by omega) ⟨by omega, by omega⟩ dX0_addSeen_18 (fun H locs hT hS => ?_)
    obtain ⟨σ18, hF, hfr, hT⟩ := wrL hF hfr hT
    refine lv_aload_n hx hb dX0_addSeen_19 rfl (lv_at hl 0 rfl) ?_
    refine gt_Evening_seenBehind hx hb hts ic_Evening hown hK hT g0 (hts _ mw_1_102) dX0_addSeen_20 (fun q20 hq20 => ?_)
    refine lv_aload_n hx hb dX0_addSeen_23 rfl (lv_at hl 0 rfl) ?_
    refine gt_Evening_seen hx hb hts ic_Evening hown hK hT g0 (hts _ mw_1_110) dX0_addSeen_24 (fun x24 e24 f24 g24 => ?_)
    have hF := bn hF e24
    refine lv_iload_n hx hb dX0_addSeen_27 rfl (lv_at hl 2 rfl) ?_
    obtain ⟨kb28, hF⟩ := ck hF
    refine as_26 hx hb hK hT hS hq20 (by omega) (by omega) ⟨by omega, by omega⟩ dX0_addSeen_28 (fun H locs hT hS => ?_)
    obtain ⟨σ28, hF, hfr, hT⟩ := wrL hF hfr hT
    refine lv_aload_n hx hb dX0_addSeen_29 rfl (lv_at hl 0 rfl) ?_
    refine gt_Evening_seenMan hx hb hts ic_Evening hown hK hT g0 (hts _ mw_1_104) dX0_addSeen_30 (fun q30 hq30 => ?_)
    refine lv_aload_n hx hb dX0_addSeen_33 rfl (lv_at hl 0 rfl) ?_
    refine gt_Evening_seen hx hb hts ic_Evening hown hK hT g0 (hts _ mw_1_110) dX0_addSeen_34 (fun x34 e34 f34 g34 => ?_)
    have hF := bn hF e34
    refine lv_iload_n hx hb dX0_addSeen_37 rfl (lv_at hl 3 rfl) ?_
    obtain ⟨kb38, hF⟩ := ck hF
    refine as_22 hx hb hK hT hS hq30 (by omega) (by omega) dX0_addSeen_38 (fun H locs hT hS => ?_)
    obtain ⟨σ38, hF, hfr, hT⟩ := wrL hF hfr hT
    refine lv_aload_n hx hb dX0_addSeen_39 rfl (lv_at hl 0 rfl) ?_
    refine lv_dup hx hb dX0_addSeen_40 rfl ?_
    refine gt_Evening_seen hx hb hts ic_Evening hown hK hT g0 (hts _ mw_1_110) dX0_addSeen_41 (fun x41 e41 f41 g41 => ?_)
    have hF := bn hF e41
    refine r_iconst hx hb dX0_addSeen_44 (by decide) (by decide) (fun x44 e44 => ?_)
    have hF := bn hF e44
    refine r_iadd hx hb dX0_addSeen_45 (by omega) (by omega) (fun x45 e45 => ?_)
    have hF := bn hF e45
    obtain ⟨k46, hF⟩ := ck hF
    refine pt_Evening_seen hx hb hts ic_Evening hown hK hT hS g0 (hts _ mw_1_110) (by omega) (by omega) dX0_addSeen_46 (fun H locs hT hS => ?_)
    obtain ⟨σ46, hF, hfr, hT⟩ := wrL hF hfr hT
    exact rt_v hx hb hr hlk hS ⟨σ46, hF, hfr, hT⟩ dX0_addSeen_49
theorem k_X0_copyFrom : cBV yX0_copyFrom cX0_copyFrom 2 none 1 := ⟨mw_2_197, mw_2_198, mw_1_3, mw_2_199, ⟨by decide, by decide, by decide⟩⟩
set_option maxHeartbeats 4000000 in
set_option maxRecDepth 100000 in
theorem c_X0_copyFrom (l : Launch) (z : Zt) (σ : Sg) (h0 o0 : Nat) (g0 : zG z h0 = (10, o0)) (ra1 ora1 : Nat) (hra1 : zG z ra1 = (10, ora1)) (out : Sg) (hF : D_X0_copyFrom o0 ora1 σ = some out) : Met l yX0_copyFrom (uw yX0_copyFrom cX0_copyFrom 2 none) (rmF 2 86) (PcW z [.ref h0, .ref ra1] (fun H => TY z (zA z) σ H)) (QcV z (fun H => ∃ σ' : Sg, some (σ') = some out ∧ TY z (zA z) σ' H)) 0 0 (zA z) := by
  refine Met.ofW (cc := cX0_copyFrom) (maxL := 2) (ret := none) (by decide) rfl ?_
  intro p e s m args below meth c s₁ B hml hv
  obtain ⟨rfl, hT, hK, hSK⟩ := hv
  have hx := B.exec
  have hb := B.bytes
  have hr := B.returns
  have hts : ∀ w ∈ lw_ok, w.before ([.ref h0, .ref ra1] : List Value).toArray s = true := fun w hw => atoms_spec (ws := uw yX0_copyFrom cX0_copyFrom 2 none) B.pre w (List.mem_cons_of_mem _ hw)
  have hown : s.vm.findClass RX0 = some m.cls := findClass_of_methodNamed B.named
  have hlk := B.notSynchronized
  have hC : CallFix p m c cX0_copyFrom 2 s ([.ref h0, .ref ra1] : List Value).toArray lw_ok RX0 := ⟨hx, hb, hml, hown, hts⟩
  have hS : va_S (zA z) s.heap s.heap [] := va_S.rf
  have hl := lv_entry ([.ref h0, .ref ra1]) (n := 2) (Nat.le_of_ble_eq_true rfl)
  rw [lg_entry_eq]
  generalize (lg_sl ([.ref h0, .ref ra1]) ++ List.replicate (2 - (lg_sl ([.ref h0, .ref ra1])).length) Slot.unset).toArray = ls at hl ⊢
  have hl : lv_has ls 2 [(0, .ref h0), (1, .ref ra1)] := hl
  show W p l e (rmF 2 86) s m ([.ref h0, .ref ra1] : List Value).toArray below meth c s.heap [] 0 0 (MQ below (QcV z (fun H => ∃ σ' : Sg, some (σ') = some out ∧ TY z (zA z) σ' H)) ([.ref h0, .ref ra1] : List Value).toArray s 0 0 (zA z)) (F0 m 0 ls [])
  unfold D_X0_copyFrom at hF
  refine lv_aload_n hx hb dX0_copyFrom_0 rfl (lv_at hl 0 rfl) ?_
  refine gt_Evening_floor hx hb hts ic_Evening hown hK hT g0 (hts _ mw_1_89) dX0_copyFrom_1 (fun q1 hq1 => ?_)
  refine lv_aload_n hx hb dX0_copyFrom_4 rfl (lv_at hl 1 rfl) ?_
  refine gt_Evening_floor hx hb hts ic_Evening hown hK hT hra1 (hts _ mw_1_89) dX0_copyFrom_5 (fun q5 hq5 => ?_)
  obtain ⟨s8, hd8, -⟩ := bd1_s hF
  refine cl_Vv (rest := []) hC hK hSK (c_X1_copyFrom l z σ q1 (o0) hq1 q5 (ora1) hq5 s8 hd8) k_X1_copyFrom mw_2_200 ⟨rfl, rfl, Nat.le_of_ble_eq_true rfl, Nat.le_of_ble_eq_true rfl⟩ (rv_Floor hK hT hq1) hT rfl hl.1 rfl (Nat.le_of_ble_eq_true rfl) dX0_copyFrom_8 ⟨Nat.zero_le _, Nat.zero_le _⟩ hS (fun _ h => h) (fun _ _ h => h) (fun H locs hpo hS => ?_)
  obtain ⟨σ8, he8, hT⟩ := hpo
  have hF := bd1_r hF hd8 he8
  refine lv_aload_n hx hb dX0_copyFrom_11 rfl (lv_at hl 1 rfl) ?_
  refine gt_Evening_kin hx hb hts ic_Evening hown hK hT hra1 (hts _ mw_1_93) dX0_copyFrom_12 (fun q12 hq12 => ?_)
  refine r_iconst hx hb dX0_copyFrom_15 (by decide) (by decide) (fun x15 e15 => ?_)
  have hF := bn hF e15
  refine lv_aload_n hx hb dX0_copyFrom_16 rfl (lv_at hl 0 rfl) ?_
  refine gt_Evening_kin hx hb hts ic_Evening hown hK hT g0 (hts _ mw_1_93) dX0_copyFrom_17 (fun q17 hq17 => ?_)
  refine r_iconst hx hb dX0_copyFrom_20 (by decide) (by decide) (fun x20 e20 => ?_)
  have hF := bn hF e20
  refine r_iconst hx hb dX0_copyFrom_21 (by decide) (by decide) (fun x21 e21 => ?_)
  have hF := bn hF e21
  refine cp_20_20 hx hb (hml.trans hl.1.symm) hts hown mw_2_204 hK hT hS hq12 hq17 (by omega) (by omega) (by omega) (by omega) (by omega) (Nat.le_of_ble_eq_true rfl) (Nat.le_of_ble_eq_true rfl) dX0_copyFrom_22 (fun H locs hT hS => ?_)
  obtain ⟨σ22, hF, hT⟩ := wrG hF hT
  refine lv_aload_n hx hb dX0_copyFrom_25 rfl (lv_at hl 1 rfl) ?_
  refine gt_Evening_program hx hb hts ic_Evening hown hK hT hra1 (hts _ mw_1_96) dX0_copyFrom_26 (fun q26 hq26 => ?_)
  refine r_iconst hx hb dX0_copyFrom_29 (by decide) (by decide) (fun x29 e29 => ?_)
  have hF := bn hF e29
  refine lv_aload_n hx hb dX0_copyFrom_30 rfl (lv_at hl 0 rfl) ?_
  refine gt_Evening_program hx hb hts ic_Evening hown hK hT g0 (hts _ mw_1_96) dX0_copyFrom_31 (fun q31 hq31 => ?_)
  refine r_iconst hx hb dX0_copyFrom_34 (by decide) (by decide) (fun x34 e34 => ?_)
  have hF := bn hF e34
  refine r_bipush hx hb dX0_copyFrom_35 rfl (fun x35 e35 => ?_)
  have hF := bn hF e35
  refine cp_21_21 hx hb (hml.trans hl.1.symm) hts hown mw_2_204 hK hT hS hq26 hq31 (by omega) (by omega) (by omega) (by omega) (by omega) (Nat.le_of_ble_eq_true rfl) (Nat.le_of_ble_eq_true rfl) dX0_copyFrom_37 (fun H locs hT hS => ?_)
  obtain ⟨σ37, hF, hT⟩ := wrG hF hT
  refine lv_aload_n hx hb dX0_copyFrom_40 rfl (lv_at hl 1 rfl) ?_
  refine gt_Evening_seenWoman hx hb hts ic_Evening hown hK hT hra1 (hts _ mw_1_100) dX0_copyFrom_41 (fun q41 hq41 => ?_)
  refine r_iconst hx hb dX0_copyFrom_44 (by decide) (by decide) (fun x44 e44 => ?_)
  have hF := bn hF e44
  refine lv_aload_n hx hb dX0_copyFrom_45 rfl (lv_at hl 0 rfl) ?_
  refine gt_Evening_seenWoman hx hb hts ic_Evening hown hK hT g0 (hts _ mw_1_100) dX0_copyFrom_46 (fun q46 hq46 => ?_)
  refine r_iconst hx hb dX0_copyFrom_49 (by decide) (by decide) (fun x49 e49 => ?_)
  have hF := bn hF e49
  refine r_bipush hx hb dX0_copyFrom_50 rfl (fun x50 e50 => ?_)
  have hF := bn hF e50
  refine cp_25_25 hx hb (hml.trans hl.1.symm) hts hown mw_2_204 hK hT hS hq41 hq46 (by omega) (by omega) (by omega) (by omega) (by omega) (Nat.le_of_ble_eq_true rfl) (Nat.le_of_ble_eq_true rfl) dX0_copyFrom_52 (fun H locs hT hS => ?_)
  obtain ⟨σ52, hF, hT⟩ := wrG hF hT
  refine lv_aload_n hx hb dX0_copyFrom_55 rfl (lv_at hl 1 rfl) ?_
  refine gt_Evening_seenBehind hx hb hts ic_Evening hown hK hT hra1 (hts _ mw_1_102) dX0_copyFrom_56 (fun q56 hq56 => ?_)
  refine r_iconst hx hb dX0_copyFrom_59 (by decide) (by decide) (fun x59 e59 => ?_)
  have hF := bn hF e59
  refine lv_aload_n hx hb dX0_copyFrom_60 rfl (lv_at hl 0 rfl) ?_
  refine gt_Evening_seenBehind hx hb hts ic_Evening hown hK hT g0 (hts _ mw_1_102) dX0_copyFrom_61 (fun q61 hq61 => ?_)
  refine r_iconst hx hb dX0_copyFrom_64 (by decide) (by decide) (fun x64 e64 => ?_)
  have hF := bn hF e64
  refine r_bipush hx hb dX0_copyFrom_65 rfl (fun x65 e65 => ?_)
  have hF := bn hF e65
  refine cp_26_26 hx hb (hml.trans hl.1.symm) hts hown mw_2_204 hK hT hS hq56 hq61 (by omega) (by omega) (by omega) (by omega) (by omega) (Nat.le_of_ble_eq_true rfl) (Nat.le_of_ble_eq_true rfl) dX0_copyFrom_67 (fun H locs hT hS => ?_)
  obtain ⟨σ67, hF, hT⟩ := wrG hF hT
  refine lv_aload_n hx hb dX0_copyFrom_70 rfl (lv_at hl 1 rfl) ?_
  refine gt_Evening_seenMan hx hb hts ic_Evening hown hK hT hra1 (hts _ mw_1_104) dX0_copyFrom_71 (fun q71 hq71 => ?_)
  refine r_iconst hx hb dX0_copyFrom_74 (by decide) (by decide) (fun x74 e74 => ?_)
  have hF := bn hF e74
  refine lv_aload_n hx hb dX0_copyFrom_75 rfl (lv_at hl 0 rfl) ?_
  refine gt_Evening_seenMan hx hb hts ic_Evening hown hK hT g0 (hts _ mw_1_104) dX0_copyFrom_76 (fun q76 hq76 => ?_)
  refine r_iconst hx hb dX0_copyFrom_79 (by decide) (by decide) (fun x79 e79 => ?_)
  have hF := bn hF e79
  refine r_bipush hx hb dX0_copyFrom_80 rfl (fun x80 e80 => ?_)
  have hF := bn hF e80
  refine cp_22_22 hx hb (hml.trans hl.1.symm) hts hown mw_2_204 hK hT hS hq71 hq76 (by omega) (by omega) (by omega) (by omega) (by omega) (Nat.le_of_ble_eq_true rfl) (Nat.le_of_ble_eq_true rfl) dX0_copyFrom_82 (fun H locs hT hS => ?_)
  obtain ⟨σ82, hF, hT⟩ := wrG hF hT
  refine lv_aload_n hx hb dX0_copyFrom_85 rfl (lv_at hl 0 rfl) ?_
  refine lv_aload_n hx hb dX0_copyFrom_86 rfl (lv_at hl 1 rfl) ?_
  refine gt_Evening_figures hx hb hts ic_Evening hown hK hT hra1 (hts _ mw_1_107) dX0_copyFrom_87 (fun x87 e87 f87 g87 => ?_)
  have hF := bn hF e87
  refine pt_Evening_figures hx hb hts ic_Evening hown hK hT hS g0 (hts _ mw_1_107) (by omega) (by omega) dX0_copyFrom_90 (fun H locs hT hS => ?_)
  obtain ⟨σ90, hF, hT⟩ := wrG hF hT
  refine lv_aload_n hx hb dX0_copyFrom_93 rfl (lv_at hl 0 rfl) ?_
  refine lv_aload_n hx hb dX0_copyFrom_94 rfl (lv_at hl 1 rfl) ?_
  refine gt_Evening_seen hx hb hts ic_Evening hown hK hT hra1 (hts _ mw_1_110) dX0_copyFrom_95 (fun x95 e95 f95 g95 => ?_)
  have hF := bn hF e95
  refine pt_Evening_seen hx hb hts ic_Evening hown hK hT hS g0 (hts _ mw_1_110) (by omega) (by omega) dX0_copyFrom_98 (fun H locs hT hS => ?_)
  obtain ⟨σ98, hF, hT⟩ := wrG hF hT
  exact rt_v hx hb hr hlk hS ⟨σ98, hF, hT⟩ dX0_copyFrom_101
theorem k_X0_empty : cBV yX0_empty cX0_empty 1 none 0 := ⟨mw_2_52, mw_2_53, mw_1_3, mw_2_54, ⟨by decide, by decide, by decide⟩⟩
set_option maxHeartbeats 4000000 in
set_option maxRecDepth 100000 in
theorem c_X0_empty (l : Launch) (z : Zt) (σ : Sg) (h0 o0 : Nat) (g0 : zG z h0 = (10, o0)) (out : Lo) (hF : D_X0_empty (σ o0) = some out) : Met l yX0_empty (uw yX0_empty cX0_empty 1 none) (rmF 2 87) (PcW z [.ref h0] (fun H => TY z (zA z) σ H)) (QcV z (fun H => ∃ σ' : Sg, some (σ' o0) = some out ∧ FR σ σ' o0 ∧ TY z (zA z) σ' H)) 0 0 (zA z) := by
  refine Met.ofW (cc := cX0_empty) (maxL := 1) (ret := none) (by decide) rfl ?_
  intro p e s m args below meth c s₁ B hml hv
  obtain ⟨rfl, hT, hK, hSK⟩ := hv
  have hx := B.exec
  have hb := B.bytes
  have hr := B.returns
  have hts : ∀ w ∈ lw_ok, w.before ([.ref h0] : List Value).toArray s = true := fun w hw => atoms_spec (ws := uw yX0_empty cX0_empty 1 none) B.pre w (List.mem_cons_of_mem _ hw)
  have hown : s.vm.findClass RX0 = some m.cls := findClass_of_methodNamed B.named
  have hlk := B.notSynchronized
  have hC : CallFix p m c cX0_empty 1 s ([.ref h0] : List Value).toArray lw_ok RX0 := ⟨hx, hb, hml, hown, hts⟩
  have hS : va_S (zA z) s.heap s.heap [] := va_S.rf
  have hl := lv_entry ([.ref h0]) (n := 1) (Nat.le_of_ble_eq_true rfl)
  rw [lg_entry_eq]
  generalize (lg_sl ([.ref h0]) ++ List.replicate (1 - (lg_sl ([.ref h0])).length) Slot.unset).toArray = ls at hl ⊢
  have hl : lv_has ls 1 [(0, .ref h0)] := hl
  show W p l e (rmF 2 87) s m ([.ref h0] : List Value).toArray below meth c s.heap [] 0 0 (MQ below (QcV z (fun H => ∃ σ' : Sg, some (σ' o0) = some out ∧ FR σ σ' o0 ∧ TY z (zA z) σ' H)) ([.ref h0] : List Value).toArray s 0 0 (zA z)) (F0 m 0 ls [])
  have hfr : FR σ σ o0 := FR_rf σ o0
  unfold D_X0_empty at hF
  refine lv_aload_n hx hb dX0_empty_0 rfl (lv_at hl 0 rfl) ?_
  refine gt_Evening_floor hx hb hts ic_Evening hown hK hT g0 (hts _ mw_1_89) dX0_empty_1 (fun q1 hq1 => ?_)
  refine r_iconst hx hb dX0_empty_4 (by decide) (by decide) (fun x4 e4 => ?_)
  have hF := bn hF e4
  refine pt_Floor_men hx hb hts ic_Floor hown hK hT hS hq1 (hts _ mw_1_61) (by omega) (by omega) dX0_empty_5 (fun H locs hT hS => ?_)
  obtain ⟨σ5, hF, hfr, hT⟩ := wrL hF hfr hT
  refine lv_aload_n hx hb dX0_empty_8 rfl (lv_at hl 0 rfl) ?_
  refine gt_Evening_floor hx hb hts ic_Evening hown hK hT g0 (hts _ mw_1_89) dX0_empty_9 (fun q9 hq9 => ?_)
  refine r_iconst hx hb dX0_empty_12 (by decide) (by decide) (fun x12 e12 => ?_)
  have hF := bn hF e12
  refine pt_Floor_danced hx hb hts ic_Floor hown hK hT hS hq9 (hts _ mw_1_65) (by omega) (by omega) dX0_empty_13 (fun H locs hT hS => ?_)
  obtain ⟨σ13, hF, hfr, hT⟩ := wrL hF hfr hT
  refine lv_aload_n hx hb dX0_empty_16 rfl (lv_at hl 0 rfl) ?_
  refine gt_Evening_kin hx hb hts ic_Evening hown hK hT g0 (hts _ mw_1_93) dX0_empty_17 (fun q17 hq17 => ?_)
  refine r_iconst hx hb dX0_empty_20 (by decide) (by decide) (fun x20 e20 => ?_)
  have hF := bn hF e20
  obtain ⟨s21, hd21, -⟩ := bd1_s hF
  refine cl_Sv (rest := []) hC hK hSK (c_fill20 l z σ13 q17 (o0) hq17 x20 s21 hd21) k_J7_fill_53178 mw_2_55 ⟨rfl, rfl, Nat.le_of_ble_eq_true rfl, Nat.le_of_ble_eq_true rfl⟩ hT rfl hl.1 rfl (Nat.le_of_ble_eq_true rfl) dX0_empty_21 ⟨Nat.zero_le _, Nat.zero_le _⟩ hS (fun _ h => h) (fun _ _ h => h) (fun H locs hpo hS => ?_)
  obtain ⟨σ21, he21, hf21, hT⟩ := hpo
  have hF := bd1_r hF hd21 he21
  have hfr := FR_tr hf21 hfr
  refine lv_aload_n hx hb dX0_empty_24 rfl (lv_at hl 0 rfl) ?_
  refine r_iconst hx hb dX0_empty_25 (by decide) (by decide) (fun x25 e25 => ?_)
  have hF := bn hF e25
  refine pt_Evening_figures hx hb hts ic_Evening hown hK hT hS g0 (hts _ mw_1_107) (by omega) (by omega) dX0_empty_26 (fun H locs hT hS => ?_)
  obtain ⟨σ26, hF, hfr, hT⟩ := wrL hF hfr hT
  refine lv_aload_n hx hb dX0_empty_29 rfl (lv_at hl 0 rfl) ?_
  refine r_iconst hx hb dX0_empty_30 (by decide) (by decide) (fun x30 e30 => ?_)
  have hF := bn hF e30
  refine pt_Evening_seen hx hb hts ic_Evening hown hK hT hS g0 (hts _ mw_1_110) (by omega) (by omega) dX0_empty_31 (fun H locs hT hS => ?_)
  obtain ⟨σ31, hF, hfr, hT⟩ := wrL hF hfr hT
  exact rt_v hx hb hr hlk hS ⟨σ31, hF, hfr, hT⟩ dX0_empty_34
theorem k_X5_note : cBV yX5_note cX5_note 1 none 0 := ⟨mw_3_95, ms_1_2, mw_1_5, mw_3_96, ⟨by decide, by decide, by decide⟩⟩
set_option maxHeartbeats 4000000 in
set_option maxRecDepth 100000 in
theorem c_X5_note (l : Launch) (z : Zt) (σ : Sg) (h0 o0 : Nat) (g0 : zG z h0 = (15, o0)) (out : Lo) (hF : D_X5_note (σ o0) = some out) : Met l yX5_note (uw yX5_note cX5_note 1 none) (rmF 1 64) (PcW z [.ref h0] (fun H => TY z (zA z) σ H)) (QcV z (fun H => ∃ σ' : Sg, some (σ' o0) = some out ∧ FR σ σ' o0 ∧ TY z (zA z) σ' H)) 0 0 (zA z) := by
  refine Met.ofW (cc := cX5_note) (maxL := 1) (ret := none) (by decide) rfl ?_
  intro p e s m args below meth c s₁ B hml hv
  obtain ⟨rfl, hT, hK, hSK⟩ := hv
  have hx := B.exec
  have hb := B.bytes
  have hr := B.returns
  have hts : ∀ w ∈ lw_ok, w.before ([.ref h0] : List Value).toArray s = true := fun w hw => atoms_spec (ws := uw yX5_note cX5_note 1 none) B.pre w (List.mem_cons_of_mem _ hw)
  have hown : s.vm.findClass RX5 = some m.cls := findClass_of_methodNamed B.named
  have hlk := B.notSynchronized
  have hC : CallFix p m c cX5_note 1 s ([.ref h0] : List Value).toArray lw_ok RX5 := ⟨hx, hb, hml, hown, hts⟩
  have hS : va_S (zA z) s.heap s.heap [] := va_S.rf
  have hl := lv_entry ([.ref h0]) (n := 1) (Nat.le_of_ble_eq_true rfl)
  rw [lg_entry_eq]
  generalize (lg_sl ([.ref h0]) ++ List.replicate (1 - (lg_sl ([.ref h0])).length) Slot.unset).toArray = ls at hl ⊢
  have hl : lv_has ls 1 [(0, .ref h0)] := hl
  show W p l e (rmF 1 64) s m ([.ref h0] : List Value).toArray below meth c s.heap [] 0 0 (MQ below (QcV z (fun H => ∃ σ' : Sg, some (σ' o0) = some out ∧ FR σ σ' o0 ∧ TY z (zA z) σ' H)) ([.ref h0] : List Value).toArray s 0 0 (zA z)) (F0 m 0 ls [])
  have hfr : FR σ σ o0 := FR_rf σ o0
  unfold D_X5_note at hF
  refine lv_aload_n hx hb dX5_note_0 rfl (lv_at hl 0 rfl) ?_
  refine gt_Walk_floor hx hb hts ic_Walk hown hK hT g0 (hts _ mw_1_176) dX5_note_1 (fun q1 hq1 => ?_)
  refine gt_Floor_partner hx hb hts ic_Floor hown hK hT hq1 (hts _ mw_1_52) dX5_note_4 (fun q4 hq4 => ?_)
  refine r_iconst hx hb dX5_note_7 (by decide) (by decide) (fun x7 e7 => ?_)
  have hF := bn hF e7
  refine lv_aload_n hx hb dX5_note_8 rfl (lv_at hl 0 rfl) ?_
  refine gt_Walk_partners hx hb hts ic_Walk hown hK hT g0 (hts _ mw_1_178) dX5_note_9 (fun q9 hq9 => ?_)
  refine lv_aload_n hx hb dX5_note_12 rfl (lv_at hl 0 rfl) ?_
  refine gt_Walk_steps hx hb hts ic_Walk hown hK hT g0 (hts _ mw_1_179) dX5_note_13 (fun x13 e13 f13 g13 => ?_)
  have hF := bn hF e13
  refine r_iconst hx hb dX5_note_16 (by decide) (by decide) (fun x16 e16 => ?_)
  have hF := bn hF e16
  refine r_imul (5) (by omega) hx hb dX5_note_17 (by omega) (by omega) (fun x17 e17 => ?_)
  have hF := bn hF e17
  refine r_iconst hx hb dX5_note_18 (by decide) (by decide) (fun x18 e18 => ?_)
  have hF := bn hF e18
  refine cp_27_24 hx hb (hml.trans hl.1.symm) hts hown mw_3_97 hK hT hS hq4 hq9 (by omega) (by omega) (by omega) (by omega) (by omega) (Nat.le_of_ble_eq_true rfl) (Nat.le_of_ble_eq_true rfl) dX5_note_19 (fun H locs hT hS => ?_)
  obtain ⟨σ19, hF, hfr, hT⟩ := cpL hF hfr hT
  exact rt_v hx hb hr hlk hS ⟨σ19, hF, hfr, hT⟩ dX5_note_22
theorem k_X5_follow : cBV yX5_follow cX5_follow 2 none 1 := ⟨mw_3_90, mw_3_91, mw_1_5, mw_3_92, ⟨by decide, by decide, by decide⟩⟩
set_option maxHeartbeats 4000000 in
set_option maxRecDepth 100000 in
theorem c_X5_follow (l : Launch) (z : Zt) (σ : Sg) (h0 : Nat) (g0 : zG z h0 = (15, 5)) (ra1 ora1 : Nat) (hra1 : zG z ra1 = (10, ora1)) (out : Sg) (hF : D_X5_follow ora1 σ = some out) : Met l yX5_follow (uw yX5_follow cX5_follow 2 none) (rmF 4 130) (PcW z [.ref h0, .ref ra1] (fun H => TY z (zA z) σ H)) (QcV z (fun H => ∃ σ' : Sg, some (σ') = some out ∧ TY z (zA z) σ' H)) 0 0 (zA z) := by
  refine Met.ofW (cc := cX5_follow) (maxL := 2) (ret := none) (by decide) rfl ?_
  intro p e s m args below meth c s₁ B hml hv
  obtain ⟨rfl, hT, hK, hSK⟩ := hv
  have hx := B.exec
  have hb := B.bytes
  have hr := B.returns
  have hts : ∀ w ∈ lw_ok, w.before ([.ref h0, .ref ra1] : List Value).toArray s = true := fun w hw => atoms_spec (ws := uw yX5_follow cX5_follow 2 none) B.pre w (List.mem_cons_of_mem _ hw)
  have hown : s.vm.findClass RX5 = some m.cls := findClass_of_methodNamed B.named
  have hlk := B.notSynchronized
  have hC : CallFix p m c cX5_follow 2 s ([.ref h0, .ref ra1] : List Value).toArray lw_ok RX5 := ⟨hx, hb, hml, hown, hts⟩
  have hS : va_S (zA z) s.heap s.heap [] := va_S.rf
  have hl := lv_entry ([.ref h0, .ref ra1]) (n := 2) (Nat.le_of_ble_eq_true rfl)
  rw [lg_entry_eq]
  generalize (lg_sl ([.ref h0, .ref ra1]) ++ List.replicate (2 - (lg_sl ([.ref h0, .ref ra1])).length) Slot.unset).toArray = ls at hl ⊢
  have hl : lv_has ls 2 [(0, .ref h0), (1, .ref ra1)] := hl
  show W p l e (rmF 4 130) s m ([.ref h0, .ref ra1] : List Value).toArray below meth c s.heap [] 0 0 (MQ below (QcV z (fun H => ∃ σ' : Sg, some (σ') = some out ∧ TY z (zA z) σ' H)) ([.ref h0, .ref ra1] : List Value).toArray s 0 0 (zA z)) (F0 m 0 ls [])
  unfold D_X5_follow at hF
  refine lv_aload_n hx hb dX5_follow_0 rfl (lv_at hl 0 rfl) ?_
  refine r_iconst hx hb dX5_follow_1 (by decide) (by decide) (fun x1 e1 => ?_)
  have hF := bn hF e1
  refine pt_Walk_steps hx hb hts ic_Walk hown hK hT hS g0 (hts _ mw_1_179) (by omega) (by omega) dX5_follow_2 (fun H locs hT hS => ?_)
  obtain ⟨σ2, hF, hT⟩ := wrG hF hT
  refine lv_aload_n hx hb dX5_follow_5 rfl (lv_at hl 0 rfl) ?_
  obtain ⟨s6, hd6, -⟩ := bd1_s hF
  refine cl_Vv (rest := []) hC hK hSK (c_X5_note l z σ2 h0 (5) g0 s6 hd6) k_X5_note mw_3_93 ⟨rfl, rfl, Nat.le_of_ble_eq_true rfl, Nat.le_of_ble_eq_true rfl⟩ (rv_Walk hK hT g0) hT rfl hl.1 rfl (Nat.le_of_ble_eq_true rfl) dX5_follow_6 ⟨Nat.zero_le _, Nat.zero_le _⟩ hS (fun _ h => h) (fun _ _ h => h) (fun H locs hpo hS => ?_)
  obtain ⟨σ6, he6, hf6, hT⟩ := hpo
  have hF := bd1_r hF hd6 he6
  have hF := gsL hF hf6
  have J9 : ∀ (n9 : Nat) (ls : Array Slot) (H : Heap) (locs : List Loc) (σj9 : Sg), D_X5_follow_9 ora1 n9 σj9 = some out → TY z (zA z) σj9 H → va_S (zA z) s.heap H locs → lv_has ls 2 [(0, .ref h0), (1, .ref ra1)] → W p l e (rmF 4 130) s m ([.ref h0, .ref ra1] : List Value).toArray below meth c H locs 0 0 (MQ below (QcV z (fun H => ∃ σ' : Sg, some (σ') = some out ∧ TY z (zA z) σ' H)) ([.ref h0, .ref ra1] : List Value).toArray s 0 0 (zA z)) (F0 m 9 ls []) := by
    intro n9
    induction n9 with
    | zero => intro ls H locs σj9 hF hT hS hl; exact (no_s hF).elim
    | succ n9 ih9 =>
      intro ls H locs σj9 hF hT hS hl
      rw [D_X5_follow_9.eq_2] at hF
      refine lv_aload_n hx hb dX5_follow_9 rfl (lv_at hl 0 rfl) ?_
      refine gt_Walk_steps hx hb hts ic_Walk hown hK hT g0 (hts _ mw_1_179) dX5_follow_10 (fun x10 e10 f10 g10 => ?_)
      have hF := bn hF e10
      refine lv_aload_n hx hb dX5_follow_13 rfl (lv_at hl 1 rfl) ?_
      refine gt_Evening_figures hx hb hts ic_Evening hown hK hT hra1 (hts _ mw_1_106) dX5_follow_14 (fun x14 e14 f14 g14 => ?_)
      have hF := bn hF e14
      refine r_icmp_ge (tgt := 62) hx hb dX5_follow_17 (by decide) (fun c17 => ?_) (fun c17 => ?_)
      · have hF := ifn hF (Int.not_lt.mpr c17)
        exact rt_v hx hb hr hlk hS ⟨σj9, hF, hT⟩ dX5_follow_62
      · have hF := ifp hF c17
        refine lv_aload_n hx hb dX5_follow_20 rfl (lv_at hl 0 rfl) ?_
        refine gt_Walk_steps hx hb hts ic_Walk hown hK hT g0 (hts _ mw_1_179) dX5_follow_21 (fun x21 e21 f21 g21 => ?_)
        have hF := bn hF e21
        refine r_bipush hx hb dX5_follow_24 rfl (fun x24 e24 => ?_)
        have hF := bn hF e24
        refine r_icmp_ge (tgt := 62) hx hb dX5_follow_26 (by decide) (fun c26 => ?_) (fun c26 => ?_)
        · have hF := ifn hF (Int.not_lt.mpr c26)
          exact rt_v hx hb hr hlk hS ⟨σj9, hF, hT⟩ dX5_follow_62
        · have hF := ifp hF c26
          refine lv_aload_n hx hb dX5_follow_29 rfl (lv_at hl 0 rfl) ?_
          refine gt_Walk_floor hx hb hts ic_Walk hown hK hT g0 (hts _ mw_1_176) dX5_follow_30 (fun q30 hq30 => ?_)
          refine lv_aload_n hx hb dX5_follow_33 rfl (lv_at hl 1 rfl) ?_
          refine gt_Evening_program hx hb hts ic_Evening hown hK hT hra1 (hts _ mw_1_97) dX5_follow_34 (fun q34 hq34 => ?_)
          refine lv_aload_n hx hb dX5_follow_37 rfl (lv_at hl 0 rfl) ?_
          refine gt_Walk_steps hx hb hts ic_Walk hown hK hT g0 (hts _ mw_1_179) dX5_follow_38 (fun x38 e38 f38 g38 => ?_)
          have hF := bn hF e38
          obtain ⟨kb41, hF⟩ := ck hF
          refine al_21 hx hb hK hT hq34 (by omega) (by omega) dX5_follow_41 (fun x41 e41 => ?_)
          have hF := bn hF e41
          obtain ⟨s42, hd42, -⟩ := bd1_s hF
          refine cl_Vv (rest := []) hC hK hSK (c_X1_step l z σj9 q30 (5) hq30 x41 s42 hd42) k_X1_step mw_3_98 ⟨rfl, rfl, Nat.le_of_ble_eq_true rfl, Nat.le_of_ble_eq_true rfl⟩ (rv_Floor hK hT hq30) hT rfl hl.1 rfl (Nat.le_of_ble_eq_true rfl) dX5_follow_42 ⟨Nat.zero_le _, Nat.zero_le _⟩ hS (fun _ h => h) (fun _ _ h => h) (fun H locs hpo hS => ?_)
          obtain ⟨σ42, he42, hf42, hT⟩ := hpo
          have hF := bd1_r hF hd42 he42
          have hF := gsL hF hf42
          refine lv_aload_n hx hb dX5_follow_45 rfl (lv_at hl 0 rfl) ?_
          refine lv_dup hx hb dX5_follow_46 rfl ?_
          refine gt_Walk_steps hx hb hts ic_Walk hown hK hT g0 (hts _ mw_1_179) dX5_follow_47 (fun x47 e47 f47 g47 => ?_)
          have hF := bn hF e47
          refine r_iconst hx hb dX5_follow_50 (by decide) (by decide) (fun x50 e50 => ?_)
          have hF := bn hF e50
          refine r_iadd hx hb dX5_follow_51 (by omega) (by omega) (fun x51 e51 => ?_)
          have hF := bn hF e51
          obtain ⟨k52, hF⟩ := ck hF
          refine pt_Walk_steps hx hb hts ic_Walk hown hK hT hS g0 (hts _ mw_1_179) (by omega) (by omega) dX5_follow_52 (fun H locs hT hS => ?_)
          obtain ⟨σ52, hF, hT⟩ := wrG hF hT
          refine lv_aload_n hx hb dX5_follow_55 rfl (lv_at hl 0 rfl) ?_
          obtain ⟨s56, hd56, -⟩ := bd1_s hF
          refine cl_Vv (rest := []) hC hK hSK (c_X5_note l z σ52 h0 (5) g0 s56 hd56) k_X5_note mw_3_93 ⟨rfl, rfl, Nat.le_of_ble_eq_true rfl, Nat.le_of_ble_eq_true rfl⟩ (rv_Walk hK hT g0) hT rfl hl.1 rfl (Nat.le_of_ble_eq_true rfl) dX5_follow_56 ⟨Nat.zero_le _, Nat.zero_le _⟩ hS (fun _ h => h) (fun _ _ h => h) (fun H locs hpo hS => ?_)
          obtain ⟨σ56, he56, hf56, hT⟩ := hpo
          have hF := bd1_r hF hd56 he56
          have hF := gsL hF hf56
          refine lv_goto (tgt := 9) hx hb dX5_follow_59 (by decide) ?_
          exact ih9 ls _ _ σ56 hF hT hS (lv_sub hl [0, 1] rfl)
  exact J9 5000 ls _ _ σ6 hF hT hS (lv_sub hl [0, 1] rfl)
theorem k_X5_partnerBehind : cBV yX5_partnerBehind cX5_partnerBehind 3 (some .int) 2 := ⟨mw_3_108, mw_3_109, mw_1_5, mw_3_110, ⟨by decide, by decide, by decide⟩⟩
set_option maxHeartbeats 4000000 in
set_option maxRecDepth 100000 in
theorem c_X5_partnerBehind (l : Launch) (z : Zt) (σ : Sg) (h0 o0 : Nat) (g0 : zG z h0 = (15, o0)) (p1 : Int32) (p2 : Int32) (out : Int) (hF : D_X5_partnerBehind (σ o0) p1.toInt p2.toInt = some out) (bp1 : 0 ≤ p1.toInt ∧ p1.toInt ≤ 4) (bp2 : 0 ≤ p2.toInt ∧ p2.toInt ≤ 8) : Met l yX5_partnerBehind (uw yX5_partnerBehind cX5_partnerBehind 3 (some .int)) (rmF 1 64) (PcW z [.ref h0, .int p1, .int p2] (fun H => TY z (zA z) σ H)) (QcI z (fun r H => some r.toInt = some out ∧ TY z (zA z) σ H ∧ (0 ≤ r.toInt ∧ r.toInt ≤ 4))) 0 0 (zA z) := by
  refine Met.ofW (cc := cX5_partnerBehind) (maxL := 3) (ret := (some .int)) (by decide) rfl ?_
  intro p e s m args below meth c s₁ B hml hv
  obtain ⟨rfl, hT, hK, hSK⟩ := hv
  have hx := B.exec
  have hb := B.bytes
  have hr := B.returns
  have hts : ∀ w ∈ lw_ok, w.before ([.ref h0, .int p1, .int p2] : List Value).toArray s = true := fun w hw => atoms_spec (ws := uw yX5_partnerBehind cX5_partnerBehind 3 (some .int)) B.pre w (List.mem_cons_of_mem _ hw)
  have hown : s.vm.findClass RX5 = some m.cls := findClass_of_methodNamed B.named
  have hlk := B.notSynchronized
  have hC : CallFix p m c cX5_partnerBehind 3 s ([.ref h0, .int p1, .int p2] : List Value).toArray lw_ok RX5 := ⟨hx, hb, hml, hown, hts⟩
  have hS : va_S (zA z) s.heap s.heap [] := va_S.rf
  have hl := lv_entry ([.ref h0, .int p1, .int p2]) (n := 3) (Nat.le_of_ble_eq_true rfl)
  rw [lg_entry_eq]
  generalize (lg_sl ([.ref h0, .int p1, .int p2]) ++ List.replicate (3 - (lg_sl ([.ref h0, .int p1, .int p2])).length) Slot.unset).toArray = ls at hl ⊢
  have hl : lv_has ls 3 [(0, .ref h0), (1, .int p1), (2, .int p2)] := hl
  show W p l e (rmF 1 64) s m ([.ref h0, .int p1, .int p2] : List Value).toArray below meth c s.heap [] 0 0 (MQ below (QcI z (fun r H => some r.toInt = some out ∧ TY z (zA z) σ H ∧ (0 ≤ r.toInt ∧ r.toInt ≤ 4))) ([.ref h0, .int p1, .int p2] : List Value).toArray s 0 0 (zA z)) (F0 m 0 ls [])
  unfold D_X5_partnerBehind at hF
  refine lv_aload_n hx hb dX5_partnerBehind_0 rfl (lv_at hl 0 rfl) ?_
  refine gt_Walk_partners hx hb hts ic_Walk hown hK hT g0 (hts _ mw_1_178) dX5_partnerBehind_1 (fun q1 hq1 => ?_)
  refine lv_iload_n hx hb dX5_partnerBehind_4 rfl (lv_at hl 2 rfl) ?_
  refine lv_aload_n hx hb dX5_partnerBehind_5 rfl (lv_at hl 0 rfl) ?_
  refine gt_Walk_steps hx hb hts ic_Walk hown hK hT g0 (hts _ mw_1_179) dX5_partnerBehind_6 (fun x6 e6 f6 g6 => ?_)
  have hF := bn hF e6
  refine r_min hx hb (hml.trans hl.1.symm) hts hown mw_3_111 (Nat.le_of_ble_eq_true rfl) (Nat.le_of_ble_eq_true rfl) ⟨Nat.zero_le _, Nat.zero_le _⟩ dX5_partnerBehind_9 (fun x9 e9 => ?_)
  have hF := bn hF e9
  have g9 := e9
  refine r_iconst hx hb dX5_partnerBehind_12 (by decide) (by decide) (fun x12 e12 => ?_)
  have hF := bn hF e12
  refine r_imul (5) (by omega) hx hb dX5_partnerBehind_13 (by omega) (by omega) (fun x13 e13 => ?_)
  have hF := bn hF e13
  refine lv_iload_n hx hb dX5_partnerBehind_14 rfl (lv_at hl 1 rfl) ?_
  refine r_iadd hx hb dX5_partnerBehind_15 (by omega) (by omega) (fun x15 e15 => ?_)
  have hF := bn hF e15
  refine al_24 hx hb hK hT hq1 (by omega) (by omega) dX5_partnerBehind_16 (fun x16 e16 g16 => ?_)
  have hF := bn hF e16
  exact rt_i hx hb hr hlk hS ⟨hF, hT, (by omega)⟩ dX5_partnerBehind_17
theorem k_X3_faultAt : cBV yX3_faultAt cX3_faultAt 4 (some .int) 2 := ⟨mw_4_37, mw_4_38, mw_1_7, mw_4_39, ⟨by decide, by decide, by decide⟩⟩
set_option maxHeartbeats 4000000 in
set_option maxRecDepth 100000 in
theorem c_X3_faultAt (l : Launch) (z : Zt) (σ : Sg) (h0 o0 : Nat) (g0 : zG z h0 = (13, o0)) (p1 : Int32) (p2 : Int64) (out : Int) (hF : D_X3_faultAt (σ o0) p1.toInt p2.toInt = some out) : Met l yX3_faultAt (uw yX3_faultAt cX3_faultAt 4 (some .int)) (rmF 1 64) (PcW z [.ref h0, .int p1, .long p2] (fun H => TY z (zA z) σ H)) (QcI z (fun r H => some r.toInt = some out ∧ TY z (zA z) σ H ∧ (0 ≤ r.toInt ∧ r.toInt ≤ 3))) 0 0 (zA z) := by
  refine Met.ofW (cc := cX3_faultAt) (maxL := 4) (ret := (some .int)) (by decide) rfl ?_
  intro p e s m args below meth c s₁ B hml hv
  obtain ⟨rfl, hT, hK, hSK⟩ := hv
  have hx := B.exec
  have hb := B.bytes
  have hr := B.returns
  have hts : ∀ w ∈ lw_ok, w.before ([.ref h0, .int p1, .long p2] : List Value).toArray s = true := fun w hw => atoms_spec (ws := uw yX3_faultAt cX3_faultAt 4 (some .int)) B.pre w (List.mem_cons_of_mem _ hw)
  have hown : s.vm.findClass RX3 = some m.cls := findClass_of_methodNamed B.named
  have hlk := B.notSynchronized
  have hC : CallFix p m c cX3_faultAt 4 s ([.ref h0, .int p1, .long p2] : List Value).toArray lw_ok RX3 := ⟨hx, hb, hml, hown, hts⟩
  have hS : va_S (zA z) s.heap s.heap [] := va_S.rf
  have hl := lv_entry ([.ref h0, .int p1, .long p2]) (n := 4) (Nat.le_of_ble_eq_true rfl)
  rw [lg_entry_eq]
  generalize (lg_sl ([.ref h0, .int p1, .long p2]) ++ List.replicate (4 - (lg_sl ([.ref h0, .int p1, .long p2])).length) Slot.unset).toArray = ls at hl ⊢
  have hl : lv_has ls 4 [(0, .ref h0), (1, .int p1), (2, .long p2)] := hl
  show W p l e (rmF 1 64) s m ([.ref h0, .int p1, .long p2] : List Value).toArray below meth c s.heap [] 0 0 (MQ below (QcI z (fun r H => some r.toInt = some out ∧ TY z (zA z) σ H ∧ (0 ≤ r.toInt ∧ r.toInt ≤ 3))) ([.ref h0, .int p1, .long p2] : List Value).toArray s 0 0 (zA z)) (F0 m 0 ls [])
  unfold D_X3_faultAt at hF
  have mx_p1 := i_mx p1
  refine lv_aload_n hx hb dX3_faultAt_0 rfl (lv_at hl 0 rfl) ?_
  refine gt_Sheet_lane hx hb hts ic_Sheet hown hK hT g0 (hts _ mw_1_236) dX3_faultAt_1 (fun x1 e1 f1 g1 => ?_)
  have hF := bn hF e1
  refine r_iconst hx hb dX3_faultAt_4 (by decide) (by decide) (fun x4 e4 => ?_)
  have hF := bn hF e4
  refine r_icmp_ne (tgt := 10) hx hb dX3_faultAt_5 (by decide) (fun c5 => ?_) (fun c5 => ?_)
  · have hF := ifn hF c5
    refine lv_aload_n hx hb dX3_faultAt_10 rfl (lv_at hl 0 rfl) ?_
    refine gt_Sheet_lane hx hb hts ic_Sheet hown hK hT g0 (hts _ mw_1_236) dX3_faultAt_11 (fun x11 e11 f11 g11 => ?_)
    have hF := bn hF e11
    refine lv_iload_n hx hb dX3_faultAt_14 rfl (lv_at hl 1 rfl) ?_
    refine r_icmp_eq (tgt := 20) hx hb dX3_faultAt_15 (by decide) (fun c15 => ?_) (fun c15 => ?_)
    · have hF := ifp hF c15
      refine lv_lload_n hx hb dX3_faultAt_20 rfl (lv_at hl 2 rfl) ?_
      refine r_lconst0 hx hb dX3_faultAt_21 (fun x21 e21 => ?_)
      have hF := bn hF e21
      refine x_lcmp hx hb dX3_faultAt_22 (fun x22 e22 f22 g22 h22 => ?_)
      have hF := bn hF e22
      have v22 : -1 ≤ x22.toInt ∧ x22.toInt ≤ 1 := by omega
      have J36 : ∀ (ls : Array Slot) (H : Heap) (locs : List Loc), D_X3_faultAt_36 = some out → TY z (zA z) σ H → va_S (zA z) s.heap H locs → lv_has ls 4 [(0, .ref h0), (1, .int p1), (2, .long p2)] → W p l e (rmF 1 64) s m ([.ref h0, .int p1, .long p2] : List Value).toArray below meth c H locs 0 0 (MQ below (QcI z (fun r H => some r.toInt = some out ∧ TY z (zA z) σ H ∧ (0 ≤ r.toInt ∧ r.toInt ≤ 3))) ([.ref h0, .int p1, .long p2] : List Value).toArray s 0 0 (zA z)) (F0 m 36 ls []) := by
        intro ls H locs hF hT hS hl
        unfold D_X3_faultAt_36 at hF
        refine r_iconst hx hb dX3_faultAt_36 (by decide) (by decide) (fun x36 e36 => ?_)
        have hF := bn hF e36
        refine lv_goto (tgt := 41) hx hb dX3_faultAt_37 (by decide) ?_
        exact rt_i hx hb hr hlk hS ⟨hF, hT, (by omega)⟩ dX3_faultAt_41
      refine r_if_lt (tgt := 36) hx hb dX3_faultAt_23 (by decide) (fun c23 => ?_) (fun c23 => ?_)
      · have hF := ifp hF c23
        exact J36 ls _ _ hF hT hS (lv_sub hl [0, 1, 2] rfl)
      · have hF := ifn hF (Int.not_lt.mpr c23)
        refine lv_lload_n hx hb dX3_faultAt_26 rfl (lv_at hl 2 rfl) ?_
        refine lv_aload_n hx hb dX3_faultAt_27 rfl (lv_at hl 0 rfl) ?_
        refine gt_Sheet_length hx hb hts ic_Sheet hown hK hT g0 (hts _ mw_1_238) dX3_faultAt_28 (fun x28 e28 f28 g28 => ?_)
        have hF := bn hF e28
        refine r_i2l hx hb dX3_faultAt_31 (fun x31 e31 => ?_)
        have hF := bn hF e31
        refine x_lcmp hx hb dX3_faultAt_32 (fun x32 e32 f32 g32 h32 => ?_)
        have hF := bn hF e32
        have v32 : -1 ≤ x32.toInt ∧ x32.toInt ≤ 1 := by omega
        refine r_if_lt (tgt := 40) hx hb dX3_faultAt_33 (by decide) (fun c33 => ?_) (fun c33 => ?_)
        · have hF := ifp hF c33
          refine r_iconst hx hb dX3_faultAt_40 (by decide) (by decide) (fun x40 e40 => ?_)
          have hF := bn hF e40
          exact rt_i hx hb hr hlk hS ⟨hF, hT, (by omega)⟩ dX3_faultAt_41
        · have hF := ifn hF (Int.not_lt.mpr c33)
          exact J36 ls _ _ hF hT hS (lv_sub hl [0, 1, 2] rfl)
    · have hF := ifn hF c15
      refine r_iconst hx hb dX3_faultAt_18 (by decide) (by decide) (fun x18 e18 => ?_)
      have hF := bn hF e18
      exact rt_i hx hb hr hlk hS ⟨hF, hT, (by omega)⟩ dX3_faultAt_19
  · have hF := ifp hF c5
    refine r_iconst hx hb dX3_faultAt_8 (by decide) (by decide) (fun x8 e8 => ?_)
    have hF := bn hF e8
    exact rt_i hx hb hr hlk hS ⟨hF, hT, (by omega)⟩ dX3_faultAt_9
theorem k_X3_put : cBV yX3_put cX3_put 3 none 2 := ⟨mw_4_41, mw_4_42, mw_1_7, mw_4_43, ⟨by decide, by decide, by decide⟩⟩
set_option maxHeartbeats 4000000 in
set_option maxRecDepth 100000 in
theorem c_X3_put (l : Launch) (z : Zt) (σ : Sg) (h0 o0 : Nat) (g0 : zG z h0 = (13, o0)) (p1 : Int32) (p2 : Int32) (out : Lo) (hF : D_X3_put (σ o0) p1.toInt p2.toInt = some out) (bp1 : 0 ≤ p1.toInt ∧ p1.toInt ≤ 39) : Met l yX3_put (uw yX3_put cX3_put 3 none) (rmF 1 64) (PcW z [.ref h0, .int p1, .int p2] (fun H => TY z (zA z) σ H)) (QcV z (fun H => ∃ σ' : Sg, some (σ' o0) = some out ∧ FR σ σ' o0 ∧ TY z (zA z) σ' H)) 0 0 (zA z) := by
  refine Met.ofW (cc := cX3_put) (maxL := 3) (ret := none) (by decide) rfl ?_
  intro p e s m args below meth c s₁ B hml hv
  obtain ⟨rfl, hT, hK, hSK⟩ := hv
  have hx := B.exec
  have hb := B.bytes
  have hr := B.returns
  have hts : ∀ w ∈ lw_ok, w.before ([.ref h0, .int p1, .int p2] : List Value).toArray s = true := fun w hw => atoms_spec (ws := uw yX3_put cX3_put 3 none) B.pre w (List.mem_cons_of_mem _ hw)
  have hown : s.vm.findClass RX3 = some m.cls := findClass_of_methodNamed B.named
  have hlk := B.notSynchronized
  have hC : CallFix p m c cX3_put 3 s ([.ref h0, .int p1, .int p2] : List Value).toArray lw_ok RX3 := ⟨hx, hb, hml, hown, hts⟩
  have hS : va_S (zA z) s.heap s.heap [] := va_S.rf
  have hl := lv_entry ([.ref h0, .int p1, .int p2]) (n := 3) (Nat.le_of_ble_eq_true rfl)
  rw [lg_entry_eq]
  generalize (lg_sl ([.ref h0, .int p1, .int p2]) ++ List.replicate (3 - (lg_sl ([.ref h0, .int p1, .int p2])).length) Slot.unset).toArray = ls at hl ⊢
  have hl : lv_has ls 3 [(0, .ref h0), (1, .int p1), (2, .int p2)] := hl
  show W p l e (rmF 1 64) s m ([.ref h0, .int p1, .int p2] : List Value).toArray below meth c s.heap [] 0 0 (MQ below (QcV z (fun H => ∃ σ' : Sg, some (σ' o0) = some out ∧ FR σ σ' o0 ∧ TY z (zA z) σ' H)) ([.ref h0, .int p1, .int p2] : List Value).toArray s 0 0 (zA z)) (F0 m 0 ls [])
  have hfr : FR σ σ o0 := FR_rf σ o0
  unfold D_X3_put at hF
  have mx_p2 := i_mx p2
  refine lv_aload_n hx hb dX3_put_0 rfl (lv_at hl 0 rfl) ?_
  refine gt_Sheet_lane hx hb hts ic_Sheet hown hK hT g0 (hts _ mw_1_236) dX3_put_1 (fun x1 e1 f1 g1 => ?_)
  have hF := bn hF e1
  refine r_if_ne (tgt := 18) hx hb dX3_put_4 (by decide) (fun c4 => ?_) (fun c4 => ?_)
  · have hF := ifn hF c4
    refine lv_aload_n hx hb dX3_put_18 rfl (lv_at hl 0 rfl) ?_
    refine gt_Sheet_lane hx hb hts ic_Sheet hown hK hT g0 (hts _ mw_1_236) dX3_put_19 (fun x19 e19 f19 g19 => ?_)
    have hF := bn hF e19
    refine r_iconst hx hb dX3_put_22 (by decide) (by decide) (fun x22 e22 => ?_)
    have hF := bn hF e22
    refine r_icmp_ne (tgt := 37) hx hb dX3_put_23 (by decide) (fun c23 => ?_) (fun c23 => ?_)
    · have hF := ifn hF c23
      refine lv_aload_n hx hb dX3_put_37 rfl (lv_at hl 0 rfl) ?_
      refine gt_Sheet_cells hx hb hts ic_Sheet hown hK hT g0 (hts _ mw_1_234) dX3_put_38 (fun q38 hq38 => ?_)
      refine lv_iload_n hx hb dX3_put_41 rfl (lv_at hl 1 rfl) ?_
      refine lv_iload_n hx hb dX3_put_42 rfl (lv_at hl 2 rfl) ?_
      refine as_23 hx hb hK hT hS hq38 (by omega) (by omega) dX3_put_43 (fun H locs hT hS => ?_)
      obtain ⟨σ43, hF, hfr, hT⟩ := wrL hF hfr hT
      exact rt_v hx hb hr hlk hS ⟨σ43, hF, hfr, hT⟩ dX3_put_44
    · have hF := ifp hF c23
      refine lv_aload_n hx hb dX3_put_26 rfl (lv_at hl 0 rfl) ?_
      refine gt_Sheet_cells hx hb hts ic_Sheet hown hK hT g0 (hts _ mw_1_234) dX3_put_27 (fun q27 hq27 => ?_)
      refine lv_iload_n hx hb dX3_put_30 rfl (lv_at hl 1 rfl) ?_
      refine lv_iload_n hx hb dX3_put_31 rfl (lv_at hl 2 rfl) ?_
      refine x_i2s hx hb dX3_put_32 (fun x32 e32 => ?_)
      have hF := bn hF e32
      refine as_23 hx hb hK hT hS hq27 (by omega) (by omega) dX3_put_33 (fun H locs hT hS => ?_)
      obtain ⟨σ33, hF, hfr, hT⟩ := wrL hF hfr hT
      refine lv_goto (tgt := 44) hx hb dX3_put_34 (by decide) ?_
      exact rt_v hx hb hr hlk hS ⟨σ33, hF, hfr, hT⟩ dX3_put_44
  · have hF := ifp hF c4
    refine lv_aload_n hx hb dX3_put_7 rfl (lv_at hl 0 rfl) ?_
    refine gt_Sheet_cells hx hb hts ic_Sheet hown hK hT g0 (hts _ mw_1_234) dX3_put_8 (fun q8 hq8 => ?_)
    refine lv_iload_n hx hb dX3_put_11 rfl (lv_at hl 1 rfl) ?_
    refine lv_iload_n hx hb dX3_put_12 rfl (lv_at hl 2 rfl) ?_
    refine x_i2b hx hb dX3_put_13 (fun x13 e13 => ?_)
    have hF := bn hF e13
    refine as_23 hx hb hK hT hS hq8 (by omega) (by omega) dX3_put_14 (fun H locs hT hS => ?_)
    obtain ⟨σ14, hF, hfr, hT⟩ := wrL hF hfr hT
    refine lv_goto (tgt := 44) hx hb dX3_put_15 (by decide) ?_
    exact rt_v hx hb hr hlk hS ⟨σ14, hF, hfr, hT⟩ dX3_put_44
theorem k_X3_renew : cBV yX3_renew cX3_renew 3 none 2 := ⟨mw_4_24, mw_4_25, mw_1_7, mw_4_26, ⟨by decide, by decide, by decide⟩⟩
set_option maxHeartbeats 4000000 in
set_option maxRecDepth 100000 in
theorem c_X3_renew (l : Launch) (z : Zt) (σ : Sg) (h0 o0 : Nat) (g0 : zG z h0 = (13, o0)) (p1 : Int32) (p2 : Int32) (out : Lo) (hF : D_X3_renew (σ o0) p1.toInt p2.toInt = some out) (bp1 : 0 ≤ p1.toInt ∧ p1.toInt ≤ 2) : Met l yX3_renew (uw yX3_renew cX3_renew 3 none) (rmF 2 87) (PcW z [.ref h0, .int p1, .int p2] (fun H => TY z (zA z) σ H)) (QcV z (fun H => ∃ σ' : Sg, some (σ' o0) = some out ∧ FR σ σ' o0 ∧ TY z (zA z) σ' H)) 0 0 (zA z) := by
  refine Met.ofW (cc := cX3_renew) (maxL := 3) (ret := none) (by decide) rfl ?_
  intro p e s m args below meth c s₁ B hml hv
  obtain ⟨rfl, hT, hK, hSK⟩ := hv
  have hx := B.exec
  have hb := B.bytes
  have hr := B.returns
  have hts : ∀ w ∈ lw_ok, w.before ([.ref h0, .int p1, .int p2] : List Value).toArray s = true := fun w hw => atoms_spec (ws := uw yX3_renew cX3_renew 3 none) B.pre w (List.mem_cons_of_mem _ hw)
  have hown : s.vm.findClass RX3 = some m.cls := findClass_of_methodNamed B.named
  have hlk := B.notSynchronized
  have hC : CallFix p m c cX3_renew 3 s ([.ref h0, .int p1, .int p2] : List Value).toArray lw_ok RX3 := ⟨hx, hb, hml, hown, hts⟩
  have hS : va_S (zA z) s.heap s.heap [] := va_S.rf
  have hl := lv_entry ([.ref h0, .int p1, .int p2]) (n := 3) (Nat.le_of_ble_eq_true rfl)
  rw [lg_entry_eq]
  generalize (lg_sl ([.ref h0, .int p1, .int p2]) ++ List.replicate (3 - (lg_sl ([.ref h0, .int p1, .int p2])).length) Slot.unset).toArray = ls at hl ⊢
  have hl : lv_has ls 3 [(0, .ref h0), (1, .int p1), (2, .int p2)] := hl
  show W p l e (rmF 2 87) s m ([.ref h0, .int p1, .int p2] : List Value).toArray below meth c s.heap [] 0 0 (MQ below (QcV z (fun H => ∃ σ' : Sg, some (σ' o0) = some out ∧ FR σ σ' o0 ∧ TY z (zA z) σ' H)) ([.ref h0, .int p1, .int p2] : List Value).toArray s 0 0 (zA z)) (F0 m 0 ls [])
  have hfr : FR σ σ o0 := FR_rf σ o0
  unfold D_X3_renew at hF
  have mx_p2 := i_mx p2
  refine lv_aload_n hx hb dX3_renew_0 rfl (lv_at hl 0 rfl) ?_
  refine lv_iload_n hx hb dX3_renew_1 rfl (lv_at hl 1 rfl) ?_
  refine pt_Sheet_lane hx hb hts ic_Sheet hown hK hT hS g0 (hts _ mw_1_236) (by omega) (by omega) dX3_renew_2 (fun H locs hT hS => ?_)
  obtain ⟨σ2, hF, hfr, hT⟩ := wrL hF hfr hT
  refine lv_aload_n hx hb dX3_renew_5 rfl (lv_at hl 0 rfl) ?_
  refine r_iconst hx hb dX3_renew_6 (by decide) (by decide) (fun x6 e6 => ?_)
  have hF := bn hF e6
  refine lv_iload_n hx hb dX3_renew_7 rfl (lv_at hl 2 rfl) ?_
  refine r_bipush hx hb dX3_renew_8 rfl (fun x8 e8 => ?_)
  have hF := bn hF e8
  refine r_min hx hb (hml.trans hl.1.symm) hts hown mw_4_27 (Nat.le_of_ble_eq_true rfl) (Nat.le_of_ble_eq_true rfl) ⟨Nat.zero_le _, Nat.zero_le _⟩ dX3_renew_10 (fun x10 e10 => ?_)
  have hF := bn hF e10
  have g10 := e10
  refine r_max hx hb (hml.trans hl.1.symm) hts hown mw_4_28 (Nat.le_of_ble_eq_true rfl) (Nat.le_of_ble_eq_true rfl) ⟨Nat.zero_le _, Nat.zero_le _⟩ dX3_renew_13 (fun x13 e13 => ?_)
  have hF := bn hF e13
  have g13 := e13
  refine pt_Sheet_length hx hb hts ic_Sheet hown hK hT hS g0 (hts _ mw_1_238) (by omega) (by omega) dX3_renew_16 (fun H locs hT hS => ?_)
  obtain ⟨σ16, hF, hfr, hT⟩ := wrL hF hfr hT
  refine lv_aload_n hx hb dX3_renew_19 rfl (lv_at hl 0 rfl) ?_
  refine gt_Sheet_cells hx hb hts ic_Sheet hown hK hT g0 (hts _ mw_1_234) dX3_renew_20 (fun q20 hq20 => ?_)
  refine r_iconst hx hb dX3_renew_23 (by decide) (by decide) (fun x23 e23 => ?_)
  have hF := bn hF e23
  obtain ⟨s24, hd24, -⟩ := bd1_s hF
  refine cl_Sv (rest := []) hC hK hSK (c_fill23 l z σ16 q20 (o0) hq20 x23 s24 hd24) k_J7_fill_53178 mw_4_31 ⟨rfl, rfl, Nat.le_of_ble_eq_true rfl, Nat.le_of_ble_eq_true rfl⟩ hT rfl hl.1 rfl (Nat.le_of_ble_eq_true rfl) dX3_renew_24 ⟨Nat.zero_le _, Nat.zero_le _⟩ hS (fun _ h => h) (fun _ _ h => h) (fun H locs hpo hS => ?_)
  obtain ⟨σ24, he24, hf24, hT⟩ := hpo
  have hF := bd1_r hF hd24 he24
  have hfr := FR_tr hf24 hfr
  exact rt_v hx hb hr hlk hS ⟨σ24, hF, hfr, hT⟩ dX3_renew_27
theorem k_X1_rowOf : cBV yX1_rowOf cX1_rowOf 2 (some (.array .int)) 1 := ⟨mw_3_27, mw_3_28, mw_1_4, mw_3_29, ⟨by decide, by decide, by decide⟩⟩
set_option maxHeartbeats 4000000 in
set_option maxRecDepth 100000 in
theorem c_X1_rowOf (l : Launch) (z : Zt) (σ : Sg) (h0 o0 : Nat) (g0 : zG z h0 = (11, o0)) (p1 : Int32) (out : Int) (hF : D_X1_rowOf (σ o0) p1.toInt = some out) : Met l yX1_rowOf (uw yX1_rowOf cX1_rowOf 2 (some (.array .int))) (rmF 1 64) (PcW z [.ref h0, .int p1] (fun H => TY z (zA z) σ H)) (QcR z (fun r H => ∃ ρ : Nat, some (ρ : Int) = some out ∧ TY z (zA z) σ H ∧ zG z r = (ρ, o0) ∧ (ρ = 51 ∨ ρ = 52 ∨ ρ = 53 ∨ ρ = 54))) 0 0 (zA z) := by
  refine Met.ofW (cc := cX1_rowOf) (maxL := 2) (ret := (some (.array .int))) (by decide) rfl ?_
  intro p e s m args below meth c s₁ B hml hv
  obtain ⟨rfl, hT, hK, hSK⟩ := hv
  have hx := B.exec
  have hb := B.bytes
  have hr := B.returns
  have hts : ∀ w ∈ lw_ok, w.before ([.ref h0, .int p1] : List Value).toArray s = true := fun w hw => atoms_spec (ws := uw yX1_rowOf cX1_rowOf 2 (some (.array .int))) B.pre w (List.mem_cons_of_mem _ hw)
  have hown : s.vm.findClass RX1 = some m.cls := findClass_of_methodNamed B.named
  have hlk := B.notSynchronized
  have hC : CallFix p m c cX1_rowOf 2 s ([.ref h0, .int p1] : List Value).toArray lw_ok RX1 := ⟨hx, hb, hml, hown, hts⟩
  have hS : va_S (zA z) s.heap s.heap [] := va_S.rf
  have hl := lv_entry ([.ref h0, .int p1]) (n := 2) (Nat.le_of_ble_eq_true rfl)
  rw [lg_entry_eq]
  generalize (lg_sl ([.ref h0, .int p1]) ++ List.replicate (2 - (lg_sl ([.ref h0, .int p1])).length) Slot.unset).toArray = ls at hl ⊢
  have hl : lv_has ls 2 [(0, .ref h0), (1, .int p1)] := hl
  show W p l e (rmF 1 64) s m ([.ref h0, .int p1] : List Value).toArray below meth c s.heap [] 0 0 (MQ below (QcR z (fun r H => ∃ ρ : Nat, some (ρ : Int) = some out ∧ TY z (zA z) σ H ∧ zG z r = (ρ, o0) ∧ (ρ = 51 ∨ ρ = 52 ∨ ρ = 53 ∨ ρ = 54))) ([.ref h0, .int p1] : List Value).toArray s 0 0 (zA z)) (F0 m 0 ls [])
  unfold D_X1_rowOf at hF
  have mx_p1 := i_mx p1
  refine lv_iload_n hx hb dX1_rowOf_0 rfl (lv_at hl 1 rfl) ?_
  rcases (show p1.toInt = 0 ∨ p1.toInt = 1 ∨ p1.toInt = 2 ∨ (p1.toInt < 0 ∨ 2 < p1.toInt) by omega) with c1 | c1 | c1 | c1
  · have hF := ifp hF c1
    refine lv_tableIn (off := 27) (tgt := 28) hx hb dX1_rowOf_1 (by omega) (by omega) (by rw [c1]; rfl) (by decide) ?_
    refine lv_aload_n hx hb dX1_rowOf_28 rfl (lv_at hl 0 rfl) ?_
    refine gt_Floor_kind hx hb hts ic_Floor hown hK hT g0 (hts _ mw_1_43) dX1_rowOf_29 (fun q29 hq29 => ?_)
    exact rt_r hx hb hr (Or.inr ⟨_, rfl⟩) hlk hS ⟨51, hF, hT, hq29, by decide⟩ dX1_rowOf_32
  · have hF := ifn hF (by omega)
    have hF := ifp hF c1
    refine lv_tableIn (off := 32) (tgt := 33) hx hb dX1_rowOf_1 (by omega) (by omega) (by rw [c1]; rfl) (by decide) ?_
    refine lv_aload_n hx hb dX1_rowOf_33 rfl (lv_at hl 0 rfl) ?_
    refine gt_Floor_height hx hb hts ic_Floor hown hK hT g0 (hts _ mw_1_45) dX1_rowOf_34 (fun q34 hq34 => ?_)
    exact rt_r hx hb hr (Or.inr ⟨_, rfl⟩) hlk hS ⟨52, hF, hT, hq34, by decide⟩ dX1_rowOf_37
  · have hF := ifn hF (by omega)
    have hF := ifn hF (by omega)
    have hF := ifp hF c1
    refine lv_tableIn (off := 37) (tgt := 38) hx hb dX1_rowOf_1 (by omega) (by omega) (by rw [c1]; rfl) (by decide) ?_
    refine lv_aload_n hx hb dX1_rowOf_38 rfl (lv_at hl 0 rfl) ?_
    refine gt_Floor_heels hx hb hts ic_Floor hown hK hT g0 (hts _ mw_1_47) dX1_rowOf_39 (fun q39 hq39 => ?_)
    exact rt_r hx hb hr (Or.inr ⟨_, rfl⟩) hlk hS ⟨53, hF, hT, hq39, by decide⟩ dX1_rowOf_42
  · have hF := ifn hF (by omega)
    have hF := ifn hF (by omega)
    have hF := ifn hF (by omega)
    refine lv_tableOut (tgt := 43) hx hb dX1_rowOf_1 c1 (by decide) ?_
    refine lv_aload_n hx hb dX1_rowOf_43 rfl (lv_at hl 0 rfl) ?_
    refine gt_Floor_heat hx hb hts ic_Floor hown hK hT g0 (hts _ mw_1_49) dX1_rowOf_44 (fun q44 hq44 => ?_)
    exact rt_r hx hb hr (Or.inr ⟨_, rfl⟩) hlk hS ⟨54, hF, hT, hq44, by decide⟩ dX1_rowOf_47
