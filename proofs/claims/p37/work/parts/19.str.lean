theorem ch_ok : ∀ w, w < 10 → ∀ j, j < wdN w → ((Int32.ofInt (wdC w j) &&& 255).toUInt32 % 65536).toInt32.toInt = wdC w j := by decide +kernel
theorem vk_rv {z : Zt} {s : State} {H : Heap} {locs : List Loc} {q t N : Nat} (h : sOK z s s.heap q t N) (hS : va_S (zA z) s.heap H locs) : ∃ cell : Cell, H[q]? = some cell ∧ cell.vm.isStatics = false ∧ s.vm.findClass "java/lang/String" = some cell.cls := by
  obtain ⟨cell, h1, h2, h3, h4⟩ := h.2.1
  exact ⟨cell, by rw [hS.2.1 q (Array.getElem?_eq_some_iff.mp h1).1 h4]; exact h1, h2, h3⟩
theorem sh_0 (x : Int32) : x >>> ((0 : Int32) &&& 31) = x := by
  rw [show ((0 : Int32) &&& 31) = 0 by decide]
  apply Int32.toInt_inj.mp
  rw [pk_shr x 0 0 (by decide)]
  exact Int.shiftRight_zero _
theorem k_J3_checkIndex_8e157 : cBS yJ3_checkIndex_8e157 cJ3_checkIndex_8e157 3 (some .int) 3 := ⟨mw_2_118, mw_1_12, mw_2_119, ⟨by decide, by decide, by decide⟩⟩
set_option maxHeartbeats 4000000 in
set_option maxRecDepth 100000 in
theorem c_J3_checkIndex_8e157N (l : Launch) (z : Zt) (σ : Sg) (p0 p1 : Int32) (b0 : 0 ≤ p0.toInt) (b1 : p0.toInt < p1.toInt) : Met l yJ3_checkIndex_8e157 (uw yJ3_checkIndex_8e157 cJ3_checkIndex_8e157 3 (some .int)) (rmF 1 64) (PcW z [.int p0, .int p1, .null] (fun H => TY z (zA z) σ H)) (QcI z (fun r H => TY z (zA z) σ H)) 0 0 (zA z) := by
  refine Met.ofW (cc := cJ3_checkIndex_8e157) (maxL := 3) (ret := (some .int)) (by decide) rfl ?_
  intro p e s m args below meth c s₁ B hml hv
  obtain ⟨rfl, hT, hK, hSK⟩ := hv
  have hx := B.exec
  have hb := B.bytes
  have hr := B.returns
  have hts : ∀ w ∈ lw_ok, w.before ([.int p0, .int p1, .null] : List Value).toArray s = true := fun w hw => atoms_spec (ws := uw yJ3_checkIndex_8e157 cJ3_checkIndex_8e157 3 (some .int)) B.pre w (List.mem_cons_of_mem _ hw)
  have hown : s.vm.findClass RJ3 = some m.cls := findClass_of_methodNamed B.named
  have hlk := B.notSynchronized
  have hC : CallFix p m c cJ3_checkIndex_8e157 3 s ([.int p0, .int p1, .null] : List Value).toArray lw_ok RJ3 := ⟨hx, hb, hml, hown, hts⟩
  have hS : va_S (zA z) s.heap s.heap [] := va_S.rf
  have hl := lv_entry ([.int p0, .int p1, .null]) (n := 3) (Nat.le_of_ble_eq_true rfl)
  rw [lg_entry_eq]
  generalize (lg_sl ([.int p0, .int p1, .null]) ++ List.replicate (3 - (lg_sl ([.int p0, .int p1, .null])).length) Slot.unset).toArray = ls at hl ⊢
  have hl : lv_has ls 3 [(0, .int p0), (1, .int p1), (2, .null)] := hl
  show W p l e (rmF 1 64) s m ([.int p0, .int p1, .null] : List Value).toArray below meth c s.heap [] 0 0 (MQ below (QcI z (fun r H => TY z (zA z) σ H)) ([.int p0, .int p1, .null] : List Value).toArray s 0 0 (zA z)) (F0 m 0 ls [])
  refine lv_iload_n hx hb dJ3_checkIndex_8e157_0 rfl (lv_at hl 0 rfl) ?_
  refine r_if_lt (tgt := 9) hx hb dJ3_checkIndex_8e157_1 (by decide) (fun c1 => ?_) (fun c1 => ?_)
  · exfalso; omega
  · refine lv_iload_n hx hb dJ3_checkIndex_8e157_4 rfl (lv_at hl 0 rfl) ?_
    refine lv_iload_n hx hb dJ3_checkIndex_8e157_5 rfl (lv_at hl 1 rfl) ?_
    refine r_icmp_lt (tgt := 16) hx hb dJ3_checkIndex_8e157_6 (by decide) (fun c6 => ?_) (fun c6 => ?_)
    · refine lv_iload_n hx hb dJ3_checkIndex_8e157_16 rfl (lv_at hl 0 rfl) ?_
      exact rt_i hx hb hr hlk hS hT dJ3_checkIndex_8e157_17
    · exfalso; omega
set_option maxHeartbeats 4000000 in
set_option maxRecDepth 100000 in
theorem c_J3_checkIndex_8e157R (l : Launch) (z : Zt) (σ : Sg) (p0 p1 : Int32) (tq : Nat) (b0 : 0 ≤ p0.toInt) (b1 : p0.toInt < p1.toInt) : Met l yJ3_checkIndex_8e157 (uw yJ3_checkIndex_8e157 cJ3_checkIndex_8e157 3 (some .int)) (rmF 1 64) (PcW z [.int p0, .int p1, .ref tq] (fun H => TY z (zA z) σ H)) (QcI z (fun r H => TY z (zA z) σ H)) 0 0 (zA z) := by
  refine Met.ofW (cc := cJ3_checkIndex_8e157) (maxL := 3) (ret := (some .int)) (by decide) rfl ?_
  intro p e s m args below meth c s₁ B hml hv
  obtain ⟨rfl, hT, hK, hSK⟩ := hv
  have hx := B.exec
  have hb := B.bytes
  have hr := B.returns
  have hts : ∀ w ∈ lw_ok, w.before ([.int p0, .int p1, .ref tq] : List Value).toArray s = true := fun w hw => atoms_spec (ws := uw yJ3_checkIndex_8e157 cJ3_checkIndex_8e157 3 (some .int)) B.pre w (List.mem_cons_of_mem _ hw)
  have hown : s.vm.findClass RJ3 = some m.cls := findClass_of_methodNamed B.named
  have hlk := B.notSynchronized
  have hC : CallFix p m c cJ3_checkIndex_8e157 3 s ([.int p0, .int p1, .ref tq] : List Value).toArray lw_ok RJ3 := ⟨hx, hb, hml, hown, hts⟩
  have hS : va_S (zA z) s.heap s.heap [] := va_S.rf
  have hl := lv_entry ([.int p0, .int p1, .ref tq]) (n := 3) (Nat.le_of_ble_eq_true rfl)
  rw [lg_entry_eq]
  generalize (lg_sl ([.int p0, .int p1, .ref tq]) ++ List.replicate (3 - (lg_sl ([.int p0, .int p1, .ref tq])).length) Slot.unset).toArray = ls at hl ⊢
  have hl : lv_has ls 3 [(0, .int p0), (1, .int p1), (2, .ref tq)] := hl
  show W p l e (rmF 1 64) s m ([.int p0, .int p1, .ref tq] : List Value).toArray below meth c s.heap [] 0 0 (MQ below (QcI z (fun r H => TY z (zA z) σ H)) ([.int p0, .int p1, .ref tq] : List Value).toArray s 0 0 (zA z)) (F0 m 0 ls [])
  refine lv_iload_n hx hb dJ3_checkIndex_8e157_0 rfl (lv_at hl 0 rfl) ?_
  refine r_if_lt (tgt := 9) hx hb dJ3_checkIndex_8e157_1 (by decide) (fun c1 => ?_) (fun c1 => ?_)
  · exfalso; omega
  · refine lv_iload_n hx hb dJ3_checkIndex_8e157_4 rfl (lv_at hl 0 rfl) ?_
    refine lv_iload_n hx hb dJ3_checkIndex_8e157_5 rfl (lv_at hl 1 rfl) ?_
    refine r_icmp_lt (tgt := 16) hx hb dJ3_checkIndex_8e157_6 (by decide) (fun c6 => ?_) (fun c6 => ?_)
    · refine lv_iload_n hx hb dJ3_checkIndex_8e157_16 rfl (lv_at hl 0 rfl) ?_
      exact rt_i hx hb hr hlk hS hT dJ3_checkIndex_8e157_17
    · exfalso; omega
theorem k_J0_checkIndex_df160 : cBS yJ0_checkIndex_df160 cJ0_checkIndex_df160 2 none 2 := ⟨mw_2_113, mw_1_10, mw_2_114, ⟨by decide, by decide, by decide⟩⟩
set_option maxHeartbeats 4000000 in
set_option maxRecDepth 100000 in
theorem c_J0_checkIndex_df160 (l : Launch) (z : Zt) (σ : Sg) (p0 p1 : Int32) (b0 : 0 ≤ p0.toInt) (b1 : p0.toInt < p1.toInt) : Met l yJ0_checkIndex_df160 (uw yJ0_checkIndex_df160 cJ0_checkIndex_df160 2 none) (rmF 2 110) (PcW z [.int p0, .int p1] (fun H => TY z (zA z) σ H)) (QcV z (fun H => TY z (zA z) σ H)) 0 0 (zA z) := by
  refine Met.ofW (cc := cJ0_checkIndex_df160) (maxL := 2) (ret := none) (by decide) rfl ?_
  intro p e s m args below meth c s₁ B hml hv
  obtain ⟨rfl, hT, hK, hSK⟩ := hv
  have hx := B.exec
  have hb := B.bytes
  have hr := B.returns
  have hts : ∀ w ∈ lw_ok, w.before ([.int p0, .int p1] : List Value).toArray s = true := fun w hw => atoms_spec (ws := uw yJ0_checkIndex_df160 cJ0_checkIndex_df160 2 none) B.pre w (List.mem_cons_of_mem _ hw)
  have hown : s.vm.findClass RJ0 = some m.cls := findClass_of_methodNamed B.named
  have hlk := B.notSynchronized
  have hC : CallFix p m c cJ0_checkIndex_df160 2 s ([.int p0, .int p1] : List Value).toArray lw_ok RJ0 := ⟨hx, hb, hml, hown, hts⟩
  have hS : va_S (zA z) s.heap s.heap [] := va_S.rf
  have hl := lv_entry ([.int p0, .int p1]) (n := 2) (Nat.le_of_ble_eq_true rfl)
  rw [lg_entry_eq]
  generalize (lg_sl ([.int p0, .int p1]) ++ List.replicate (2 - (lg_sl ([.int p0, .int p1])).length) Slot.unset).toArray = ls at hl ⊢
  have hl : lv_has ls 2 [(0, .int p0), (1, .int p1)] := hl
  show W p l e (rmF 2 110) s m ([.int p0, .int p1] : List Value).toArray below meth c s.heap [] 0 0 (MQ below (QcV z (fun H => TY z (zA z) σ H)) ([.int p0, .int p1] : List Value).toArray s 0 0 (zA z)) (F0 m 0 ls [])
  refine lv_iload_n hx hb dJ0_checkIndex_df160_0 rfl (lv_at hl 0 rfl) ?_
  refine lv_iload_n hx hb dJ0_checkIndex_df160_1 rfl (lv_at hl 1 rfl) ?_
  rcases hSK.2.2 with hZ | ⟨tq, hZ⟩
  · refine va_gets hx hb hZ hS hown (hts _ mw_2_115) (fun _ h9 => h9) dJ0_checkIndex_df160_2 ?_
    refine cl_Si (rest := []) hC hK hSK (c_J3_checkIndex_8e157N l z σ p0 p1 b0 b1) k_J3_checkIndex_8e157 mw_2_117 ⟨rfl, rfl, Nat.le_of_ble_eq_true rfl, Nat.le_of_ble_eq_true rfl⟩ hT rfl hl.1 rfl (Nat.le_of_ble_eq_true rfl) dJ0_checkIndex_df160_5 ⟨Nat.zero_le _, Nat.zero_le _⟩ hS (fun _ h => h) (fun _ _ h => h) (fun r5 H locs hT hS => ?_)
    refine lv_pop hx hb dJ0_checkIndex_df160_8 rfl ?_
    exact rt_v hx hb hr hlk hS hT dJ0_checkIndex_df160_9
  · refine va_gets hx hb hZ hS hown (hts _ mw_2_115) (fun _ h9 => h9) dJ0_checkIndex_df160_2 ?_
    refine cl_Si (rest := []) hC hK hSK (c_J3_checkIndex_8e157R l z σ p0 p1 tq b0 b1) k_J3_checkIndex_8e157 mw_2_117 ⟨rfl, rfl, Nat.le_of_ble_eq_true rfl, Nat.le_of_ble_eq_true rfl⟩ hT rfl hl.1 rfl (Nat.le_of_ble_eq_true rfl) dJ0_checkIndex_df160_5 ⟨Nat.zero_le _, Nat.zero_le _⟩ hS (fun _ h => h) (fun _ _ h => h) (fun r5 H locs hT hS => ?_)
    refine lv_pop hx hb dJ0_checkIndex_df160_8 rfl ?_
    exact rt_v hx hb hr hlk hS hT dJ0_checkIndex_df160_9
theorem k_J1_charAt_3b067 : cBS yJ1_charAt_3b067 cJ1_charAt_3b067 2 (some .char) 2 := ⟨mw_2_110, mw_1_11, mw_2_111, ⟨by decide, by decide, by decide⟩⟩
set_option maxHeartbeats 4000000 in
set_option maxRecDepth 100000 in
theorem c_J1_charAt_3b067 (l : Launch) (z : Zt) (σ : Sg) (qs ts N : Nat) (p1 : Int32) (b0 : 0 ≤ p1.toInt) (b1 : p1.toInt < (wdN N : Int)) : Met l yJ1_charAt_3b067 (uw yJ1_charAt_3b067 cJ1_charAt_3b067 2 (some .char)) (rmF 3 150) (PcS z [.ref ts, .int p1] (fun H => TY z (zA z) σ H) qs ts N) (QcI z (fun r H => TY z (zA z) σ H ∧ narrow .char (.int r) = .int r ∧ r.toInt = wdC N p1.toInt.toNat)) 0 0 (zA z) := by
  refine Met.ofW (cc := cJ1_charAt_3b067) (maxL := 2) (ret := (some .char)) (by decide) rfl ?_
  intro p e s m args below meth c s₁ B hml hv
  obtain ⟨rfl, hT, hK, hSK, hsq⟩ := hv
  have hx := B.exec
  have hb := B.bytes
  have hr := B.returns
  have hts : ∀ w ∈ lw_ok, w.before ([.ref ts, .int p1] : List Value).toArray s = true := fun w hw => atoms_spec (ws := uw yJ1_charAt_3b067 cJ1_charAt_3b067 2 (some .char)) B.pre w (List.mem_cons_of_mem _ hw)
  have hown : s.vm.findClass RJ1 = some m.cls := findClass_of_methodNamed B.named
  have hlk := B.notSynchronized
  have hC : CallFix p m c cJ1_charAt_3b067 2 s ([.ref ts, .int p1] : List Value).toArray lw_ok RJ1 := ⟨hx, hb, hml, hown, hts⟩
  have hS : va_S (zA z) s.heap s.heap [] := va_S.rf
  have hl := lv_entry ([.ref ts, .int p1]) (n := 2) (Nat.le_of_ble_eq_true rfl)
  rw [lg_entry_eq]
  generalize (lg_sl ([.ref ts, .int p1]) ++ List.replicate (2 - (lg_sl ([.ref ts, .int p1])).length) Slot.unset).toArray = ls at hl ⊢
  have hl : lv_has ls 2 [(0, .ref ts), (1, .int p1)] := hl
  show W p l e (rmF 3 150) s m ([.ref ts, .int p1] : List Value).toArray below meth c s.heap [] 0 0 (MQ below (QcI z (fun r H => TY z (zA z) σ H ∧ narrow .char (.int r) = .int r ∧ r.toInt = wdC N p1.toInt.toNat)) ([.ref ts, .int p1] : List Value).toArray s 0 0 (zA z)) (F0 m 0 ls [])
  obtain ⟨⟨s10, sN⟩, sO, sC, sV, sT⟩ := id hsq
  refine lv_iload_n hx hb dJ1_charAt_3b067_0 rfl (lv_at hl 1 rfl) ?_
  refine lv_aload_n hx hb dJ1_charAt_3b067_1 rfl (lv_at hl 0 rfl) ?_
  have eN : (Int32.ofNat (wdN N)).toInt = (wdN N : Int) := nI_toInt (by omega)
  refine va_tlen hx hb sT hS rfl dJ1_charAt_3b067_2 ?_
  refine cl_Sv (rest := []) hC hK hSK (c_J0_checkIndex_df160 l z σ p1 (Int32.ofNat (wdN N)) b0 (by omega)) k_J0_checkIndex_df160 mw_2_112 ⟨rfl, rfl, Nat.le_of_ble_eq_true rfl, Nat.le_of_ble_eq_true rfl⟩ hT rfl hl.1 rfl (Nat.le_of_ble_eq_true rfl) dJ1_charAt_3b067_3 ⟨Nat.zero_le _, Nat.zero_le _⟩ hS (fun _ h => h) (fun _ _ h => h) (fun H locs hT hS => ?_)
  refine lv_aload_n hx hb dJ1_charAt_3b067_6 rfl (lv_at hl 0 rfl) ?_
  refine lv_iload_n hx hb dJ1_charAt_3b067_7 rfl (lv_at hl 1 rfl) ?_
  refine va_tb hx hb sT hS (ix_in b0 b1) rfl dJ1_charAt_3b067_8 ?_
  refine r_sipush hx hb dJ1_charAt_3b067_9 rfl (fun x9 e9 => ?_)
  have e9b : x9 = 255 := Int32.toInt_inj.mp e9
  subst e9b
  refine lv_iand hx hb dJ1_charAt_3b067_12 ?_
  refine lv_i2c hx hb dJ1_charAt_3b067_13 rfl ?_
  exact W.zret hx hb hr (pk_nc _) (fun t ht hW => ⟨⟨_, _, rfl, rfl, by show TY z (zA z) σ t.heap ∧ _; rw [ht]; exact ⟨hT, pk_nc _, ch_ok N s10 _ (ix_lt b0 b1)⟩⟩, hS.F ht⟩) hS.2.2 dJ1_charAt_3b067_14 hlk
theorem k_J0_coder_7d493 : cBV yJ0_coder_7d493 cJ0_coder_7d493 1 (some .byte) 0 := ⟨mw_2_96, mw_2_97, mw_1_10, mw_2_98, ⟨by decide, by decide, by decide⟩⟩
set_option maxHeartbeats 4000000 in
set_option maxRecDepth 100000 in
theorem c_J0_coder_7d493 (l : Launch) (z : Zt) (σ : Sg) (qs ts N : Nat) : Met l yJ0_coder_7d493 (uw yJ0_coder_7d493 cJ0_coder_7d493 1 (some .byte)) (rmF 1 64) (PcS z [.ref qs] (fun H => TY z (zA z) σ H) qs ts N) (QcI z (fun r H => TY z (zA z) σ H ∧ r = 0)) 0 0 (zA z) := by
  refine Met.ofW (cc := cJ0_coder_7d493) (maxL := 1) (ret := (some .byte)) (by decide) rfl ?_
  intro p e s m args below meth c s₁ B hml hv
  obtain ⟨rfl, hT, hK, hSK, hsq⟩ := hv
  have hx := B.exec
  have hb := B.bytes
  have hr := B.returns
  have hts : ∀ w ∈ lw_ok, w.before ([.ref qs] : List Value).toArray s = true := fun w hw => atoms_spec (ws := uw yJ0_coder_7d493 cJ0_coder_7d493 1 (some .byte)) B.pre w (List.mem_cons_of_mem _ hw)
  have hown : s.vm.findClass RJ0 = some m.cls := findClass_of_methodNamed B.named
  have hlk := B.notSynchronized
  have hC : CallFix p m c cJ0_coder_7d493 1 s ([.ref qs] : List Value).toArray lw_ok RJ0 := ⟨hx, hb, hml, hown, hts⟩
  have hS : va_S (zA z) s.heap s.heap [] := va_S.rf
  have hl := lv_entry ([.ref qs]) (n := 1) (Nat.le_of_ble_eq_true rfl)
  rw [lg_entry_eq]
  generalize (lg_sl ([.ref qs]) ++ List.replicate (1 - (lg_sl ([.ref qs])).length) Slot.unset).toArray = ls at hl ⊢
  have hl : lv_has ls 1 [(0, .ref qs)] := hl
  show W p l e (rmF 1 64) s m ([.ref qs] : List Value).toArray below meth c s.heap [] 0 0 (MQ below (QcI z (fun r H => TY z (zA z) σ H ∧ r = 0)) ([.ref qs] : List Value).toArray s 0 0 (zA z)) (F0 m 0 ls [])
  obtain ⟨⟨s10, sN⟩, sO, sC, sV, sT⟩ := id hsq
  refine va_gets hx hb hSK.2.1 hS hown (hts _ mw_2_99) (fun _ h9 => h9) dJ0_coder_7d493_0 ?_
  refine r_if_eq (tgt := 13) hx hb dJ0_coder_7d493_3 (by decide) (fun c3 => ?_) (fun c3 => ?_)
  · exact absurd c3 (by decide)
  · refine lv_aload_n hx hb dJ0_coder_7d493_6 rfl (lv_at hl 0 rfl) ?_
    refine vk_getf hx hb sC hS hown (hts _ mw_6_25) (fun _ h9 => h9) dJ0_coder_7d493_7 ?_
    refine lv_goto (tgt := 14) hx hb dJ0_coder_7d493_10 (by decide) ?_
    exact W.zret hx hb hr (by decide) (fun t ht hW => ⟨⟨_, _, rfl, rfl, by show TY z (zA z) σ t.heap ∧ _; rw [ht]; exact ⟨hT, rfl⟩⟩, hS.F ht⟩) hS.2.2 dJ0_coder_7d493_14 hlk
theorem k_J0_isLatin1_aae02 : cBV yJ0_isLatin1_aae02 cJ0_isLatin1_aae02 1 (some .boolean) 0 := ⟨mw_2_106, mw_2_107, mw_1_10, mw_2_108, ⟨by decide, by decide, by decide⟩⟩
set_option maxHeartbeats 4000000 in
set_option maxRecDepth 100000 in
theorem c_J0_isLatin1_aae02 (l : Launch) (z : Zt) (σ : Sg) (qs ts N : Nat) : Met l yJ0_isLatin1_aae02 (uw yJ0_isLatin1_aae02 cJ0_isLatin1_aae02 1 (some .boolean)) (rmF 1 64) (PcS z [.ref qs] (fun H => TY z (zA z) σ H) qs ts N) (QcI z (fun r H => TY z (zA z) σ H ∧ r.toInt = 1)) 0 0 (zA z) := by
  refine Met.ofW (cc := cJ0_isLatin1_aae02) (maxL := 1) (ret := (some .boolean)) (by decide) rfl ?_
  intro p e s m args below meth c s₁ B hml hv
  obtain ⟨rfl, hT, hK, hSK, hsq⟩ := hv
  have hx := B.exec
  have hb := B.bytes
  have hr := B.returns
  have hts : ∀ w ∈ lw_ok, w.before ([.ref qs] : List Value).toArray s = true := fun w hw => atoms_spec (ws := uw yJ0_isLatin1_aae02 cJ0_isLatin1_aae02 1 (some .boolean)) B.pre w (List.mem_cons_of_mem _ hw)
  have hown : s.vm.findClass RJ0 = some m.cls := findClass_of_methodNamed B.named
  have hlk := B.notSynchronized
  have hC : CallFix p m c cJ0_isLatin1_aae02 1 s ([.ref qs] : List Value).toArray lw_ok RJ0 := ⟨hx, hb, hml, hown, hts⟩
  have hS : va_S (zA z) s.heap s.heap [] := va_S.rf
  have hl := lv_entry ([.ref qs]) (n := 1) (Nat.le_of_ble_eq_true rfl)
  rw [lg_entry_eq]
  generalize (lg_sl ([.ref qs]) ++ List.replicate (1 - (lg_sl ([.ref qs])).length) Slot.unset).toArray = ls at hl ⊢
  have hl : lv_has ls 1 [(0, .ref qs)] := hl
  show W p l e (rmF 1 64) s m ([.ref qs] : List Value).toArray below meth c s.heap [] 0 0 (MQ below (QcI z (fun r H => TY z (zA z) σ H ∧ r.toInt = 1)) ([.ref qs] : List Value).toArray s 0 0 (zA z)) (F0 m 0 ls [])
  obtain ⟨⟨s10, sN⟩, sO, sC, sV, sT⟩ := id hsq
  refine va_gets hx hb hSK.2.1 hS hown (hts _ mw_2_99) (fun _ h9 => h9) dJ0_isLatin1_aae02_0 ?_
  refine r_if_eq (tgt := 17) hx hb dJ0_isLatin1_aae02_3 (by decide) (fun c3 => ?_) (fun c3 => ?_)
  · exact absurd c3 (by decide)
  · refine lv_aload_n hx hb dJ0_isLatin1_aae02_6 rfl (lv_at hl 0 rfl) ?_
    refine vk_getf hx hb sC hS hown (hts _ mw_6_25) (fun _ h9 => h9) dJ0_isLatin1_aae02_7 ?_
    refine r_if_ne (tgt := 17) hx hb dJ0_isLatin1_aae02_10 (by decide) (fun c10 => ?_) (fun c10 => ?_)
    · exact absurd rfl c10
    · refine r_iconst hx hb dJ0_isLatin1_aae02_13 (by decide) (by decide) (fun x13 e13 => ?_)
      refine lv_goto (tgt := 18) hx hb dJ0_isLatin1_aae02_14 (by decide) ?_
      exact rt_z hx hb hr hlk hS (by omega) (by omega) ⟨hT, e13⟩ dJ0_isLatin1_aae02_18
theorem k_J0_length_8abf5 : cBV yJ0_length_8abf5 cJ0_length_8abf5 1 (some .int) 0 := ⟨mw_2_92, mw_2_93, mw_1_10, mw_2_94, ⟨by decide, by decide, by decide⟩⟩
set_option maxHeartbeats 4000000 in
set_option maxRecDepth 100000 in
theorem c_J0_length_8abf5 (l : Launch) (z : Zt) (σ : Sg) (qs ts N : Nat) : Met l yJ0_length_8abf5 (uw yJ0_length_8abf5 cJ0_length_8abf5 1 (some .int)) (rmF 2 110) (PcS z [.ref qs] (fun H => TY z (zA z) σ H) qs ts N) (QcI z (fun r H => TY z (zA z) σ H ∧ r.toInt = (wdN N : Int))) 0 0 (zA z) := by
  refine Met.ofW (cc := cJ0_length_8abf5) (maxL := 1) (ret := (some .int)) (by decide) rfl ?_
  intro p e s m args below meth c s₁ B hml hv
  obtain ⟨rfl, hT, hK, hSK, hsq⟩ := hv
  have hx := B.exec
  have hb := B.bytes
  have hr := B.returns
  have hts : ∀ w ∈ lw_ok, w.before ([.ref qs] : List Value).toArray s = true := fun w hw => atoms_spec (ws := uw yJ0_length_8abf5 cJ0_length_8abf5 1 (some .int)) B.pre w (List.mem_cons_of_mem _ hw)
  have hown : s.vm.findClass RJ0 = some m.cls := findClass_of_methodNamed B.named
  have hlk := B.notSynchronized
  have hC : CallFix p m c cJ0_length_8abf5 1 s ([.ref qs] : List Value).toArray lw_ok RJ0 := ⟨hx, hb, hml, hown, hts⟩
  have hS : va_S (zA z) s.heap s.heap [] := va_S.rf
  have hl := lv_entry ([.ref qs]) (n := 1) (Nat.le_of_ble_eq_true rfl)
  rw [lg_entry_eq]
  generalize (lg_sl ([.ref qs]) ++ List.replicate (1 - (lg_sl ([.ref qs])).length) Slot.unset).toArray = ls at hl ⊢
  have hl : lv_has ls 1 [(0, .ref qs)] := hl
  show W p l e (rmF 2 110) s m ([.ref qs] : List Value).toArray below meth c s.heap [] 0 0 (MQ below (QcI z (fun r H => TY z (zA z) σ H ∧ r.toInt = (wdN N : Int))) ([.ref qs] : List Value).toArray s 0 0 (zA z)) (F0 m 0 ls [])
  obtain ⟨⟨s10, sN⟩, sO, sC, sV, sT⟩ := id hsq
  have eN : (Int32.ofNat (wdN N)).toInt = (wdN N : Int) := nI_toInt (by omega)
  refine lv_aload_n hx hb dJ0_length_8abf5_0 rfl (lv_at hl 0 rfl) ?_
  refine vk_getf hx hb sV hS hown (hts _ mw_6_24) (fun _ h9 => h9) dJ0_length_8abf5_1 ?_
  refine va_tlen hx hb sT hS rfl dJ0_length_8abf5_4 ?_
  refine lv_aload_n hx hb dJ0_length_8abf5_5 rfl (lv_at hl 0 rfl) ?_
  refine cs_Vi (rest := [.int (Int32.ofNat (wdN N))]) hC hK hSK hsq (c_J0_coder_7d493 l z σ qs ts N) k_J0_coder_7d493 mw_2_95 ⟨rfl, rfl, Nat.le_of_ble_eq_true rfl, Nat.le_of_ble_eq_true rfl⟩ (vk_rv hsq hS) hT rfl hl.1 rfl (Nat.le_of_ble_eq_true rfl) dJ0_length_8abf5_6 ⟨Nat.zero_le _, Nat.zero_le _⟩ hS (fun _ h => h) (fun _ _ h => h) (fun r6 H locs hpo hS => ?_)
  obtain ⟨hT, e6⟩ := hpo
  subst e6
  refine lv_ishr hx hb dJ0_length_8abf5_9 ?_
  exact rt_i hx hb hr hlk hS ⟨hT, by rw [show (Int32.ofNat (wdN N) >>> ((0 : Int32) &&& 31)) = Int32.ofNat (wdN N) from sh_0 _]; exact eN⟩ dJ0_length_8abf5_10
theorem k_J0_charAt_5068e : cBV yJ0_charAt_5068e cJ0_charAt_5068e 2 (some .char) 1 := ⟨mw_2_102, mw_2_103, mw_1_10, mw_2_104, ⟨by decide, by decide, by decide⟩⟩
set_option maxHeartbeats 4000000 in
set_option maxRecDepth 100000 in
theorem c_J0_charAt_5068e (l : Launch) (z : Zt) (σ : Sg) (qs ts N : Nat) (p1 : Int32) (b0 : 0 ≤ p1.toInt) (b1 : p1.toInt < (wdN N : Int)) : Met l yJ0_charAt_5068e (uw yJ0_charAt_5068e cJ0_charAt_5068e 2 (some .char)) (rmF 4 190) (PcS z [.ref qs, .int p1] (fun H => TY z (zA z) σ H) qs ts N) (QcI z (fun r H => TY z (zA z) σ H ∧ r.toInt = wdC N p1.toInt.toNat)) 0 0 (zA z) := by
  refine Met.ofW (cc := cJ0_charAt_5068e) (maxL := 2) (ret := (some .char)) (by decide) rfl ?_
  intro p e s m args below meth c s₁ B hml hv
  obtain ⟨rfl, hT, hK, hSK, hsq⟩ := hv
  have hx := B.exec
  have hb := B.bytes
  have hr := B.returns
  have hts : ∀ w ∈ lw_ok, w.before ([.ref qs, .int p1] : List Value).toArray s = true := fun w hw => atoms_spec (ws := uw yJ0_charAt_5068e cJ0_charAt_5068e 2 (some .char)) B.pre w (List.mem_cons_of_mem _ hw)
  have hown : s.vm.findClass RJ0 = some m.cls := findClass_of_methodNamed B.named
  have hlk := B.notSynchronized
  have hC : CallFix p m c cJ0_charAt_5068e 2 s ([.ref qs, .int p1] : List Value).toArray lw_ok RJ0 := ⟨hx, hb, hml, hown, hts⟩
  have hS : va_S (zA z) s.heap s.heap [] := va_S.rf
  have hl := lv_entry ([.ref qs, .int p1]) (n := 2) (Nat.le_of_ble_eq_true rfl)
  rw [lg_entry_eq]
  generalize (lg_sl ([.ref qs, .int p1]) ++ List.replicate (2 - (lg_sl ([.ref qs, .int p1])).length) Slot.unset).toArray = ls at hl ⊢
  have hl : lv_has ls 2 [(0, .ref qs), (1, .int p1)] := hl
  show W p l e (rmF 4 190) s m ([.ref qs, .int p1] : List Value).toArray below meth c s.heap [] 0 0 (MQ below (QcI z (fun r H => TY z (zA z) σ H ∧ r.toInt = wdC N p1.toInt.toNat)) ([.ref qs, .int p1] : List Value).toArray s 0 0 (zA z)) (F0 m 0 ls [])
  obtain ⟨⟨s10, sN⟩, sO, sC, sV, sT⟩ := id hsq
  refine lv_aload_n hx hb dJ0_charAt_5068e_0 rfl (lv_at hl 0 rfl) ?_
  refine cs_Vi (rest := []) hC hK hSK hsq (c_J0_isLatin1_aae02 l z σ qs ts N) k_J0_isLatin1_aae02 mw_2_105 ⟨rfl, rfl, Nat.le_of_ble_eq_true rfl, Nat.le_of_ble_eq_true rfl⟩ (vk_rv hsq hS) hT rfl hl.1 rfl (Nat.le_of_ble_eq_true rfl) dJ0_charAt_5068e_1 ⟨Nat.zero_le _, Nat.zero_le _⟩ hS (fun _ h => h) (fun _ _ h => h) (fun r1 H locs hpo hS => ?_)
  obtain ⟨hT, e1⟩ := hpo
  refine r_if_eq (tgt := 16) hx hb dJ0_charAt_5068e_4 (by decide) (fun c4 => ?_) (fun c4 => ?_)
  · exfalso; omega
  · refine lv_aload_n hx hb dJ0_charAt_5068e_7 rfl (lv_at hl 0 rfl) ?_
    refine vk_getf hx hb sV hS hown (hts _ mw_6_24) (fun _ h9 => h9) dJ0_charAt_5068e_8 ?_
    refine lv_iload_n hx hb dJ0_charAt_5068e_11 rfl (lv_at hl 1 rfl) ?_
    refine cs_Si (rest := []) hC hK hSK hsq (c_J1_charAt_3b067 l z σ qs ts N p1 b0 b1) k_J1_charAt_3b067 mw_2_109 ⟨rfl, rfl, Nat.le_of_ble_eq_true rfl, Nat.le_of_ble_eq_true rfl⟩ hT rfl hl.1 rfl (Nat.le_of_ble_eq_true rfl) dJ0_charAt_5068e_12 ⟨Nat.zero_le _, Nat.zero_le _⟩ hS (fun _ h => h) (fun _ _ h => h) (fun r12 H locs hpo hS => ?_)
    obtain ⟨hT, e12, e13⟩ := hpo
    exact W.zret hx hb hr e12 (fun t ht hW => ⟨⟨_, _, rfl, rfl, by show TY z (zA z) σ t.heap ∧ _; rw [ht]; exact ⟨hT, e13⟩⟩, hS.F ht⟩) hS.2.2 dJ0_charAt_5068e_15 hlk
