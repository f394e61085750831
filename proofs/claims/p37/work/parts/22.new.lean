theorem df_X0 : ∀ j, j < 8 → defaultValue (tyX0 j) = vp_V [.null, .null, .null, .null, .null, .null, .int 0, .int 0] j := by
  intro j hj
  rcases (show j = 0 ∨ j = 1 ∨ j = 2 ∨ j = 3 ∨ j = 4 ∨ j = 5 ∨ j = 6 ∨ j = 7 by omega) with rfl | rfl | rfl | rfl | rfl | rfl | rfl | rfl <;> rfl
theorem df_X1 : ∀ j, j < 10 → defaultValue (tyX1 j) = vp_V [.null, .null, .null, .null, .null, .null, .null, .null, .int 0, .int 0] j := by
  intro j hj
  rcases (show j = 0 ∨ j = 1 ∨ j = 2 ∨ j = 3 ∨ j = 4 ∨ j = 5 ∨ j = 6 ∨ j = 7 ∨ j = 8 ∨ j = 9 by omega) with rfl | rfl | rfl | rfl | rfl | rfl | rfl | rfl | rfl | rfl <;> rfl
theorem df_X2 : ∀ j, j < 8 → defaultValue (tyX2 j) = vp_V [.null, .null, .null, .null, .int 0, .int 0, .int 0, .int 0] j := by
  intro j hj
  rcases (show j = 0 ∨ j = 1 ∨ j = 2 ∨ j = 3 ∨ j = 4 ∨ j = 5 ∨ j = 6 ∨ j = 7 by omega) with rfl | rfl | rfl | rfl | rfl | rfl | rfl | rfl <;> rfl
theorem df_X3 : ∀ j, j < 3 → defaultValue (tyX3 j) = vp_V [.null, .int 0, .int 0] j := by
  intro j hj
  rcases (show j = 0 ∨ j = 1 ∨ j = 2 by omega) with rfl | rfl | rfl <;> rfl
theorem df_X4 : ∀ j, j < 10 → defaultValue (tyX4 j) = vp_V [.null, .null, .int 0, .int 0, .int 0, .int 0, .int 0, .int 0, .int 0, .int 0] j := by
  intro j hj
  rcases (show j = 0 ∨ j = 1 ∨ j = 2 ∨ j = 3 ∨ j = 4 ∨ j = 5 ∨ j = 6 ∨ j = 7 ∨ j = 8 ∨ j = 9 by omega) with rfl | rfl | rfl | rfl | rfl | rfl | rfl | rfl | rfl | rfl <;> rfl
theorem df_X5 : ∀ j, j < 3 → defaultValue (tyX5 j) = vp_V [.null, .null, .int 0] j := by
  intro j hj
  rcases (show j = 0 ∨ j = 1 ∨ j = 2 by omega) with rfl | rfl | rfl <;> rfl
theorem df_X6 : ∀ j, j < 9 → defaultValue (tyX6 j) = vp_V [.null, .null, .null, .null, .null, .null, .null, .int 0, .int 0] j := by
  intro j hj
  rcases (show j = 0 ∨ j = 1 ∨ j = 2 ∨ j = 3 ∨ j = 4 ∨ j = 5 ∨ j = 6 ∨ j = 7 ∨ j = 8 by omega) with rfl | rfl | rfl | rfl | rfl | rfl | rfl | rfl | rfl <;> rfl
theorem df_X7 : ∀ j, j < 26 → defaultValue (tyX7 j) = vp_V [.null, .null, .null, .int 0, .null, .int 0, .int 0, .int 0, .int 0, .null, .int 0, .int 0, .int 0, .int 0, .int 0, .int 0, .int 0, .null, .null, .long 0, .long 0, .null, .null, .null, .int 0, .null] j := by
  intro j hj
  rcases (show j = 0 ∨ j = 1 ∨ j = 2 ∨ j = 3 ∨ j = 4 ∨ j = 5 ∨ j = 6 ∨ j = 7 ∨ j = 8 ∨ j = 9 ∨ j = 10 ∨ j = 11 ∨ j = 12 ∨ j = 13 ∨ j = 14 ∨ j = 15 ∨ j = 16 ∨ j = 17 ∨ j = 18 ∨ j = 19 ∨ j = 20 ∨ j = 21 ∨ j = 22 ∨ j = 23 ∨ j = 24 ∨ j = 25 by omega) with rfl | rfl | rfl | rfl | rfl | rfl | rfl | rfl | rfl | rfl | rfl | rfl | rfl | rfl | rfl | rfl | rfl | rfl | rfl | rfl | rfl | rfl | rfl | rfl | rfl | rfl <;> rfl
theorem k_X1_init : cBI yX1_init cX1_init 1 := ⟨mw_1_40, mw_1_4, mw_1_41, rfl, by decide, by decide, by decide⟩
set_option maxHeartbeats 4000000 in
set_option maxRecDepth 100000 in
theorem c_X1_init (l : Launch) (z : Zt) (h0 sz o : Nat) : Met l yX1_init (uw yX1_init cX1_init 1 none) (rmC 1 64 8 40) (IPre z h0 sz 1 [.null, .null, .null, .null, .null, .null, .null, .null, .int 0, .int 0]) (IQ z (va_A [(h0, .inr (1, [.null, .null, .null, .null, .null, .null, .null, .null, .int 0, .int 0]))] sz) (11, o) h0 [(11, o)]) 8 40 (va_A [(h0, .inr (1, [.null, .null, .null, .null, .null, .null, .null, .null, .int 0, .int 0]))] sz) := by
  refine Met.ofW (cc := cX1_init) (maxL := 1) (ret := none) (by decide) rfl ?_
  intro p e s m args below meth c s₁ B hml hv
  obtain ⟨rfl, hsz, hP, hK, hNW⟩ := hv
  have hx := B.exec
  have hb := B.bytes
  have hr := B.returns
  have hts : ∀ w ∈ lw_ok, w.before ([.ref h0] : List Value).toArray s = true := fun w hw => atoms_spec (ws := uw yX1_init cX1_init 1 none) B.pre w (List.mem_cons_of_mem _ hw)
  have hown : s.vm.findClass RX1 = some m.cls := findClass_of_methodNamed B.named
  have hlk := B.notSynchronized
  have hin : meth.name = "<init>" := (name_of_methodNamed B.named B.method).1
  subst hsz
  have hD := vd_one (q := h0) (sz := s.heap.size) (e := .inr (1, [.null, .null, .null, .null, .null, .null, .null, .null, .int 0, .int 0]))
  generalize hAe : va_A [(h0, .inr (1, [.null, .null, .null, .null, .null, .null, .null, .null, .int 0, .int 0]))] s.heap.size = A at hD ⊢
  have hA : ∀ q : Nat, s.heap.size ≤ q → A q := fun q h => by rw [← hAe]; exact Or.inr h
  have hC0 : CallFix p m c cX1_init 1 s ([.ref h0] : List Value).toArray lw_ok RX1 := ⟨hx, hb, hml, hown, hts⟩
  have hS : va_S A s.heap s.heap [] := va_S.rf
  have hC := CT.ini hP hD
  have hl := lv_entry ([.ref h0]) (n := 1) (Nat.le_of_ble_eq_true rfl)
  rw [lg_entry_eq]
  generalize (lg_sl ([.ref h0]) ++ List.replicate (1 - (lg_sl ([.ref h0])).length) Slot.unset).toArray = ls at hl ⊢
  have hl : lv_has ls 1 [(0, .ref h0)] := hl
  show W p l e (rmC 1 64 8 40) s m ([.ref h0] : List Value).toArray below meth c s.heap [] 0 0 (MQ below (IQ z A (11, o) h0 [(11, o)]) ([.ref h0] : List Value).toArray s 8 40 A) (F0 m 0 ls [])
  refine lv_aload_n hx hb dX1_init_0 rfl (lv_at hl 0 rfl) ?_
  refine W.objInit hx hb hown (hts _ mw_1_42) (hts _ mw_1_23) (hts _ mw_1_24) rfl (by rw [hml]; exact hl.1) rfl dX1_init_1 (Nat.le_of_ble_eq_true rfl) (Nat.le_of_ble_eq_true rfl) ?_
  refine W.eq (g2 := F0 m 4 ls []) rfl ?_
  refine lv_aload_n hx hb dX1_init_4 rfl (lv_at hl 0 rfl) ?_
  refine r_iconst hx hb dX1_init_5 (by decide) (by decide) (fun x1 ex1 => ?_)
  refine ct_newI hx hb hts hK hC hS hA 5 (by omega) (by decide) (Nat.le_of_ble_eq_true rfl) (Nat.le_of_ble_eq_true rfl) dX1_init_6 (fun q2 H hC hS => ?_)
  have hC : CT z [] [] A [(h0, .inr (1, [.null, .null, .null, .null, .null, .null, .null, .null, .int 0, .int 0])), (q2, .inl (zI z, 5, .inl (fun _ => 0)))] H := hC
  refine W.widen (k := 1) (n := 5) (by omega) (by omega) ?_
  refine ct_put (own := RX1) (ty := .array .int) (v := .ref q2) hx hb hts ic_Floor tyX1 tyX1_ok nmX1 hown hK hC hS rfl rfl 0 (by decide) mw_1_43 hin rfl (by decide +kernel) rfl rfl (Nat.le_of_ble_eq_true rfl) dX1_init_8 (fun H locs hC hS => ?_)
  have hC : CT z [] [] A [(h0, .inr (1, [.ref q2, .null, .null, .null, .null, .null, .null, .null, .int 0, .int 0])), (q2, .inl (zI z, 5, .inl (fun _ => 0)))] H := hC
  refine lv_aload_n hx hb dX1_init_11 rfl (lv_at hl 0 rfl) ?_
  refine r_iconst hx hb dX1_init_12 (by decide) (by decide) (fun x3 ex3 => ?_)
  refine ct_newI hx hb hts hK hC hS hA 5 (by omega) (by decide) (Nat.le_of_ble_eq_true rfl) (Nat.le_of_ble_eq_true rfl) dX1_init_13 (fun q4 H hC hS => ?_)
  have hC : CT z [] [] A [(h0, .inr (1, [.ref q2, .null, .null, .null, .null, .null, .null, .null, .int 0, .int 0])), (q2, .inl (zI z, 5, .inl (fun _ => 0))), (q4, .inl (zI z, 5, .inl (fun _ => 0)))] H := hC
  refine W.widen (k := 2) (n := 10) (by omega) (by omega) ?_
  refine ct_put (own := RX1) (ty := .array .int) (v := .ref q4) hx hb hts ic_Floor tyX1 tyX1_ok nmX1 hown hK hC hS rfl rfl 1 (by decide) mw_1_45 hin rfl (by decide +kernel) rfl rfl (Nat.le_of_ble_eq_true rfl) dX1_init_15 (fun H locs hC hS => ?_)
  have hC : CT z [] [] A [(h0, .inr (1, [.ref q2, .ref q4, .null, .null, .null, .null, .null, .null, .int 0, .int 0])), (q2, .inl (zI z, 5, .inl (fun _ => 0))), (q4, .inl (zI z, 5, .inl (fun _ => 0)))] H := hC
  refine lv_aload_n hx hb dX1_init_18 rfl (lv_at hl 0 rfl) ?_
  refine r_iconst hx hb dX1_init_19 (by decide) (by decide) (fun x5 ex5 => ?_)
  refine ct_newI hx hb hts hK hC hS hA 5 (by omega) (by decide) (Nat.le_of_ble_eq_true rfl) (Nat.le_of_ble_eq_true rfl) dX1_init_20 (fun q6 H hC hS => ?_)
  have hC : CT z [] [] A [(h0, .inr (1, [.ref q2, .ref q4, .null, .null, .null, .null, .null, .null, .int 0, .int 0])), (q2, .inl (zI z, 5, .inl (fun _ => 0))), (q4, .inl (zI z, 5, .inl (fun _ => 0))), (q6, .inl (zI z, 5, .inl (fun _ => 0)))] H := hC
  refine W.widen (k := 3) (n := 15) (by omega) (by omega) ?_
  refine ct_put (own := RX1) (ty := .array .int) (v := .ref q6) hx hb hts ic_Floor tyX1 tyX1_ok nmX1 hown hK hC hS rfl rfl 2 (by decide) mw_1_47 hin rfl (by decide +kernel) rfl rfl (Nat.le_of_ble_eq_true rfl) dX1_init_22 (fun H locs hC hS => ?_)
  have hC : CT z [] [] A [(h0, .inr (1, [.ref q2, .ref q4, .ref q6, .null, .null, .null, .null, .null, .int 0, .int 0])), (q2, .inl (zI z, 5, .inl (fun _ => 0))), (q4, .inl (zI z, 5, .inl (fun _ => 0))), (q6, .inl (zI z, 5, .inl (fun _ => 0)))] H := hC
  refine lv_aload_n hx hb dX1_init_25 rfl (lv_at hl 0 rfl) ?_
  refine r_iconst hx hb dX1_init_26 (by decide) (by decide) (fun x7 ex7 => ?_)
  refine ct_newI hx hb hts hK hC hS hA 5 (by omega) (by decide) (Nat.le_of_ble_eq_true rfl) (Nat.le_of_ble_eq_true rfl) dX1_init_27 (fun q8 H hC hS => ?_)
  have hC : CT z [] [] A [(h0, .inr (1, [.ref q2, .ref q4, .ref q6, .null, .null, .null, .null, .null, .int 0, .int 0])), (q2, .inl (zI z, 5, .inl (fun _ => 0))), (q4, .inl (zI z, 5, .inl (fun _ => 0))), (q6, .inl (zI z, 5, .inl (fun _ => 0))), (q8, .inl (zI z, 5, .inl (fun _ => 0)))] H := hC
  refine W.widen (k := 4) (n := 20) (by omega) (by omega) ?_
  refine ct_put (own := RX1) (ty := .array .int) (v := .ref q8) hx hb hts ic_Floor tyX1 tyX1_ok nmX1 hown hK hC hS rfl rfl 3 (by decide) mw_1_49 hin rfl (by decide +kernel) rfl rfl (Nat.le_of_ble_eq_true rfl) dX1_init_29 (fun H locs hC hS => ?_)
  have hC : CT z [] [] A [(h0, .inr (1, [.ref q2, .ref q4, .ref q6, .ref q8, .null, .null, .null, .null, .int 0, .int 0])), (q2, .inl (zI z, 5, .inl (fun _ => 0))), (q4, .inl (zI z, 5, .inl (fun _ => 0))), (q6, .inl (zI z, 5, .inl (fun _ => 0))), (q8, .inl (zI z, 5, .inl (fun _ => 0)))] H := hC
  refine lv_aload_n hx hb dX1_init_32 rfl (lv_at hl 0 rfl) ?_
  refine r_iconst hx hb dX1_init_33 (by decide) (by decide) (fun x9 ex9 => ?_)
  refine ct_newI hx hb hts hK hC hS hA 5 (by omega) (by decide) (Nat.le_of_ble_eq_true rfl) (Nat.le_of_ble_eq_true rfl) dX1_init_34 (fun q10 H hC hS => ?_)
  have hC : CT z [] [] A [(h0, .inr (1, [.ref q2, .ref q4, .ref q6, .ref q8, .null, .null, .null, .null, .int 0, .int 0])), (q2, .inl (zI z, 5, .inl (fun _ => 0))), (q4, .inl (zI z, 5, .inl (fun _ => 0))), (q6, .inl (zI z, 5, .inl (fun _ => 0))), (q8, .inl (zI z, 5, .inl (fun _ => 0))), (q10, .inl (zI z, 5, .inl (fun _ => 0)))] H := hC
  refine W.widen (k := 5) (n := 25) (by omega) (by omega) ?_
  refine ct_put (own := RX1) (ty := .array .int) (v := .ref q10) hx hb hts ic_Floor tyX1 tyX1_ok nmX1 hown hK hC hS rfl rfl 4 (by decide) mw_1_51 hin rfl (by decide +kernel) rfl rfl (Nat.le_of_ble_eq_true rfl) dX1_init_36 (fun H locs hC hS => ?_)
  have hC : CT z [] [] A [(h0, .inr (1, [.ref q2, .ref q4, .ref q6, .ref q8, .ref q10, .null, .null, .null, .int 0, .int 0])), (q2, .inl (zI z, 5, .inl (fun _ => 0))), (q4, .inl (zI z, 5, .inl (fun _ => 0))), (q6, .inl (zI z, 5, .inl (fun _ => 0))), (q8, .inl (zI z, 5, .inl (fun _ => 0))), (q10, .inl (zI z, 5, .inl (fun _ => 0)))] H := hC
  refine lv_aload_n hx hb dX1_init_39 rfl (lv_at hl 0 rfl) ?_
  refine r_iconst hx hb dX1_init_40 (by decide) (by decide) (fun x11 ex11 => ?_)
  refine ct_newI hx hb hts hK hC hS hA 5 (by omega) (by decide) (Nat.le_of_ble_eq_true rfl) (Nat.le_of_ble_eq_true rfl) dX1_init_41 (fun q12 H hC hS => ?_)
  have hC : CT z [] [] A [(h0, .inr (1, [.ref q2, .ref q4, .ref q6, .ref q8, .ref q10, .null, .null, .null, .int 0, .int 0])), (q2, .inl (zI z, 5, .inl (fun _ => 0))), (q4, .inl (zI z, 5, .inl (fun _ => 0))), (q6, .inl (zI z, 5, .inl (fun _ => 0))), (q8, .inl (zI z, 5, .inl (fun _ => 0))), (q10, .inl (zI z, 5, .inl (fun _ => 0))), (q12, .inl (zI z, 5, .inl (fun _ => 0)))] H := hC
  refine W.widen (k := 6) (n := 30) (by omega) (by omega) ?_
  refine ct_put (own := RX1) (ty := .array .int) (v := .ref q12) hx hb hts ic_Floor tyX1 tyX1_ok nmX1 hown hK hC hS rfl rfl 5 (by decide) mw_1_55 hin rfl (by decide +kernel) rfl rfl (Nat.le_of_ble_eq_true rfl) dX1_init_43 (fun H locs hC hS => ?_)
  have hC : CT z [] [] A [(h0, .inr (1, [.ref q2, .ref q4, .ref q6, .ref q8, .ref q10, .ref q12, .null, .null, .int 0, .int 0])), (q2, .inl (zI z, 5, .inl (fun _ => 0))), (q4, .inl (zI z, 5, .inl (fun _ => 0))), (q6, .inl (zI z, 5, .inl (fun _ => 0))), (q8, .inl (zI z, 5, .inl (fun _ => 0))), (q10, .inl (zI z, 5, .inl (fun _ => 0))), (q12, .inl (zI z, 5, .inl (fun _ => 0)))] H := hC
  refine lv_aload_n hx hb dX1_init_46 rfl (lv_at hl 0 rfl) ?_
  refine r_iconst hx hb dX1_init_47 (by decide) (by decide) (fun x13 ex13 => ?_)
  refine ct_newI hx hb hts hK hC hS hA 5 (by omega) (by decide) (Nat.le_of_ble_eq_true rfl) (Nat.le_of_ble_eq_true rfl) dX1_init_48 (fun q14 H hC hS => ?_)
  have hC : CT z [] [] A [(h0, .inr (1, [.ref q2, .ref q4, .ref q6, .ref q8, .ref q10, .ref q12, .null, .null, .int 0, .int 0])), (q2, .inl (zI z, 5, .inl (fun _ => 0))), (q4, .inl (zI z, 5, .inl (fun _ => 0))), (q6, .inl (zI z, 5, .inl (fun _ => 0))), (q8, .inl (zI z, 5, .inl (fun _ => 0))), (q10, .inl (zI z, 5, .inl (fun _ => 0))), (q12, .inl (zI z, 5, .inl (fun _ => 0))), (q14, .inl (zI z, 5, .inl (fun _ => 0)))] H := hC
  refine W.widen (k := 7) (n := 35) (by omega) (by omega) ?_
  refine ct_put (own := RX1) (ty := .array .int) (v := .ref q14) hx hb hts ic_Floor tyX1 tyX1_ok nmX1 hown hK hC hS rfl rfl 6 (by decide) mw_1_56 hin rfl (by decide +kernel) rfl rfl (Nat.le_of_ble_eq_true rfl) dX1_init_50 (fun H locs hC hS => ?_)
  have hC : CT z [] [] A [(h0, .inr (1, [.ref q2, .ref q4, .ref q6, .ref q8, .ref q10, .ref q12, .ref q14, .null, .int 0, .int 0])), (q2, .inl (zI z, 5, .inl (fun _ => 0))), (q4, .inl (zI z, 5, .inl (fun _ => 0))), (q6, .inl (zI z, 5, .inl (fun _ => 0))), (q8, .inl (zI z, 5, .inl (fun _ => 0))), (q10, .inl (zI z, 5, .inl (fun _ => 0))), (q12, .inl (zI z, 5, .inl (fun _ => 0))), (q14, .inl (zI z, 5, .inl (fun _ => 0)))] H := hC
  refine lv_aload_n hx hb dX1_init_53 rfl (lv_at hl 0 rfl) ?_
  refine r_iconst hx hb dX1_init_54 (by decide) (by decide) (fun x15 ex15 => ?_)
  refine ct_newI hx hb hts hK hC hS hA 5 (by omega) (by decide) (Nat.le_of_ble_eq_true rfl) (Nat.le_of_ble_eq_true rfl) dX1_init_55 (fun q16 H hC hS => ?_)
  have hC : CT z [] [] A [(h0, .inr (1, [.ref q2, .ref q4, .ref q6, .ref q8, .ref q10, .ref q12, .ref q14, .null, .int 0, .int 0])), (q2, .inl (zI z, 5, .inl (fun _ => 0))), (q4, .inl (zI z, 5, .inl (fun _ => 0))), (q6, .inl (zI z, 5, .inl (fun _ => 0))), (q8, .inl (zI z, 5, .inl (fun _ => 0))), (q10, .inl (zI z, 5, .inl (fun _ => 0))), (q12, .inl (zI z, 5, .inl (fun _ => 0))), (q14, .inl (zI z, 5, .inl (fun _ => 0))), (q16, .inl (zI z, 5, .inl (fun _ => 0)))] H := hC
  refine W.widen (k := 8) (n := 40) (by omega) (by omega) ?_
  refine ct_put (own := RX1) (ty := .array .int) (v := .ref q16) hx hb hts ic_Floor tyX1 tyX1_ok nmX1 hown hK hC hS rfl rfl 7 (by decide) mw_1_58 hin rfl (by decide +kernel) rfl rfl (Nat.le_of_ble_eq_true rfl) dX1_init_57 (fun H locs hC hS => ?_)
  have hC : CT z [] [] A [(h0, .inr (1, [.ref q2, .ref q4, .ref q6, .ref q8, .ref q10, .ref q12, .ref q14, .ref q16, .int 0, .int 0])), (q2, .inl (zI z, 5, .inl (fun _ => 0))), (q4, .inl (zI z, 5, .inl (fun _ => 0))), (q6, .inl (zI z, 5, .inl (fun _ => 0))), (q8, .inl (zI z, 5, .inl (fun _ => 0))), (q10, .inl (zI z, 5, .inl (fun _ => 0))), (q12, .inl (zI z, 5, .inl (fun _ => 0))), (q14, .inl (zI z, 5, .inl (fun _ => 0))), (q16, .inl (zI z, 5, .inl (fun _ => 0)))] H := hC
  have hNB := ct_end hC [(11, o), (20, h0), (20, h0), (20, h0), (20, h0), (27, h0), (20, h0), (28, h0), (29, h0)] [(11, o)] rfl rfl rfl (by simp) (by simp) (zu_rl [11, 20, 20, 20, 20, 27, 20, 28, 29] rfl (by decide)) (by simp) (fun L9 G9 hF hg i q e r h1 h2 => by
    match i, h1, h2 with
    | 0, h1, h2 => cases h1; cases h2; exact (⟨q2, q4, q6, q8, q10, q12, q14, q16, 0, 0, rfl, hg 1 _ _ _ rfl rfl, hg 2 _ _ _ rfl rfl, hg 3 _ _ _ rfl rfl, hg 4 _ _ _ rfl rfl, hg 5 _ _ _ rfl rfl, hg 6 _ _ _ rfl rfl, hg 7 _ _ _ rfl rfl, hg 8 _ _ _ rfl rfl, ⟨(by show (0 : Int32).toInt = (0 : Int); first | exact z32 | omega), (show (0 : Int) ≤ (0 : Int32).toInt by first | omega | (rw [z32]; decide)), (show (0 : Int32).toInt ≤ (5 : Int) by first | omega | (rw [z32]; decide))⟩, trivial⟩ : eFloor (zx z L9 G9) (iniG.1 h0) (11, o) h0 _)
    | 1, h1, h2 => cases h1; cases h2; exact ia_20
    | 2, h1, h2 => cases h1; cases h2; exact ia_20
    | 3, h1, h2 => cases h1; cases h2; exact ia_20
    | 4, h1, h2 => cases h1; cases h2; exact ia_20
    | 5, h1, h2 => cases h1; cases h2; exact ia_27
    | 6, h1, h2 => cases h1; cases h2; exact ia_20
    | 7, h1, h2 => cases h1; cases h2; exact ia_28
    | 8, h1, h2 => cases h1; cases h2; exact ia_29
    | n9 + 9, h1, h2 => cases h1)
  exact W.vret hx hb hr (fun t ht hW => ⟨⟨(), rfl, trivial, by show NB z A (11, o) h0 [(11, o)] t.heap; rw [ht]; exact hNB⟩, hS.F ht⟩) hS.2.2 dX1_init_60 hlk
theorem k_X0_init : cBI yX0_init cX0_init 1 := ⟨mw_1_34, mw_1_3, mw_1_35, rfl, by decide, by decide, by decide⟩
set_option maxHeartbeats 4000000 in
set_option maxRecDepth 100000 in
theorem c_X0_init (l : Launch) (z : Zt) (h0 sz o : Nat) : Met l yX0_init (uw yX0_init cX0_init 1 none) (rmC 2 84 14 81) (IPre z h0 sz 0 [.null, .null, .null, .null, .null, .null, .int 0, .int 0]) (IQ z (va_A [(h0, .inr (0, [.null, .null, .null, .null, .null, .null, .int 0, .int 0]))] sz) (10, o) h0 [(10, o), (11, o)]) 14 81 (va_A [(h0, .inr (0, [.null, .null, .null, .null, .null, .null, .int 0, .int 0]))] sz) := by
  refine Met.ofW (cc := cX0_init) (maxL := 1) (ret := none) (by decide) rfl ?_
  intro p e s m args below meth c s₁ B hml hv
  obtain ⟨rfl, hsz, hP, hK, hNW⟩ := hv
  have hx := B.exec
  have hb := B.bytes
  have hr := B.returns
  have hts : ∀ w ∈ lw_ok, w.before ([.ref h0] : List Value).toArray s = true := fun w hw => atoms_spec (ws := uw yX0_init cX0_init 1 none) B.pre w (List.mem_cons_of_mem _ hw)
  have hown : s.vm.findClass RX0 = some m.cls := findClass_of_methodNamed B.named
  have hlk := B.notSynchronized
  have hin : meth.name = "<init>" := (name_of_methodNamed B.named B.method).1
  subst hsz
  have hD := vd_one (q := h0) (sz := s.heap.size) (e := .inr (0, [.null, .null, .null, .null, .null, .null, .int 0, .int 0]))
  generalize hAe : va_A [(h0, .inr (0, [.null, .null, .null, .null, .null, .null, .int 0, .int 0]))] s.heap.size = A at hD ⊢
  have hA : ∀ q : Nat, s.heap.size ≤ q → A q := fun q h => by rw [← hAe]; exact Or.inr h
  have hC0 : CallFix p m c cX0_init 1 s ([.ref h0] : List Value).toArray lw_ok RX0 := ⟨hx, hb, hml, hown, hts⟩
  have hS : va_S A s.heap s.heap [] := va_S.rf
  have hC := CT.ini hP hD
  have hl := lv_entry ([.ref h0]) (n := 1) (Nat.le_of_ble_eq_true rfl)
  rw [lg_entry_eq]
  generalize (lg_sl ([.ref h0]) ++ List.replicate (1 - (lg_sl ([.ref h0])).length) Slot.unset).toArray = ls at hl ⊢
  have hl : lv_has ls 1 [(0, .ref h0)] := hl
  show W p l e (rmC 2 84 14 81) s m ([.ref h0] : List Value).toArray below meth c s.heap [] 0 0 (MQ below (IQ z A (10, o) h0 [(10, o), (11, o)]) ([.ref h0] : List Value).toArray s 14 81 A) (F0 m 0 ls [])
  refine lv_aload_n hx hb dX0_init_0 rfl (lv_at hl 0 rfl) ?_
  refine W.objInit hx hb hown (hts _ mw_1_36) (hts _ mw_1_23) (hts _ mw_1_24) rfl (by rw [hml]; exact hl.1) rfl dX0_init_1 (Nat.le_of_ble_eq_true rfl) (Nat.le_of_ble_eq_true rfl) ?_
  refine W.eq (g2 := F0 m 4 ls []) rfl ?_
  refine lv_aload_n hx hb dX0_init_4 rfl (lv_at hl 0 rfl) ?_
  refine ct_new (own := RX0) (ci := 1) (fs := [.null, .null, .null, .null, .null, .null, .null, .null, .int 0, .int 0]) hx hb hts ic_Floor tyX1 tyX1_ok hown mw_1_37 mw_1_38 mw_1_4 hK hC hS hA rfl df_X1 (Nat.le_of_ble_eq_true rfl) (Nat.le_of_ble_eq_true rfl) dX0_init_5 (fun q1 H hC hS => ?_)
  have hC : CT z [] [] A [(h0, .inr (0, [.null, .null, .null, .null, .null, .null, .int 0, .int 0])), (q1, .inr (1, [.null, .null, .null, .null, .null, .null, .null, .null, .int 0, .int 0]))] H := hC
  refine W.widen (k := 1) (n := 10) (by omega) (by omega) ?_
  refine lv_dup hx hb dX0_init_8 rfl ?_
  refine ct_call (own := RX0) (X := [(h0, .inr (0, [.null, .null, .null, .null, .null, .null, .int 0, .int 0]))]) (rest := [.ref q1, .ref h0]) (some "HeelDance") hC0 hK hNW (fun sz => c_X1_init l z q1 sz o) k_X1_init hNW.1.2.2.2.2.1 ⟨(Nat.le_of_ble_eq_true rfl), (Nat.le_of_ble_eq_true rfl)⟩ hC (by simp) hl.1 (Nat.le_of_ble_eq_true rfl) dX0_init_9 ⟨(Nat.le_of_ble_eq_true rfl), (Nat.le_of_ble_eq_true rfl)⟩ hS hA (fun H locs hC hS => ?_)
  have hC : CT z [(11, o)] [(q1, (11, o))] A [(h0, .inr (0, [.null, .null, .null, .null, .null, .null, .int 0, .int 0]))] H := hC
  refine W.widen (k := 9) (n := 50) (by omega) (by omega) ?_
  refine ct_put (own := RX0) (ty := .object "HeelDance$Floor") (v := .ref q1) hx hb hts ic_Evening tyX0 tyX0_ok nmX0 hown hK hC hS rfl rfl 0 (by decide) mw_1_89 hin rfl (by decide +kernel) rfl rfl (Nat.le_of_ble_eq_true rfl) dX0_init_12 (fun H locs hC hS => ?_)
  have hC : CT z [(11, o)] [(q1, (11, o))] A [(h0, .inr (0, [.ref q1, .null, .null, .null, .null, .null, .int 0, .int 0]))] H := hC
  refine lv_aload_n hx hb dX0_init_15 rfl (lv_at hl 0 rfl) ?_
  refine r_iconst hx hb dX0_init_16 (by decide) (by decide) (fun x2 ex2 => ?_)
  refine ct_newI hx hb hts hK hC hS hA 5 (by omega) (by decide) (Nat.le_of_ble_eq_true rfl) (Nat.le_of_ble_eq_true rfl) dX0_init_17 (fun q3 H hC hS => ?_)
  have hC : CT z [(11, o)] [(q1, (11, o))] A [(h0, .inr (0, [.ref q1, .null, .null, .null, .null, .null, .int 0, .int 0])), (q3, .inl (zI z, 5, .inl (fun _ => 0)))] H := hC
  refine W.widen (k := 10) (n := 55) (by omega) (by omega) ?_
  refine ct_put (own := RX0) (ty := .array .int) (v := .ref q3) hx hb hts ic_Evening tyX0 tyX0_ok nmX0 hown hK hC hS rfl rfl 1 (by decide) mw_1_93 hin rfl (by decide +kernel) rfl rfl (Nat.le_of_ble_eq_true rfl) dX0_init_19 (fun H locs hC hS => ?_)
  have hC : CT z [(11, o)] [(q1, (11, o))] A [(h0, .inr (0, [.ref q1, .ref q3, .null, .null, .null, .null, .int 0, .int 0])), (q3, .inl (zI z, 5, .inl (fun _ => 0)))] H := hC
  refine lv_aload_n hx hb dX0_init_22 rfl (lv_at hl 0 rfl) ?_
  refine r_bipush hx hb dX0_init_23 rfl (fun x4 ex4 => ?_)
  refine ct_newI hx hb hts hK hC hS hA 8 (by omega) (by decide) (Nat.le_of_ble_eq_true rfl) (Nat.le_of_ble_eq_true rfl) dX0_init_25 (fun q5 H hC hS => ?_)
  have hC : CT z [(11, o)] [(q1, (11, o))] A [(h0, .inr (0, [.ref q1, .ref q3, .null, .null, .null, .null, .int 0, .int 0])), (q3, .inl (zI z, 5, .inl (fun _ => 0))), (q5, .inl (zI z, 8, .inl (fun _ => 0)))] H := hC
  refine W.widen (k := 11) (n := 63) (by omega) (by omega) ?_
  refine ct_put (own := RX0) (ty := .array .int) (v := .ref q5) hx hb hts ic_Evening tyX0 tyX0_ok nmX0 hown hK hC hS rfl rfl 2 (by decide) mw_1_96 hin rfl (by decide +kernel) rfl rfl (Nat.le_of_ble_eq_true rfl) dX0_init_27 (fun H locs hC hS => ?_)
  have hC : CT z [(11, o)] [(q1, (11, o))] A [(h0, .inr (0, [.ref q1, .ref q3, .ref q5, .null, .null, .null, .int 0, .int 0])), (q3, .inl (zI z, 5, .inl (fun _ => 0))), (q5, .inl (zI z, 8, .inl (fun _ => 0)))] H := hC
  refine lv_aload_n hx hb dX0_init_30 rfl (lv_at hl 0 rfl) ?_
  refine r_bipush hx hb dX0_init_31 rfl (fun x6 ex6 => ?_)
  refine ct_newI hx hb hts hK hC hS hA 6 (by omega) (by decide) (Nat.le_of_ble_eq_true rfl) (Nat.le_of_ble_eq_true rfl) dX0_init_33 (fun q7 H hC hS => ?_)
  have hC : CT z [(11, o)] [(q1, (11, o))] A [(h0, .inr (0, [.ref q1, .ref q3, .ref q5, .null, .null, .null, .int 0, .int 0])), (q3, .inl (zI z, 5, .inl (fun _ => 0))), (q5, .inl (zI z, 8, .inl (fun _ => 0))), (q7, .inl (zI z, 6, .inl (fun _ => 0)))] H := hC
  refine W.widen (k := 12) (n := 69) (by omega) (by omega) ?_
  refine ct_put (own := RX0) (ty := .array .int) (v := .ref q7) hx hb hts ic_Evening tyX0 tyX0_ok nmX0 hown hK hC hS rfl rfl 3 (by decide) mw_1_100 hin rfl (by decide +kernel) rfl rfl (Nat.le_of_ble_eq_true rfl) dX0_init_35 (fun H locs hC hS => ?_)
  have hC : CT z [(11, o)] [(q1, (11, o))] A [(h0, .inr (0, [.ref q1, .ref q3, .ref q5, .ref q7, .null, .null, .int 0, .int 0])), (q3, .inl (zI z, 5, .inl (fun _ => 0))), (q5, .inl (zI z, 8, .inl (fun _ => 0))), (q7, .inl (zI z, 6, .inl (fun _ => 0)))] H := hC
  refine lv_aload_n hx hb dX0_init_38 rfl (lv_at hl 0 rfl) ?_
  refine r_bipush hx hb dX0_init_39 rfl (fun x8 ex8 => ?_)
  refine ct_newI hx hb hts hK hC hS hA 6 (by omega) (by decide) (Nat.le_of_ble_eq_true rfl) (Nat.le_of_ble_eq_true rfl) dX0_init_41 (fun q9 H hC hS => ?_)
  have hC : CT z [(11, o)] [(q1, (11, o))] A [(h0, .inr (0, [.ref q1, .ref q3, .ref q5, .ref q7, .null, .null, .int 0, .int 0])), (q3, .inl (zI z, 5, .inl (fun _ => 0))), (q5, .inl (zI z, 8, .inl (fun _ => 0))), (q7, .inl (zI z, 6, .inl (fun _ => 0))), (q9, .inl (zI z, 6, .inl (fun _ => 0)))] H := hC
  refine W.widen (k := 13) (n := 75) (by omega) (by omega) ?_
  refine ct_put (own := RX0) (ty := .array .int) (v := .ref q9) hx hb hts ic_Evening tyX0 tyX0_ok nmX0 hown hK hC hS rfl rfl 4 (by decide) mw_1_102 hin rfl (by decide +kernel) rfl rfl (Nat.le_of_ble_eq_true rfl) dX0_init_43 (fun H locs hC hS => ?_)
  have hC : CT z [(11, o)] [(q1, (11, o))] A [(h0, .inr (0, [.ref q1, .ref q3, .ref q5, .ref q7, .ref q9, .null, .int 0, .int 0])), (q3, .inl (zI z, 5, .inl (fun _ => 0))), (q5, .inl (zI z, 8, .inl (fun _ => 0))), (q7, .inl (zI z, 6, .inl (fun _ => 0))), (q9, .inl (zI z, 6, .inl (fun _ => 0)))] H := hC
  refine lv_aload_n hx hb dX0_init_46 rfl (lv_at hl 0 rfl) ?_
  refine r_bipush hx hb dX0_init_47 rfl (fun x10 ex10 => ?_)
  refine ct_newI hx hb hts hK hC hS hA 6 (by omega) (by decide) (Nat.le_of_ble_eq_true rfl) (Nat.le_of_ble_eq_true rfl) dX0_init_49 (fun q11 H hC hS => ?_)
  have hC : CT z [(11, o)] [(q1, (11, o))] A [(h0, .inr (0, [.ref q1, .ref q3, .ref q5, .ref q7, .ref q9, .null, .int 0, .int 0])), (q3, .inl (zI z, 5, .inl (fun _ => 0))), (q5, .inl (zI z, 8, .inl (fun _ => 0))), (q7, .inl (zI z, 6, .inl (fun _ => 0))), (q9, .inl (zI z, 6, .inl (fun _ => 0))), (q11, .inl (zI z, 6, .inl (fun _ => 0)))] H := hC
  refine W.widen (k := 14) (n := 81) (by omega) (by omega) ?_
  refine ct_put (own := RX0) (ty := .array .int) (v := .ref q11) hx hb hts ic_Evening tyX0 tyX0_ok nmX0 hown hK hC hS rfl rfl 5 (by decide) mw_1_104 hin rfl (by decide +kernel) rfl rfl (Nat.le_of_ble_eq_true rfl) dX0_init_51 (fun H locs hC hS => ?_)
  have hC : CT z [(11, o)] [(q1, (11, o))] A [(h0, .inr (0, [.ref q1, .ref q3, .ref q5, .ref q7, .ref q9, .ref q11, .int 0, .int 0])), (q3, .inl (zI z, 5, .inl (fun _ => 0))), (q5, .inl (zI z, 8, .inl (fun _ => 0))), (q7, .inl (zI z, 6, .inl (fun _ => 0))), (q9, .inl (zI z, 6, .inl (fun _ => 0))), (q11, .inl (zI z, 6, .inl (fun _ => 0)))] H := hC
  have hNB := ct_end hC [(10, o), (20, h0), (21, h0), (25, h0), (26, h0), (22, h0)] [(10, o)] rfl rfl rfl (by simp) (by simp) (zu_rl [10, 20, 21, 25, 26, 22] rfl (by decide)) (by simp) (fun L9 G9 hF hg i q e r h1 h2 => by
    match i, h1, h2 with
    | 0, h1, h2 => cases h1; cases h2; exact (⟨q1, q3, q5, q7, q9, q11, 0, 0, rfl, hF (q1, (11, o)) (by simp), hg 1 _ _ _ rfl rfl, hg 2 _ _ _ rfl rfl, hg 3 _ _ _ rfl rfl, hg 4 _ _ _ rfl rfl, hg 5 _ _ _ rfl rfl, ⟨(by show (0 : Int32).toInt = (0 : Int); first | exact z32 | omega), (show (0 : Int) ≤ (0 : Int32).toInt by first | omega | (rw [z32]; decide)), (show (0 : Int32).toInt ≤ (8 : Int) by first | omega | (rw [z32]; decide))⟩, ⟨(by show (0 : Int32).toInt = (0 : Int); first | exact z32 | omega), (show (0 : Int) ≤ (0 : Int32).toInt by first | omega | (rw [z32]; decide)), (show (0 : Int32).toInt ≤ (6 : Int) by first | omega | (rw [z32]; decide))⟩⟩ : eEvening (zx z L9 G9) (iniG.1 h0) (10, o) h0 _)
    | 1, h1, h2 => cases h1; cases h2; exact ia_20
    | 2, h1, h2 => cases h1; cases h2; exact ia_21
    | 3, h1, h2 => cases h1; cases h2; exact ia_25
    | 4, h1, h2 => cases h1; cases h2; exact ia_26
    | 5, h1, h2 => cases h1; cases h2; exact ia_22
    | n9 + 6, h1, h2 => cases h1)
  exact W.vret hx hb hr (fun t ht hW => ⟨⟨(), rfl, trivial, by show NB z A (10, o) h0 [(10, o), (11, o)] t.heap; rw [ht]; exact hNB⟩, hS.F ht⟩) hS.2.2 dX0_init_54 hlk
theorem k_X5_init : cBI yX5_init cX5_init 1 := ⟨mw_1_171, mw_1_5, mw_1_172, rfl, by decide, by decide, by decide⟩
set_option maxHeartbeats 4000000 in
set_option maxRecDepth 100000 in
theorem c_X5_init (l : Launch) (z : Zt) (h0 sz o : Nat) : Met l yX5_init (uw yX5_init cX5_init 1 none) (rmC 2 84 10 95) (IPre z h0 sz 5 [.null, .null, .int 0]) (IQ z (va_A [(h0, .inr (5, [.null, .null, .int 0]))] sz) (15, o) h0 [(15, o), (11, 5)]) 10 95 (va_A [(h0, .inr (5, [.null, .null, .int 0]))] sz) := by
  refine Met.ofW (cc := cX5_init) (maxL := 1) (ret := none) (by decide) rfl ?_
  intro p e s m args below meth c s₁ B hml hv
  obtain ⟨rfl, hsz, hP, hK, hNW⟩ := hv
  have hx := B.exec
  have hb := B.bytes
  have hr := B.returns
  have hts : ∀ w ∈ lw_ok, w.before ([.ref h0] : List Value).toArray s = true := fun w hw => atoms_spec (ws := uw yX5_init cX5_init 1 none) B.pre w (List.mem_cons_of_mem _ hw)
  have hown : s.vm.findClass RX5 = some m.cls := findClass_of_methodNamed B.named
  have hlk := B.notSynchronized
  have hin : meth.name = "<init>" := (name_of_methodNamed B.named B.method).1
  subst hsz
  have hD := vd_one (q := h0) (sz := s.heap.size) (e := .inr (5, [.null, .null, .int 0]))
  generalize hAe : va_A [(h0, .inr (5, [.null, .null, .int 0]))] s.heap.size = A at hD ⊢
  have hA : ∀ q : Nat, s.heap.size ≤ q → A q := fun q h => by rw [← hAe]; exact Or.inr h
  have hC0 : CallFix p m c cX5_init 1 s ([.ref h0] : List Value).toArray lw_ok RX5 := ⟨hx, hb, hml, hown, hts⟩
  have hS : va_S A s.heap s.heap [] := va_S.rf
  have hC := CT.ini hP hD
  have hl := lv_entry ([.ref h0]) (n := 1) (Nat.le_of_ble_eq_true rfl)
  rw [lg_entry_eq]
  generalize (lg_sl ([.ref h0]) ++ List.replicate (1 - (lg_sl ([.ref h0])).length) Slot.unset).toArray = ls at hl ⊢
  have hl : lv_has ls 1 [(0, .ref h0)] := hl
  show W p l e (rmC 2 84 10 95) s m ([.ref h0] : List Value).toArray below meth c s.heap [] 0 0 (MQ below (IQ z A (15, o) h0 [(15, o), (11, 5)]) ([.ref h0] : List Value).toArray s 10 95 A) (F0 m 0 ls [])
  refine lv_aload_n hx hb dX5_init_0 rfl (lv_at hl 0 rfl) ?_
  refine W.objInit hx hb hown (hts _ mw_1_173) (hts _ mw_1_23) (hts _ mw_1_24) rfl (by rw [hml]; exact hl.1) rfl dX5_init_1 (Nat.le_of_ble_eq_true rfl) (Nat.le_of_ble_eq_true rfl) ?_
  refine W.eq (g2 := F0 m 4 ls []) rfl ?_
  refine lv_aload_n hx hb dX5_init_4 rfl (lv_at hl 0 rfl) ?_
  refine ct_new (own := RX5) (ci := 1) (fs := [.null, .null, .null, .null, .null, .null, .null, .null, .int 0, .int 0]) hx hb hts ic_Floor tyX1 tyX1_ok hown mw_1_174 mw_1_38 mw_1_4 hK hC hS hA rfl df_X1 (Nat.le_of_ble_eq_true rfl) (Nat.le_of_ble_eq_true rfl) dX5_init_5 (fun q1 H hC hS => ?_)
  have hC : CT z [] [] A [(h0, .inr (5, [.null, .null, .int 0])), (q1, .inr (1, [.null, .null, .null, .null, .null, .null, .null, .null, .int 0, .int 0]))] H := hC
  refine W.widen (k := 1) (n := 10) (by omega) (by omega) ?_
  refine lv_dup hx hb dX5_init_8 rfl ?_
  refine ct_call (own := RX5) (X := [(h0, .inr (5, [.null, .null, .int 0]))]) (rest := [.ref q1, .ref h0]) (some "HeelDance") hC0 hK hNW (fun sz => c_X1_init l z q1 sz 5) k_X1_init hNW.1.2.2.2.2.2.2.2 ⟨(Nat.le_of_ble_eq_true rfl), (Nat.le_of_ble_eq_true rfl)⟩ hC (by simp) hl.1 (Nat.le_of_ble_eq_true rfl) dX5_init_9 ⟨(Nat.le_of_ble_eq_true rfl), (Nat.le_of_ble_eq_true rfl)⟩ hS hA (fun H locs hC hS => ?_)
  have hC : CT z [(11, 5)] [(q1, (11, 5))] A [(h0, .inr (5, [.null, .null, .int 0]))] H := hC
  refine W.widen (k := 9) (n := 50) (by omega) (by omega) ?_
  refine ct_put (own := RX5) (ty := .object "HeelDance$Floor") (v := .ref q1) hx hb hts ic_Walk tyX5 tyX5_ok nmX5 hown hK hC hS rfl rfl 0 (by decide) mw_1_176 hin rfl (by decide +kernel) rfl rfl (Nat.le_of_ble_eq_true rfl) dX5_init_12 (fun H locs hC hS => ?_)
  have hC : CT z [(11, 5)] [(q1, (11, 5))] A [(h0, .inr (5, [.ref q1, .null, .int 0]))] H := hC
  refine lv_aload_n hx hb dX5_init_15 rfl (lv_at hl 0 rfl) ?_
  refine r_bipush hx hb dX5_init_16 rfl (fun x2 ex2 => ?_)
  refine ct_newI hx hb hts hK hC hS hA 45 (by omega) (by decide) (Nat.le_of_ble_eq_true rfl) (Nat.le_of_ble_eq_true rfl) dX5_init_18 (fun q3 H hC hS => ?_)
  have hC : CT z [(11, 5)] [(q1, (11, 5))] A [(h0, .inr (5, [.ref q1, .null, .int 0])), (q3, .inl (zI z, 45, .inl (fun _ => 0)))] H := hC
  refine W.widen (k := 10) (n := 95) (by omega) (by omega) ?_
  refine ct_put (own := RX5) (ty := .array .int) (v := .ref q3) hx hb hts ic_Walk tyX5 tyX5_ok nmX5 hown hK hC hS rfl rfl 1 (by decide) mw_1_178 hin rfl (by decide +kernel) rfl rfl (Nat.le_of_ble_eq_true rfl) dX5_init_20 (fun H locs hC hS => ?_)
  have hC : CT z [(11, 5)] [(q1, (11, 5))] A [(h0, .inr (5, [.ref q1, .ref q3, .int 0])), (q3, .inl (zI z, 45, .inl (fun _ => 0)))] H := hC
  have hNB := ct_end hC [(15, o), (24, h0)] [(15, o)] rfl rfl rfl (by simp) (by simp) (zu_rl [15, 24] rfl (by decide)) (by simp) (fun L9 G9 hF hg i q e r h1 h2 => by
    match i, h1, h2 with
    | 0, h1, h2 => cases h1; cases h2; exact (⟨q1, q3, 0, rfl, hF (q1, (11, 5)) (by simp), hg 1 _ _ _ rfl rfl, ⟨(by show (0 : Int32).toInt = (0 : Int); first | exact z32 | omega), (show (0 : Int) ≤ (0 : Int32).toInt by first | omega | (rw [z32]; decide)), (show (0 : Int32).toInt ≤ (8 : Int) by first | omega | (rw [z32]; decide))⟩⟩ : eWalk (zx z L9 G9) (iniG.1 h0) (15, o) h0 _)
    | 1, h1, h2 => cases h1; cases h2; exact ia_24
    | n9 + 2, h1, h2 => cases h1)
  exact W.vret hx hb hr (fun t ht hW => ⟨⟨(), rfl, trivial, by show NB z A (15, o) h0 [(15, o), (11, 5)] t.heap; rw [ht]; exact hNB⟩, hS.F ht⟩) hS.2.2 dX5_init_23 hlk
theorem k_X2_init : cBI yX2_init cX2_init 2 := ⟨mw_1_192, mw_1_6, mw_1_193, rfl, by decide, by decide, by decide⟩
set_option maxHeartbeats 4000000 in
set_option maxRecDepth 100000 in
theorem c_X2_init (l : Launch) (z : Zt) (h0 sz o : Nat) : Met l yX2_init (uw yX2_init cX2_init 2 none) (rmC 2 84 58 321) (IPre z h0 sz 2 [.null, .null, .null, .null, .int 0, .int 0, .int 0, .int 0]) (IQ z (va_A [(h0, .inr (2, [.null, .null, .null, .null, .int 0, .int 0, .int 0, .int 0]))] sz) (12, o) h0 [(12, o), (11, 11), (11, 10), (11, 9), (11, 8), (11, 7), (11, 6)]) 58 321 (va_A [(h0, .inr (2, [.null, .null, .null, .null, .int 0, .int 0, .int 0, .int 0]))] sz) := by
  refine Met.ofW (cc := cX2_init) (maxL := 2) (ret := none) (by decide) rfl ?_
  intro p e s m args below meth c s₁ B hml hv
  obtain ⟨rfl, hsz, hP, hK, hNW⟩ := hv
  have hx := B.exec
  have hb := B.bytes
  have hr := B.returns
  have hts : ∀ w ∈ lw_ok, w.before ([.ref h0] : List Value).toArray s = true := fun w hw => atoms_spec (ws := uw yX2_init cX2_init 2 none) B.pre w (List.mem_cons_of_mem _ hw)
  have hown : s.vm.findClass RX2 = some m.cls := findClass_of_methodNamed B.named
  have hlk := B.notSynchronized
  have hin : meth.name = "<init>" := (name_of_methodNamed B.named B.method).1
  subst hsz
  have hD := vd_one (q := h0) (sz := s.heap.size) (e := .inr (2, [.null, .null, .null, .null, .int 0, .int 0, .int 0, .int 0]))
  generalize hAe : va_A [(h0, .inr (2, [.null, .null, .null, .null, .int 0, .int 0, .int 0, .int 0]))] s.heap.size = A at hD ⊢
  have hA : ∀ q : Nat, s.heap.size ≤ q → A q := fun q h => by rw [← hAe]; exact Or.inr h
  have hC0 : CallFix p m c cX2_init 2 s ([.ref h0] : List Value).toArray lw_ok RX2 := ⟨hx, hb, hml, hown, hts⟩
  have hS : va_S A s.heap s.heap [] := va_S.rf
  have hC := CT.ini hP hD
  have hl := lv_entry ([.ref h0]) (n := 2) (Nat.le_of_ble_eq_true rfl)
  rw [lg_entry_eq]
  generalize (lg_sl ([.ref h0]) ++ List.replicate (2 - (lg_sl ([.ref h0])).length) Slot.unset).toArray = ls at hl ⊢
  have hl : lv_has ls 2 [(0, .ref h0)] := hl
  show W p l e (rmC 2 84 58 321) s m ([.ref h0] : List Value).toArray below meth c s.heap [] 0 0 (MQ below (IQ z A (12, o) h0 [(12, o), (11, 11), (11, 10), (11, 9), (11, 8), (11, 7), (11, 6)]) ([.ref h0] : List Value).toArray s 58 321 A) (F0 m 0 ls [])
  refine lv_aload_n hx hb dX2_init_0 rfl (lv_at hl 0 rfl) ?_
  refine W.objInit hx hb hown (hts _ mw_1_194) (hts _ mw_1_23) (hts _ mw_1_24) rfl (by rw [hml]; exact hl.1) rfl dX2_init_1 (Nat.le_of_ble_eq_true rfl) (Nat.le_of_ble_eq_true rfl) ?_
  refine W.eq (g2 := F0 m 4 ls []) rfl ?_
  refine lv_aload_n hx hb dX2_init_4 rfl (lv_at hl 0 rfl) ?_
  refine r_bipush hx hb dX2_init_5 rfl (fun x1 ex1 => ?_)
  refine ct_newq (own := RX2) (C := "HeelDance$Floor") (cZ := zF z) hx hb 3 rfl hown (hts _ mw_1_195) hNW.2.2.1 hK hC hS hA 6 (by omega) (by decide) (Nat.le_of_ble_eq_true rfl) (Nat.le_of_ble_eq_true rfl) dX2_init_7 (fun q2 H hC hS => ?_)
  have hC : CT z [] [] A [(h0, .inr (2, [.null, .null, .null, .null, .int 0, .int 0, .int 0, .int 0])), (q2, .inl (zF z, 6, .inr (.inr (.inr (.inr (fun _ => none))))))] H := hC
  refine W.widen (k := 1) (n := 6) (by omega) (by omega) ?_
  refine ct_put (own := RX2) (ty := .array (.object "HeelDance$Floor")) (v := .ref q2) hx hb hts ic_Search tyX2 tyX2_ok nmX2 hown hK hC hS rfl rfl 0 (by decide) mw_1_198 hin rfl (by decide +kernel) rfl rfl (Nat.le_of_ble_eq_true rfl) dX2_init_10 (fun H locs hC hS => ?_)
  have hC : CT z [] [] A [(h0, .inr (2, [.ref q2, .null, .null, .null, .int 0, .int 0, .int 0, .int 0])), (q2, .inl (zF z, 6, .inr (.inr (.inr (.inr (fun _ => none))))))] H := hC
  refine lv_aload_n hx hb dX2_init_13 rfl (lv_at hl 0 rfl) ?_
  refine r_iconst hx hb dX2_init_14 (by decide) (by decide) (fun x3 ex3 => ?_)
  refine ct_newI hx hb hts hK hC hS hA 5 (by omega) (by decide) (Nat.le_of_ble_eq_true rfl) (Nat.le_of_ble_eq_true rfl) dX2_init_15 (fun q4 H hC hS => ?_)
  have hC : CT z [] [] A [(h0, .inr (2, [.ref q2, .null, .null, .null, .int 0, .int 0, .int 0, .int 0])), (q2, .inl (zF z, 6, .inr (.inr (.inr (.inr (fun _ => none)))))), (q4, .inl (zI z, 5, .inl (fun _ => 0)))] H := hC
  refine W.widen (k := 2) (n := 11) (by omega) (by omega) ?_
  refine ct_put (own := RX2) (ty := .array .int) (v := .ref q4) hx hb hts ic_Search tyX2 tyX2_ok nmX2 hown hK hC hS rfl rfl 1 (by decide) mw_1_199 hin rfl (by decide +kernel) rfl rfl (Nat.le_of_ble_eq_true rfl) dX2_init_17 (fun H locs hC hS => ?_)
  have hC : CT z [] [] A [(h0, .inr (2, [.ref q2, .ref q4, .null, .null, .int 0, .int 0, .int 0, .int 0])), (q2, .inl (zF z, 6, .inr (.inr (.inr (.inr (fun _ => none)))))), (q4, .inl (zI z, 5, .inl (fun _ => 0)))] H := hC
  refine lv_aload_n hx hb dX2_init_20 rfl (lv_at hl 0 rfl) ?_
  refine r_iconst hx hb dX2_init_21 (by decide) (by decide) (fun x5 ex5 => ?_)
  refine ct_newI hx hb hts hK hC hS hA 5 (by omega) (by decide) (Nat.le_of_ble_eq_true rfl) (Nat.le_of_ble_eq_true rfl) dX2_init_22 (fun q6 H hC hS => ?_)
  have hC : CT z [] [] A [(h0, .inr (2, [.ref q2, .ref q4, .null, .null, .int 0, .int 0, .int 0, .int 0])), (q2, .inl (zF z, 6, .inr (.inr (.inr (.inr (fun _ => none)))))), (q4, .inl (zI z, 5, .inl (fun _ => 0))), (q6, .inl (zI z, 5, .inl (fun _ => 0)))] H := hC
  refine W.widen (k := 3) (n := 16) (by omega) (by omega) ?_
  refine ct_put (own := RX2) (ty := .array .int) (v := .ref q6) hx hb hts ic_Search tyX2 tyX2_ok nmX2 hown hK hC hS rfl rfl 2 (by decide) mw_1_200 hin rfl (by decide +kernel) rfl rfl (Nat.le_of_ble_eq_true rfl) dX2_init_24 (fun H locs hC hS => ?_)
  have hC : CT z [] [] A [(h0, .inr (2, [.ref q2, .ref q4, .ref q6, .null, .int 0, .int 0, .int 0, .int 0])), (q2, .inl (zF z, 6, .inr (.inr (.inr (.inr (fun _ => none)))))), (q4, .inl (zI z, 5, .inl (fun _ => 0))), (q6, .inl (zI z, 5, .inl (fun _ => 0)))] H := hC
  refine lv_aload_n hx hb dX2_init_27 rfl (lv_at hl 0 rfl) ?_
  refine r_iconst hx hb dX2_init_28 (by decide) (by decide) (fun x7 ex7 => ?_)
  refine ct_newI hx hb hts hK hC hS hA 5 (by omega) (by decide) (Nat.le_of_ble_eq_true rfl) (Nat.le_of_ble_eq_true rfl) dX2_init_29 (fun q8 H hC hS => ?_)
  have hC : CT z [] [] A [(h0, .inr (2, [.ref q2, .ref q4, .ref q6, .null, .int 0, .int 0, .int 0, .int 0])), (q2, .inl (zF z, 6, .inr (.inr (.inr (.inr (fun _ => none)))))), (q4, .inl (zI z, 5, .inl (fun _ => 0))), (q6, .inl (zI z, 5, .inl (fun _ => 0))), (q8, .inl (zI z, 5, .inl (fun _ => 0)))] H := hC
  refine W.widen (k := 4) (n := 21) (by omega) (by omega) ?_
  refine ct_put (own := RX2) (ty := .array .int) (v := .ref q8) hx hb hts ic_Search tyX2 tyX2_ok nmX2 hown hK hC hS rfl rfl 3 (by decide) mw_1_202 hin rfl (by decide +kernel) rfl rfl (Nat.le_of_ble_eq_true rfl) dX2_init_31 (fun H locs hC hS => ?_)
  have hC : CT z [] [] A [(h0, .inr (2, [.ref q2, .ref q4, .ref q6, .ref q8, .int 0, .int 0, .int 0, .int 0])), (q2, .inl (zF z, 6, .inr (.inr (.inr (.inr (fun _ => none)))))), (q4, .inl (zI z, 5, .inl (fun _ => 0))), (q6, .inl (zI z, 5, .inl (fun _ => 0))), (q8, .inl (zI z, 5, .inl (fun _ => 0)))] H := hC
  refine r_iconst hx hb dX2_init_34 (by decide) (by decide) (fun x9 ex9 => ?_)
  refine lv_istore_n (lv' := [(1, .int x9), (0, .ref h0)]) hx hb dX2_init_35 rfl hl (by decide) rfl (fun ls hl => ?_)
  refine lv_iload_n hx hb dX2_init_36 rfl (lv_at hl 0 rfl) ?_
  refine r_iconst hx hb dX2_init_37 (by decide) (by decide) (fun x10 ex10 => ?_)
  refine r_icmp_gt (tgt := 60) hx hb dX2_init_38 (by decide) (fun c38 => ?_) (fun c38 => ?_)
  · exfalso; omega
  refine lv_aload_n hx hb dX2_init_41 rfl (lv_at hl 1 rfl) ?_
  refine ct_get (own := RX2) hx hb hts ic_Search hown hK hC rfl rfl 0 (by decide) mw_1_198 rfl dX2_init_42 ?_
  refine lv_iload_n hx hb dX2_init_45 rfl (lv_at hl 0 rfl) ?_
  refine ct_new (own := RX2) (ci := 1) (fs := [.null, .null, .null, .null, .null, .null, .null, .null, .int 0, .int 0]) hx hb hts ic_Floor tyX1 tyX1_ok hown mw_1_195 mw_1_38 mw_1_4 hK hC hS hA rfl df_X1 (Nat.le_of_ble_eq_true rfl) (Nat.le_of_ble_eq_true rfl) dX2_init_46 (fun q11 H hC hS => ?_)
  have hC : CT z [] [] A [(h0, .inr (2, [.ref q2, .ref q4, .ref q6, .ref q8, .int 0, .int 0, .int 0, .int 0])), (q2, .inl (zF z, 6, .inr (.inr (.inr (.inr (fun _ => none)))))), (q4, .inl (zI z, 5, .inl (fun _ => 0))), (q6, .inl (zI z, 5, .inl (fun _ => 0))), (q8, .inl (zI z, 5, .inl (fun _ => 0))), (q11, .inr (1, [.null, .null, .null, .null, .null, .null, .null, .null, .int 0, .int 0]))] H := hC
  refine W.widen (k := 5) (n := 31) (by omega) (by omega) ?_
  refine lv_dup hx hb dX2_init_49 rfl ?_
  refine ct_call (own := RX2) (X := [(h0, .inr (2, [.ref q2, .ref q4, .ref q6, .ref q8, .int 0, .int 0, .int 0, .int 0])), (q2, .inl (zF z, 6, .inr (.inr (.inr (.inr (fun _ => none)))))), (q4, .inl (zI z, 5, .inl (fun _ => 0))), (q6, .inl (zI z, 5, .inl (fun _ => 0))), (q8, .inl (zI z, 5, .inl (fun _ => 0)))]) (rest := [.ref q11, .int x9, .ref q2]) (some "HeelDance") hC0 hK hNW (fun sz => c_X1_init l z q11 sz 6) k_X1_init hNW.1.2.2.2.2.2.1 ⟨(Nat.le_of_ble_eq_true rfl), (Nat.le_of_ble_eq_true rfl)⟩ hC (by simp) hl.1 (Nat.le_of_ble_eq_true rfl) dX2_init_50 ⟨(Nat.le_of_ble_eq_true rfl), (Nat.le_of_ble_eq_true rfl)⟩ hS hA (fun H locs hC hS => ?_)
  have hC : CT z [(11, 6)] [(q11, (11, 6))] A [(h0, .inr (2, [.ref q2, .ref q4, .ref q6, .ref q8, .int 0, .int 0, .int 0, .int 0])), (q2, .inl (zF z, 6, .inr (.inr (.inr (.inr (fun _ => none)))))), (q4, .inl (zI z, 5, .inl (fun _ => 0))), (q6, .inl (zI z, 5, .inl (fun _ => 0))), (q8, .inl (zI z, 5, .inl (fun _ => 0)))] H := hC
  refine W.widen (k := 13) (n := 71) (by omega) (by omega) ?_
  refine ct_ast hx hb hK hC hS 1 3 1 rfl rfl rfl (List.mem_cons_self) rv_11 0 (by omega) (by decide) dX2_init_53 (fun H locs hC hS => ?_)
  have hC : CT z [(11, 6)] [(q11, (11, 6))] A [(h0, .inr (2, [.ref q2, .ref q4, .ref q6, .ref q8, .int 0, .int 0, .int 0, .int 0])), (q2, .inl (zF z, 6, .inr (.inr (.inr (.inr (va_up (fun _ => none) 0 (some q11))))))), (q4, .inl (zI z, 5, .inl (fun _ => 0))), (q6, .inl (zI z, 5, .inl (fun _ => 0))), (q8, .inl (zI z, 5, .inl (fun _ => 0)))] H := hC
  refine r_iinc (lv' := fun v__ => [(1, .int v__), (0, .ref h0)]) hx hb dX2_init_54 hl (k := 0) rfl (by decide) (fun _ => rfl) ⟨by decide, by decide⟩ (by omega) (by omega) (fun x12 ls ex12 hl => ?_)
  refine lv_goto (tgt := 36) hx hb dX2_init_57 (by decide) ?_
  refine lv_iload_n hx hb dX2_init_36 rfl (lv_at hl 0 rfl) ?_
  refine r_iconst hx hb dX2_init_37 (by decide) (by decide) (fun x13 ex13 => ?_)
  refine r_icmp_gt (tgt := 60) hx hb dX2_init_38 (by decide) (fun c38 => ?_) (fun c38 => ?_)
  · exfalso; omega
  refine lv_aload_n hx hb dX2_init_41 rfl (lv_at hl 1 rfl) ?_
  refine ct_get (own := RX2) hx hb hts ic_Search hown hK hC rfl rfl 0 (by decide) mw_1_198 rfl dX2_init_42 ?_
  refine lv_iload_n hx hb dX2_init_45 rfl (lv_at hl 0 rfl) ?_
  refine ct_new (own := RX2) (ci := 1) (fs := [.null, .null, .null, .null, .null, .null, .null, .null, .int 0, .int 0]) hx hb hts ic_Floor tyX1 tyX1_ok hown mw_1_195 mw_1_38 mw_1_4 hK hC hS hA rfl df_X1 (Nat.le_of_ble_eq_true rfl) (Nat.le_of_ble_eq_true rfl) dX2_init_46 (fun q14 H hC hS => ?_)
  have hC : CT z [(11, 6)] [(q11, (11, 6))] A [(h0, .inr (2, [.ref q2, .ref q4, .ref q6, .ref q8, .int 0, .int 0, .int 0, .int 0])), (q2, .inl (zF z, 6, .inr (.inr (.inr (.inr (va_up (fun _ => none) 0 (some q11))))))), (q4, .inl (zI z, 5, .inl (fun _ => 0))), (q6, .inl (zI z, 5, .inl (fun _ => 0))), (q8, .inl (zI z, 5, .inl (fun _ => 0))), (q14, .inr (1, [.null, .null, .null, .null, .null, .null, .null, .null, .int 0, .int 0]))] H := hC
  refine W.widen (k := 14) (n := 81) (by omega) (by omega) ?_
  refine lv_dup hx hb dX2_init_49 rfl ?_
  refine ct_call (own := RX2) (X := [(h0, .inr (2, [.ref q2, .ref q4, .ref q6, .ref q8, .int 0, .int 0, .int 0, .int 0])), (q2, .inl (zF z, 6, .inr (.inr (.inr (.inr (va_up (fun _ => none) 0 (some q11))))))), (q4, .inl (zI z, 5, .inl (fun _ => 0))), (q6, .inl (zI z, 5, .inl (fun _ => 0))), (q8, .inl (zI z, 5, .inl (fun _ => 0)))]) (rest := [.ref q14, .int x12, .ref q2]) (some "HeelDance") hC0 hK hNW (fun sz => c_X1_init l z q14 sz 7) k_X1_init hNW.1.2.2.2.2.2.1 ⟨(Nat.le_of_ble_eq_true rfl), (Nat.le_of_ble_eq_true rfl)⟩ hC (by simp) hl.1 (Nat.le_of_ble_eq_true rfl) dX2_init_50 ⟨(Nat.le_of_ble_eq_true rfl), (Nat.le_of_ble_eq_true rfl)⟩ hS hA (fun H locs hC hS => ?_)
  have hC : CT z [(11, 7), (11, 6)] [(q14, (11, 7)), (q11, (11, 6))] A [(h0, .inr (2, [.ref q2, .ref q4, .ref q6, .ref q8, .int 0, .int 0, .int 0, .int 0])), (q2, .inl (zF z, 6, .inr (.inr (.inr (.inr (va_up (fun _ => none) 0 (some q11))))))), (q4, .inl (zI z, 5, .inl (fun _ => 0))), (q6, .inl (zI z, 5, .inl (fun _ => 0))), (q8, .inl (zI z, 5, .inl (fun _ => 0)))] H := hC
  refine W.widen (k := 22) (n := 121) (by omega) (by omega) ?_
  refine ct_ast hx hb hK hC hS 1 3 1 rfl rfl rfl (List.mem_cons_self) rv_11 1 (by omega) (by decide) dX2_init_53 (fun H locs hC hS => ?_)
  have hC : CT z [(11, 7), (11, 6)] [(q14, (11, 7)), (q11, (11, 6))] A [(h0, .inr (2, [.ref q2, .ref q4, .ref q6, .ref q8, .int 0, .int 0, .int 0, .int 0])), (q2, .inl (zF z, 6, .inr (.inr (.inr (.inr (va_up (va_up (fun _ => none) 0 (some q11)) 1 (some q14))))))), (q4, .inl (zI z, 5, .inl (fun _ => 0))), (q6, .inl (zI z, 5, .inl (fun _ => 0))), (q8, .inl (zI z, 5, .inl (fun _ => 0)))] H := hC
  refine r_iinc (lv' := fun v__ => [(1, .int v__), (0, .ref h0)]) hx hb dX2_init_54 hl (k := 0) rfl (by decide) (fun _ => rfl) ⟨by decide, by decide⟩ (by omega) (by omega) (fun x15 ls ex15 hl => ?_)
  refine lv_goto (tgt := 36) hx hb dX2_init_57 (by decide) ?_
  refine lv_iload_n hx hb dX2_init_36 rfl (lv_at hl 0 rfl) ?_
  refine r_iconst hx hb dX2_init_37 (by decide) (by decide) (fun x16 ex16 => ?_)
  refine r_icmp_gt (tgt := 60) hx hb dX2_init_38 (by decide) (fun c38 => ?_) (fun c38 => ?_)
  · exfalso; omega
  refine lv_aload_n hx hb dX2_init_41 rfl (lv_at hl 1 rfl) ?_
  refine ct_get (own := RX2) hx hb hts ic_Search hown hK hC rfl rfl 0 (by decide) mw_1_198 rfl dX2_init_42 ?_
  refine lv_iload_n hx hb dX2_init_45 rfl (lv_at hl 0 rfl) ?_
  refine ct_new (own := RX2) (ci := 1) (fs := [.null, .null, .null, .null, .null, .null, .null, .null, .int 0, .int 0]) hx hb hts ic_Floor tyX1 tyX1_ok hown mw_1_195 mw_1_38 mw_1_4 hK hC hS hA rfl df_X1 (Nat.le_of_ble_eq_true rfl) (Nat.le_of_ble_eq_true rfl) dX2_init_46 (fun q17 H hC hS => ?_)
  have hC : CT z [(11, 7), (11, 6)] [(q14, (11, 7)), (q11, (11, 6))] A [(h0, .inr (2, [.ref q2, .ref q4, .ref q6, .ref q8, .int 0, .int 0, .int 0, .int 0])), (q2, .inl (zF z, 6, .inr (.inr (.inr (.inr (va_up (va_up (fun _ => none) 0 (some q11)) 1 (some q14))))))), (q4, .inl (zI z, 5, .inl (fun _ => 0))), (q6, .inl (zI z, 5, .inl (fun _ => 0))), (q8, .inl (zI z, 5, .inl (fun _ => 0))), (q17, .inr (1, [.null, .null, .null, .null, .null, .null, .null, .null, .int 0, .int 0]))] H := hC
  refine W.widen (k := 23) (n := 131) (by omega) (by omega) ?_
  refine lv_dup hx hb dX2_init_49 rfl ?_
  refine ct_call (own := RX2) (X := [(h0, .inr (2, [.ref q2, .ref q4, .ref q6, .ref q8, .int 0, .int 0, .int 0, .int 0])), (q2, .inl (zF z, 6, .inr (.inr (.inr (.inr (va_up (va_up (fun _ => none) 0 (some q11)) 1 (some q14))))))), (q4, .inl (zI z, 5, .inl (fun _ => 0))), (q6, .inl (zI z, 5, .inl (fun _ => 0))), (q8, .inl (zI z, 5, .inl (fun _ => 0)))]) (rest := [.ref q17, .int x15, .ref q2]) (some "HeelDance") hC0 hK hNW (fun sz => c_X1_init l z q17 sz 8) k_X1_init hNW.1.2.2.2.2.2.1 ⟨(Nat.le_of_ble_eq_true rfl), (Nat.le_of_ble_eq_true rfl)⟩ hC (by simp) hl.1 (Nat.le_of_ble_eq_true rfl) dX2_init_50 ⟨(Nat.le_of_ble_eq_true rfl), (Nat.le_of_ble_eq_true rfl)⟩ hS hA (fun H locs hC hS => ?_)
  have hC : CT z [(11, 8), (11, 7), (11, 6)] [(q17, (11, 8)), (q14, (11, 7)), (q11, (11, 6))] A [(h0, .inr (2, [.ref q2, .ref q4, .ref q6, .ref q8, .int 0, .int 0, .int 0, .int 0])), (q2, .inl (zF z, 6, .inr (.inr (.inr (.inr (va_up (va_up (fun _ => none) 0 (some q11)) 1 (some q14))))))), (q4, .inl (zI z, 5, .inl (fun _ => 0))), (q6, .inl (zI z, 5, .inl (fun _ => 0))), (q8, .inl (zI z, 5, .inl (fun _ => 0)))] H := hC
  refine W.widen (k := 31) (n := 171) (by omega) (by omega) ?_
  refine ct_ast hx hb hK hC hS 1 3 1 rfl rfl rfl (List.mem_cons_self) rv_11 2 (by omega) (by decide) dX2_init_53 (fun H locs hC hS => ?_)
  have hC : CT z [(11, 8), (11, 7), (11, 6)] [(q17, (11, 8)), (q14, (11, 7)), (q11, (11, 6))] A [(h0, .inr (2, [.ref q2, .ref q4, .ref q6, .ref q8, .int 0, .int 0, .int 0, .int 0])), (q2, .inl (zF z, 6, .inr (.inr (.inr (.inr (va_up (va_up (va_up (fun _ => none) 0 (some q11)) 1 (some q14)) 2 (some q17))))))), (q4, .inl (zI z, 5, .inl (fun _ => 0))), (q6, .inl (zI z, 5, .inl (fun _ => 0))), (q8, .inl (zI z, 5, .inl (fun _ => 0)))] H := hC
  refine r_iinc (lv' := fun v__ => [(1, .int v__), (0, .ref h0)]) hx hb dX2_init_54 hl (k := 0) rfl (by decide) (fun _ => rfl) ⟨by decide, by decide⟩ (by omega) (by omega) (fun x18 ls ex18 hl => ?_)
  refine lv_goto (tgt := 36) hx hb dX2_init_57 (by decide) ?_
  refine lv_iload_n hx hb dX2_init_36 rfl (lv_at hl 0 rfl) ?_
  refine r_iconst hx hb dX2_init_37 (by decide) (by decide) (fun x19 ex19 => ?_)
  refine r_icmp_gt (tgt := 60) hx hb dX2_init_38 (by decide) (fun c38 => ?_) (fun c38 => ?_)
  · exfalso; omega
  refine lv_aload_n hx hb dX2_init_41 rfl (lv_at hl 1 rfl) ?_
  refine ct_get (own := RX2) hx hb hts ic_Search hown hK hC rfl rfl 0 (by decide) mw_1_198 rfl dX2_init_42 ?_
  refine lv_iload_n hx hb dX2_init_45 rfl (lv_at hl 0 rfl) ?_
  refine ct_new (own := RX2) (ci := 1) (fs := [.null, .null, .null, .null, .null, .null, .null, .null, .int 0, .int 0]) hx hb hts ic_Floor tyX1 tyX1_ok hown mw_1_195 mw_1_38 mw_1_4 hK hC hS hA rfl df_X1 (Nat.le_of_ble_eq_true rfl) (Nat.le_of_ble_eq_true rfl) dX2_init_46 (fun q20 H hC hS => ?_)
  have hC : CT z [(11, 8), (11, 7), (11, 6)] [(q17, (11, 8)), (q14, (11, 7)), (q11, (11, 6))] A [(h0, .inr (2, [.ref q2, .ref q4, .ref q6, .ref q8, .int 0, .int 0, .int 0, .int 0])), (q2, .inl (zF z, 6, .inr (.inr (.inr (.inr (va_up (va_up (va_up (fun _ => none) 0 (some q11)) 1 (some q14)) 2 (some q17))))))), (q4, .inl (zI z, 5, .inl (fun _ => 0))), (q6, .inl (zI z, 5, .inl (fun _ => 0))), (q8, .inl (zI z, 5, .inl (fun _ => 0))), (q20, .inr (1, [.null, .null, .null, .null, .null, .null, .null, .null, .int 0, .int 0]))] H := hC
  refine W.widen (k := 32) (n := 181) (by omega) (by omega) ?_
  refine lv_dup hx hb dX2_init_49 rfl ?_
  refine ct_call (own := RX2) (X := [(h0, .inr (2, [.ref q2, .ref q4, .ref q6, .ref q8, .int 0, .int 0, .int 0, .int 0])), (q2, .inl (zF z, 6, .inr (.inr (.inr (.inr (va_up (va_up (va_up (fun _ => none) 0 (some q11)) 1 (some q14)) 2 (some q17))))))), (q4, .inl (zI z, 5, .inl (fun _ => 0))), (q6, .inl (zI z, 5, .inl (fun _ => 0))), (q8, .inl (zI z, 5, .inl (fun _ => 0)))]) (rest := [.ref q20, .int x18, .ref q2]) (some "HeelDance") hC0 hK hNW (fun sz => c_X1_init l z q20 sz 9) k_X1_init hNW.1.2.2.2.2.2.1 ⟨(Nat.le_of_ble_eq_true rfl), (Nat.le_of_ble_eq_true rfl)⟩ hC (by simp) hl.1 (Nat.le_of_ble_eq_true rfl) dX2_init_50 ⟨(Nat.le_of_ble_eq_true rfl), (Nat.le_of_ble_eq_true rfl)⟩ hS hA (fun H locs hC hS => ?_)
  have hC : CT z [(11, 9), (11, 8), (11, 7), (11, 6)] [(q20, (11, 9)), (q17, (11, 8)), (q14, (11, 7)), (q11, (11, 6))] A [(h0, .inr (2, [.ref q2, .ref q4, .ref q6, .ref q8, .int 0, .int 0, .int 0, .int 0])), (q2, .inl (zF z, 6, .inr (.inr (.inr (.inr (va_up (va_up (va_up (fun _ => none) 0 (some q11)) 1 (some q14)) 2 (some q17))))))), (q4, .inl (zI z, 5, .inl (fun _ => 0))), (q6, .inl (zI z, 5, .inl (fun _ => 0))), (q8, .inl (zI z, 5, .inl (fun _ => 0)))] H := hC
  refine W.widen (k := 40) (n := 221) (by omega) (by omega) ?_
  refine ct_ast hx hb hK hC hS 1 3 1 rfl rfl rfl (List.mem_cons_self) rv_11 3 (by omega) (by decide) dX2_init_53 (fun H locs hC hS => ?_)
  have hC : CT z [(11, 9), (11, 8), (11, 7), (11, 6)] [(q20, (11, 9)), (q17, (11, 8)), (q14, (11, 7)), (q11, (11, 6))] A [(h0, .inr (2, [.ref q2, .ref q4, .ref q6, .ref q8, .int 0, .int 0, .int 0, .int 0])), (q2, .inl (zF z, 6, .inr (.inr (.inr (.inr (va_up (va_up (va_up (va_up (fun _ => none) 0 (some q11)) 1 (some q14)) 2 (some q17)) 3 (some q20))))))), (q4, .inl (zI z, 5, .inl (fun _ => 0))), (q6, .inl (zI z, 5, .inl (fun _ => 0))), (q8, .inl (zI z, 5, .inl (fun _ => 0)))] H := hC
  refine r_iinc (lv' := fun v__ => [(1, .int v__), (0, .ref h0)]) hx hb dX2_init_54 hl (k := 0) rfl (by decide) (fun _ => rfl) ⟨by decide, by decide⟩ (by omega) (by omega) (fun x21 ls ex21 hl => ?_)
  refine lv_goto (tgt := 36) hx hb dX2_init_57 (by decide) ?_
  refine lv_iload_n hx hb dX2_init_36 rfl (lv_at hl 0 rfl) ?_
  refine r_iconst hx hb dX2_init_37 (by decide) (by decide) (fun x22 ex22 => ?_)
  refine r_icmp_gt (tgt := 60) hx hb dX2_init_38 (by decide) (fun c38 => ?_) (fun c38 => ?_)
  · exfalso; omega
  refine lv_aload_n hx hb dX2_init_41 rfl (lv_at hl 1 rfl) ?_
  refine ct_get (own := RX2) hx hb hts ic_Search hown hK hC rfl rfl 0 (by decide) mw_1_198 rfl dX2_init_42 ?_
  refine lv_iload_n hx hb dX2_init_45 rfl (lv_at hl 0 rfl) ?_
  refine ct_new (own := RX2) (ci := 1) (fs := [.null, .null, .null, .null, .null, .null, .null, .null, .int 0, .int 0]) hx hb hts ic_Floor tyX1 tyX1_ok hown mw_1_195 mw_1_38 mw_1_4 hK hC hS hA rfl df_X1 (Nat.le_of_ble_eq_true rfl) (Nat.le_of_ble_eq_true rfl) dX2_init_46 (fun q23 H hC hS => ?_)
  have hC : CT z [(11, 9), (11, 8), (11, 7), (11, 6)] [(q20, (11, 9)), (q17, (11, 8)), (q14, (11, 7)), (q11, (11, 6))] A [(h0, .inr (2, [.ref q2, .ref q4, .ref q6, .ref q8, .int 0, .int 0, .int 0, .int 0])), (q2, .inl (zF z, 6, .inr (.inr (.inr (.inr (va_up (va_up (va_up (va_up (fun _ => none) 0 (some q11)) 1 (some q14)) 2 (some q17)) 3 (some q20))))))), (q4, .inl (zI z, 5, .inl (fun _ => 0))), (q6, .inl (zI z, 5, .inl (fun _ => 0))), (q8, .inl (zI z, 5, .inl (fun _ => 0))), (q23, .inr (1, [.null, .null, .null, .null, .null, .null, .null, .null, .int 0, .int 0]))] H := hC
  refine W.widen (k := 41) (n := 231) (by omega) (by omega) ?_
  refine lv_dup hx hb dX2_init_49 rfl ?_
  refine ct_call (own := RX2) (X := [(h0, .inr (2, [.ref q2, .ref q4, .ref q6, .ref q8, .int 0, .int 0, .int 0, .int 0])), (q2, .inl (zF z, 6, .inr (.inr (.inr (.inr (va_up (va_up (va_up (va_up (fun _ => none) 0 (some q11)) 1 (some q14)) 2 (some q17)) 3 (some q20))))))), (q4, .inl (zI z, 5, .inl (fun _ => 0))), (q6, .inl (zI z, 5, .inl (fun _ => 0))), (q8, .inl (zI z, 5, .inl (fun _ => 0)))]) (rest := [.ref q23, .int x21, .ref q2]) (some "HeelDance") hC0 hK hNW (fun sz => c_X1_init l z q23 sz 10) k_X1_init hNW.1.2.2.2.2.2.1 ⟨(Nat.le_of_ble_eq_true rfl), (Nat.le_of_ble_eq_true rfl)⟩ hC (by simp) hl.1 (Nat.le_of_ble_eq_true rfl) dX2_init_50 ⟨(Nat.le_of_ble_eq_true rfl), (Nat.le_of_ble_eq_true rfl)⟩ hS hA (fun H locs hC hS => ?_)
  have hC : CT z [(11, 10), (11, 9), (11, 8), (11, 7), (11, 6)] [(q23, (11, 10)), (q20, (11, 9)), (q17, (11, 8)), (q14, (11, 7)), (q11, (11, 6))] A [(h0, .inr (2, [.ref q2, .ref q4, .ref q6, .ref q8, .int 0, .int 0, .int 0, .int 0])), (q2, .inl (zF z, 6, .inr (.inr (.inr (.inr (va_up (va_up (va_up (va_up (fun _ => none) 0 (some q11)) 1 (some q14)) 2 (some q17)) 3 (some q20))))))), (q4, .inl (zI z, 5, .inl (fun _ => 0))), (q6, .inl (zI z, 5, .inl (fun _ => 0))), (q8, .inl (zI z, 5, .inl (fun _ => 0)))] H := hC
  refine W.widen (k := 49) (n := 271) (by omega) (by omega) ?_
  refine ct_ast hx hb hK hC hS 1 3 1 rfl rfl rfl (List.mem_cons_self) rv_11 4 (by omega) (by decide) dX2_init_53 (fun H locs hC hS => ?_)
  have hC : CT z [(11, 10), (11, 9), (11, 8), (11, 7), (11, 6)] [(q23, (11, 10)), (q20, (11, 9)), (q17, (11, 8)), (q14, (11, 7)), (q11, (11, 6))] A [(h0, .inr (2, [.ref q2, .ref q4, .ref q6, .ref q8, .int 0, .int 0, .int 0, .int 0])), (q2, .inl (zF z, 6, .inr (.inr (.inr (.inr (va_up (va_up (va_up (va_up (va_up (fun _ => none) 0 (some q11)) 1 (some q14)) 2 (some q17)) 3 (some q20)) 4 (some q23))))))), (q4, .inl (zI z, 5, .inl (fun _ => 0))), (q6, .inl (zI z, 5, .inl (fun _ => 0))), (q8, .inl (zI z, 5, .inl (fun _ => 0)))] H := hC
  refine r_iinc (lv' := fun v__ => [(1, .int v__), (0, .ref h0)]) hx hb dX2_init_54 hl (k := 0) rfl (by decide) (fun _ => rfl) ⟨by decide, by decide⟩ (by omega) (by omega) (fun x24 ls ex24 hl => ?_)
  refine lv_goto (tgt := 36) hx hb dX2_init_57 (by decide) ?_
  refine lv_iload_n hx hb dX2_init_36 rfl (lv_at hl 0 rfl) ?_
  refine r_iconst hx hb dX2_init_37 (by decide) (by decide) (fun x25 ex25 => ?_)
  refine r_icmp_gt (tgt := 60) hx hb dX2_init_38 (by decide) (fun c38 => ?_) (fun c38 => ?_)
  · exfalso; omega
  refine lv_aload_n hx hb dX2_init_41 rfl (lv_at hl 1 rfl) ?_
  refine ct_get (own := RX2) hx hb hts ic_Search hown hK hC rfl rfl 0 (by decide) mw_1_198 rfl dX2_init_42 ?_
  refine lv_iload_n hx hb dX2_init_45 rfl (lv_at hl 0 rfl) ?_
  refine ct_new (own := RX2) (ci := 1) (fs := [.null, .null, .null, .null, .null, .null, .null, .null, .int 0, .int 0]) hx hb hts ic_Floor tyX1 tyX1_ok hown mw_1_195 mw_1_38 mw_1_4 hK hC hS hA rfl df_X1 (Nat.le_of_ble_eq_true rfl) (Nat.le_of_ble_eq_true rfl) dX2_init_46 (fun q26 H hC hS => ?_)
  have hC : CT z [(11, 10), (11, 9), (11, 8), (11, 7), (11, 6)] [(q23, (11, 10)), (q20, (11, 9)), (q17, (11, 8)), (q14, (11, 7)), (q11, (11, 6))] A [(h0, .inr (2, [.ref q2, .ref q4, .ref q6, .ref q8, .int 0, .int 0, .int 0, .int 0])), (q2, .inl (zF z, 6, .inr (.inr (.inr (.inr (va_up (va_up (va_up (va_up (va_up (fun _ => none) 0 (some q11)) 1 (some q14)) 2 (some q17)) 3 (some q20)) 4 (some q23))))))), (q4, .inl (zI z, 5, .inl (fun _ => 0))), (q6, .inl (zI z, 5, .inl (fun _ => 0))), (q8, .inl (zI z, 5, .inl (fun _ => 0))), (q26, .inr (1, [.null, .null, .null, .null, .null, .null, .null, .null, .int 0, .int 0]))] H := hC
  refine W.widen (k := 50) (n := 281) (by omega) (by omega) ?_
  refine lv_dup hx hb dX2_init_49 rfl ?_
  refine ct_call (own := RX2) (X := [(h0, .inr (2, [.ref q2, .ref q4, .ref q6, .ref q8, .int 0, .int 0, .int 0, .int 0])), (q2, .inl (zF z, 6, .inr (.inr (.inr (.inr (va_up (va_up (va_up (va_up (va_up (fun _ => none) 0 (some q11)) 1 (some q14)) 2 (some q17)) 3 (some q20)) 4 (some q23))))))), (q4, .inl (zI z, 5, .inl (fun _ => 0))), (q6, .inl (zI z, 5, .inl (fun _ => 0))), (q8, .inl (zI z, 5, .inl (fun _ => 0)))]) (rest := [.ref q26, .int x24, .ref q2]) (some "HeelDance") hC0 hK hNW (fun sz => c_X1_init l z q26 sz 11) k_X1_init hNW.1.2.2.2.2.2.1 ⟨(Nat.le_of_ble_eq_true rfl), (Nat.le_of_ble_eq_true rfl)⟩ hC (by simp) hl.1 (Nat.le_of_ble_eq_true rfl) dX2_init_50 ⟨(Nat.le_of_ble_eq_true rfl), (Nat.le_of_ble_eq_true rfl)⟩ hS hA (fun H locs hC hS => ?_)
  have hC : CT z [(11, 11), (11, 10), (11, 9), (11, 8), (11, 7), (11, 6)] [(q26, (11, 11)), (q23, (11, 10)), (q20, (11, 9)), (q17, (11, 8)), (q14, (11, 7)), (q11, (11, 6))] A [(h0, .inr (2, [.ref q2, .ref q4, .ref q6, .ref q8, .int 0, .int 0, .int 0, .int 0])), (q2, .inl (zF z, 6, .inr (.inr (.inr (.inr (va_up (va_up (va_up (va_up (va_up (fun _ => none) 0 (some q11)) 1 (some q14)) 2 (some q17)) 3 (some q20)) 4 (some q23))))))), (q4, .inl (zI z, 5, .inl (fun _ => 0))), (q6, .inl (zI z, 5, .inl (fun _ => 0))), (q8, .inl (zI z, 5, .inl (fun _ => 0)))] H := hC
  refine W.widen (k := 58) (n := 321) (by omega) (by omega) ?_
  refine ct_ast hx hb hK hC hS 1 3 1 rfl rfl rfl (List.mem_cons_self) rv_11 5 (by omega) (by decide) dX2_init_53 (fun H locs hC hS => ?_)
  have hC : CT z [(11, 11), (11, 10), (11, 9), (11, 8), (11, 7), (11, 6)] [(q26, (11, 11)), (q23, (11, 10)), (q20, (11, 9)), (q17, (11, 8)), (q14, (11, 7)), (q11, (11, 6))] A [(h0, .inr (2, [.ref q2, .ref q4, .ref q6, .ref q8, .int 0, .int 0, .int 0, .int 0])), (q2, .inl (zF z, 6, .inr (.inr (.inr (.inr (va_up (va_up (va_up (va_up (va_up (va_up (fun _ => none) 0 (some q11)) 1 (some q14)) 2 (some q17)) 3 (some q20)) 4 (some q23)) 5 (some q26))))))), (q4, .inl (zI z, 5, .inl (fun _ => 0))), (q6, .inl (zI z, 5, .inl (fun _ => 0))), (q8, .inl (zI z, 5, .inl (fun _ => 0)))] H := hC
  refine r_iinc (lv' := fun v__ => [(1, .int v__), (0, .ref h0)]) hx hb dX2_init_54 hl (k := 0) rfl (by decide) (fun _ => rfl) ⟨by decide, by decide⟩ (by omega) (by omega) (fun x27 ls ex27 hl => ?_)
  refine lv_goto (tgt := 36) hx hb dX2_init_57 (by decide) ?_
  refine lv_iload_n hx hb dX2_init_36 rfl (lv_at hl 0 rfl) ?_
  refine r_iconst hx hb dX2_init_37 (by decide) (by decide) (fun x28 ex28 => ?_)
  refine r_icmp_gt (tgt := 60) hx hb dX2_init_38 (by decide) (fun c38 => ?_) (fun c38 => ?_)
  rotate_left
  · exfalso; omega
  have hNB := ct_end hC [(12, o), (35, h0), (20, h0), (20, h0), (20, h0)] [(12, o)] rfl rfl rfl (by simp) (by simp) (zu_rl [12, 35, 20, 20, 20] rfl (by decide)) (by simp) (fun L9 G9 hF hg i q e r h1 h2 => by
    match i, h1, h2 with
    | 0, h1, h2 => cases h1; cases h2; exact (⟨q2, q4, q6, q8, 0, 0, 0, 0, rfl, hg 1 _ _ _ rfl rfl, hg 2 _ _ _ rfl rfl, hg 3 _ _ _ rfl rfl, hg 4 _ _ _ rfl rfl, ⟨(show (0 : Int) ≤ (0 : Int32).toInt by first | omega | (rw [z32]; decide)), (show (0 : Int32).toInt ≤ (1 : Int) by first | omega | (rw [z32]; decide))⟩, ⟨(show (0 : Int) ≤ (0 : Int32).toInt by first | omega | (rw [z32]; decide)), (show (0 : Int32).toInt ≤ (5 : Int) by first | omega | (rw [z32]; decide))⟩, trivial, trivial⟩ : eSearch (zx z L9 G9) (iniG.1 h0) (12, o) h0 _)
    | 1, h1, h2 => cases h1; cases h2; exact ⟨_, rfl, fun i9 hi9 => by rcases (show i9 = 0 ∨ i9 = 1 ∨ i9 = 2 ∨ i9 = 3 ∨ i9 = 4 ∨ i9 = 5 by omega) with rfl | rfl | rfl | rfl | rfl | rfl; exact ⟨q11, rfl, hF (q11, (11, 6)) (by simp)⟩; exact ⟨q14, rfl, hF (q14, (11, 7)) (by simp)⟩; exact ⟨q17, rfl, hF (q17, (11, 8)) (by simp)⟩; exact ⟨q20, rfl, hF (q20, (11, 9)) (by simp)⟩; exact ⟨q23, rfl, hF (q23, (11, 10)) (by simp)⟩; exact ⟨q26, rfl, hF (q26, (11, 11)) (by simp)⟩⟩
    | 2, h1, h2 => cases h1; cases h2; exact ia_20
    | 3, h1, h2 => cases h1; cases h2; exact ia_20
    | 4, h1, h2 => cases h1; cases h2; exact ia_20
    | n9 + 5, h1, h2 => cases h1)
  exact W.vret hx hb hr (fun t ht hW => ⟨⟨(), rfl, trivial, by show NB z A (12, o) h0 [(12, o), (11, 11), (11, 10), (11, 9), (11, 8), (11, 7), (11, 6)] t.heap; rw [ht]; exact hNB⟩, hS.F ht⟩) hS.2.2 dX2_init_60 hlk
theorem k_X3_init : cBI yX3_init cX3_init 1 := ⟨mw_1_231, mw_1_7, mw_1_232, rfl, by decide, by decide, by decide⟩
set_option maxHeartbeats 4000000 in
set_option maxRecDepth 100000 in
theorem c_X3_init (l : Launch) (z : Zt) (h0 sz o : Nat) : Met l yX3_init (uw yX3_init cX3_init 1 none) (rmC 1 64 1 40) (IPre z h0 sz 3 [.null, .int 0, .int 0]) (IQ z (va_A [(h0, .inr (3, [.null, .int 0, .int 0]))] sz) (13, o) h0 [(13, o)]) 1 40 (va_A [(h0, .inr (3, [.null, .int 0, .int 0]))] sz) := by
  refine Met.ofW (cc := cX3_init) (maxL := 1) (ret := none) (by decide) rfl ?_
  intro p e s m args below meth c s₁ B hml hv
  obtain ⟨rfl, hsz, hP, hK, hNW⟩ := hv
  have hx := B.exec
  have hb := B.bytes
  have hr := B.returns
  have hts : ∀ w ∈ lw_ok, w.before ([.ref h0] : List Value).toArray s = true := fun w hw => atoms_spec (ws := uw yX3_init cX3_init 1 none) B.pre w (List.mem_cons_of_mem _ hw)
  have hown : s.vm.findClass RX3 = some m.cls := findClass_of_methodNamed B.named
  have hlk := B.notSynchronized
  have hin : meth.name = "<init>" := (name_of_methodNamed B.named B.method).1
  subst hsz
  have hD := vd_one (q := h0) (sz := s.heap.size) (e := .inr (3, [.null, .int 0, .int 0]))
  generalize hAe : va_A [(h0, .inr (3, [.null, .int 0, .int 0]))] s.heap.size = A at hD ⊢
  have hA : ∀ q : Nat, s.heap.size ≤ q → A q := fun q h => by rw [← hAe]; exact Or.inr h
  have hC0 : CallFix p m c cX3_init 1 s ([.ref h0] : List Value).toArray lw_ok RX3 := ⟨hx, hb, hml, hown, hts⟩
  have hS : va_S A s.heap s.heap [] := va_S.rf
  have hC := CT.ini hP hD
  have hl := lv_entry ([.ref h0]) (n := 1) (Nat.le_of_ble_eq_true rfl)
  rw [lg_entry_eq]
  generalize (lg_sl ([.ref h0]) ++ List.replicate (1 - (lg_sl ([.ref h0])).length) Slot.unset).toArray = ls at hl ⊢
  have hl : lv_has ls 1 [(0, .ref h0)] := hl
  show W p l e (rmC 1 64 1 40) s m ([.ref h0] : List Value).toArray below meth c s.heap [] 0 0 (MQ below (IQ z A (13, o) h0 [(13, o)]) ([.ref h0] : List Value).toArray s 1 40 A) (F0 m 0 ls [])
  refine lv_aload_n hx hb dX3_init_0 rfl (lv_at hl 0 rfl) ?_
  refine W.objInit hx hb hown (hts _ mw_1_233) (hts _ mw_1_23) (hts _ mw_1_24) rfl (by rw [hml]; exact hl.1) rfl dX3_init_1 (Nat.le_of_ble_eq_true rfl) (Nat.le_of_ble_eq_true rfl) ?_
  refine W.eq (g2 := F0 m 4 ls []) rfl ?_
  refine lv_aload_n hx hb dX3_init_4 rfl (lv_at hl 0 rfl) ?_
  refine r_bipush hx hb dX3_init_5 rfl (fun x1 ex1 => ?_)
  refine ct_newI hx hb hts hK hC hS hA 40 (by omega) (by decide) (Nat.le_of_ble_eq_true rfl) (Nat.le_of_ble_eq_true rfl) dX3_init_7 (fun q2 H hC hS => ?_)
  have hC : CT z [] [] A [(h0, .inr (3, [.null, .int 0, .int 0])), (q2, .inl (zI z, 40, .inl (fun _ => 0)))] H := hC
  refine W.widen (k := 1) (n := 40) (by omega) (by omega) ?_
  refine ct_put (own := RX3) (ty := .array .int) (v := .ref q2) hx hb hts ic_Sheet tyX3 tyX3_ok nmX3 hown hK hC hS rfl rfl 0 (by decide) mw_1_234 hin rfl (by decide +kernel) rfl rfl (Nat.le_of_ble_eq_true rfl) dX3_init_9 (fun H locs hC hS => ?_)
  have hC : CT z [] [] A [(h0, .inr (3, [.ref q2, .int 0, .int 0])), (q2, .inl (zI z, 40, .inl (fun _ => 0)))] H := hC
  refine lv_aload_n hx hb dX3_init_12 rfl (lv_at hl 0 rfl) ?_
  refine r_iconst hx hb dX3_init_13 (by decide) (by decide) (fun x3 ex3 => ?_)
  refine ct_put (own := RX3) (ty := .int) (v := .int x3) hx hb hts ic_Sheet tyX3 tyX3_ok nmX3 hown hK hC hS rfl rfl 1 (by decide) mw_1_236 hin rfl (by decide +kernel) rfl rfl (Nat.le_of_ble_eq_true rfl) dX3_init_14 (fun H locs hC hS => ?_)
  have hC : CT z [] [] A [(h0, .inr (3, [.ref q2, .int x3, .int 0])), (q2, .inl (zI z, 40, .inl (fun _ => 0)))] H := hC
  have hNB := ct_end hC [(13, o), (23, h0)] [(13, o)] rfl rfl rfl (by simp) (by simp) (zu_rl [13, 23] rfl (by decide)) (by simp) (fun L9 G9 hF hg i q e r h1 h2 => by
    match i, h1, h2 with
    | 0, h1, h2 => cases h1; cases h2; exact (⟨q2, x3, 0, rfl, hg 1 _ _ _ rfl rfl, ⟨(by show (x3 : Int32).toInt = (-1 : Int); first | exact z32 | omega), (show (-1 : Int) ≤ (x3 : Int32).toInt by first | omega | (rw [z32]; decide)), (show (x3 : Int32).toInt ≤ (2 : Int) by first | omega | (rw [z32]; decide))⟩, ⟨(by show (0 : Int32).toInt = (0 : Int); first | exact z32 | omega), (show (0 : Int) ≤ (0 : Int32).toInt by first | omega | (rw [z32]; decide)), (show (0 : Int32).toInt ≤ (40 : Int) by first | omega | (rw [z32]; decide))⟩⟩ : eSheet (zx z L9 G9) (iniG.1 h0) (13, o) h0 _)
    | 1, h1, h2 => cases h1; cases h2; exact ia_23
    | n9 + 2, h1, h2 => cases h1)
  exact W.vret hx hb hr (fun t ht hW => ⟨⟨(), rfl, trivial, by show NB z A (13, o) h0 [(13, o)] t.heap; rw [ht]; exact hNB⟩, hS.F ht⟩) hS.2.2 dX3_init_17 hlk
theorem k_X4_init : cBI yX4_init cX4_init 1 := ⟨mw_1_28, mw_1_2, mw_1_29, rfl, by decide, by decide, by decide⟩
set_option maxHeartbeats 4000000 in
set_option maxRecDepth 100000 in
theorem c_X4_init (l : Launch) (z : Zt) (h0 sz o : Nat) : Met l yX4_init (uw yX4_init cX4_init 1 none) (rmC 3 104 16 249) (IPre z h0 sz 4 [.null, .null, .int 0, .int 0, .int 0, .int 0, .int 0, .int 0, .int 0, .int 0]) (IQ z (va_A [(h0, .inr (4, [.null, .null, .int 0, .int 0, .int 0, .int 0, .int 0, .int 0, .int 0, .int 0]))] sz) (14, o) h0 [(14, o), (10, 2), (11, 2)]) 16 249 (va_A [(h0, .inr (4, [.null, .null, .int 0, .int 0, .int 0, .int 0, .int 0, .int 0, .int 0, .int 0]))] sz) := by
  refine Met.ofW (cc := cX4_init) (maxL := 1) (ret := none) (by decide) rfl ?_
  intro p e s m args below meth c s₁ B hml hv
  obtain ⟨rfl, hsz, hP, hK, hNW⟩ := hv
  have hx := B.exec
  have hb := B.bytes
  have hr := B.returns
  have hts : ∀ w ∈ lw_ok, w.before ([.ref h0] : List Value).toArray s = true := fun w hw => atoms_spec (ws := uw yX4_init cX4_init 1 none) B.pre w (List.mem_cons_of_mem _ hw)
  have hown : s.vm.findClass RX4 = some m.cls := findClass_of_methodNamed B.named
  have hlk := B.notSynchronized
  have hin : meth.name = "<init>" := (name_of_methodNamed B.named B.method).1
  subst hsz
  have hD := vd_one (q := h0) (sz := s.heap.size) (e := .inr (4, [.null, .null, .int 0, .int 0, .int 0, .int 0, .int 0, .int 0, .int 0, .int 0]))
  generalize hAe : va_A [(h0, .inr (4, [.null, .null, .int 0, .int 0, .int 0, .int 0, .int 0, .int 0, .int 0, .int 0]))] s.heap.size = A at hD ⊢
  have hA : ∀ q : Nat, s.heap.size ≤ q → A q := fun q h => by rw [← hAe]; exact Or.inr h
  have hC0 : CallFix p m c cX4_init 1 s ([.ref h0] : List Value).toArray lw_ok RX4 := ⟨hx, hb, hml, hown, hts⟩
  have hS : va_S A s.heap s.heap [] := va_S.rf
  have hC := CT.ini hP hD
  have hl := lv_entry ([.ref h0]) (n := 1) (Nat.le_of_ble_eq_true rfl)
  rw [lg_entry_eq]
  generalize (lg_sl ([.ref h0]) ++ List.replicate (1 - (lg_sl ([.ref h0])).length) Slot.unset).toArray = ls at hl ⊢
  have hl : lv_has ls 1 [(0, .ref h0)] := hl
  show W p l e (rmC 3 104 16 249) s m ([.ref h0] : List Value).toArray below meth c s.heap [] 0 0 (MQ below (IQ z A (14, o) h0 [(14, o), (10, 2), (11, 2)]) ([.ref h0] : List Value).toArray s 16 249 A) (F0 m 0 ls [])
  refine lv_aload_n hx hb dX4_init_0 rfl (lv_at hl 0 rfl) ?_
  refine W.objInit hx hb hown (hts _ mw_1_30) (hts _ mw_1_23) (hts _ mw_1_24) rfl (by rw [hml]; exact hl.1) rfl dX4_init_1 (Nat.le_of_ble_eq_true rfl) (Nat.le_of_ble_eq_true rfl) ?_
  refine W.eq (g2 := F0 m 4 ls []) rfl ?_
  refine lv_aload_n hx hb dX4_init_4 rfl (lv_at hl 0 rfl) ?_
  refine r_sipush hx hb dX4_init_5 rfl (fun x1 ex1 => ?_)
  refine ct_newI hx hb hts hK hC hS hA 160 (by omega) (by decide) (Nat.le_of_ble_eq_true rfl) (Nat.le_of_ble_eq_true rfl) dX4_init_8 (fun q2 H hC hS => ?_)
  have hC : CT z [] [] A [(h0, .inr (4, [.null, .null, .int 0, .int 0, .int 0, .int 0, .int 0, .int 0, .int 0, .int 0])), (q2, .inl (zI z, 160, .inl (fun _ => 0)))] H := hC
  refine W.widen (k := 1) (n := 160) (by omega) (by omega) ?_
  refine ct_put (own := RX4) (ty := .array .int) (v := .ref q2) hx hb hts ic_Tape tyX4 tyX4_ok nmX4 hown hK hC hS rfl rfl 0 (by decide) mw_1_129 hin rfl (by decide +kernel) rfl rfl (Nat.le_of_ble_eq_true rfl) dX4_init_10 (fun H locs hC hS => ?_)
  have hC : CT z [] [] A [(h0, .inr (4, [.ref q2, .null, .int 0, .int 0, .int 0, .int 0, .int 0, .int 0, .int 0, .int 0])), (q2, .inl (zI z, 160, .inl (fun _ => 0)))] H := hC
  refine lv_aload_n hx hb dX4_init_13 rfl (lv_at hl 0 rfl) ?_
  refine ct_new (own := RX4) (ci := 0) (fs := [.null, .null, .null, .null, .null, .null, .int 0, .int 0]) hx hb hts ic_Evening tyX0 tyX0_ok hown mw_1_31 mw_1_32 mw_1_3 hK hC hS hA rfl df_X0 (Nat.le_of_ble_eq_true rfl) (Nat.le_of_ble_eq_true rfl) dX4_init_14 (fun q3 H hC hS => ?_)
  have hC : CT z [] [] A [(h0, .inr (4, [.ref q2, .null, .int 0, .int 0, .int 0, .int 0, .int 0, .int 0, .int 0, .int 0])), (q2, .inl (zI z, 160, .inl (fun _ => 0))), (q3, .inr (0, [.null, .null, .null, .null, .null, .null, .int 0, .int 0]))] H := hC
  refine W.widen (k := 2) (n := 168) (by omega) (by omega) ?_
  refine lv_dup hx hb dX4_init_17 rfl ?_
  refine ct_call (own := RX4) (X := [(h0, .inr (4, [.ref q2, .null, .int 0, .int 0, .int 0, .int 0, .int 0, .int 0, .int 0, .int 0])), (q2, .inl (zI z, 160, .inl (fun _ => 0)))]) (rest := [.ref q3, .ref h0]) (some "HeelDance") hC0 hK hNW (fun sz => c_X0_init l z q3 sz 2) k_X0_init hNW.1.2.2.2.2.2.2.1 ⟨(Nat.le_of_ble_eq_true rfl), (Nat.le_of_ble_eq_true rfl)⟩ hC (by simp) hl.1 (Nat.le_of_ble_eq_true rfl) dX4_init_18 ⟨(Nat.le_of_ble_eq_true rfl), (Nat.le_of_ble_eq_true rfl)⟩ hS hA (fun H locs hC hS => ?_)
  have hC : CT z [(10, 2), (11, 2)] [(q3, (10, 2))] A [(h0, .inr (4, [.ref q2, .null, .int 0, .int 0, .int 0, .int 0, .int 0, .int 0, .int 0, .int 0])), (q2, .inl (zI z, 160, .inl (fun _ => 0)))] H := hC
  refine W.widen (k := 16) (n := 249) (by omega) (by omega) ?_
  refine ct_put (own := RX4) (ty := .object "HeelDance$Evening") (v := .ref q3) hx hb hts ic_Tape tyX4 tyX4_ok nmX4 hown hK hC hS rfl rfl 1 (by decide) mw_1_131 hin rfl (by decide +kernel) rfl rfl (Nat.le_of_ble_eq_true rfl) dX4_init_21 (fun H locs hC hS => ?_)
  have hC : CT z [(10, 2), (11, 2)] [(q3, (10, 2))] A [(h0, .inr (4, [.ref q2, .ref q3, .int 0, .int 0, .int 0, .int 0, .int 0, .int 0, .int 0, .int 0])), (q2, .inl (zI z, 160, .inl (fun _ => 0)))] H := hC
  have hNB := ct_end hC [(14, o), (30, h0)] [(14, o)] rfl rfl rfl (by simp) (by simp) (zu_rl [14, 30] rfl (by decide)) (by simp) (fun L9 G9 hF hg i q e r h1 h2 => by
    match i, h1, h2 with
    | 0, h1, h2 => cases h1; cases h2; exact (⟨q2, q3, 0, 0, 0, 0, 0, 0, 0, 0, rfl, hg 1 _ _ _ rfl rfl, hF (q3, (10, 2)) (by simp), ⟨(by show (0 : Int32).toInt = (0 : Int); first | exact z32 | omega), (show (0 : Int) ≤ (0 : Int32).toInt by first | omega | (rw [z32]; decide)), (show (0 : Int32).toInt ≤ (160 : Int) by first | omega | (rw [z32]; decide))⟩, trivial, trivial, ⟨(by show (0 : Int32).toInt = (0 : Int); first | exact z32 | omega), (show (0 : Int) ≤ (0 : Int32).toInt by first | omega | (rw [z32]; decide)), (show (0 : Int32).toInt ≤ (160 : Int) by first | omega | (rw [z32]; decide))⟩, ⟨(by show (0 : Int32).toInt = (0 : Int); first | exact z32 | omega), (show (0 : Int) ≤ (0 : Int32).toInt by first | omega | (rw [z32]; decide)), (show (0 : Int32).toInt ≤ (4 : Int) by first | omega | (rw [z32]; decide))⟩, ⟨(by show (0 : Int32).toInt = (0 : Int); first | exact z32 | omega), (show (0 : Int) ≤ (0 : Int32).toInt by first | omega | (rw [z32]; decide)), (show (0 : Int32).toInt ≤ (160 : Int) by first | omega | (rw [z32]; decide))⟩, ⟨(by show (0 : Int32).toInt = (0 : Int); first | exact z32 | omega), (show (-2147483648 : Int) ≤ (0 : Int32).toInt by first | omega | (rw [z32]; decide)), (show (0 : Int32).toInt ≤ (2147483647 : Int) by first | omega | (rw [z32]; decide))⟩, ⟨(show (0 : Int) ≤ (0 : Int32).toInt by first | omega | (rw [z32]; decide)), (show (0 : Int32).toInt ≤ (1 : Int) by first | omega | (rw [z32]; decide))⟩⟩ : eTape (zx z L9 G9) (iniG.1 h0) (14, o) h0 _)
    | 1, h1, h2 => cases h1; cases h2; exact ia_30
    | n9 + 2, h1, h2 => cases h1)
  exact W.vret hx hb hr (fun t ht hW => ⟨⟨(), rfl, trivial, by show NB z A (14, o) h0 [(14, o), (10, 2), (11, 2)] t.heap; rw [ht]; exact hNB⟩, hS.F ht⟩) hS.2.2 dX4_init_24 hlk
theorem k_X6_init : cBI yX6_init cX6_init 2 := ⟨mw_1_20, mw_1_1, mw_1_21, rfl, by decide, by decide, by decide⟩
set_option maxHeartbeats 4000000 in
set_option maxRecDepth 100000 in
theorem c_X6_init (l : Launch) (z : Zt) (h0 sz o : Nat) : Met l yX6_init (uw yX6_init cX6_init 2 none) (rmC 4 124 143 1133) (IPre z h0 sz 6 [.null, .null, .null, .null, .null, .null, .null, .int 0, .int 0]) (IQ z (va_A [(h0, .inr (6, [.null, .null, .null, .null, .null, .null, .null, .int 0, .int 0]))] sz) (16, o) h0 [(16, o), (13, 3), (13, 2), (13, 1), (13, 0), (12, 0), (11, 11), (11, 10), (11, 9), (11, 8), (11, 7), (11, 6), (15, 0), (11, 5), (10, 4), (11, 4), (10, 3), (11, 3), (10, 1), (11, 1), (14, h0), (10, 2), (11, 2)]) 143 1133 (va_A [(h0, .inr (6, [.null, .null, .null, .null, .null, .null, .null, .int 0, .int 0]))] sz) := by
  refine Met.ofW (cc := cX6_init) (maxL := 2) (ret := none) (by decide) rfl ?_
  intro p e s m args below meth c s₁ B hml hv
  obtain ⟨rfl, hsz, hP, hK, hNW⟩ := hv
  have hx := B.exec
  have hb := B.bytes
  have hr := B.returns
  have hts : ∀ w ∈ lw_ok, w.before ([.ref h0] : List Value).toArray s = true := fun w hw => atoms_spec (ws := uw yX6_init cX6_init 2 none) B.pre w (List.mem_cons_of_mem _ hw)
  have hown : s.vm.findClass RX6 = some m.cls := findClass_of_methodNamed B.named
  have hlk := B.notSynchronized
  have hin : meth.name = "<init>" := (name_of_methodNamed B.named B.method).1
  subst hsz
  have hD := vd_one (q := h0) (sz := s.heap.size) (e := .inr (6, [.null, .null, .null, .null, .null, .null, .null, .int 0, .int 0]))
  generalize hAe : va_A [(h0, .inr (6, [.null, .null, .null, .null, .null, .null, .null, .int 0, .int 0]))] s.heap.size = A at hD ⊢
  have hA : ∀ q : Nat, s.heap.size ≤ q → A q := fun q h => by rw [← hAe]; exact Or.inr h
  have hC0 : CallFix p m c cX6_init 2 s ([.ref h0] : List Value).toArray lw_ok RX6 := ⟨hx, hb, hml, hown, hts⟩
  have hS : va_S A s.heap s.heap [] := va_S.rf
  have hC := CT.ini hP hD
  have hl := lv_entry ([.ref h0]) (n := 2) (Nat.le_of_ble_eq_true rfl)
  rw [lg_entry_eq]
  generalize (lg_sl ([.ref h0]) ++ List.replicate (2 - (lg_sl ([.ref h0])).length) Slot.unset).toArray = ls at hl ⊢
  have hl : lv_has ls 2 [(0, .ref h0)] := hl
  show W p l e (rmC 4 124 143 1133) s m ([.ref h0] : List Value).toArray below meth c s.heap [] 0 0 (MQ below (IQ z A (16, o) h0 [(16, o), (13, 3), (13, 2), (13, 1), (13, 0), (12, 0), (11, 11), (11, 10), (11, 9), (11, 8), (11, 7), (11, 6), (15, 0), (11, 5), (10, 4), (11, 4), (10, 3), (11, 3), (10, 1), (11, 1), (14, h0), (10, 2), (11, 2)]) ([.ref h0] : List Value).toArray s 143 1133 A) (F0 m 0 ls [])
  refine lv_aload_n hx hb dX6_init_0 rfl (lv_at hl 0 rfl) ?_
  refine W.objInit hx hb hown (hts _ mw_1_22) (hts _ mw_1_23) (hts _ mw_1_24) rfl (by rw [hml]; exact hl.1) rfl dX6_init_1 (Nat.le_of_ble_eq_true rfl) (Nat.le_of_ble_eq_true rfl) ?_
  refine W.eq (g2 := F0 m 4 ls []) rfl ?_
  refine lv_aload_n hx hb dX6_init_4 rfl (lv_at hl 0 rfl) ?_
  refine ct_new (own := RX6) (ci := 4) (fs := [.null, .null, .int 0, .int 0, .int 0, .int 0, .int 0, .int 0, .int 0, .int 0]) hx hb hts ic_Tape tyX4 tyX4_ok hown mw_1_25 mw_1_26 mw_1_2 hK hC hS hA rfl df_X4 (Nat.le_of_ble_eq_true rfl) (Nat.le_of_ble_eq_true rfl) dX6_init_5 (fun q1 H hC hS => ?_)
  have hC : CT z [] [] A [(h0, .inr (6, [.null, .null, .null, .null, .null, .null, .null, .int 0, .int 0])), (q1, .inr (4, [.null, .null, .int 0, .int 0, .int 0, .int 0, .int 0, .int 0, .int 0, .int 0]))] H := hC
  refine W.widen (k := 1) (n := 10) (by omega) (by omega) ?_
  refine lv_dup hx hb dX6_init_8 rfl ?_
  refine ct_call (own := RX6) (X := [(h0, .inr (6, [.null, .null, .null, .null, .null, .null, .null, .int 0, .int 0]))]) (rest := [.ref q1, .ref h0]) (some "HeelDance") hC0 hK hNW (fun sz => c_X4_init l z q1 sz h0) k_X4_init hNW.1.2.2.2.1 ⟨(Nat.le_of_ble_eq_true rfl), (Nat.le_of_ble_eq_true rfl)⟩ hC (by simp) hl.1 (Nat.le_of_ble_eq_true rfl) dX6_init_9 ⟨(Nat.le_of_ble_eq_true rfl), (Nat.le_of_ble_eq_true rfl)⟩ hS hA (fun H locs hC hS => ?_)
  have hC : CT z [(14, h0), (10, 2), (11, 2)] [(q1, (14, h0))] A [(h0, .inr (6, [.null, .null, .null, .null, .null, .null, .null, .int 0, .int 0]))] H := hC
  refine W.widen (k := 17) (n := 259) (by omega) (by omega) ?_
  refine ct_put (own := RX6) (ty := .object "HeelDance$Tape") (v := .ref q1) hx hb hts ic_HeelDance tyX6 tyX6_ok nmX6 hown hK hC hS rfl rfl 0 (by decide) mw_2_7 hin rfl (by decide +kernel) rfl rfl (Nat.le_of_ble_eq_true rfl) dX6_init_12 (fun H locs hC hS => ?_)
  have hC : CT z [(14, h0), (10, 2), (11, 2)] [(q1, (14, h0))] A [(h0, .inr (6, [.ref q1, .null, .null, .null, .null, .null, .null, .int 0, .int 0]))] H := hC
  refine lv_aload_n hx hb dX6_init_15 rfl (lv_at hl 0 rfl) ?_
  refine ct_new (own := RX6) (ci := 0) (fs := [.null, .null, .null, .null, .null, .null, .int 0, .int 0]) hx hb hts ic_Evening tyX0 tyX0_ok hown mw_1_165 mw_1_32 mw_1_3 hK hC hS hA rfl df_X0 (Nat.le_of_ble_eq_true rfl) (Nat.le_of_ble_eq_true rfl) dX6_init_16 (fun q2 H hC hS => ?_)
  have hC : CT z [(14, h0), (10, 2), (11, 2)] [(q1, (14, h0))] A [(h0, .inr (6, [.ref q1, .null, .null, .null, .null, .null, .null, .int 0, .int 0])), (q2, .inr (0, [.null, .null, .null, .null, .null, .null, .int 0, .int 0]))] H := hC
  refine W.widen (k := 18) (n := 267) (by omega) (by omega) ?_
  refine lv_dup hx hb dX6_init_19 rfl ?_
  refine ct_call (own := RX6) (X := [(h0, .inr (6, [.ref q1, .null, .null, .null, .null, .null, .null, .int 0, .int 0]))]) (rest := [.ref q2, .ref h0]) (some "HeelDance") hC0 hK hNW (fun sz => c_X0_init l z q2 sz 1) k_X0_init hNW.1.1 ⟨(Nat.le_of_ble_eq_true rfl), (Nat.le_of_ble_eq_true rfl)⟩ hC (by simp) hl.1 (Nat.le_of_ble_eq_true rfl) dX6_init_20 ⟨(Nat.le_of_ble_eq_true rfl), (Nat.le_of_ble_eq_true rfl)⟩ hS hA (fun H locs hC hS => ?_)
  have hC : CT z [(10, 1), (11, 1), (14, h0), (10, 2), (11, 2)] [(q2, (10, 1)), (q1, (14, h0))] A [(h0, .inr (6, [.ref q1, .null, .null, .null, .null, .null, .null, .int 0, .int 0]))] H := hC
  refine W.widen (k := 32) (n := 348) (by omega) (by omega) ?_
  refine ct_put (own := RX6) (ty := .object "HeelDance$Evening") (v := .ref q2) hx hb hts ic_HeelDance tyX6 tyX6_ok nmX6 hown hK hC hS rfl rfl 1 (by decide) mw_2_8 hin rfl (by decide +kernel) rfl rfl (Nat.le_of_ble_eq_true rfl) dX6_init_23 (fun H locs hC hS => ?_)
  have hC : CT z [(10, 1), (11, 1), (14, h0), (10, 2), (11, 2)] [(q2, (10, 1)), (q1, (14, h0))] A [(h0, .inr (6, [.ref q1, .ref q2, .null, .null, .null, .null, .null, .int 0, .int 0]))] H := hC
  refine lv_aload_n hx hb dX6_init_26 rfl (lv_at hl 0 rfl) ?_
  refine r_iconst hx hb dX6_init_27 (by decide) (by decide) (fun x3 ex3 => ?_)
  refine ct_newq (own := RX6) (C := "HeelDance$Evening") (cZ := zE z) hx hb 2 rfl hown (hts _ mw_1_165) hNW.2.1 hK hC hS hA 2 (by omega) (by decide) (Nat.le_of_ble_eq_true rfl) (Nat.le_of_ble_eq_true rfl) dX6_init_28 (fun q4 H hC hS => ?_)
  have hC : CT z [(10, 1), (11, 1), (14, h0), (10, 2), (11, 2)] [(q2, (10, 1)), (q1, (14, h0))] A [(h0, .inr (6, [.ref q1, .ref q2, .null, .null, .null, .null, .null, .int 0, .int 0])), (q4, .inl (zE z, 2, .inr (.inr (.inr (.inr (fun _ => none))))))] H := hC
  refine W.widen (k := 33) (n := 350) (by omega) (by omega) ?_
  refine ct_put (own := RX6) (ty := .array (.object "HeelDance$Evening")) (v := .ref q4) hx hb hts ic_HeelDance tyX6 tyX6_ok nmX6 hown hK hC hS rfl rfl 2 (by decide) mw_2_9 hin rfl (by decide +kernel) rfl rfl (Nat.le_of_ble_eq_true rfl) dX6_init_31 (fun H locs hC hS => ?_)
  have hC : CT z [(10, 1), (11, 1), (14, h0), (10, 2), (11, 2)] [(q2, (10, 1)), (q1, (14, h0))] A [(h0, .inr (6, [.ref q1, .ref q2, .ref q4, .null, .null, .null, .null, .int 0, .int 0])), (q4, .inl (zE z, 2, .inr (.inr (.inr (.inr (fun _ => none))))))] H := hC
  refine r_iconst hx hb dX6_init_34 (by decide) (by decide) (fun x5 ex5 => ?_)
  refine lv_istore_n (lv' := [(1, .int x5), (0, .ref h0)]) hx hb dX6_init_35 rfl hl (by decide) rfl (fun ls hl => ?_)
  refine lv_iload_n hx hb dX6_init_36 rfl (lv_at hl 0 rfl) ?_
  refine r_iconst hx hb dX6_init_37 (by decide) (by decide) (fun x6 ex6 => ?_)
  refine r_icmp_ge (tgt := 60) hx hb dX6_init_38 (by decide) (fun c38 => ?_) (fun c38 => ?_)
  · exfalso; omega
  refine lv_aload_n hx hb dX6_init_41 rfl (lv_at hl 1 rfl) ?_
  refine ct_get (own := RX6) hx hb hts ic_HeelDance hown hK hC rfl rfl 2 (by decide) mw_2_9 rfl dX6_init_42 ?_
  refine lv_iload_n hx hb dX6_init_45 rfl (lv_at hl 0 rfl) ?_
  refine ct_new (own := RX6) (ci := 0) (fs := [.null, .null, .null, .null, .null, .null, .int 0, .int 0]) hx hb hts ic_Evening tyX0 tyX0_ok hown mw_1_165 mw_1_32 mw_1_3 hK hC hS hA rfl df_X0 (Nat.le_of_ble_eq_true rfl) (Nat.le_of_ble_eq_true rfl) dX6_init_46 (fun q7 H hC hS => ?_)
  have hC : CT z [(10, 1), (11, 1), (14, h0), (10, 2), (11, 2)] [(q2, (10, 1)), (q1, (14, h0))] A [(h0, .inr (6, [.ref q1, .ref q2, .ref q4, .null, .null, .null, .null, .int 0, .int 0])), (q4, .inl (zE z, 2, .inr (.inr (.inr (.inr (fun _ => none)))))), (q7, .inr (0, [.null, .null, .null, .null, .null, .null, .int 0, .int 0]))] H := hC
  refine W.widen (k := 34) (n := 358) (by omega) (by omega) ?_
  refine lv_dup hx hb dX6_init_49 rfl ?_
  refine ct_call (own := RX6) (X := [(h0, .inr (6, [.ref q1, .ref q2, .ref q4, .null, .null, .null, .null, .int 0, .int 0])), (q4, .inl (zE z, 2, .inr (.inr (.inr (.inr (fun _ => none))))))]) (rest := [.ref q7, .int x5, .ref q4]) (some "HeelDance") hC0 hK hNW (fun sz => c_X0_init l z q7 sz 3) k_X0_init hNW.1.1 ⟨(Nat.le_of_ble_eq_true rfl), (Nat.le_of_ble_eq_true rfl)⟩ hC (by simp) hl.1 (Nat.le_of_ble_eq_true rfl) dX6_init_50 ⟨(Nat.le_of_ble_eq_true rfl), (Nat.le_of_ble_eq_true rfl)⟩ hS hA (fun H locs hC hS => ?_)
  have hC : CT z [(10, 3), (11, 3), (10, 1), (11, 1), (14, h0), (10, 2), (11, 2)] [(q7, (10, 3)), (q2, (10, 1)), (q1, (14, h0))] A [(h0, .inr (6, [.ref q1, .ref q2, .ref q4, .null, .null, .null, .null, .int 0, .int 0])), (q4, .inl (zE z, 2, .inr (.inr (.inr (.inr (fun _ => none))))))] H := hC
  refine W.widen (k := 48) (n := 439) (by omega) (by omega) ?_
  refine ct_ast hx hb hK hC hS 1 2 0 rfl rfl rfl (List.mem_cons_self) rv_10 0 (by omega) (by decide) dX6_init_53 (fun H locs hC hS => ?_)
  have hC : CT z [(10, 3), (11, 3), (10, 1), (11, 1), (14, h0), (10, 2), (11, 2)] [(q7, (10, 3)), (q2, (10, 1)), (q1, (14, h0))] A [(h0, .inr (6, [.ref q1, .ref q2, .ref q4, .null, .null, .null, .null, .int 0, .int 0])), (q4, .inl (zE z, 2, .inr (.inr (.inr (.inr (va_up (fun _ => none) 0 (some q7)))))))] H := hC
  refine r_iinc (lv' := fun v__ => [(1, .int v__), (0, .ref h0)]) hx hb dX6_init_54 hl (k := 0) rfl (by decide) (fun _ => rfl) ⟨by decide, by decide⟩ (by omega) (by omega) (fun x8 ls ex8 hl => ?_)
  refine lv_goto (tgt := 36) hx hb dX6_init_57 (by decide) ?_
  refine lv_iload_n hx hb dX6_init_36 rfl (lv_at hl 0 rfl) ?_
  refine r_iconst hx hb dX6_init_37 (by decide) (by decide) (fun x9 ex9 => ?_)
  refine r_icmp_ge (tgt := 60) hx hb dX6_init_38 (by decide) (fun c38 => ?_) (fun c38 => ?_)
  · exfalso; omega
  refine lv_aload_n hx hb dX6_init_41 rfl (lv_at hl 1 rfl) ?_
  refine ct_get (own := RX6) hx hb hts ic_HeelDance hown hK hC rfl rfl 2 (by decide) mw_2_9 rfl dX6_init_42 ?_
  refine lv_iload_n hx hb dX6_init_45 rfl (lv_at hl 0 rfl) ?_
  refine ct_new (own := RX6) (ci := 0) (fs := [.null, .null, .null, .null, .null, .null, .int 0, .int 0]) hx hb hts ic_Evening tyX0 tyX0_ok hown mw_1_165 mw_1_32 mw_1_3 hK hC hS hA rfl df_X0 (Nat.le_of_ble_eq_true rfl) (Nat.le_of_ble_eq_true rfl) dX6_init_46 (fun q10 H hC hS => ?_)
  have hC : CT z [(10, 3), (11, 3), (10, 1), (11, 1), (14, h0), (10, 2), (11, 2)] [(q7, (10, 3)), (q2, (10, 1)), (q1, (14, h0))] A [(h0, .inr (6, [.ref q1, .ref q2, .ref q4, .null, .null, .null, .null, .int 0, .int 0])), (q4, .inl (zE z, 2, .inr (.inr (.inr (.inr (va_up (fun _ => none) 0 (some q7))))))), (q10, .inr (0, [.null, .null, .null, .null, .null, .null, .int 0, .int 0]))] H := hC
  refine W.widen (k := 49) (n := 447) (by omega) (by omega) ?_
  refine lv_dup hx hb dX6_init_49 rfl ?_
  refine ct_call (own := RX6) (X := [(h0, .inr (6, [.ref q1, .ref q2, .ref q4, .null, .null, .null, .null, .int 0, .int 0])), (q4, .inl (zE z, 2, .inr (.inr (.inr (.inr (va_up (fun _ => none) 0 (some q7)))))))]) (rest := [.ref q10, .int x8, .ref q4]) (some "HeelDance") hC0 hK hNW (fun sz => c_X0_init l z q10 sz 4) k_X0_init hNW.1.1 ⟨(Nat.le_of_ble_eq_true rfl), (Nat.le_of_ble_eq_true rfl)⟩ hC (by simp) hl.1 (Nat.le_of_ble_eq_true rfl) dX6_init_50 ⟨(Nat.le_of_ble_eq_true rfl), (Nat.le_of_ble_eq_true rfl)⟩ hS hA (fun H locs hC hS => ?_)
  have hC : CT z [(10, 4), (11, 4), (10, 3), (11, 3), (10, 1), (11, 1), (14, h0), (10, 2), (11, 2)] [(q10, (10, 4)), (q7, (10, 3)), (q2, (10, 1)), (q1, (14, h0))] A [(h0, .inr (6, [.ref q1, .ref q2, .ref q4, .null, .null, .null, .null, .int 0, .int 0])), (q4, .inl (zE z, 2, .inr (.inr (.inr (.inr (va_up (fun _ => none) 0 (some q7)))))))] H := hC
  refine W.widen (k := 63) (n := 528) (by omega) (by omega) ?_
  refine ct_ast hx hb hK hC hS 1 2 0 rfl rfl rfl (List.mem_cons_self) rv_10 1 (by omega) (by decide) dX6_init_53 (fun H locs hC hS => ?_)
  have hC : CT z [(10, 4), (11, 4), (10, 3), (11, 3), (10, 1), (11, 1), (14, h0), (10, 2), (11, 2)] [(q10, (10, 4)), (q7, (10, 3)), (q2, (10, 1)), (q1, (14, h0))] A [(h0, .inr (6, [.ref q1, .ref q2, .ref q4, .null, .null, .null, .null, .int 0, .int 0])), (q4, .inl (zE z, 2, .inr (.inr (.inr (.inr (va_up (va_up (fun _ => none) 0 (some q7)) 1 (some q10)))))))] H := hC
  refine r_iinc (lv' := fun v__ => [(1, .int v__), (0, .ref h0)]) hx hb dX6_init_54 hl (k := 0) rfl (by decide) (fun _ => rfl) ⟨by decide, by decide⟩ (by omega) (by omega) (fun x11 ls ex11 hl => ?_)
  refine lv_goto (tgt := 36) hx hb dX6_init_57 (by decide) ?_
  refine lv_iload_n hx hb dX6_init_36 rfl (lv_at hl 0 rfl) ?_
  refine r_iconst hx hb dX6_init_37 (by decide) (by decide) (fun x12 ex12 => ?_)
  refine r_icmp_ge (tgt := 60) hx hb dX6_init_38 (by decide) (fun c38 => ?_) (fun c38 => ?_)
  rotate_left
  · exfalso; omega
  refine lv_aload_n hx hb dX6_init_60 rfl (lv_at hl 1 rfl) ?_
  refine r_iconst hx hb dX6_init_61 (by decide) (by decide) (fun x13 ex13 => ?_)
  refine ct_newZ hx hb hts hK hC hS hA 2 (by omega) (by decide) (Nat.le_of_ble_eq_true rfl) (Nat.le_of_ble_eq_true rfl) dX6_init_62 (fun q14 H hC hS => ?_)
  have hC : CT z [(10, 4), (11, 4), (10, 3), (11, 3), (10, 1), (11, 1), (14, h0), (10, 2), (11, 2)] [(q10, (10, 4)), (q7, (10, 3)), (q2, (10, 1)), (q1, (14, h0))] A [(h0, .inr (6, [.ref q1, .ref q2, .ref q4, .null, .null, .null, .null, .int 0, .int 0])), (q4, .inl (zE z, 2, .inr (.inr (.inr (.inr (va_up (va_up (fun _ => none) 0 (some q7)) 1 (some q10))))))), (q14, .inl (zZ z, 2, .inl (fun _ => 0)))] H := hC
  refine W.widen (k := 64) (n := 530) (by omega) (by omega) ?_
  refine ct_put (own := RX6) (ty := .array .boolean) (v := .ref q14) hx hb hts ic_HeelDance tyX6 tyX6_ok nmX6 hown hK hC hS rfl rfl 3 (by decide) mw_2_10 hin rfl (by decide +kernel) rfl rfl (Nat.le_of_ble_eq_true rfl) dX6_init_64 (fun H locs hC hS => ?_)
  have hC : CT z [(10, 4), (11, 4), (10, 3), (11, 3), (10, 1), (11, 1), (14, h0), (10, 2), (11, 2)] [(q10, (10, 4)), (q7, (10, 3)), (q2, (10, 1)), (q1, (14, h0))] A [(h0, .inr (6, [.ref q1, .ref q2, .ref q4, .ref q14, .null, .null, .null, .int 0, .int 0])), (q4, .inl (zE z, 2, .inr (.inr (.inr (.inr (va_up (va_up (fun _ => none) 0 (some q7)) 1 (some q10))))))), (q14, .inl (zZ z, 2, .inl (fun _ => 0)))] H := hC
  refine lv_aload_n hx hb dX6_init_67 rfl (lv_at hl 1 rfl) ?_
  refine ct_new (own := RX6) (ci := 5) (fs := [.null, .null, .int 0]) hx hb hts ic_Walk tyX5 tyX5_ok hown mw_1_168 mw_1_169 mw_1_5 hK hC hS hA rfl df_X5 (Nat.le_of_ble_eq_true rfl) (Nat.le_of_ble_eq_true rfl) dX6_init_68 (fun q15 H hC hS => ?_)
  have hC : CT z [(10, 4), (11, 4), (10, 3), (11, 3), (10, 1), (11, 1), (14, h0), (10, 2), (11, 2)] [(q10, (10, 4)), (q7, (10, 3)), (q2, (10, 1)), (q1, (14, h0))] A [(h0, .inr (6, [.ref q1, .ref q2, .ref q4, .ref q14, .null, .null, .null, .int 0, .int 0])), (q4, .inl (zE z, 2, .inr (.inr (.inr (.inr (va_up (va_up (fun _ => none) 0 (some q7)) 1 (some q10))))))), (q14, .inl (zZ z, 2, .inl (fun _ => 0))), (q15, .inr (5, [.null, .null, .int 0]))] H := hC
  refine W.widen (k := 65) (n := 533) (by omega) (by omega) ?_
  refine lv_dup hx hb dX6_init_71 rfl ?_
  refine ct_call (own := RX6) (X := [(h0, .inr (6, [.ref q1, .ref q2, .ref q4, .ref q14, .null, .null, .null, .int 0, .int 0])), (q4, .inl (zE z, 2, .inr (.inr (.inr (.inr (va_up (va_up (fun _ => none) 0 (some q7)) 1 (some q10))))))), (q14, .inl (zZ z, 2, .inl (fun _ => 0)))]) (rest := [.ref q15, .ref h0]) (some "HeelDance") hC0 hK hNW (fun sz => c_X5_init l z q15 sz 0) k_X5_init hNW.1.2.1 ⟨(Nat.le_of_ble_eq_true rfl), (Nat.le_of_ble_eq_true rfl)⟩ hC (by simp) hl.1 (Nat.le_of_ble_eq_true rfl) dX6_init_72 ⟨(Nat.le_of_ble_eq_true rfl), (Nat.le_of_ble_eq_true rfl)⟩ hS hA (fun H locs hC hS => ?_)
  have hC : CT z [(15, 0), (11, 5), (10, 4), (11, 4), (10, 3), (11, 3), (10, 1), (11, 1), (14, h0), (10, 2), (11, 2)] [(q15, (15, 0)), (q10, (10, 4)), (q7, (10, 3)), (q2, (10, 1)), (q1, (14, h0))] A [(h0, .inr (6, [.ref q1, .ref q2, .ref q4, .ref q14, .null, .null, .null, .int 0, .int 0])), (q4, .inl (zE z, 2, .inr (.inr (.inr (.inr (va_up (va_up (fun _ => none) 0 (some q7)) 1 (some q10))))))), (q14, .inl (zZ z, 2, .inl (fun _ => 0)))] H := hC
  refine W.widen (k := 75) (n := 628) (by omega) (by omega) ?_
  refine ct_put (own := RX6) (ty := .object "HeelDance$Walk") (v := .ref q15) hx hb hts ic_HeelDance tyX6 tyX6_ok nmX6 hown hK hC hS rfl rfl 4 (by decide) mw_2_11 hin rfl (by decide +kernel) rfl rfl (Nat.le_of_ble_eq_true rfl) dX6_init_75 (fun H locs hC hS => ?_)
  have hC : CT z [(15, 0), (11, 5), (10, 4), (11, 4), (10, 3), (11, 3), (10, 1), (11, 1), (14, h0), (10, 2), (11, 2)] [(q15, (15, 0)), (q10, (10, 4)), (q7, (10, 3)), (q2, (10, 1)), (q1, (14, h0))] A [(h0, .inr (6, [.ref q1, .ref q2, .ref q4, .ref q14, .ref q15, .null, .null, .int 0, .int 0])), (q4, .inl (zE z, 2, .inr (.inr (.inr (.inr (va_up (va_up (fun _ => none) 0 (some q7)) 1 (some q10))))))), (q14, .inl (zZ z, 2, .inl (fun _ => 0)))] H := hC
  refine lv_aload_n hx hb dX6_init_78 rfl (lv_at hl 1 rfl) ?_
  refine ct_new (own := RX6) (ci := 2) (fs := [.null, .null, .null, .null, .int 0, .int 0, .int 0, .int 0]) hx hb hts ic_Search tyX2 tyX2_ok hown mw_1_189 mw_1_190 mw_1_6 hK hC hS hA rfl df_X2 (Nat.le_of_ble_eq_true rfl) (Nat.le_of_ble_eq_true rfl) dX6_init_79 (fun q16 H hC hS => ?_)
  have hC : CT z [(15, 0), (11, 5), (10, 4), (11, 4), (10, 3), (11, 3), (10, 1), (11, 1), (14, h0), (10, 2), (11, 2)] [(q15, (15, 0)), (q10, (10, 4)), (q7, (10, 3)), (q2, (10, 1)), (q1, (14, h0))] A [(h0, .inr (6, [.ref q1, .ref q2, .ref q4, .ref q14, .ref q15, .null, .null, .int 0, .int 0])), (q4, .inl (zE z, 2, .inr (.inr (.inr (.inr (va_up (va_up (fun _ => none) 0 (some q7)) 1 (some q10))))))), (q14, .inl (zZ z, 2, .inl (fun _ => 0))), (q16, .inr (2, [.null, .null, .null, .null, .int 0, .int 0, .int 0, .int 0]))] H := hC
  refine W.widen (k := 76) (n := 636) (by omega) (by omega) ?_
  refine lv_dup hx hb dX6_init_82 rfl ?_
  refine ct_call (own := RX6) (X := [(h0, .inr (6, [.ref q1, .ref q2, .ref q4, .ref q14, .ref q15, .null, .null, .int 0, .int 0])), (q4, .inl (zE z, 2, .inr (.inr (.inr (.inr (va_up (va_up (fun _ => none) 0 (some q7)) 1 (some q10))))))), (q14, .inl (zZ z, 2, .inl (fun _ => 0)))]) (rest := [.ref q16, .ref h0]) none hC0 hK hNW (fun sz => c_X2_init l z q16 sz 0) k_X2_init mw_1_191 ⟨(Nat.le_of_ble_eq_true rfl), (Nat.le_of_ble_eq_true rfl)⟩ hC (by simp) hl.1 (Nat.le_of_ble_eq_true rfl) dX6_init_83 ⟨(Nat.le_of_ble_eq_true rfl), (Nat.le_of_ble_eq_true rfl)⟩ hS hA (fun H locs hC hS => ?_)
  have hC : CT z [(12, 0), (11, 11), (11, 10), (11, 9), (11, 8), (11, 7), (11, 6), (15, 0), (11, 5), (10, 4), (11, 4), (10, 3), (11, 3), (10, 1), (11, 1), (14, h0), (10, 2), (11, 2)] [(q16, (12, 0)), (q15, (15, 0)), (q10, (10, 4)), (q7, (10, 3)), (q2, (10, 1)), (q1, (14, h0))] A [(h0, .inr (6, [.ref q1, .ref q2, .ref q4, .ref q14, .ref q15, .null, .null, .int 0, .int 0])), (q4, .inl (zE z, 2, .inr (.inr (.inr (.inr (va_up (va_up (fun _ => none) 0 (some q7)) 1 (some q10))))))), (q14, .inl (zZ z, 2, .inl (fun _ => 0)))] H := hC
  refine W.widen (k := 134) (n := 957) (by omega) (by omega) ?_
  refine ct_put (own := RX6) (ty := .object "HeelDance$Search") (v := .ref q16) hx hb hts ic_HeelDance tyX6 tyX6_ok nmX6 hown hK hC hS rfl rfl 5 (by decide) mw_2_12 hin rfl (by decide +kernel) rfl rfl (Nat.le_of_ble_eq_true rfl) dX6_init_86 (fun H locs hC hS => ?_)
  have hC : CT z [(12, 0), (11, 11), (11, 10), (11, 9), (11, 8), (11, 7), (11, 6), (15, 0), (11, 5), (10, 4), (11, 4), (10, 3), (11, 3), (10, 1), (11, 1), (14, h0), (10, 2), (11, 2)] [(q16, (12, 0)), (q15, (15, 0)), (q10, (10, 4)), (q7, (10, 3)), (q2, (10, 1)), (q1, (14, h0))] A [(h0, .inr (6, [.ref q1, .ref q2, .ref q4, .ref q14, .ref q15, .ref q16, .null, .int 0, .int 0])), (q4, .inl (zE z, 2, .inr (.inr (.inr (.inr (va_up (va_up (fun _ => none) 0 (some q7)) 1 (some q10))))))), (q14, .inl (zZ z, 2, .inl (fun _ => 0)))] H := hC
  refine lv_aload_n hx hb dX6_init_89 rfl (lv_at hl 1 rfl) ?_
  refine r_iconst hx hb dX6_init_90 (by decide) (by decide) (fun x17 ex17 => ?_)
  refine ct_newq (own := RX6) (C := "HeelDance$Sheet") (cZ := zS z) hx hb 4 rfl hown (hts _ mw_1_227) hNW.2.2.2 hK hC hS hA 4 (by omega) (by decide) (Nat.le_of_ble_eq_true rfl) (Nat.le_of_ble_eq_true rfl) dX6_init_91 (fun q18 H hC hS => ?_)
  have hC : CT z [(12, 0), (11, 11), (11, 10), (11, 9), (11, 8), (11, 7), (11, 6), (15, 0), (11, 5), (10, 4), (11, 4), (10, 3), (11, 3), (10, 1), (11, 1), (14, h0), (10, 2), (11, 2)] [(q16, (12, 0)), (q15, (15, 0)), (q10, (10, 4)), (q7, (10, 3)), (q2, (10, 1)), (q1, (14, h0))] A [(h0, .inr (6, [.ref q1, .ref q2, .ref q4, .ref q14, .ref q15, .ref q16, .null, .int 0, .int 0])), (q4, .inl (zE z, 2, .inr (.inr (.inr (.inr (va_up (va_up (fun _ => none) 0 (some q7)) 1 (some q10))))))), (q14, .inl (zZ z, 2, .inl (fun _ => 0))), (q18, .inl (zS z, 4, .inr (.inr (.inr (.inr (fun _ => none))))))] H := hC
  refine W.widen (k := 135) (n := 961) (by omega) (by omega) ?_
  refine ct_put (own := RX6) (ty := .array (.object "HeelDance$Sheet")) (v := .ref q18) hx hb hts ic_HeelDance tyX6 tyX6_ok nmX6 hown hK hC hS rfl rfl 6 (by decide) mw_2_13 hin rfl (by decide +kernel) rfl rfl (Nat.le_of_ble_eq_true rfl) dX6_init_94 (fun H locs hC hS => ?_)
  have hC : CT z [(12, 0), (11, 11), (11, 10), (11, 9), (11, 8), (11, 7), (11, 6), (15, 0), (11, 5), (10, 4), (11, 4), (10, 3), (11, 3), (10, 1), (11, 1), (14, h0), (10, 2), (11, 2)] [(q16, (12, 0)), (q15, (15, 0)), (q10, (10, 4)), (q7, (10, 3)), (q2, (10, 1)), (q1, (14, h0))] A [(h0, .inr (6, [.ref q1, .ref q2, .ref q4, .ref q14, .ref q15, .ref q16, .ref q18, .int 0, .int 0])), (q4, .inl (zE z, 2, .inr (.inr (.inr (.inr (va_up (va_up (fun _ => none) 0 (some q7)) 1 (some q10))))))), (q14, .inl (zZ z, 2, .inl (fun _ => 0))), (q18, .inl (zS z, 4, .inr (.inr (.inr (.inr (fun _ => none))))))] H := hC
  refine r_iconst hx hb dX6_init_97 (by decide) (by decide) (fun x19 ex19 => ?_)
  refine lv_istore_n (lv' := [(1, .int x19), (0, .ref h0)]) hx hb dX6_init_98 rfl hl (by decide) rfl (fun ls hl => ?_)
  refine lv_iload_n hx hb dX6_init_99 rfl (lv_at hl 0 rfl) ?_
  refine r_iconst hx hb dX6_init_100 (by decide) (by decide) (fun x20 ex20 => ?_)
  refine r_icmp_ge (tgt := 123) hx hb dX6_init_101 (by decide) (fun c101 => ?_) (fun c101 => ?_)
  · exfalso; omega
  refine lv_aload_n hx hb dX6_init_104 rfl (lv_at hl 1 rfl) ?_
  refine ct_get (own := RX6) hx hb hts ic_HeelDance hown hK hC rfl rfl 6 (by decide) mw_2_13 rfl dX6_init_105 ?_
  refine lv_iload_n hx hb dX6_init_108 rfl (lv_at hl 0 rfl) ?_
  refine ct_new (own := RX6) (ci := 3) (fs := [.null, .int 0, .int 0]) hx hb hts ic_Sheet tyX3 tyX3_ok hown mw_1_227 mw_1_229 mw_1_7 hK hC hS hA rfl df_X3 (Nat.le_of_ble_eq_true rfl) (Nat.le_of_ble_eq_true rfl) dX6_init_109 (fun q21 H hC hS => ?_)
  have hC : CT z [(12, 0), (11, 11), (11, 10), (11, 9), (11, 8), (11, 7), (11, 6), (15, 0), (11, 5), (10, 4), (11, 4), (10, 3), (11, 3), (10, 1), (11, 1), (14, h0), (10, 2), (11, 2)] [(q16, (12, 0)), (q15, (15, 0)), (q10, (10, 4)), (q7, (10, 3)), (q2, (10, 1)), (q1, (14, h0))] A [(h0, .inr (6, [.ref q1, .ref q2, .ref q4, .ref q14, .ref q15, .ref q16, .ref q18, .int 0, .int 0])), (q4, .inl (zE z, 2, .inr (.inr (.inr (.inr (va_up (va_up (fun _ => none) 0 (some q7)) 1 (some q10))))))), (q14, .inl (zZ z, 2, .inl (fun _ => 0))), (q18, .inl (zS z, 4, .inr (.inr (.inr (.inr (fun _ => none)))))), (q21, .inr (3, [.null, .int 0, .int 0]))] H := hC
  refine W.widen (k := 136) (n := 964) (by omega) (by omega) ?_
  refine lv_dup hx hb dX6_init_112 rfl ?_
  refine ct_call (own := RX6) (X := [(h0, .inr (6, [.ref q1, .ref q2, .ref q4, .ref q14, .ref q15, .ref q16, .ref q18, .int 0, .int 0])), (q4, .inl (zE z, 2, .inr (.inr (.inr (.inr (va_up (va_up (fun _ => none) 0 (some q7)) 1 (some q10))))))), (q14, .inl (zZ z, 2, .inl (fun _ => 0))), (q18, .inl (zS z, 4, .inr (.inr (.inr (.inr (fun _ => none))))))]) (rest := [.ref q21, .int x19, .ref q18]) (some "HeelDance") hC0 hK hNW (fun sz => c_X3_init l z q21 sz 0) k_X3_init hNW.1.2.2.1 ⟨(Nat.le_of_ble_eq_true rfl), (Nat.le_of_ble_eq_true rfl)⟩ hC (by simp) hl.1 (Nat.le_of_ble_eq_true rfl) dX6_init_113 ⟨(Nat.le_of_ble_eq_true rfl), (Nat.le_of_ble_eq_true rfl)⟩ hS hA (fun H locs hC hS => ?_)
  have hC : CT z [(13, 0), (12, 0), (11, 11), (11, 10), (11, 9), (11, 8), (11, 7), (11, 6), (15, 0), (11, 5), (10, 4), (11, 4), (10, 3), (11, 3), (10, 1), (11, 1), (14, h0), (10, 2), (11, 2)] [(q21, (13, 0)), (q16, (12, 0)), (q15, (15, 0)), (q10, (10, 4)), (q7, (10, 3)), (q2, (10, 1)), (q1, (14, h0))] A [(h0, .inr (6, [.ref q1, .ref q2, .ref q4, .ref q14, .ref q15, .ref q16, .ref q18, .int 0, .int 0])), (q4, .inl (zE z, 2, .inr (.inr (.inr (.inr (va_up (va_up (fun _ => none) 0 (some q7)) 1 (some q10))))))), (q14, .inl (zZ z, 2, .inl (fun _ => 0))), (q18, .inl (zS z, 4, .inr (.inr (.inr (.inr (fun _ => none))))))] H := hC
  refine W.widen (k := 137) (n := 1004) (by omega) (by omega) ?_
  refine ct_ast hx hb hK hC hS 3 4 3 rfl rfl rfl (List.mem_cons_self) rv_13 0 (by omega) (by decide) dX6_init_116 (fun H locs hC hS => ?_)
  have hC : CT z [(13, 0), (12, 0), (11, 11), (11, 10), (11, 9), (11, 8), (11, 7), (11, 6), (15, 0), (11, 5), (10, 4), (11, 4), (10, 3), (11, 3), (10, 1), (11, 1), (14, h0), (10, 2), (11, 2)] [(q21, (13, 0)), (q16, (12, 0)), (q15, (15, 0)), (q10, (10, 4)), (q7, (10, 3)), (q2, (10, 1)), (q1, (14, h0))] A [(h0, .inr (6, [.ref q1, .ref q2, .ref q4, .ref q14, .ref q15, .ref q16, .ref q18, .int 0, .int 0])), (q4, .inl (zE z, 2, .inr (.inr (.inr (.inr (va_up (va_up (fun _ => none) 0 (some q7)) 1 (some q10))))))), (q14, .inl (zZ z, 2, .inl (fun _ => 0))), (q18, .inl (zS z, 4, .inr (.inr (.inr (.inr (va_up (fun _ => none) 0 (some q21)))))))] H := hC
  refine r_iinc (lv' := fun v__ => [(1, .int v__), (0, .ref h0)]) hx hb dX6_init_117 hl (k := 0) rfl (by decide) (fun _ => rfl) ⟨by decide, by decide⟩ (by omega) (by omega) (fun x22 ls ex22 hl => ?_)
  refine lv_goto (tgt := 99) hx hb dX6_init_120 (by decide) ?_
  refine lv_iload_n hx hb dX6_init_99 rfl (lv_at hl 0 rfl) ?_
  refine r_iconst hx hb dX6_init_100 (by decide) (by decide) (fun x23 ex23 => ?_)
  refine r_icmp_ge (tgt := 123) hx hb dX6_init_101 (by decide) (fun c101 => ?_) (fun c101 => ?_)
  · exfalso; omega
  refine lv_aload_n hx hb dX6_init_104 rfl (lv_at hl 1 rfl) ?_
  refine ct_get (own := RX6) hx hb hts ic_HeelDance hown hK hC rfl rfl 6 (by decide) mw_2_13 rfl dX6_init_105 ?_
  refine lv_iload_n hx hb dX6_init_108 rfl (lv_at hl 0 rfl) ?_
  refine ct_new (own := RX6) (ci := 3) (fs := [.null, .int 0, .int 0]) hx hb hts ic_Sheet tyX3 tyX3_ok hown mw_1_227 mw_1_229 mw_1_7 hK hC hS hA rfl df_X3 (Nat.le_of_ble_eq_true rfl) (Nat.le_of_ble_eq_true rfl) dX6_init_109 (fun q24 H hC hS => ?_)
  have hC : CT z [(13, 0), (12, 0), (11, 11), (11, 10), (11, 9), (11, 8), (11, 7), (11, 6), (15, 0), (11, 5), (10, 4), (11, 4), (10, 3), (11, 3), (10, 1), (11, 1), (14, h0), (10, 2), (11, 2)] [(q21, (13, 0)), (q16, (12, 0)), (q15, (15, 0)), (q10, (10, 4)), (q7, (10, 3)), (q2, (10, 1)), (q1, (14, h0))] A [(h0, .inr (6, [.ref q1, .ref q2, .ref q4, .ref q14, .ref q15, .ref q16, .ref q18, .int 0, .int 0])), (q4, .inl (zE z, 2, .inr (.inr (.inr (.inr (va_up (va_up (fun _ => none) 0 (some q7)) 1 (some q10))))))), (q14, .inl (zZ z, 2, .inl (fun _ => 0))), (q18, .inl (zS z, 4, .inr (.inr (.inr (.inr (va_up (fun _ => none) 0 (some q21))))))), (q24, .inr (3, [.null, .int 0, .int 0]))] H := hC
  refine W.widen (k := 138) (n := 1007) (by omega) (by omega) ?_
  refine lv_dup hx hb dX6_init_112 rfl ?_
  refine ct_call (own := RX6) (X := [(h0, .inr (6, [.ref q1, .ref q2, .ref q4, .ref q14, .ref q15, .ref q16, .ref q18, .int 0, .int 0])), (q4, .inl (zE z, 2, .inr (.inr (.inr (.inr (va_up (va_up (fun _ => none) 0 (some q7)) 1 (some q10))))))), (q14, .inl (zZ z, 2, .inl (fun _ => 0))), (q18, .inl (zS z, 4, .inr (.inr (.inr (.inr (va_up (fun _ => none) 0 (some q21)))))))]) (rest := [.ref q24, .int x22, .ref q18]) (some "HeelDance") hC0 hK hNW (fun sz => c_X3_init l z q24 sz 1) k_X3_init hNW.1.2.2.1 ⟨(Nat.le_of_ble_eq_true rfl), (Nat.le_of_ble_eq_true rfl)⟩ hC (by simp) hl.1 (Nat.le_of_ble_eq_true rfl) dX6_init_113 ⟨(Nat.le_of_ble_eq_true rfl), (Nat.le_of_ble_eq_true rfl)⟩ hS hA (fun H locs hC hS => ?_)
  have hC : CT z [(13, 1), (13, 0), (12, 0), (11, 11), (11, 10), (11, 9), (11, 8), (11, 7), (11, 6), (15, 0), (11, 5), (10, 4), (11, 4), (10, 3), (11, 3), (10, 1), (11, 1), (14, h0), (10, 2), (11, 2)] [(q24, (13, 1)), (q21, (13, 0)), (q16, (12, 0)), (q15, (15, 0)), (q10, (10, 4)), (q7, (10, 3)), (q2, (10, 1)), (q1, (14, h0))] A [(h0, .inr (6, [.ref q1, .ref q2, .ref q4, .ref q14, .ref q15, .ref q16, .ref q18, .int 0, .int 0])), (q4, .inl (zE z, 2, .inr (.inr (.inr (.inr (va_up (va_up (fun _ => none) 0 (some q7)) 1 (some q10))))))), (q14, .inl (zZ z, 2, .inl (fun _ => 0))), (q18, .inl (zS z, 4, .inr (.inr (.inr (.inr (va_up (fun _ => none) 0 (some q21)))))))] H := hC
  refine W.widen (k := 139) (n := 1047) (by omega) (by omega) ?_
  refine ct_ast hx hb hK hC hS 3 4 3 rfl rfl rfl (List.mem_cons_self) rv_13 1 (by omega) (by decide) dX6_init_116 (fun H locs hC hS => ?_)
  have hC : CT z [(13, 1), (13, 0), (12, 0), (11, 11), (11, 10), (11, 9), (11, 8), (11, 7), (11, 6), (15, 0), (11, 5), (10, 4), (11, 4), (10, 3), (11, 3), (10, 1), (11, 1), (14, h0), (10, 2), (11, 2)] [(q24, (13, 1)), (q21, (13, 0)), (q16, (12, 0)), (q15, (15, 0)), (q10, (10, 4)), (q7, (10, 3)), (q2, (10, 1)), (q1, (14, h0))] A [(h0, .inr (6, [.ref q1, .ref q2, .ref q4, .ref q14, .ref q15, .ref q16, .ref q18, .int 0, .int 0])), (q4, .inl (zE z, 2, .inr (.inr (.inr (.inr (va_up (va_up (fun _ => none) 0 (some q7)) 1 (some q10))))))), (q14, .inl (zZ z, 2, .inl (fun _ => 0))), (q18, .inl (zS z, 4, .inr (.inr (.inr (.inr (va_up (va_up (fun _ => none) 0 (some q21)) 1 (some q24)))))))] H := hC
  refine r_iinc (lv' := fun v__ => [(1, .int v__), (0, .ref h0)]) hx hb dX6_init_117 hl (k := 0) rfl (by decide) (fun _ => rfl) ⟨by decide, by decide⟩ (by omega) (by omega) (fun x25 ls ex25 hl => ?_)
  refine lv_goto (tgt := 99) hx hb dX6_init_120 (by decide) ?_
  refine lv_iload_n hx hb dX6_init_99 rfl (lv_at hl 0 rfl) ?_
  refine r_iconst hx hb dX6_init_100 (by decide) (by decide) (fun x26 ex26 => ?_)
  refine r_icmp_ge (tgt := 123) hx hb dX6_init_101 (by decide) (fun c101 => ?_) (fun c101 => ?_)
  · exfalso; omega
  refine lv_aload_n hx hb dX6_init_104 rfl (lv_at hl 1 rfl) ?_
  refine ct_get (own := RX6) hx hb hts ic_HeelDance hown hK hC rfl rfl 6 (by decide) mw_2_13 rfl dX6_init_105 ?_
  refine lv_iload_n hx hb dX6_init_108 rfl (lv_at hl 0 rfl) ?_
  refine ct_new (own := RX6) (ci := 3) (fs := [.null, .int 0, .int 0]) hx hb hts ic_Sheet tyX3 tyX3_ok hown mw_1_227 mw_1_229 mw_1_7 hK hC hS hA rfl df_X3 (Nat.le_of_ble_eq_true rfl) (Nat.le_of_ble_eq_true rfl) dX6_init_109 (fun q27 H hC hS => ?_)
  have hC : CT z [(13, 1), (13, 0), (12, 0), (11, 11), (11, 10), (11, 9), (11, 8), (11, 7), (11, 6), (15, 0), (11, 5), (10, 4), (11, 4), (10, 3), (11, 3), (10, 1), (11, 1), (14, h0), (10, 2), (11, 2)] [(q24, (13, 1)), (q21, (13, 0)), (q16, (12, 0)), (q15, (15, 0)), (q10, (10, 4)), (q7, (10, 3)), (q2, (10, 1)), (q1, (14, h0))] A [(h0, .inr (6, [.ref q1, .ref q2, .ref q4, .ref q14, .ref q15, .ref q16, .ref q18, .int 0, .int 0])), (q4, .inl (zE z, 2, .inr (.inr (.inr (.inr (va_up (va_up (fun _ => none) 0 (some q7)) 1 (some q10))))))), (q14, .inl (zZ z, 2, .inl (fun _ => 0))), (q18, .inl (zS z, 4, .inr (.inr (.inr (.inr (va_up (va_up (fun _ => none) 0 (some q21)) 1 (some q24))))))), (q27, .inr (3, [.null, .int 0, .int 0]))] H := hC
  refine W.widen (k := 140) (n := 1050) (by omega) (by omega) ?_
  refine lv_dup hx hb dX6_init_112 rfl ?_
  refine ct_call (own := RX6) (X := [(h0, .inr (6, [.ref q1, .ref q2, .ref q4, .ref q14, .ref q15, .ref q16, .ref q18, .int 0, .int 0])), (q4, .inl (zE z, 2, .inr (.inr (.inr (.inr (va_up (va_up (fun _ => none) 0 (some q7)) 1 (some q10))))))), (q14, .inl (zZ z, 2, .inl (fun _ => 0))), (q18, .inl (zS z, 4, .inr (.inr (.inr (.inr (va_up (va_up (fun _ => none) 0 (some q21)) 1 (some q24)))))))]) (rest := [.ref q27, .int x25, .ref q18]) (some "HeelDance") hC0 hK hNW (fun sz => c_X3_init l z q27 sz 2) k_X3_init hNW.1.2.2.1 ⟨(Nat.le_of_ble_eq_true rfl), (Nat.le_of_ble_eq_true rfl)⟩ hC (by simp) hl.1 (Nat.le_of_ble_eq_true rfl) dX6_init_113 ⟨(Nat.le_of_ble_eq_true rfl), (Nat.le_of_ble_eq_true rfl)⟩ hS hA (fun H locs hC hS => ?_)
  have hC : CT z [(13, 2), (13, 1), (13, 0), (12, 0), (11, 11), (11, 10), (11, 9), (11, 8), (11, 7), (11, 6), (15, 0), (11, 5), (10, 4), (11, 4), (10, 3), (11, 3), (10, 1), (11, 1), (14, h0), (10, 2), (11, 2)] [(q27, (13, 2)), (q24, (13, 1)), (q21, (13, 0)), (q16, (12, 0)), (q15, (15, 0)), (q10, (10, 4)), (q7, (10, 3)), (q2, (10, 1)), (q1, (14, h0))] A [(h0, .inr (6, [.ref q1, .ref q2, .ref q4, .ref q14, .ref q15, .ref q16, .ref q18, .int 0, .int 0])), (q4, .inl (zE z, 2, .inr (.inr (.inr (.inr (va_up (va_up (fun _ => none) 0 (some q7)) 1 (some q10))))))), (q14, .inl (zZ z, 2, .inl (fun _ => 0))), (q18, .inl (zS z, 4, .inr (.inr (.inr (.inr (va_up (va_up (fun _ => none) 0 (some q21)) 1 (some q24)))))))] H := hC
  refine W.widen (k := 141) (n := 1090) (by omega) (by omega) ?_
  refine ct_ast hx hb hK hC hS 3 4 3 rfl rfl rfl (List.mem_cons_self) rv_13 2 (by omega) (by decide) dX6_init_116 (fun H locs hC hS => ?_)
  have hC : CT z [(13, 2), (13, 1), (13, 0), (12, 0), (11, 11), (11, 10), (11, 9), (11, 8), (11, 7), (11, 6), (15, 0), (11, 5), (10, 4), (11, 4), (10, 3), (11, 3), (10, 1), (11, 1), (14, h0), (10, 2), (11, 2)] [(q27, (13, 2)), (q24, (13, 1)), (q21, (13, 0)), (q16, (12, 0)), (q15, (15, 0)), (q10, (10, 4)), (q7, (10, 3)), (q2, (10, 1)), (q1, (14, h0))] A [(h0, .inr (6, [.ref q1, .ref q2, .ref q4, .ref q14, .ref q15, .ref q16, .ref q18, .int 0, .int 0])), (q4, .inl (zE z, 2, .inr (.inr (.inr (.inr (va_up (va_up (fun _ => none) 0 (some q7)) 1 (some q10))))))), (q14, .inl (zZ z, 2, .inl (fun _ => 0))), (q18, .inl (zS z, 4, .inr (.inr (.inr (.inr (va_up (va_up (va_up (fun _ => none) 0 (some q21)) 1 (some q24)) 2 (some q27)))))))] H := hC
  refine r_iinc (lv' := fun v__ => [(1, .int v__), (0, .ref h0)]) hx hb dX6_init_117 hl (k := 0) rfl (by decide) (fun _ => rfl) ⟨by decide, by decide⟩ (by omega) (by omega) (fun x28 ls ex28 hl => ?_)
  refine lv_goto (tgt := 99) hx hb dX6_init_120 (by decide) ?_
  refine lv_iload_n hx hb dX6_init_99 rfl (lv_at hl 0 rfl) ?_
  refine r_iconst hx hb dX6_init_100 (by decide) (by decide) (fun x29 ex29 => ?_)
  refine r_icmp_ge (tgt := 123) hx hb dX6_init_101 (by decide) (fun c101 => ?_) (fun c101 => ?_)
  · exfalso; omega
  refine lv_aload_n hx hb dX6_init_104 rfl (lv_at hl 1 rfl) ?_
  refine ct_get (own := RX6) hx hb hts ic_HeelDance hown hK hC rfl rfl 6 (by decide) mw_2_13 rfl dX6_init_105 ?_
  refine lv_iload_n hx hb dX6_init_108 rfl (lv_at hl 0 rfl) ?_
  refine ct_new (own := RX6) (ci := 3) (fs := [.null, .int 0, .int 0]) hx hb hts ic_Sheet tyX3 tyX3_ok hown mw_1_227 mw_1_229 mw_1_7 hK hC hS hA rfl df_X3 (Nat.le_of_ble_eq_true rfl) (Nat.le_of_ble_eq_true rfl) dX6_init_109 (fun q30 H hC hS => ?_)
  have hC : CT z [(13, 2), (13, 1), (13, 0), (12, 0), (11, 11), (11, 10), (11, 9), (11, 8), (11, 7), (11, 6), (15, 0), (11, 5), (10, 4), (11, 4), (10, 3), (11, 3), (10, 1), (11, 1), (14, h0), (10, 2), (11, 2)] [(q27, (13, 2)), (q24, (13, 1)), (q21, (13, 0)), (q16, (12, 0)), (q15, (15, 0)), (q10, (10, 4)), (q7, (10, 3)), (q2, (10, 1)), (q1, (14, h0))] A [(h0, .inr (6, [.ref q1, .ref q2, .ref q4, .ref q14, .ref q15, .ref q16, .ref q18, .int 0, .int 0])), (q4, .inl (zE z, 2, .inr (.inr (.inr (.inr (va_up (va_up (fun _ => none) 0 (some q7)) 1 (some q10))))))), (q14, .inl (zZ z, 2, .inl (fun _ => 0))), (q18, .inl (zS z, 4, .inr (.inr (.inr (.inr (va_up (va_up (va_up (fun _ => none) 0 (some q21)) 1 (some q24)) 2 (some q27))))))), (q30, .inr (3, [.null, .int 0, .int 0]))] H := hC
  refine W.widen (k := 142) (n := 1093) (by omega) (by omega) ?_
  refine lv_dup hx hb dX6_init_112 rfl ?_
  refine ct_call (own := RX6) (X := [(h0, .inr (6, [.ref q1, .ref q2, .ref q4, .ref q14, .ref q15, .ref q16, .ref q18, .int 0, .int 0])), (q4, .inl (zE z, 2, .inr (.inr (.inr (.inr (va_up (va_up (fun _ => none) 0 (some q7)) 1 (some q10))))))), (q14, .inl (zZ z, 2, .inl (fun _ => 0))), (q18, .inl (zS z, 4, .inr (.inr (.inr (.inr (va_up (va_up (va_up (fun _ => none) 0 (some q21)) 1 (some q24)) 2 (some q27)))))))]) (rest := [.ref q30, .int x28, .ref q18]) (some "HeelDance") hC0 hK hNW (fun sz => c_X3_init l z q30 sz 3) k_X3_init hNW.1.2.2.1 ⟨(Nat.le_of_ble_eq_true rfl), (Nat.le_of_ble_eq_true rfl)⟩ hC (by simp) hl.1 (Nat.le_of_ble_eq_true rfl) dX6_init_113 ⟨(Nat.le_of_ble_eq_true rfl), (Nat.le_of_ble_eq_true rfl)⟩ hS hA (fun H locs hC hS => ?_)
  have hC : CT z [(13, 3), (13, 2), (13, 1), (13, 0), (12, 0), (11, 11), (11, 10), (11, 9), (11, 8), (11, 7), (11, 6), (15, 0), (11, 5), (10, 4), (11, 4), (10, 3), (11, 3), (10, 1), (11, 1), (14, h0), (10, 2), (11, 2)] [(q30, (13, 3)), (q27, (13, 2)), (q24, (13, 1)), (q21, (13, 0)), (q16, (12, 0)), (q15, (15, 0)), (q10, (10, 4)), (q7, (10, 3)), (q2, (10, 1)), (q1, (14, h0))] A [(h0, .inr (6, [.ref q1, .ref q2, .ref q4, .ref q14, .ref q15, .ref q16, .ref q18, .int 0, .int 0])), (q4, .inl (zE z, 2, .inr (.inr (.inr (.inr (va_up (va_up (fun _ => none) 0 (some q7)) 1 (some q10))))))), (q14, .inl (zZ z, 2, .inl (fun _ => 0))), (q18, .inl (zS z, 4, .inr (.inr (.inr (.inr (va_up (va_up (va_up (fun _ => none) 0 (some q21)) 1 (some q24)) 2 (some q27)))))))] H := hC
  refine W.widen (k := 143) (n := 1133) (by omega) (by omega) ?_
  refine ct_ast hx hb hK hC hS 3 4 3 rfl rfl rfl (List.mem_cons_self) rv_13 3 (by omega) (by decide) dX6_init_116 (fun H locs hC hS => ?_)
  have hC : CT z [(13, 3), (13, 2), (13, 1), (13, 0), (12, 0), (11, 11), (11, 10), (11, 9), (11, 8), (11, 7), (11, 6), (15, 0), (11, 5), (10, 4), (11, 4), (10, 3), (11, 3), (10, 1), (11, 1), (14, h0), (10, 2), (11, 2)] [(q30, (13, 3)), (q27, (13, 2)), (q24, (13, 1)), (q21, (13, 0)), (q16, (12, 0)), (q15, (15, 0)), (q10, (10, 4)), (q7, (10, 3)), (q2, (10, 1)), (q1, (14, h0))] A [(h0, .inr (6, [.ref q1, .ref q2, .ref q4, .ref q14, .ref q15, .ref q16, .ref q18, .int 0, .int 0])), (q4, .inl (zE z, 2, .inr (.inr (.inr (.inr (va_up (va_up (fun _ => none) 0 (some q7)) 1 (some q10))))))), (q14, .inl (zZ z, 2, .inl (fun _ => 0))), (q18, .inl (zS z, 4, .inr (.inr (.inr (.inr (va_up (va_up (va_up (va_up (fun _ => none) 0 (some q21)) 1 (some q24)) 2 (some q27)) 3 (some q30)))))))] H := hC
  refine r_iinc (lv' := fun v__ => [(1, .int v__), (0, .ref h0)]) hx hb dX6_init_117 hl (k := 0) rfl (by decide) (fun _ => rfl) ⟨by decide, by decide⟩ (by omega) (by omega) (fun x31 ls ex31 hl => ?_)
  refine lv_goto (tgt := 99) hx hb dX6_init_120 (by decide) ?_
  refine lv_iload_n hx hb dX6_init_99 rfl (lv_at hl 0 rfl) ?_
  refine r_iconst hx hb dX6_init_100 (by decide) (by decide) (fun x32 ex32 => ?_)
  refine r_icmp_ge (tgt := 123) hx hb dX6_init_101 (by decide) (fun c101 => ?_) (fun c101 => ?_)
  rotate_left
  · exfalso; omega
  refine lv_aload_n hx hb dX6_init_123 rfl (lv_at hl 1 rfl) ?_
  refine r_iconst hx hb dX6_init_124 (by decide) (by decide) (fun x33 ex33 => ?_)
  refine ct_put (own := RX6) (ty := .int) (v := .int x33) hx hb hts ic_HeelDance tyX6 tyX6_ok nmX6 hown hK hC hS rfl rfl 7 (by decide) mw_2_14 hin rfl (by decide +kernel) rfl rfl (Nat.le_of_ble_eq_true rfl) dX6_init_125 (fun H locs hC hS => ?_)
  have hC : CT z [(13, 3), (13, 2), (13, 1), (13, 0), (12, 0), (11, 11), (11, 10), (11, 9), (11, 8), (11, 7), (11, 6), (15, 0), (11, 5), (10, 4), (11, 4), (10, 3), (11, 3), (10, 1), (11, 1), (14, h0), (10, 2), (11, 2)] [(q30, (13, 3)), (q27, (13, 2)), (q24, (13, 1)), (q21, (13, 0)), (q16, (12, 0)), (q15, (15, 0)), (q10, (10, 4)), (q7, (10, 3)), (q2, (10, 1)), (q1, (14, h0))] A [(h0, .inr (6, [.ref q1, .ref q2, .ref q4, .ref q14, .ref q15, .ref q16, .ref q18, .int x33, .int 0])), (q4, .inl (zE z, 2, .inr (.inr (.inr (.inr (va_up (va_up (fun _ => none) 0 (some q7)) 1 (some q10))))))), (q14, .inl (zZ z, 2, .inl (fun _ => 0))), (q18, .inl (zS z, 4, .inr (.inr (.inr (.inr (va_up (va_up (va_up (va_up (fun _ => none) 0 (some q21)) 1 (some q24)) 2 (some q27)) 3 (some q30)))))))] H := hC
  refine lv_aload_n hx hb dX6_init_128 rfl (lv_at hl 1 rfl) ?_
  refine r_iconst hx hb dX6_init_129 (by decide) (by decide) (fun x34 ex34 => ?_)
  refine ct_put (own := RX6) (ty := .int) (v := .int x34) hx hb hts ic_HeelDance tyX6 tyX6_ok nmX6 hown hK hC hS rfl rfl 8 (by decide) mw_2_15 hin rfl (by decide +kernel) rfl rfl (Nat.le_of_ble_eq_true rfl) dX6_init_130 (fun H locs hC hS => ?_)
  have hC : CT z [(13, 3), (13, 2), (13, 1), (13, 0), (12, 0), (11, 11), (11, 10), (11, 9), (11, 8), (11, 7), (11, 6), (15, 0), (11, 5), (10, 4), (11, 4), (10, 3), (11, 3), (10, 1), (11, 1), (14, h0), (10, 2), (11, 2)] [(q30, (13, 3)), (q27, (13, 2)), (q24, (13, 1)), (q21, (13, 0)), (q16, (12, 0)), (q15, (15, 0)), (q10, (10, 4)), (q7, (10, 3)), (q2, (10, 1)), (q1, (14, h0))] A [(h0, .inr (6, [.ref q1, .ref q2, .ref q4, .ref q14, .ref q15, .ref q16, .ref q18, .int x33, .int x34])), (q4, .inl (zE z, 2, .inr (.inr (.inr (.inr (va_up (va_up (fun _ => none) 0 (some q7)) 1 (some q10))))))), (q14, .inl (zZ z, 2, .inl (fun _ => 0))), (q18, .inl (zS z, 4, .inr (.inr (.inr (.inr (va_up (va_up (va_up (va_up (fun _ => none) 0 (some q21)) 1 (some q24)) 2 (some q27)) 3 (some q30)))))))] H := hC
  have hNB := ct_end hC [(16, o), (36, h0), (33, h0), (37, h0)] [(16, o)] rfl rfl rfl (by simp) (by simp) (zu_rl [16, 36, 33, 37] rfl (by decide)) (by simp) (fun L9 G9 hF hg i q e r h1 h2 => by
    match i, h1, h2 with
    | 0, h1, h2 => cases h1; cases h2; exact (⟨q1, q2, q4, q14, q15, q16, q18, x33, x34, rfl, hF (q1, (14, h0)) (by simp), hF (q2, (10, 1)) (by simp), hg 1 _ _ _ rfl rfl, hg 2 _ _ _ rfl rfl, hF (q15, (15, 0)) (by simp), hF (q16, (12, 0)) (by simp), hg 3 _ _ _ rfl rfl, trivial, trivial⟩ : eHeelDance (zx z L9 G9) (iniG.1 h0) (16, o) h0 _)
    | 1, h1, h2 => cases h1; cases h2; exact ⟨_, rfl, fun i9 hi9 => by rcases (show i9 = 0 ∨ i9 = 1 by omega) with rfl | rfl; exact ⟨q7, rfl, hF (q7, (10, 3)) (by simp)⟩; exact ⟨q10, rfl, hF (q10, (10, 4)) (by simp)⟩⟩
    | 2, h1, h2 => cases h1; cases h2; exact ia_33
    | 3, h1, h2 => cases h1; cases h2; exact ⟨_, rfl, fun i9 hi9 => by rcases (show i9 = 0 ∨ i9 = 1 ∨ i9 = 2 ∨ i9 = 3 by omega) with rfl | rfl | rfl | rfl; exact ⟨q21, rfl, hF (q21, (13, 0)) (by simp)⟩; exact ⟨q24, rfl, hF (q24, (13, 1)) (by simp)⟩; exact ⟨q27, rfl, hF (q27, (13, 2)) (by simp)⟩; exact ⟨q30, rfl, hF (q30, (13, 3)) (by simp)⟩⟩
    | n9 + 4, h1, h2 => cases h1)
  exact W.vret hx hb hr (fun t ht hW => ⟨⟨(), rfl, trivial, by show NB z A (16, o) h0 [(16, o), (13, 3), (13, 2), (13, 1), (13, 0), (12, 0), (11, 11), (11, 10), (11, 9), (11, 8), (11, 7), (11, 6), (15, 0), (11, 5), (10, 4), (11, 4), (10, 3), (11, 3), (10, 1), (11, 1), (14, h0), (10, 2), (11, 2)] t.heap; rw [ht]; exact hNB⟩, hS.F ht⟩) hS.2.2 dX6_init_133 hlk
