theorem k_X7_init : cBI yX7_init cX7_init 2 := ⟨mw_4_59, mw_1_8, mw_4_60, rfl, by decide, by decide, by decide⟩
set_option maxHeartbeats 4000000 in
set_option maxRecDepth 100000 in
theorem c_X7_init (l : Launch) (z : Zt) (h0 sz : Nat) (φ2 : Lo) (hini : ∃ φ1, D_X7_firstDraft (iniS 13) = some φ1 ∧ D_X7_keepDraft φ1 = some φ2) : Met l yX7_init (uw yX7_init cX7_init 2 none) (rmC 2 85 11 694) (MPre z h0 sz [.null, .null, .null, .int 0, .null, .int 0, .int 0, .int 0, .int 0, .null, .int 0, .int 0, .int 0, .int 0, .int 0, .int 0, .int 0, .null, .null, .long 0, .long 0, .null, .null, .null, .int 0, .null]) (MQQ z (va_A [(h0, .inr (7, [.null, .null, .null, .int 0, .null, .int 0, .int 0, .int 0, .int 0, .null, .int 0, .int 0, .int 0, .int 0, .int 0, .int 0, .int 0, .null, .null, .long 0, .long 0, .null, .null, .null, .int 0, .null]))] sz) h0 φ2) 11 694 (va_A [(h0, .inr (7, [.null, .null, .null, .int 0, .null, .int 0, .int 0, .int 0, .int 0, .null, .int 0, .int 0, .int 0, .int 0, .int 0, .int 0, .int 0, .null, .null, .long 0, .long 0, .null, .null, .null, .int 0, .null]))] sz) := by
  refine Met.ofW (cc := cX7_init) (maxL := 2) (ret := none) (by decide) rfl ?_
  intro p e s m args below meth c s₁ B hml hv
  obtain ⟨rfl, hsz, hP, hK, hNW, hSK0⟩ := hv
  have hx := B.exec
  have hb := B.bytes
  have hr := B.returns
  have hts : ∀ w ∈ lw_ok, w.before ([.ref h0] : List Value).toArray s = true := fun w hw => atoms_spec (ws := uw yX7_init cX7_init 2 none) B.pre w (List.mem_cons_of_mem _ hw)
  have hown : s.vm.findClass RX7 = some m.cls := findClass_of_methodNamed B.named
  have hlk := B.notSynchronized
  have hin : meth.name = "<init>" := (name_of_methodNamed B.named B.method).1
  subst hsz
  have hD := vd_one (q := h0) (sz := s.heap.size) (e := .inr (7, [.null, .null, .null, .int 0, .null, .int 0, .int 0, .int 0, .int 0, .null, .int 0, .int 0, .int 0, .int 0, .int 0, .int 0, .int 0, .null, .null, .long 0, .long 0, .null, .null, .null, .int 0, .null]))
  generalize hAe : va_A [(h0, .inr (7, [.null, .null, .null, .int 0, .null, .int 0, .int 0, .int 0, .int 0, .null, .int 0, .int 0, .int 0, .int 0, .int 0, .int 0, .int 0, .null, .null, .long 0, .long 0, .null, .null, .null, .int 0, .null]))] s.heap.size = A at hD ⊢
  have hA : ∀ q : Nat, s.heap.size ≤ q → A q := fun q h => by rw [← hAe]; exact Or.inr h
  have hC0 : CallFix p m c cX7_init 2 s ([.ref h0] : List Value).toArray lw_ok RX7 := ⟨hx, hb, hml, hown, hts⟩
  have hS : va_S A s.heap s.heap [] := va_S.rf
  have hC := CT.ini hP hD
  have hl := lv_entry ([.ref h0]) (n := 2) (Nat.le_of_ble_eq_true rfl)
  rw [lg_entry_eq]
  generalize (lg_sl ([.ref h0]) ++ List.replicate (2 - (lg_sl ([.ref h0])).length) Slot.unset).toArray = ls at hl ⊢
  have hl : lv_has ls 2 [(0, .ref h0)] := hl
  show W p l e (rmC 2 85 11 694) s m ([.ref h0] : List Value).toArray below meth c s.heap [] 0 0 (MQ below (MQQ z A h0 φ2) ([.ref h0] : List Value).toArray s 11 694 A) (F0 m 0 ls [])
  refine lv_aload_n hx hb dX7_init_0 rfl (lv_at hl 0 rfl) ?_
  refine W.objInit hx hb hown (hts _ mw_4_61) (hts _ mw_1_23) (hts _ mw_1_24) rfl (by rw [hml]; exact hl.1) rfl dX7_init_1 (Nat.le_of_ble_eq_true rfl) (Nat.le_of_ble_eq_true rfl) ?_
  refine W.eq (g2 := F0 m 4 ls []) rfl ?_
  refine lv_aload_n hx hb dX7_init_4 rfl (lv_at hl 0 rfl) ?_
  refine r_sipush hx hb dX7_init_5 rfl (fun x1 ex1 => ?_)
  refine ct_newI hx hb hts hK hC hS hA 177 (by omega) (by decide) (Nat.le_of_ble_eq_true rfl) (Nat.le_of_ble_eq_true rfl) dX7_init_8 (fun q2 H hC hS => ?_)
  have hC : CT z [] [] A [(h0, .inr (7, [.null, .null, .null, .int 0, .null, .int 0, .int 0, .int 0, .int 0, .null, .int 0, .int 0, .int 0, .int 0, .int 0, .int 0, .int 0, .null, .null, .long 0, .long 0, .null, .null, .null, .int 0, .null])), (q2, .inl (zI z, 177, .inl (fun _ => 0)))] H := hC
  refine W.widen (k := 1) (n := 177) (by omega) (by omega) ?_
  refine ct_put (own := RX7) (ty := .array .int) (v := .ref q2) hx hb hts ic_Model tyX7 tyX7_ok nmX7 hown hK hC hS rfl rfl 0 (by decide) mw_4_70 hin rfl (by decide +kernel) rfl rfl (Nat.le_of_ble_eq_true rfl) dX7_init_10 (fun H locs hC hS => ?_)
  have hC : CT z [] [] A [(h0, .inr (7, [.ref q2, .null, .null, .int 0, .null, .int 0, .int 0, .int 0, .int 0, .null, .int 0, .int 0, .int 0, .int 0, .int 0, .int 0, .int 0, .null, .null, .long 0, .long 0, .null, .null, .null, .int 0, .null])), (q2, .inl (zI z, 177, .inl (fun _ => 0)))] H := hC
  refine lv_aload_n hx hb dX7_init_13 rfl (lv_at hl 0 rfl) ?_
  refine r_bipush hx hb dX7_init_14 rfl (fun x3 ex3 => ?_)
  refine ct_newI hx hb hts hK hC hS hA 59 (by omega) (by decide) (Nat.le_of_ble_eq_true rfl) (Nat.le_of_ble_eq_true rfl) dX7_init_16 (fun q4 H hC hS => ?_)
  have hC : CT z [] [] A [(h0, .inr (7, [.ref q2, .null, .null, .int 0, .null, .int 0, .int 0, .int 0, .int 0, .null, .int 0, .int 0, .int 0, .int 0, .int 0, .int 0, .int 0, .null, .null, .long 0, .long 0, .null, .null, .null, .int 0, .null])), (q2, .inl (zI z, 177, .inl (fun _ => 0))), (q4, .inl (zI z, 59, .inl (fun _ => 0)))] H := hC
  refine W.widen (k := 2) (n := 236) (by omega) (by omega) ?_
  refine ct_put (own := RX7) (ty := .array .int) (v := .ref q4) hx hb hts ic_Model tyX7 tyX7_ok nmX7 hown hK hC hS rfl rfl 1 (by decide) mw_4_71 hin rfl (by decide +kernel) rfl rfl (Nat.le_of_ble_eq_true rfl) dX7_init_18 (fun H locs hC hS => ?_)
  have hC : CT z [] [] A [(h0, .inr (7, [.ref q2, .ref q4, .null, .int 0, .null, .int 0, .int 0, .int 0, .int 0, .null, .int 0, .int 0, .int 0, .int 0, .int 0, .int 0, .int 0, .null, .null, .long 0, .long 0, .null, .null, .null, .int 0, .null])), (q2, .inl (zI z, 177, .inl (fun _ => 0))), (q4, .inl (zI z, 59, .inl (fun _ => 0)))] H := hC
  refine lv_aload_n hx hb dX7_init_21 rfl (lv_at hl 0 rfl) ?_
  refine r_iconst hx hb dX7_init_22 (by decide) (by decide) (fun x5 ex5 => ?_)
  refine ct_newZ hx hb hts hK hC hS hA 2 (by omega) (by decide) (Nat.le_of_ble_eq_true rfl) (Nat.le_of_ble_eq_true rfl) dX7_init_23 (fun q6 H hC hS => ?_)
  have hC : CT z [] [] A [(h0, .inr (7, [.ref q2, .ref q4, .null, .int 0, .null, .int 0, .int 0, .int 0, .int 0, .null, .int 0, .int 0, .int 0, .int 0, .int 0, .int 0, .int 0, .null, .null, .long 0, .long 0, .null, .null, .null, .int 0, .null])), (q2, .inl (zI z, 177, .inl (fun _ => 0))), (q4, .inl (zI z, 59, .inl (fun _ => 0))), (q6, .inl (zZ z, 2, .inl (fun _ => 0)))] H := hC
  refine W.widen (k := 3) (n := 238) (by omega) (by omega) ?_
  refine ct_put (own := RX7) (ty := .array .boolean) (v := .ref q6) hx hb hts ic_Model tyX7 tyX7_ok nmX7 hown hK hC hS rfl rfl 2 (by decide) mw_4_72 hin rfl (by decide +kernel) rfl rfl (Nat.le_of_ble_eq_true rfl) dX7_init_25 (fun H locs hC hS => ?_)
  have hC : CT z [] [] A [(h0, .inr (7, [.ref q2, .ref q4, .ref q6, .int 0, .null, .int 0, .int 0, .int 0, .int 0, .null, .int 0, .int 0, .int 0, .int 0, .int 0, .int 0, .int 0, .null, .null, .long 0, .long 0, .null, .null, .null, .int 0, .null])), (q2, .inl (zI z, 177, .inl (fun _ => 0))), (q4, .inl (zI z, 59, .inl (fun _ => 0))), (q6, .inl (zZ z, 2, .inl (fun _ => 0)))] H := hC
  refine lv_aload_n hx hb dX7_init_28 rfl (lv_at hl 0 rfl) ?_
  refine r_bipush hx hb dX7_init_29 rfl (fun x7 ex7 => ?_)
  refine ct_newI hx hb hts hK hC hS hA 59 (by omega) (by decide) (Nat.le_of_ble_eq_true rfl) (Nat.le_of_ble_eq_true rfl) dX7_init_31 (fun q8 H hC hS => ?_)
  have hC : CT z [] [] A [(h0, .inr (7, [.ref q2, .ref q4, .ref q6, .int 0, .null, .int 0, .int 0, .int 0, .int 0, .null, .int 0, .int 0, .int 0, .int 0, .int 0, .int 0, .int 0, .null, .null, .long 0, .long 0, .null, .null, .null, .int 0, .null])), (q2, .inl (zI z, 177, .inl (fun _ => 0))), (q4, .inl (zI z, 59, .inl (fun _ => 0))), (q6, .inl (zZ z, 2, .inl (fun _ => 0))), (q8, .inl (zI z, 59, .inl (fun _ => 0)))] H := hC
  refine W.widen (k := 4) (n := 297) (by omega) (by omega) ?_
  refine ct_put (own := RX7) (ty := .array .int) (v := .ref q8) hx hb hts ic_Model tyX7 tyX7_ok nmX7 hown hK hC hS rfl rfl 4 (by decide) mw_4_74 hin rfl (by decide +kernel) rfl rfl (Nat.le_of_ble_eq_true rfl) dX7_init_33 (fun H locs hC hS => ?_)
  have hC : CT z [] [] A [(h0, .inr (7, [.ref q2, .ref q4, .ref q6, .int 0, .ref q8, .int 0, .int 0, .int 0, .int 0, .null, .int 0, .int 0, .int 0, .int 0, .int 0, .int 0, .int 0, .null, .null, .long 0, .long 0, .null, .null, .null, .int 0, .null])), (q2, .inl (zI z, 177, .inl (fun _ => 0))), (q4, .inl (zI z, 59, .inl (fun _ => 0))), (q6, .inl (zZ z, 2, .inl (fun _ => 0))), (q8, .inl (zI z, 59, .inl (fun _ => 0)))] H := hC
  refine lv_aload_n hx hb dX7_init_36 rfl (lv_at hl 0 rfl) ?_
  refine r_sipush hx hb dX7_init_37 rfl (fun x9 ex9 => ?_)
  refine ct_newI hx hb hts hK hC hS hA 160 (by omega) (by decide) (Nat.le_of_ble_eq_true rfl) (Nat.le_of_ble_eq_true rfl) dX7_init_40 (fun q10 H hC hS => ?_)
  have hC : CT z [] [] A [(h0, .inr (7, [.ref q2, .ref q4, .ref q6, .int 0, .ref q8, .int 0, .int 0, .int 0, .int 0, .null, .int 0, .int 0, .int 0, .int 0, .int 0, .int 0, .int 0, .null, .null, .long 0, .long 0, .null, .null, .null, .int 0, .null])), (q2, .inl (zI z, 177, .inl (fun _ => 0))), (q4, .inl (zI z, 59, .inl (fun _ => 0))), (q6, .inl (zZ z, 2, .inl (fun _ => 0))), (q8, .inl (zI z, 59, .inl (fun _ => 0))), (q10, .inl (zI z, 160, .inl (fun _ => 0)))] H := hC
  refine W.widen (k := 5) (n := 457) (by omega) (by omega) ?_
  refine ct_put (own := RX7) (ty := .array .int) (v := .ref q10) hx hb hts ic_Model tyX7 tyX7_ok nmX7 hown hK hC hS rfl rfl 9 (by decide) mw_4_79 hin rfl (by decide +kernel) rfl rfl (Nat.le_of_ble_eq_true rfl) dX7_init_42 (fun H locs hC hS => ?_)
  have hC : CT z [] [] A [(h0, .inr (7, [.ref q2, .ref q4, .ref q6, .int 0, .ref q8, .int 0, .int 0, .int 0, .int 0, .ref q10, .int 0, .int 0, .int 0, .int 0, .int 0, .int 0, .int 0, .null, .null, .long 0, .long 0, .null, .null, .null, .int 0, .null])), (q2, .inl (zI z, 177, .inl (fun _ => 0))), (q4, .inl (zI z, 59, .inl (fun _ => 0))), (q6, .inl (zZ z, 2, .inl (fun _ => 0))), (q8, .inl (zI z, 59, .inl (fun _ => 0))), (q10, .inl (zI z, 160, .inl (fun _ => 0)))] H := hC
  refine lv_aload_n hx hb dX7_init_45 rfl (lv_at hl 0 rfl) ?_
  refine r_iconst hx hb dX7_init_46 (by decide) (by decide) (fun x11 ex11 => ?_)
  refine ct_newI hx hb hts hK hC hS hA 5 (by omega) (by decide) (Nat.le_of_ble_eq_true rfl) (Nat.le_of_ble_eq_true rfl) dX7_init_47 (fun q12 H hC hS => ?_)
  have hC : CT z [] [] A [(h0, .inr (7, [.ref q2, .ref q4, .ref q6, .int 0, .ref q8, .int 0, .int 0, .int 0, .int 0, .ref q10, .int 0, .int 0, .int 0, .int 0, .int 0, .int 0, .int 0, .null, .null, .long 0, .long 0, .null, .null, .null, .int 0, .null])), (q2, .inl (zI z, 177, .inl (fun _ => 0))), (q4, .inl (zI z, 59, .inl (fun _ => 0))), (q6, .inl (zZ z, 2, .inl (fun _ => 0))), (q8, .inl (zI z, 59, .inl (fun _ => 0))), (q10, .inl (zI z, 160, .inl (fun _ => 0))), (q12, .inl (zI z, 5, .inl (fun _ => 0)))] H := hC
  refine W.widen (k := 6) (n := 462) (by omega) (by omega) ?_
  refine ct_put (own := RX7) (ty := .array .int) (v := .ref q12) hx hb hts ic_Model tyX7 tyX7_ok nmX7 hown hK hC hS rfl rfl 17 (by decide) mw_4_87 hin rfl (by decide +kernel) rfl rfl (Nat.le_of_ble_eq_true rfl) dX7_init_49 (fun H locs hC hS => ?_)
  have hC : CT z [] [] A [(h0, .inr (7, [.ref q2, .ref q4, .ref q6, .int 0, .ref q8, .int 0, .int 0, .int 0, .int 0, .ref q10, .int 0, .int 0, .int 0, .int 0, .int 0, .int 0, .int 0, .ref q12, .null, .long 0, .long 0, .null, .null, .null, .int 0, .null])), (q2, .inl (zI z, 177, .inl (fun _ => 0))), (q4, .inl (zI z, 59, .inl (fun _ => 0))), (q6, .inl (zZ z, 2, .inl (fun _ => 0))), (q8, .inl (zI z, 59, .inl (fun _ => 0))), (q10, .inl (zI z, 160, .inl (fun _ => 0))), (q12, .inl (zI z, 5, .inl (fun _ => 0)))] H := hC
  refine lv_aload_n hx hb dX7_init_52 rfl (lv_at hl 0 rfl) ?_
  refine r_iconst hx hb dX7_init_53 (by decide) (by decide) (fun x13 ex13 => ?_)
  refine ct_newI hx hb hts hK hC hS hA 5 (by omega) (by decide) (Nat.le_of_ble_eq_true rfl) (Nat.le_of_ble_eq_true rfl) dX7_init_54 (fun q14 H hC hS => ?_)
  have hC : CT z [] [] A [(h0, .inr (7, [.ref q2, .ref q4, .ref q6, .int 0, .ref q8, .int 0, .int 0, .int 0, .int 0, .ref q10, .int 0, .int 0, .int 0, .int 0, .int 0, .int 0, .int 0, .ref q12, .null, .long 0, .long 0, .null, .null, .null, .int 0, .null])), (q2, .inl (zI z, 177, .inl (fun _ => 0))), (q4, .inl (zI z, 59, .inl (fun _ => 0))), (q6, .inl (zZ z, 2, .inl (fun _ => 0))), (q8, .inl (zI z, 59, .inl (fun _ => 0))), (q10, .inl (zI z, 160, .inl (fun _ => 0))), (q12, .inl (zI z, 5, .inl (fun _ => 0))), (q14, .inl (zI z, 5, .inl (fun _ => 0)))] H := hC
  refine W.widen (k := 7) (n := 467) (by omega) (by omega) ?_
  refine ct_put (own := RX7) (ty := .array .int) (v := .ref q14) hx hb hts ic_Model tyX7 tyX7_ok nmX7 hown hK hC hS rfl rfl 18 (by decide) mw_4_88 hin rfl (by decide +kernel) rfl rfl (Nat.le_of_ble_eq_true rfl) dX7_init_56 (fun H locs hC hS => ?_)
  have hC : CT z [] [] A [(h0, .inr (7, [.ref q2, .ref q4, .ref q6, .int 0, .ref q8, .int 0, .int 0, .int 0, .int 0, .ref q10, .int 0, .int 0, .int 0, .int 0, .int 0, .int 0, .int 0, .ref q12, .ref q14, .long 0, .long 0, .null, .null, .null, .int 0, .null])), (q2, .inl (zI z, 177, .inl (fun _ => 0))), (q4, .inl (zI z, 59, .inl (fun _ => 0))), (q6, .inl (zZ z, 2, .inl (fun _ => 0))), (q8, .inl (zI z, 59, .inl (fun _ => 0))), (q10, .inl (zI z, 160, .inl (fun _ => 0))), (q12, .inl (zI z, 5, .inl (fun _ => 0))), (q14, .inl (zI z, 5, .inl (fun _ => 0)))] H := hC
  refine lv_aload_n hx hb dX7_init_59 rfl (lv_at hl 0 rfl) ?_
  refine r_iconst hx hb dX7_init_60 (by decide) (by decide) (fun x15 ex15 => ?_)
  refine ct_newI hx hb hts hK hC hS hA 4 (by omega) (by decide) (Nat.le_of_ble_eq_true rfl) (Nat.le_of_ble_eq_true rfl) dX7_init_61 (fun q16 H hC hS => ?_)
  have hC : CT z [] [] A [(h0, .inr (7, [.ref q2, .ref q4, .ref q6, .int 0, .ref q8, .int 0, .int 0, .int 0, .int 0, .ref q10, .int 0, .int 0, .int 0, .int 0, .int 0, .int 0, .int 0, .ref q12, .ref q14, .long 0, .long 0, .null, .null, .null, .int 0, .null])), (q2, .inl (zI z, 177, .inl (fun _ => 0))), (q4, .inl (zI z, 59, .inl (fun _ => 0))), (q6, .inl (zZ z, 2, .inl (fun _ => 0))), (q8, .inl (zI z, 59, .inl (fun _ => 0))), (q10, .inl (zI z, 160, .inl (fun _ => 0))), (q12, .inl (zI z, 5, .inl (fun _ => 0))), (q14, .inl (zI z, 5, .inl (fun _ => 0))), (q16, .inl (zI z, 4, .inl (fun _ => 0)))] H := hC
  refine W.widen (k := 8) (n := 471) (by omega) (by omega) ?_
  refine ct_put (own := RX7) (ty := .array .int) (v := .ref q16) hx hb hts ic_Model tyX7 tyX7_ok nmX7 hown hK hC hS rfl rfl 21 (by decide) mw_4_91 hin rfl (by decide +kernel) rfl rfl (Nat.le_of_ble_eq_true rfl) dX7_init_63 (fun H locs hC hS => ?_)
  have hC : CT z [] [] A [(h0, .inr (7, [.ref q2, .ref q4, .ref q6, .int 0, .ref q8, .int 0, .int 0, .int 0, .int 0, .ref q10, .int 0, .int 0, .int 0, .int 0, .int 0, .int 0, .int 0, .ref q12, .ref q14, .long 0, .long 0, .ref q16, .null, .null, .int 0, .null])), (q2, .inl (zI z, 177, .inl (fun _ => 0))), (q4, .inl (zI z, 59, .inl (fun _ => 0))), (q6, .inl (zZ z, 2, .inl (fun _ => 0))), (q8, .inl (zI z, 59, .inl (fun _ => 0))), (q10, .inl (zI z, 160, .inl (fun _ => 0))), (q12, .inl (zI z, 5, .inl (fun _ => 0))), (q14, .inl (zI z, 5, .inl (fun _ => 0))), (q16, .inl (zI z, 4, .inl (fun _ => 0)))] H := hC
  refine lv_aload_n hx hb dX7_init_66 rfl (lv_at hl 0 rfl) ?_
  refine r_iconst hx hb dX7_init_67 (by decide) (by decide) (fun x17 ex17 => ?_)
  refine ct_newI hx hb hts hK hC hS hA 4 (by omega) (by decide) (Nat.le_of_ble_eq_true rfl) (Nat.le_of_ble_eq_true rfl) dX7_init_68 (fun q18 H hC hS => ?_)
  have hC : CT z [] [] A [(h0, .inr (7, [.ref q2, .ref q4, .ref q6, .int 0, .ref q8, .int 0, .int 0, .int 0, .int 0, .ref q10, .int 0, .int 0, .int 0, .int 0, .int 0, .int 0, .int 0, .ref q12, .ref q14, .long 0, .long 0, .ref q16, .null, .null, .int 0, .null])), (q2, .inl (zI z, 177, .inl (fun _ => 0))), (q4, .inl (zI z, 59, .inl (fun _ => 0))), (q6, .inl (zZ z, 2, .inl (fun _ => 0))), (q8, .inl (zI z, 59, .inl (fun _ => 0))), (q10, .inl (zI z, 160, .inl (fun _ => 0))), (q12, .inl (zI z, 5, .inl (fun _ => 0))), (q14, .inl (zI z, 5, .inl (fun _ => 0))), (q16, .inl (zI z, 4, .inl (fun _ => 0))), (q18, .inl (zI z, 4, .inl (fun _ => 0)))] H := hC
  refine W.widen (k := 9) (n := 475) (by omega) (by omega) ?_
  refine ct_put (own := RX7) (ty := .array .int) (v := .ref q18) hx hb hts ic_Model tyX7 tyX7_ok nmX7 hown hK hC hS rfl rfl 22 (by decide) mw_4_92 hin rfl (by decide +kernel) rfl rfl (Nat.le_of_ble_eq_true rfl) dX7_init_70 (fun H locs hC hS => ?_)
  have hC : CT z [] [] A [(h0, .inr (7, [.ref q2, .ref q4, .ref q6, .int 0, .ref q8, .int 0, .int 0, .int 0, .int 0, .ref q10, .int 0, .int 0, .int 0, .int 0, .int 0, .int 0, .int 0, .ref q12, .ref q14, .long 0, .long 0, .ref q16, .ref q18, .null, .int 0, .null])), (q2, .inl (zI z, 177, .inl (fun _ => 0))), (q4, .inl (zI z, 59, .inl (fun _ => 0))), (q6, .inl (zZ z, 2, .inl (fun _ => 0))), (q8, .inl (zI z, 59, .inl (fun _ => 0))), (q10, .inl (zI z, 160, .inl (fun _ => 0))), (q12, .inl (zI z, 5, .inl (fun _ => 0))), (q14, .inl (zI z, 5, .inl (fun _ => 0))), (q16, .inl (zI z, 4, .inl (fun _ => 0))), (q18, .inl (zI z, 4, .inl (fun _ => 0)))] H := hC
  refine lv_aload_n hx hb dX7_init_73 rfl (lv_at hl 0 rfl) ?_
  refine r_sipush hx hb dX7_init_74 rfl (fun x19 ex19 => ?_)
  refine ct_newI hx hb hts hK hC hS hA 160 (by omega) (by decide) (Nat.le_of_ble_eq_true rfl) (Nat.le_of_ble_eq_true rfl) dX7_init_77 (fun q20 H hC hS => ?_)
  have hC : CT z [] [] A [(h0, .inr (7, [.ref q2, .ref q4, .ref q6, .int 0, .ref q8, .int 0, .int 0, .int 0, .int 0, .ref q10, .int 0, .int 0, .int 0, .int 0, .int 0, .int 0, .int 0, .ref q12, .ref q14, .long 0, .long 0, .ref q16, .ref q18, .null, .int 0, .null])), (q2, .inl (zI z, 177, .inl (fun _ => 0))), (q4, .inl (zI z, 59, .inl (fun _ => 0))), (q6, .inl (zZ z, 2, .inl (fun _ => 0))), (q8, .inl (zI z, 59, .inl (fun _ => 0))), (q10, .inl (zI z, 160, .inl (fun _ => 0))), (q12, .inl (zI z, 5, .inl (fun _ => 0))), (q14, .inl (zI z, 5, .inl (fun _ => 0))), (q16, .inl (zI z, 4, .inl (fun _ => 0))), (q18, .inl (zI z, 4, .inl (fun _ => 0))), (q20, .inl (zI z, 160, .inl (fun _ => 0)))] H := hC
  refine W.widen (k := 10) (n := 635) (by omega) (by omega) ?_
  refine ct_put (own := RX7) (ty := .array .int) (v := .ref q20) hx hb hts ic_Model tyX7 tyX7_ok nmX7 hown hK hC hS rfl rfl 23 (by decide) mw_4_93 hin rfl (by decide +kernel) rfl rfl (Nat.le_of_ble_eq_true rfl) dX7_init_79 (fun H locs hC hS => ?_)
  have hC : CT z [] [] A [(h0, .inr (7, [.ref q2, .ref q4, .ref q6, .int 0, .ref q8, .int 0, .int 0, .int 0, .int 0, .ref q10, .int 0, .int 0, .int 0, .int 0, .int 0, .int 0, .int 0, .ref q12, .ref q14, .long 0, .long 0, .ref q16, .ref q18, .ref q20, .int 0, .null])), (q2, .inl (zI z, 177, .inl (fun _ => 0))), (q4, .inl (zI z, 59, .inl (fun _ => 0))), (q6, .inl (zZ z, 2, .inl (fun _ => 0))), (q8, .inl (zI z, 59, .inl (fun _ => 0))), (q10, .inl (zI z, 160, .inl (fun _ => 0))), (q12, .inl (zI z, 5, .inl (fun _ => 0))), (q14, .inl (zI z, 5, .inl (fun _ => 0))), (q16, .inl (zI z, 4, .inl (fun _ => 0))), (q18, .inl (zI z, 4, .inl (fun _ => 0))), (q20, .inl (zI z, 160, .inl (fun _ => 0)))] H := hC
  refine lv_aload_n hx hb dX7_init_82 rfl (lv_at hl 0 rfl) ?_
  refine r_bipush hx hb dX7_init_83 rfl (fun x21 ex21 => ?_)
  refine ct_newI hx hb hts hK hC hS hA 59 (by omega) (by decide) (Nat.le_of_ble_eq_true rfl) (Nat.le_of_ble_eq_true rfl) dX7_init_85 (fun q22 H hC hS => ?_)
  have hC : CT z [] [] A [(h0, .inr (7, [.ref q2, .ref q4, .ref q6, .int 0, .ref q8, .int 0, .int 0, .int 0, .int 0, .ref q10, .int 0, .int 0, .int 0, .int 0, .int 0, .int 0, .int 0, .ref q12, .ref q14, .long 0, .long 0, .ref q16, .ref q18, .ref q20, .int 0, .null])), (q2, .inl (zI z, 177, .inl (fun _ => 0))), (q4, .inl (zI z, 59, .inl (fun _ => 0))), (q6, .inl (zZ z, 2, .inl (fun _ => 0))), (q8, .inl (zI z, 59, .inl (fun _ => 0))), (q10, .inl (zI z, 160, .inl (fun _ => 0))), (q12, .inl (zI z, 5, .inl (fun _ => 0))), (q14, .inl (zI z, 5, .inl (fun _ => 0))), (q16, .inl (zI z, 4, .inl (fun _ => 0))), (q18, .inl (zI z, 4, .inl (fun _ => 0))), (q20, .inl (zI z, 160, .inl (fun _ => 0))), (q22, .inl (zI z, 59, .inl (fun _ => 0)))] H := hC
  refine W.widen (k := 11) (n := 694) (by omega) (by omega) ?_
  refine ct_put (own := RX7) (ty := .array .int) (v := .ref q22) hx hb hts ic_Model tyX7 tyX7_ok nmX7 hown hK hC hS rfl rfl 25 (by decide) mw_4_95 hin rfl (by decide +kernel) rfl rfl (Nat.le_of_ble_eq_true rfl) dX7_init_87 (fun H locs hC hS => ?_)
  have hC : CT z [] [] A [(h0, .inr (7, [.ref q2, .ref q4, .ref q6, .int 0, .ref q8, .int 0, .int 0, .int 0, .int 0, .ref q10, .int 0, .int 0, .int 0, .int 0, .int 0, .int 0, .int 0, .ref q12, .ref q14, .long 0, .long 0, .ref q16, .ref q18, .ref q20, .int 0, .ref q22])), (q2, .inl (zI z, 177, .inl (fun _ => 0))), (q4, .inl (zI z, 59, .inl (fun _ => 0))), (q6, .inl (zZ z, 2, .inl (fun _ => 0))), (q8, .inl (zI z, 59, .inl (fun _ => 0))), (q10, .inl (zI z, 160, .inl (fun _ => 0))), (q12, .inl (zI z, 5, .inl (fun _ => 0))), (q14, .inl (zI z, 5, .inl (fun _ => 0))), (q16, .inl (zI z, 4, .inl (fun _ => 0))), (q18, .inl (zI z, 4, .inl (fun _ => 0))), (q20, .inl (zI z, 160, .inl (fun _ => 0))), (q22, .inl (zI z, 59, .inl (fun _ => 0)))] H := hC
  refine r_iconst hx hb dX7_init_90 (by decide) (by decide) (fun x23 ex23 => ?_)
  refine lv_istore_n (lv' := [(1, .int x23), (0, .ref h0)]) hx hb dX7_init_91 rfl hl (by decide) rfl (fun ls hl => ?_)
  refine lv_iload_n hx hb dX7_init_92 rfl (lv_at hl 0 rfl) ?_
  refine r_iconst hx hb dX7_init_93 (by decide) (by decide) (fun x24 ex24 => ?_)
  refine r_icmp_ge (tgt := 111) hx hb dX7_init_94 (by decide) (fun c94 => ?_) (fun c94 => ?_)
  · exfalso; omega
  refine lv_aload_n hx hb dX7_init_97 rfl (lv_at hl 1 rfl) ?_
  refine ct_get (own := RX7) hx hb hts ic_Model hown hK hC rfl rfl 21 (by decide) mw_4_91 rfl dX7_init_98 ?_
  refine lv_iload_n hx hb dX7_init_101 rfl (lv_at hl 0 rfl) ?_
  refine r_bipush hx hb dX7_init_102 rfl (fun x25 ex25 => ?_)
  refine ct_iast hx hb hK hC hS 8 rfl 0 (by omega) (by decide) dX7_init_104 (fun H locs hC hS => ?_)
  have hC : CT z [] [] A [(h0, .inr (7, [.ref q2, .ref q4, .ref q6, .int 0, .ref q8, .int 0, .int 0, .int 0, .int 0, .ref q10, .int 0, .int 0, .int 0, .int 0, .int 0, .int 0, .int 0, .ref q12, .ref q14, .long 0, .long 0, .ref q16, .ref q18, .ref q20, .int 0, .ref q22])), (q2, .inl (zI z, 177, .inl (fun _ => 0))), (q4, .inl (zI z, 59, .inl (fun _ => 0))), (q6, .inl (zZ z, 2, .inl (fun _ => 0))), (q8, .inl (zI z, 59, .inl (fun _ => 0))), (q10, .inl (zI z, 160, .inl (fun _ => 0))), (q12, .inl (zI z, 5, .inl (fun _ => 0))), (q14, .inl (zI z, 5, .inl (fun _ => 0))), (q16, .inl (zI z, 4, .inl (upd (fun _ => 0) 0 x25))), (q18, .inl (zI z, 4, .inl (fun _ => 0))), (q20, .inl (zI z, 160, .inl (fun _ => 0))), (q22, .inl (zI z, 59, .inl (fun _ => 0)))] H := hC
  refine r_iinc (lv' := fun v__ => [(1, .int v__), (0, .ref h0)]) hx hb dX7_init_105 hl (k := 0) rfl (by decide) (fun _ => rfl) ⟨by decide, by decide⟩ (by omega) (by omega) (fun x26 ls ex26 hl => ?_)
  refine lv_goto (tgt := 92) hx hb dX7_init_108 (by decide) ?_
  refine lv_iload_n hx hb dX7_init_92 rfl (lv_at hl 0 rfl) ?_
  refine r_iconst hx hb dX7_init_93 (by decide) (by decide) (fun x27 ex27 => ?_)
  refine r_icmp_ge (tgt := 111) hx hb dX7_init_94 (by decide) (fun c94 => ?_) (fun c94 => ?_)
  · exfalso; omega
  refine lv_aload_n hx hb dX7_init_97 rfl (lv_at hl 1 rfl) ?_
  refine ct_get (own := RX7) hx hb hts ic_Model hown hK hC rfl rfl 21 (by decide) mw_4_91 rfl dX7_init_98 ?_
  refine lv_iload_n hx hb dX7_init_101 rfl (lv_at hl 0 rfl) ?_
  refine r_bipush hx hb dX7_init_102 rfl (fun x28 ex28 => ?_)
  refine ct_iast hx hb hK hC hS 8 rfl 1 (by omega) (by decide) dX7_init_104 (fun H locs hC hS => ?_)
  have hC : CT z [] [] A [(h0, .inr (7, [.ref q2, .ref q4, .ref q6, .int 0, .ref q8, .int 0, .int 0, .int 0, .int 0, .ref q10, .int 0, .int 0, .int 0, .int 0, .int 0, .int 0, .int 0, .ref q12, .ref q14, .long 0, .long 0, .ref q16, .ref q18, .ref q20, .int 0, .ref q22])), (q2, .inl (zI z, 177, .inl (fun _ => 0))), (q4, .inl (zI z, 59, .inl (fun _ => 0))), (q6, .inl (zZ z, 2, .inl (fun _ => 0))), (q8, .inl (zI z, 59, .inl (fun _ => 0))), (q10, .inl (zI z, 160, .inl (fun _ => 0))), (q12, .inl (zI z, 5, .inl (fun _ => 0))), (q14, .inl (zI z, 5, .inl (fun _ => 0))), (q16, .inl (zI z, 4, .inl (upd (upd (fun _ => 0) 0 x25) 1 x28))), (q18, .inl (zI z, 4, .inl (fun _ => 0))), (q20, .inl (zI z, 160, .inl (fun _ => 0))), (q22, .inl (zI z, 59, .inl (fun _ => 0)))] H := hC
  refine r_iinc (lv' := fun v__ => [(1, .int v__), (0, .ref h0)]) hx hb dX7_init_105 hl (k := 0) rfl (by decide) (fun _ => rfl) ⟨by decide, by decide⟩ (by omega) (by omega) (fun x29 ls ex29 hl => ?_)
  refine lv_goto (tgt := 92) hx hb dX7_init_108 (by decide) ?_
  refine lv_iload_n hx hb dX7_init_92 rfl (lv_at hl 0 rfl) ?_
  refine r_iconst hx hb dX7_init_93 (by decide) (by decide) (fun x30 ex30 => ?_)
  refine r_icmp_ge (tgt := 111) hx hb dX7_init_94 (by decide) (fun c94 => ?_) (fun c94 => ?_)
  · exfalso; omega
  refine lv_aload_n hx hb dX7_init_97 rfl (lv_at hl 1 rfl) ?_
  refine ct_get (own := RX7) hx hb hts ic_Model hown hK hC rfl rfl 21 (by decide) mw_4_91 rfl dX7_init_98 ?_
  refine lv_iload_n hx hb dX7_init_101 rfl (lv_at hl 0 rfl) ?_
  refine r_bipush hx hb dX7_init_102 rfl (fun x31 ex31 => ?_)
  refine ct_iast hx hb hK hC hS 8 rfl 2 (by omega) (by decide) dX7_init_104 (fun H locs hC hS => ?_)
  have hC : CT z [] [] A [(h0, .inr (7, [.ref q2, .ref q4, .ref q6, .int 0, .ref q8, .int 0, .int 0, .int 0, .int 0, .ref q10, .int 0, .int 0, .int 0, .int 0, .int 0, .int 0, .int 0, .ref q12, .ref q14, .long 0, .long 0, .ref q16, .ref q18, .ref q20, .int 0, .ref q22])), (q2, .inl (zI z, 177, .inl (fun _ => 0))), (q4, .inl (zI z, 59, .inl (fun _ => 0))), (q6, .inl (zZ z, 2, .inl (fun _ => 0))), (q8, .inl (zI z, 59, .inl (fun _ => 0))), (q10, .inl (zI z, 160, .inl (fun _ => 0))), (q12, .inl (zI z, 5, .inl (fun _ => 0))), (q14, .inl (zI z, 5, .inl (fun _ => 0))), (q16, .inl (zI z, 4, .inl (upd (upd (upd (fun _ => 0) 0 x25) 1 x28) 2 x31))), (q18, .inl (zI z, 4, .inl (fun _ => 0))), (q20, .inl (zI z, 160, .inl (fun _ => 0))), (q22, .inl (zI z, 59, .inl (fun _ => 0)))] H := hC
  refine r_iinc (lv' := fun v__ => [(1, .int v__), (0, .ref h0)]) hx hb dX7_init_105 hl (k := 0) rfl (by decide) (fun _ => rfl) ⟨by decide, by decide⟩ (by omega) (by omega) (fun x32 ls ex32 hl => ?_)
  refine lv_goto (tgt := 92) hx hb dX7_init_108 (by decide) ?_
  refine lv_iload_n hx hb dX7_init_92 rfl (lv_at hl 0 rfl) ?_
  refine r_iconst hx hb dX7_init_93 (by decide) (by decide) (fun x33 ex33 => ?_)
  refine r_icmp_ge (tgt := 111) hx hb dX7_init_94 (by decide) (fun c94 => ?_) (fun c94 => ?_)
  · exfalso; omega
  refine lv_aload_n hx hb dX7_init_97 rfl (lv_at hl 1 rfl) ?_
  refine ct_get (own := RX7) hx hb hts ic_Model hown hK hC rfl rfl 21 (by decide) mw_4_91 rfl dX7_init_98 ?_
  refine lv_iload_n hx hb dX7_init_101 rfl (lv_at hl 0 rfl) ?_
  refine r_bipush hx hb dX7_init_102 rfl (fun x34 ex34 => ?_)
  refine ct_iast hx hb hK hC hS 8 rfl 3 (by omega) (by decide) dX7_init_104 (fun H locs hC hS => ?_)
  have hC : CT z [] [] A [(h0, .inr (7, [.ref q2, .ref q4, .ref q6, .int 0, .ref q8, .int 0, .int 0, .int 0, .int 0, .ref q10, .int 0, .int 0, .int 0, .int 0, .int 0, .int 0, .int 0, .ref q12, .ref q14, .long 0, .long 0, .ref q16, .ref q18, .ref q20, .int 0, .ref q22])), (q2, .inl (zI z, 177, .inl (fun _ => 0))), (q4, .inl (zI z, 59, .inl (fun _ => 0))), (q6, .inl (zZ z, 2, .inl (fun _ => 0))), (q8, .inl (zI z, 59, .inl (fun _ => 0))), (q10, .inl (zI z, 160, .inl (fun _ => 0))), (q12, .inl (zI z, 5, .inl (fun _ => 0))), (q14, .inl (zI z, 5, .inl (fun _ => 0))), (q16, .inl (zI z, 4, .inl (upd (upd (upd (upd (fun _ => 0) 0 x25) 1 x28) 2 x31) 3 x34))), (q18, .inl (zI z, 4, .inl (fun _ => 0))), (q20, .inl (zI z, 160, .inl (fun _ => 0))), (q22, .inl (zI z, 59, .inl (fun _ => 0)))] H := hC
  refine r_iinc (lv' := fun v__ => [(1, .int v__), (0, .ref h0)]) hx hb dX7_init_105 hl (k := 0) rfl (by decide) (fun _ => rfl) ⟨by decide, by decide⟩ (by omega) (by omega) (fun x35 ls ex35 hl => ?_)
  refine lv_goto (tgt := 92) hx hb dX7_init_108 (by decide) ?_
  refine lv_iload_n hx hb dX7_init_92 rfl (lv_at hl 0 rfl) ?_
  refine r_iconst hx hb dX7_init_93 (by decide) (by decide) (fun x36 ex36 => ?_)
  refine r_icmp_ge (tgt := 111) hx hb dX7_init_94 (by decide) (fun c94 => ?_) (fun c94 => ?_)
  rotate_left
  · exfalso; omega
  have hTX := hC.out
  obtain ⟨L, G, hT, hG0, hbO⟩ := cm_end hTX [(17, 13), (40, 13), (41, 13), (42, 13), (43, 13), (44, 13), (45, 13), (46, 13), (47, 13), (48, 13), (49, 13), (50, 13)] rfl rfl rfl (by simp) (zu_rl [17, 40, 41, 42, 43, 44, 45, 46, 47, 48, 49, 50] rfl (by decide)) (fun L9 G9 hg i q e r h1 h2 => by
    match i, h1, h2 with
    | 0, h1, h2 => cases h1; cases h2; exact (⟨q2, q4, q6, 0, q8, 0, 0, 0, 0, q10, 0, 0, 0, 0, 0, 0, 0, q12, q14, 0, 0, q16, q18, q20, 0, q22, rfl, hg 1 _ _ _ rfl rfl, hg 2 _ _ _ rfl rfl, hg 3 _ _ _ rfl rfl, ⟨(show (0 : Int32).toInt = (0 : Int) from z32), (show (0 : Int) ≤ (0 : Int32).toInt by rw [z32]; decide), (show (0 : Int32).toInt ≤ (5 : Int) by rw [z32]; decide)⟩, hg 4 _ _ _ rfl rfl, ⟨(show (0 : Int32).toInt = (0 : Int) from z32), (show (0 : Int) ≤ (0 : Int32).toInt by rw [z32]; decide), (show (0 : Int32).toInt ≤ (5 : Int) by rw [z32]; decide)⟩, ⟨(show (0 : Int32).toInt = (0 : Int) from z32), (show (0 : Int) ≤ (0 : Int32).toInt by rw [z32]; decide), (show (0 : Int32).toInt ≤ (6 : Int) by rw [z32]; decide)⟩, ⟨(show (0 : Int32).toInt = (0 : Int) from z32), (show (0 : Int) ≤ (0 : Int32).toInt by rw [z32]; decide), (show (0 : Int32).toInt ≤ (1 : Int) by rw [z32]; decide)⟩, ⟨(show (0 : Int32).toInt = (0 : Int) from z32), (show (-4 : Int) ≤ (0 : Int32).toInt by rw [z32]; decide), (show (0 : Int32).toInt ≤ (4 : Int) by rw [z32]; decide)⟩, hg 5 _ _ _ rfl rfl, ⟨(show (0 : Int32).toInt = (0 : Int) from z32), (show (0 : Int) ≤ (0 : Int32).toInt by rw [z32]; decide), (show (0 : Int32).toInt ≤ (160 : Int) by rw [z32]; decide)⟩, ⟨(show (0 : Int32).toInt = (0 : Int) from z32), (show (0 : Int) ≤ (0 : Int32).toInt by rw [z32]; decide), (show (0 : Int32).toInt ≤ (160 : Int) by rw [z32]; decide)⟩, ⟨(show (0 : Int32).toInt = (0 : Int) from z32), (show (0 : Int) ≤ (0 : Int32).toInt by rw [z32]; decide), (show (0 : Int32).toInt ≤ (160 : Int) by rw [z32]; decide)⟩, ⟨(show (0 : Int32).toInt = (0 : Int) from z32), (show (0 : Int) ≤ (0 : Int32).toInt by rw [z32]; decide), (show (0 : Int32).toInt ≤ (3 : Int) by rw [z32]; decide)⟩, ⟨(show (0 : Int32).toInt = (0 : Int) from z32), (show (0 : Int) ≤ (0 : Int32).toInt by rw [z32]; decide), (show (0 : Int32).toInt ≤ (999 : Int) by rw [z32]; decide)⟩, ⟨(show (0 : Int32).toInt = (0 : Int) from z32), (show (0 : Int) ≤ (0 : Int32).toInt by rw [z32]; decide), (show (0 : Int32).toInt ≤ (6 : Int) by rw [z32]; decide)⟩, ⟨(show (0 : Int32).toInt = (0 : Int) from z32), (show (0 : Int) ≤ (0 : Int32).toInt by rw [z32]; decide), (show (0 : Int32).toInt ≤ (160 : Int) by rw [z32]; decide)⟩, hg 6 _ _ _ rfl rfl, hg 7 _ _ _ rfl rfl, (show (0 : Int64).toInt = (0 : Int) from rfl), (show (0 : Int64).toInt = (0 : Int) from rfl), hg 8 _ _ _ rfl rfl, hg 9 _ _ _ rfl rfl, hg 10 _ _ _ rfl rfl, ⟨(show (0 : Int32).toInt = (0 : Int) from z32), (show (0 : Int) ≤ (0 : Int32).toInt by rw [z32]; decide), (show (0 : Int32).toInt ≤ (3 : Int) by rw [z32]; decide)⟩, hg 11 _ _ _ rfl rfl⟩ : eModel (zx z L9 G9) (iniS 13 17) 13 _)
    | 1, h1, h2 => cases h1; cases h2; exact ia_40
    | 2, h1, h2 => cases h1; cases h2; exact ia_41
    | 3, h1, h2 => cases h1; cases h2; exact ia_42
    | 4, h1, h2 => cases h1; cases h2; exact ia_43
    | 5, h1, h2 => cases h1; cases h2; exact ia_44
    | 6, h1, h2 => cases h1; cases h2; exact ia_45
    | 7, h1, h2 => cases h1; cases h2; exact ia_46
    | 8, h1, h2 => cases h1; cases h2; exact im_47 (by omega) (by omega) (by omega) (by omega)
    | 9, h1, h2 => cases h1; cases h2; exact ia_48
    | 10, h1, h2 => cases h1; cases h2; exact ia_49
    | 11, h1, h2 => cases h1; cases h2; exact ia_50
    | n9 + 12, h1, h2 => cases h1)
  have hT := tx_ty hT hbO.1
  have hLA : ∀ q, zA (zx z L G) q → A q := fun q h => ty_in hT h
  have hA0 : ∀ q, q < s.heap.size → A q → q = h0 := fun q h1 h2 => by
    rw [← hAe] at h2
    rcases h2 with ⟨k9, e9, hk9⟩ | h2
    · have hz9 : k9 < 1 := (List.getElem?_eq_some_iff.mp hk9).1
      rw [show k9 = 0 by omega] at hk9
      exact (congrArg Prod.fst (Option.some.inj hk9)).symm
    · omega
  have hL0 : h0 ∈ L := ty_dom hT (by show (G h0).1 ≠ 0; rw [hG0]; exact Nat.succ_ne_zero _)
  have hSK : SK (zx z L G) s s.heap := SK.mono (z := zx z [h0] (fun _ => (0, 0))) hSK0 (fun q h1 h2 => by rw [hA0 q h1 (hLA q h2)]; exact List.mem_cons_self)
  have hNA : ∀ q, q < s.heap.size → ¬ zA (zx z L G) q → ¬ A q := fun q h1 h2 h3 => h2 (by rw [hA0 q h1 h3]; exact hL0)
  have hT := ty_A (B := zA (zx z L G)) hT (fun q h => h)
  obtain ⟨φ1, hd1, hd2⟩ := hini
  refine lv_aload_n hx hb dX7_init_111 rfl (lv_at hl 1 rfl) ?_
  refine cl_Vv (z := zx z L G) (rest := []) hC0 hK hSK (c_X7_firstDraft l (zx z L G) iniS h0 13 hG0 φ1 hd1) k_X7_firstDraft mw_4_62 ⟨rfl, rfl, (Nat.le_of_ble_eq_true rfl), (Nat.le_of_ble_eq_true rfl)⟩ (rv_Model (z := zx z L G) hK hT hG0) hT rfl hl.1 rfl (Nat.le_of_ble_eq_true rfl) dX7_init_112 ⟨(Nat.le_of_ble_eq_true rfl), (Nat.le_of_ble_eq_true rfl)⟩ hS hLA hNA (fun H locs hpo hS => ?_)
  obtain ⟨σ1, he1, hf1, hT⟩ := hpo
  cases he1
  refine lv_aload_n hx hb dX7_init_115 rfl (lv_at hl 1 rfl) ?_
  refine cl_Vv (z := zx z L G) (rest := []) hC0 hK hSK (c_X7_keepDraft l (zx z L G) σ1 h0 13 hG0 φ2 hd2) k_X7_keepDraft mw_4_66 ⟨rfl, rfl, (Nat.le_of_ble_eq_true rfl), (Nat.le_of_ble_eq_true rfl)⟩ (rv_Model (z := zx z L G) hK hT hG0) hT rfl hl.1 rfl (Nat.le_of_ble_eq_true rfl) dX7_init_116 ⟨(Nat.le_of_ble_eq_true rfl), (Nat.le_of_ble_eq_true rfl)⟩ hS hLA hNA (fun H locs hpo hS => ?_)
  obtain ⟨σ2, he2, hf2, hT⟩ := hpo
  have hMB : MB z A h0 φ2 H := ⟨L, G, σ2, ty_A hT (fun q h => hLA q h), hG0, hbO, Option.some.inj he2⟩
  exact W.vret hx hb hr (fun t ht hW => ⟨⟨(), rfl, trivial, by show MB z A h0 φ2 t.heap; rw [ht]; exact hMB⟩, hS.F ht⟩) hS.2.2 dX7_init_119 hlk
