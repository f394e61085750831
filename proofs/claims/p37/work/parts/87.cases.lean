def LwC (p : Program) (s : State) (m : MethodId) (meth : Method) (c : Code) (b L : Nat) (xs : Nat → Int32) (z : Zt) (h1 h2 : Nat) : Prop := p.tables.exec = Jvm.exec ∧ c.code = cL_law ∧ meth.sig.returnType = ret ∧ c.maxLocals = 4 ∧ s.vm.findClass RL = some m.cls ∧ (∀ w ∈ lw_ok, w.before #[Value.ref b] s = true) ∧ va_X b L xs s s.heap ∧ b < s.heap.size ∧ meth.locks = false ∧ va_K (zD z) vwCl (zT z) s ∧ SK z s s.heap ∧ (∀ q, zA z q → s.heap.size ≤ q) ∧ zG z h1 = (16, 0) ∧ zG z h2 = (17, 13) ∧ L ≤ 320
abbrev LW (p : Program) (l : Launch) (e : Env) (s : State) (m : MethodId) (below : List Frame) (meth : Method) (c : Code) (b : Nat) (H : Heap) (locs : List Loc) (pc : Nat) (ls : Array Slot) (st : List Value) : Prop := W p l e room_1 s m #[Value.ref b] below meth c H locs 600000 7302250 (lw_Z below #[Value.ref b] s) (F0 m pc ls st)
theorem vin {i : Int32} {n : Nat} (h0 : 0 ≤ i.toInt) (h1 : i.toInt < n) : vp_in i n := by
  have hn := ix_nat (i := i) h0
  rintro (q | q)
  · have := Int32.lt_iff_toInt_lt.mp q
    rw [show (0 : Int32).toInt = 0 from z32] at this
    omega
  · omega
theorem sldJ {p : Program} {l : Launch} {e : Env} {R : Room} {s : State} {m : MethodId} {args : Array Value} {below : List Frame} {meth : Method} {c : Code} {H H0 : Heap} {locs : List Loc} {cells slots : Nat} {Q : State → Prop} {cc : ByteArray} {pc : Nat} {ls : Array Slot} {rest : List Value} {A : Nat → Prop} (hx : p.tables.exec = Jvm.exec) (hb : c.code = cc) {b L : Nat} {xs : Nat → Int32} (hX : va_X b L xs s H0) (hbl : b < H0.size) (hbA : ¬ A b) (hS : va_S A H0 H locs) {i : Int32} (j : Nat) (hj : i.toInt = j) (hjL : j < L) (hdg : decode cc pc = .ok (.iaload, 1)) (kk : W p l e R s m args below meth c H locs cells slots Q (F0 m (pc + 1) ls (.int (xs j) :: rest))) : W p l e R s m args below meth c H locs cells slots Q (F0 m pc ls (.int i :: .ref b :: rest)) := by
  have hn : i.toNatClampNeg = j := by have := ix_nat (i := i) (by omega); omega
  refine va_sld hx hb hX hbl hbA hS (vin (by omega) (by omega)) hdg ?_
  rw [hn]
  exact kk
theorem ofn {L : Nat} (h : L ≤ 320) : (Int32.ofNat L).toInt = L := by
  rw [Int32.toInt_ofNat_of_lt (by omega)]
theorem i32_in (x : Int32) : -2147483648 ≤ x.toInt ∧ x.toInt ≤ 2147483647 := ⟨by have := Int32.le_toInt x; omega, by have := Int32.toInt_lt x; omega⟩

set_option maxHeartbeats 4000000 in
set_option maxRecDepth 100000 in
theorem lc_0 {p : Program} {l : Launch} {e : Env} {s : State} {m : MethodId} {below : List Frame} {meth : Method} {c : Code} {b L : Nat} {xs : Nat → Int32} {z : Zt} {h1 h2 : Nat} (C : LwC p s m meth c b L xs z h1 h2) {xi : Int32} (hxi : 0 ≤ xi.toInt) (hxL : xi.toInt + 5 ≤ L) {N : Nat} {σ : Sg} {H : Heap} {locs : List Loc} {ls : Array Slot} (hT : TY z (zA z) σ H) (hrel : rlS N σ) (hS : va_S (kA s) s.heap H locs) (hl : lv_has ls 4 [(0, .ref b), (1, .ref h1), (2, .ref h2), (3, .int xi)]) (kont : ∀ (N : Nat) (σ : Sg) (H : Heap) (locs : List Loc), TY z (zA z) σ H → rlS N σ → va_S (kA s) s.heap H locs → LW p l e s m below meth c b H locs 1334 ls []) : LW p l e s m below meth c b H locs 208 ls [] := by
  obtain ⟨hx, hb, hr, hml, hown, hts, hX, hbl, hlk, hK, hSK, hAA, g1, g2, hL⟩ := id C
  have hC : CallFix p m c cL_law 4 s #[Value.ref b] lw_ok RL := ⟨hx, hb, hml, hown, hts⟩
  have hbA : ¬ kA s b := Nat.not_le.mpr hbl
  have hNA : ∀ q, q < s.heap.size → ¬ zA z q → ¬ kA s q := fun q h _ h2 => absurd h (Nat.not_lt.mpr h2)
  have nxi := ix_nat (i := xi) hxi
  refine lv_aload_n hx hb dL_law_208 rfl (lv_at hl 1 rfl) ?_
  refine lv_aload_n hx hb dL_law_209 rfl (lv_at hl 0 rfl) ?_
  refine lv_iload_n hx hb dL_law_210 rfl (lv_at hl 3 rfl) ?_
  refine r_iconst hx hb dL_law_211 (by decide) (by decide) (fun x211 e211 => ?_)
  refine r_iadd hx hb dL_law_212 (by omega) (by omega) (fun x212 e212 => ?_)
  refine sldJ hx hb hX hbl hbA hS (xi.toNatClampNeg + 1) (by omega) (by omega) dL_law_213 ?_
  obtain ⟨r9, σ1, φ1, N1, e1, e13, e2, hr1⟩ := cl_feed hrel (xs (xi.toNatClampNeg + 1)).toInt
  refine cl_Vi (z := z) (A := kA s) (rest := []) hC hK hSK (c_X6_feed l z σ h1 g1 (xs (xi.toNatClampNeg + 1)) (r9, σ1) e1) k_X6_feed mw_2_35 ⟨rfl, rfl, (Nat.le_of_ble_eq_true rfl), (Nat.le_of_ble_eq_true rfl)⟩ (rv_HeelDance hK hT g1) hT rfl hl.1 rfl (Nat.le_of_ble_eq_true rfl) dL_law_214 ⟨(Nat.le_of_ble_eq_true rfl), (Nat.le_of_ble_eq_true rfl)⟩ hS hAA hNA (fun r214 H locs hpo hS => ?_)
  obtain ⟨σq, he1, hT⟩ := hpo
  obtain ⟨er1, es1⟩ := Prod.mk.inj (Option.some.inj he1)
  rw [es1] at hT
  refine lv_pop hx hb dL_law_217 rfl ?_
  refine lv_aload_n hx hb dL_law_218 rfl (lv_at hl 2 rfl) ?_
  refine lv_aload_n hx hb dL_law_219 rfl (lv_at hl 0 rfl) ?_
  refine lv_iload_n hx hb dL_law_220 rfl (lv_at hl 3 rfl) ?_
  refine r_iconst hx hb dL_law_221 (by decide) (by decide) (fun x221 e221 => ?_)
  refine r_iadd hx hb dL_law_222 (by omega) (by omega) (fun x222 e222 => ?_)
  refine sldJ hx hb hX hbl hbA hS (xi.toNatClampNeg + 1) (by omega) (by omega) dL_law_223 ?_
  refine cl_Vi (z := z) (A := kA s) (rest := []) hC hK hSK (c_X7_feed l z σ1 h2 13 g2 (xs (xi.toNatClampNeg + 1)) (r9, φ1) (by rw [e13]; exact e2)) k_X7_feed mw_4_149 ⟨rfl, rfl, (Nat.le_of_ble_eq_true rfl), (Nat.le_of_ble_eq_true rfl)⟩ (rv_Model hK hT g2) hT rfl hl.1 rfl (Nat.le_of_ble_eq_true rfl) dL_law_224 ⟨(Nat.le_of_ble_eq_true rfl), (Nat.le_of_ble_eq_true rfl)⟩ hS hAA hNA (fun r224 H locs hpo hS => ?_)
  obtain ⟨σ2, he2, hf2, hT⟩ := hpo
  obtain ⟨er2, es2⟩ := Prod.mk.inj (Option.some.inj he2)
  have hs2 : gset σ1 13 φ1 = σ2 := by rw [← es2]; exact FR_eq hf2
  rw [hs2] at hr1
  refine lv_pop hx hb dL_law_227 rfl ?_
  refine lv_goto (tgt := 1334) hx hb dL_law_228 (by decide) ?_
  exact kont _ _ _ _ hT hr1 hS
set_option maxHeartbeats 4000000 in
set_option maxRecDepth 100000 in
theorem lc_1 {p : Program} {l : Launch} {e : Env} {s : State} {m : MethodId} {below : List Frame} {meth : Method} {c : Code} {b L : Nat} {xs : Nat → Int32} {z : Zt} {h1 h2 : Nat} (C : LwC p s m meth c b L xs z h1 h2) {xi : Int32} (hxi : 0 ≤ xi.toInt) (hxL : xi.toInt + 5 ≤ L) {N : Nat} {σ : Sg} {H : Heap} {locs : List Loc} {ls : Array Slot} (hT : TY z (zA z) σ H) (hrel : rlS N σ) (hS : va_S (kA s) s.heap H locs) (hl : lv_has ls 4 [(0, .ref b), (1, .ref h1), (2, .ref h2), (3, .int xi)]) (kont : ∀ (N : Nat) (σ : Sg) (H : Heap) (locs : List Loc), TY z (zA z) σ H → rlS N σ → va_S (kA s) s.heap H locs → LW p l e s m below meth c b H locs 1334 ls []) : LW p l e s m below meth c b H locs 231 ls [] := by
  obtain ⟨hx, hb, hr, hml, hown, hts, hX, hbl, hlk, hK, hSK, hAA, g1, g2, hL⟩ := id C
  have hC : CallFix p m c cL_law 4 s #[Value.ref b] lw_ok RL := ⟨hx, hb, hml, hown, hts⟩
  have hbA : ¬ kA s b := Nat.not_le.mpr hbl
  have hNA : ∀ q, q < s.heap.size → ¬ zA z q → ¬ kA s q := fun q h _ h2 => absurd h (Nat.not_lt.mpr h2)
  have nxi := ix_nat (i := xi) hxi
  refine lv_aload_n hx hb dL_law_231 rfl (lv_at hl 1 rfl) ?_
  refine lv_aload_n hx hb dL_law_232 rfl (lv_at hl 0 rfl) ?_
  refine lv_iload_n hx hb dL_law_233 rfl (lv_at hl 3 rfl) ?_
  refine r_iconst hx hb dL_law_234 (by decide) (by decide) (fun x234 e234 => ?_)
  refine r_iadd hx hb dL_law_235 (by omega) (by omega) (fun x235 e235 => ?_)
  refine sldJ hx hb hX hbl hbA hS (xi.toNatClampNeg + 1) (by omega) (by omega) dL_law_236 ?_
  obtain ⟨r9, σ1, φ1, N1, e1, e13, e2, hr1⟩ := cl_end hrel (xs (xi.toNatClampNeg + 1)).toInt
  refine cl_Vi (z := z) (A := kA s) (rest := []) hC hK hSK (c_X6_end l z σ h1 g1 (xs (xi.toNatClampNeg + 1)) (r9, σ1) e1) k_X6_end mw_2_39 ⟨rfl, rfl, (Nat.le_of_ble_eq_true rfl), (Nat.le_of_ble_eq_true rfl)⟩ (rv_HeelDance hK hT g1) hT rfl hl.1 rfl (Nat.le_of_ble_eq_true rfl) dL_law_237 ⟨(Nat.le_of_ble_eq_true rfl), (Nat.le_of_ble_eq_true rfl)⟩ hS hAA hNA (fun r237 H locs hpo hS => ?_)
  obtain ⟨σq, he1, hT⟩ := hpo
  obtain ⟨er1, es1⟩ := Prod.mk.inj (Option.some.inj he1)
  rw [es1] at hT
  refine lv_pop hx hb dL_law_240 rfl ?_
  refine lv_aload_n hx hb dL_law_241 rfl (lv_at hl 2 rfl) ?_
  refine lv_aload_n hx hb dL_law_242 rfl (lv_at hl 0 rfl) ?_
  refine lv_iload_n hx hb dL_law_243 rfl (lv_at hl 3 rfl) ?_
  refine r_iconst hx hb dL_law_244 (by decide) (by decide) (fun x244 e244 => ?_)
  refine r_iadd hx hb dL_law_245 (by omega) (by omega) (fun x245 e245 => ?_)
  refine sldJ hx hb hX hbl hbA hS (xi.toNatClampNeg + 1) (by omega) (by omega) dL_law_246 ?_
  refine cl_Vi (z := z) (A := kA s) (rest := []) hC hK hSK (c_X7_end l z σ1 h2 13 g2 (xs (xi.toNatClampNeg + 1)) (r9, φ1) (by rw [e13]; exact e2)) k_X7_end mw_4_157 ⟨rfl, rfl, (Nat.le_of_ble_eq_true rfl), (Nat.le_of_ble_eq_true rfl)⟩ (rv_Model hK hT g2) hT rfl hl.1 rfl (Nat.le_of_ble_eq_true rfl) dL_law_247 ⟨(Nat.le_of_ble_eq_true rfl), (Nat.le_of_ble_eq_true rfl)⟩ hS hAA hNA (fun r247 H locs hpo hS => ?_)
  obtain ⟨σ2, he2, hf2, hT⟩ := hpo
  obtain ⟨er2, es2⟩ := Prod.mk.inj (Option.some.inj he2)
  have hs2 : gset σ1 13 φ1 = σ2 := by rw [← es2]; exact FR_eq hf2
  rw [hs2] at hr1
  refine lv_pop hx hb dL_law_250 rfl ?_
  refine lv_goto (tgt := 1334) hx hb dL_law_251 (by decide) ?_
  exact kont _ _ _ _ hT hr1 hS
set_option maxHeartbeats 4000000 in
set_option maxRecDepth 100000 in
theorem lc_2 {p : Program} {l : Launch} {e : Env} {s : State} {m : MethodId} {below : List Frame} {meth : Method} {c : Code} {b L : Nat} {xs : Nat → Int32} {z : Zt} {h1 h2 : Nat} (C : LwC p s m meth c b L xs z h1 h2) {xi : Int32} (hxi : 0 ≤ xi.toInt) (hxL : xi.toInt + 5 ≤ L) {N : Nat} {σ : Sg} {H : Heap} {locs : List Loc} {ls : Array Slot} (hT : TY z (zA z) σ H) (hrel : rlS N σ) (hS : va_S (kA s) s.heap H locs) (hl : lv_has ls 4 [(0, .ref b), (1, .ref h1), (2, .ref h2), (3, .int xi)]) (kont : ∀ (N : Nat) (σ : Sg) (H : Heap) (locs : List Loc), TY z (zA z) σ H → rlS N σ → va_S (kA s) s.heap H locs → LW p l e s m below meth c b H locs 1334 ls []) : LW p l e s m below meth c b H locs 254 ls [] := by
  obtain ⟨hx, hb, hr, hml, hown, hts, hX, hbl, hlk, hK, hSK, hAA, g1, g2, hL⟩ := id C
  have hC : CallFix p m c cL_law 4 s #[Value.ref b] lw_ok RL := ⟨hx, hb, hml, hown, hts⟩
  have hbA : ¬ kA s b := Nat.not_le.mpr hbl
  have hNA : ∀ q, q < s.heap.size → ¬ zA z q → ¬ kA s q := fun q h _ h2 => absurd h (Nat.not_lt.mpr h2)
  have nxi := ix_nat (i := xi) hxi
  refine lv_aload_n hx hb dL_law_254 rfl (lv_at hl 1 rfl) ?_
  obtain ⟨r9, σ1, φ1, N1, e1, e13, e2, hr1⟩ := cl_text hrel 
  refine cl_Vi (z := z) (A := kA s) (rest := []) hC hK hSK (c_X6_text l z σ h1 g1  (r9, σ1) e1) k_X6_text mw_2_43 ⟨rfl, rfl, (Nat.le_of_ble_eq_true rfl), (Nat.le_of_ble_eq_true rfl)⟩ (rv_HeelDance hK hT g1) hT rfl hl.1 rfl (Nat.le_of_ble_eq_true rfl) dL_law_255 ⟨(Nat.le_of_ble_eq_true rfl), (Nat.le_of_ble_eq_true rfl)⟩ hS hAA hNA (fun r255 H locs hpo hS => ?_)
  obtain ⟨σq, he1, hT⟩ := hpo
  obtain ⟨er1, es1⟩ := Prod.mk.inj (Option.some.inj he1)
  rw [es1] at hT
  refine lv_pop hx hb dL_law_258 rfl ?_
  refine lv_aload_n hx hb dL_law_259 rfl (lv_at hl 2 rfl) ?_
  refine cl_Vi (z := z) (A := kA s) (rest := []) hC hK hSK (c_X7_text l z σ1 h2 13 g2  (r9, φ1) (by rw [e13]; exact e2)) k_X7_text mw_4_161 ⟨rfl, rfl, (Nat.le_of_ble_eq_true rfl), (Nat.le_of_ble_eq_true rfl)⟩ (rv_Model hK hT g2) hT rfl hl.1 rfl (Nat.le_of_ble_eq_true rfl) dL_law_260 ⟨(Nat.le_of_ble_eq_true rfl), (Nat.le_of_ble_eq_true rfl)⟩ hS hAA hNA (fun r260 H locs hpo hS => ?_)
  obtain ⟨σ2, he2, hf2, hT⟩ := hpo
  obtain ⟨er2, es2⟩ := Prod.mk.inj (Option.some.inj he2)
  have hs2 : gset σ1 13 φ1 = σ2 := by rw [← es2]; exact FR_eq hf2
  rw [hs2] at hr1
  refine lv_pop hx hb dL_law_263 rfl ?_
  refine lv_goto (tgt := 1334) hx hb dL_law_264 (by decide) ?_
  exact kont _ _ _ _ hT hr1 hS
set_option maxHeartbeats 4000000 in
set_option maxRecDepth 100000 in
theorem lc_3 {p : Program} {l : Launch} {e : Env} {s : State} {m : MethodId} {below : List Frame} {meth : Method} {c : Code} {b L : Nat} {xs : Nat → Int32} {z : Zt} {h1 h2 : Nat} (C : LwC p s m meth c b L xs z h1 h2) {xi : Int32} (hxi : 0 ≤ xi.toInt) (hxL : xi.toInt + 5 ≤ L) {N : Nat} {σ : Sg} {H : Heap} {locs : List Loc} {ls : Array Slot} (hT : TY z (zA z) σ H) (hrel : rlS N σ) (hS : va_S (kA s) s.heap H locs) (hl : lv_has ls 4 [(0, .ref b), (1, .ref h1), (2, .ref h2), (3, .int xi)]) (kont : ∀ (N : Nat) (σ : Sg) (H : Heap) (locs : List Loc), TY z (zA z) σ H → rlS N σ → va_S (kA s) s.heap H locs → LW p l e s m below meth c b H locs 1334 ls []) : LW p l e s m below meth c b H locs 267 ls [] := by
  obtain ⟨hx, hb, hr, hml, hown, hts, hX, hbl, hlk, hK, hSK, hAA, g1, g2, hL⟩ := id C
  have hC : CallFix p m c cL_law 4 s #[Value.ref b] lw_ok RL := ⟨hx, hb, hml, hown, hts⟩
  have hbA : ¬ kA s b := Nat.not_le.mpr hbl
  have hNA : ∀ q, q < s.heap.size → ¬ zA z q → ¬ kA s q := fun q h _ h2 => absurd h (Nat.not_lt.mpr h2)
  have nxi := ix_nat (i := xi) hxi
  refine lv_aload_n hx hb dL_law_267 rfl (lv_at hl 1 rfl) ?_
  obtain ⟨r9, e1, e2⟩ := cl_fault hrel 
  refine cl_Vi (z := z) (A := kA s) (rest := []) hC hK hSK (c_X6_fault l z σ h1 g1  r9 e1) k_X6_fault mw_2_208 ⟨rfl, rfl, (Nat.le_of_ble_eq_true rfl), (Nat.le_of_ble_eq_true rfl)⟩ (rv_HeelDance hK hT g1) hT rfl hl.1 rfl (Nat.le_of_ble_eq_true rfl) dL_law_268 ⟨(Nat.le_of_ble_eq_true rfl), (Nat.le_of_ble_eq_true rfl)⟩ hS hAA hNA (fun r268 H locs hpo hS => ?_)
  obtain ⟨he1, hT⟩ := hpo
  have er1 := Option.some.inj he1
  refine lv_pop hx hb dL_law_271 rfl ?_
  refine lv_aload_n hx hb dL_law_272 rfl (lv_at hl 2 rfl) ?_
  refine cl_Vi (z := z) (A := kA s) (rest := []) hC hK hSK (c_X7_fault l z σ h2 13 g2  r9 e2) k_X7_fault mw_4_221 ⟨rfl, rfl, (Nat.le_of_ble_eq_true rfl), (Nat.le_of_ble_eq_true rfl)⟩ (rv_Model hK hT g2) hT rfl hl.1 rfl (Nat.le_of_ble_eq_true rfl) dL_law_273 ⟨(Nat.le_of_ble_eq_true rfl), (Nat.le_of_ble_eq_true rfl)⟩ hS hAA hNA (fun r273 H locs hpo hS => ?_)
  obtain ⟨he2, hT⟩ := hpo
  have er2 := Option.some.inj he2
  refine lv_pop hx hb dL_law_276 rfl ?_
  refine lv_goto (tgt := 1334) hx hb dL_law_277 (by decide) ?_
  exact kont _ _ _ _ hT hrel hS
set_option maxHeartbeats 4000000 in
set_option maxRecDepth 100000 in
theorem lc_4 {p : Program} {l : Launch} {e : Env} {s : State} {m : MethodId} {below : List Frame} {meth : Method} {c : Code} {b L : Nat} {xs : Nat → Int32} {z : Zt} {h1 h2 : Nat} (C : LwC p s m meth c b L xs z h1 h2) {xi : Int32} (hxi : 0 ≤ xi.toInt) (hxL : xi.toInt + 5 ≤ L) {N : Nat} {σ : Sg} {H : Heap} {locs : List Loc} {ls : Array Slot} (hT : TY z (zA z) σ H) (hrel : rlS N σ) (hS : va_S (kA s) s.heap H locs) (hl : lv_has ls 4 [(0, .ref b), (1, .ref h1), (2, .ref h2), (3, .int xi)]) (kont : ∀ (N : Nat) (σ : Sg) (H : Heap) (locs : List Loc), TY z (zA z) σ H → rlS N σ → va_S (kA s) s.heap H locs → LW p l e s m below meth c b H locs 1334 ls []) : LW p l e s m below meth c b H locs 280 ls [] := by
  obtain ⟨hx, hb, hr, hml, hown, hts, hX, hbl, hlk, hK, hSK, hAA, g1, g2, hL⟩ := id C
  have hC : CallFix p m c cL_law 4 s #[Value.ref b] lw_ok RL := ⟨hx, hb, hml, hown, hts⟩
  have hbA : ¬ kA s b := Nat.not_le.mpr hbl
  have hNA : ∀ q, q < s.heap.size → ¬ zA z q → ¬ kA s q := fun q h _ h2 => absurd h (Nat.not_lt.mpr h2)
  have nxi := ix_nat (i := xi) hxi
  refine lv_aload_n hx hb dL_law_280 rfl (lv_at hl 1 rfl) ?_
  refine lv_aload_n hx hb dL_law_281 rfl (lv_at hl 0 rfl) ?_
  refine lv_iload_n hx hb dL_law_282 rfl (lv_at hl 3 rfl) ?_
  refine r_iconst hx hb dL_law_283 (by decide) (by decide) (fun x283 e283 => ?_)
  refine r_iadd hx hb dL_law_284 (by omega) (by omega) (fun x284 e284 => ?_)
  refine sldJ hx hb hX hbl hbA hS (xi.toNatClampNeg + 1) (by omega) (by omega) dL_law_285 ?_
  obtain ⟨r9, φ1, N1, e1, e2, hr1⟩ := cl_rule hrel (xs (xi.toNatClampNeg + 1)).toInt
  refine cl_Vi (z := z) (A := kA s) (rest := []) hC hK hSK (c_X6_rule l z σ h1 g1 (xs (xi.toNatClampNeg + 1)) r9 e1) k_X6_rule mw_2_212 ⟨rfl, rfl, (Nat.le_of_ble_eq_true rfl), (Nat.le_of_ble_eq_true rfl)⟩ (rv_HeelDance hK hT g1) hT rfl hl.1 rfl (Nat.le_of_ble_eq_true rfl) dL_law_286 ⟨(Nat.le_of_ble_eq_true rfl), (Nat.le_of_ble_eq_true rfl)⟩ hS hAA hNA (fun r286 H locs hpo hS => ?_)
  obtain ⟨he1, hT⟩ := hpo
  have er1 := Option.some.inj he1
  refine lv_pop hx hb dL_law_289 rfl ?_
  refine lv_aload_n hx hb dL_law_290 rfl (lv_at hl 2 rfl) ?_
  refine lv_aload_n hx hb dL_law_291 rfl (lv_at hl 0 rfl) ?_
  refine lv_iload_n hx hb dL_law_292 rfl (lv_at hl 3 rfl) ?_
  refine r_iconst hx hb dL_law_293 (by decide) (by decide) (fun x293 e293 => ?_)
  refine r_iadd hx hb dL_law_294 (by omega) (by omega) (fun x294 e294 => ?_)
  refine sldJ hx hb hX hbl hbA hS (xi.toNatClampNeg + 1) (by omega) (by omega) dL_law_295 ?_
  refine cl_Vi (z := z) (A := kA s) (rest := []) hC hK hSK (c_X7_rule l z σ h2 13 g2 (xs (xi.toNatClampNeg + 1)) (r9, φ1) e2) k_X7_rule mw_4_225 ⟨rfl, rfl, (Nat.le_of_ble_eq_true rfl), (Nat.le_of_ble_eq_true rfl)⟩ (rv_Model hK hT g2) hT rfl hl.1 rfl (Nat.le_of_ble_eq_true rfl) dL_law_296 ⟨(Nat.le_of_ble_eq_true rfl), (Nat.le_of_ble_eq_true rfl)⟩ hS hAA hNA (fun r296 H locs hpo hS => ?_)
  obtain ⟨σ2, he2, hf2, hT⟩ := hpo
  obtain ⟨er2, es2⟩ := Prod.mk.inj (Option.some.inj he2)
  have hs2 : gset σ 13 φ1 = σ2 := by rw [← es2]; exact FR_eq hf2
  rw [hs2] at hr1
  refine lv_pop hx hb dL_law_299 rfl ?_
  refine lv_goto (tgt := 1334) hx hb dL_law_300 (by decide) ?_
  exact kont _ _ _ _ hT hr1 hS
set_option maxHeartbeats 4000000 in
set_option maxRecDepth 100000 in
theorem lc_5 {p : Program} {l : Launch} {e : Env} {s : State} {m : MethodId} {below : List Frame} {meth : Method} {c : Code} {b L : Nat} {xs : Nat → Int32} {z : Zt} {h1 h2 : Nat} (C : LwC p s m meth c b L xs z h1 h2) {xi : Int32} (hxi : 0 ≤ xi.toInt) (hxL : xi.toInt + 5 ≤ L) {N : Nat} {σ : Sg} {H : Heap} {locs : List Loc} {ls : Array Slot} (hT : TY z (zA z) σ H) (hrel : rlS N σ) (hS : va_S (kA s) s.heap H locs) (hl : lv_has ls 4 [(0, .ref b), (1, .ref h1), (2, .ref h2), (3, .int xi)]) (kont : ∀ (N : Nat) (σ : Sg) (H : Heap) (locs : List Loc), TY z (zA z) σ H → rlS N σ → va_S (kA s) s.heap H locs → LW p l e s m below meth c b H locs 1334 ls []) : LW p l e s m below meth c b H locs 303 ls [] := by
  obtain ⟨hx, hb, hr, hml, hown, hts, hX, hbl, hlk, hK, hSK, hAA, g1, g2, hL⟩ := id C
  have hC : CallFix p m c cL_law 4 s #[Value.ref b] lw_ok RL := ⟨hx, hb, hml, hown, hts⟩
  have hbA : ¬ kA s b := Nat.not_le.mpr hbl
  have hNA : ∀ q, q < s.heap.size → ¬ zA z q → ¬ kA s q := fun q h _ h2 => absurd h (Nat.not_lt.mpr h2)
  have nxi := ix_nat (i := xi) hxi
  refine lv_aload_n hx hb dL_law_303 rfl (lv_at hl 1 rfl) ?_
  refine lv_aload_n hx hb dL_law_304 rfl (lv_at hl 0 rfl) ?_
  refine lv_iload_n hx hb dL_law_305 rfl (lv_at hl 3 rfl) ?_
  refine r_iconst hx hb dL_law_306 (by decide) (by decide) (fun x306 e306 => ?_)
  refine r_iadd hx hb dL_law_307 (by omega) (by omega) (fun x307 e307 => ?_)
  refine sldJ hx hb hX hbl hbA hS (xi.toNatClampNeg + 1) (by omega) (by omega) dL_law_308 ?_
  refine lv_aload_n hx hb dL_law_309 rfl (lv_at hl 0 rfl) ?_
  refine lv_iload_n hx hb dL_law_310 rfl (lv_at hl 3 rfl) ?_
  refine r_iconst hx hb dL_law_311 (by decide) (by decide) (fun x311 e311 => ?_)
  refine r_iadd hx hb dL_law_312 (by omega) (by omega) (fun x312 e312 => ?_)
  refine sldJ hx hb hX hbl hbA hS (xi.toNatClampNeg + 2) (by omega) (by omega) dL_law_313 ?_
  obtain ⟨r9, σ1, φ1, N1, e1, e13, e2, hr1⟩ := cl_man hrel (xs (xi.toNatClampNeg + 1)).toInt (xs (xi.toNatClampNeg + 2)).toInt
  refine cl_Vi (z := z) (A := kA s) (rest := []) hC hK hSK (c_X6_man l z σ h1 g1 (xs (xi.toNatClampNeg + 1)) (xs (xi.toNatClampNeg + 2)) (r9, σ1) e1) k_X6_man mw_2_221 ⟨rfl, rfl, (Nat.le_of_ble_eq_true rfl), (Nat.le_of_ble_eq_true rfl)⟩ (rv_HeelDance hK hT g1) hT rfl hl.1 rfl (Nat.le_of_ble_eq_true rfl) dL_law_314 ⟨(Nat.le_of_ble_eq_true rfl), (Nat.le_of_ble_eq_true rfl)⟩ hS hAA hNA (fun r314 H locs hpo hS => ?_)
  obtain ⟨σq, he1, hT⟩ := hpo
  obtain ⟨er1, es1⟩ := Prod.mk.inj (Option.some.inj he1)
  rw [es1] at hT
  refine lv_pop hx hb dL_law_317 rfl ?_
  refine lv_aload_n hx hb dL_law_318 rfl (lv_at hl 2 rfl) ?_
  refine lv_aload_n hx hb dL_law_319 rfl (lv_at hl 0 rfl) ?_
  refine lv_iload_n hx hb dL_law_320 rfl (lv_at hl 3 rfl) ?_
  refine r_iconst hx hb dL_law_321 (by decide) (by decide) (fun x321 e321 => ?_)
  refine r_iadd hx hb dL_law_322 (by omega) (by omega) (fun x322 e322 => ?_)
  refine sldJ hx hb hX hbl hbA hS (xi.toNatClampNeg + 1) (by omega) (by omega) dL_law_323 ?_
  refine lv_aload_n hx hb dL_law_324 rfl (lv_at hl 0 rfl) ?_
  refine lv_iload_n hx hb dL_law_325 rfl (lv_at hl 3 rfl) ?_
  refine r_iconst hx hb dL_law_326 (by decide) (by decide) (fun x326 e326 => ?_)
  refine r_iadd hx hb dL_law_327 (by omega) (by omega) (fun x327 e327 => ?_)
  refine sldJ hx hb hX hbl hbA hS (xi.toNatClampNeg + 2) (by omega) (by omega) dL_law_328 ?_
  refine cl_Vi (z := z) (A := kA s) (rest := []) hC hK hSK (c_X7_man l z σ1 h2 13 g2 (xs (xi.toNatClampNeg + 1)) (xs (xi.toNatClampNeg + 2)) (r9, φ1) (by rw [e13]; exact e2)) k_X7_man mw_5_7 ⟨rfl, rfl, (Nat.le_of_ble_eq_true rfl), (Nat.le_of_ble_eq_true rfl)⟩ (rv_Model hK hT g2) hT rfl hl.1 rfl (Nat.le_of_ble_eq_true rfl) dL_law_329 ⟨(Nat.le_of_ble_eq_true rfl), (Nat.le_of_ble_eq_true rfl)⟩ hS hAA hNA (fun r329 H locs hpo hS => ?_)
  obtain ⟨σ2, he2, hf2, hT⟩ := hpo
  obtain ⟨er2, es2⟩ := Prod.mk.inj (Option.some.inj he2)
  have hs2 : gset σ1 13 φ1 = σ2 := by rw [← es2]; exact FR_eq hf2
  rw [hs2] at hr1
  refine lv_pop hx hb dL_law_332 rfl ?_
  refine lv_goto (tgt := 1334) hx hb dL_law_333 (by decide) ?_
  exact kont _ _ _ _ hT hr1 hS
set_option maxHeartbeats 4000000 in
set_option maxRecDepth 100000 in
theorem lc_6 {p : Program} {l : Launch} {e : Env} {s : State} {m : MethodId} {below : List Frame} {meth : Method} {c : Code} {b L : Nat} {xs : Nat → Int32} {z : Zt} {h1 h2 : Nat} (C : LwC p s m meth c b L xs z h1 h2) {xi : Int32} (hxi : 0 ≤ xi.toInt) (hxL : xi.toInt + 5 ≤ L) {N : Nat} {σ : Sg} {H : Heap} {locs : List Loc} {ls : Array Slot} (hT : TY z (zA z) σ H) (hrel : rlS N σ) (hS : va_S (kA s) s.heap H locs) (hl : lv_has ls 4 [(0, .ref b), (1, .ref h1), (2, .ref h2), (3, .int xi)]) (kont : ∀ (N : Nat) (σ : Sg) (H : Heap) (locs : List Loc), TY z (zA z) σ H → rlS N σ → va_S (kA s) s.heap H locs → LW p l e s m below meth c b H locs 1334 ls []) : LW p l e s m below meth c b H locs 336 ls [] := by
  obtain ⟨hx, hb, hr, hml, hown, hts, hX, hbl, hlk, hK, hSK, hAA, g1, g2, hL⟩ := id C
  have hC : CallFix p m c cL_law 4 s #[Value.ref b] lw_ok RL := ⟨hx, hb, hml, hown, hts⟩
  have hbA : ¬ kA s b := Nat.not_le.mpr hbl
  have hNA : ∀ q, q < s.heap.size → ¬ zA z q → ¬ kA s q := fun q h _ h2 => absurd h (Nat.not_lt.mpr h2)
  have nxi := ix_nat (i := xi) hxi
  refine lv_aload_n hx hb dL_law_336 rfl (lv_at hl 1 rfl) ?_
  refine lv_aload_n hx hb dL_law_337 rfl (lv_at hl 0 rfl) ?_
  refine lv_iload_n hx hb dL_law_338 rfl (lv_at hl 3 rfl) ?_
  refine r_iconst hx hb dL_law_339 (by decide) (by decide) (fun x339 e339 => ?_)
  refine r_iadd hx hb dL_law_340 (by omega) (by omega) (fun x340 e340 => ?_)
  refine sldJ hx hb hX hbl hbA hS (xi.toNatClampNeg + 1) (by omega) (by omega) dL_law_341 ?_
  obtain ⟨r9, e1, e2⟩ := cl_woman hrel (xs (xi.toNatClampNeg + 1)).toInt
  refine cl_Vi (z := z) (A := kA s) (rest := []) hC hK hSK (c_X6_woman l z σ h1 g1 (xs (xi.toNatClampNeg + 1)) r9 e1) k_X6_woman mw_3_6 ⟨rfl, rfl, (Nat.le_of_ble_eq_true rfl), (Nat.le_of_ble_eq_true rfl)⟩ (rv_HeelDance hK hT g1) hT rfl hl.1 rfl (Nat.le_of_ble_eq_true rfl) dL_law_342 ⟨(Nat.le_of_ble_eq_true rfl), (Nat.le_of_ble_eq_true rfl)⟩ hS hAA hNA (fun r342 H locs hpo hS => ?_)
  obtain ⟨he1, hT⟩ := hpo
  have er1 := Option.some.inj he1
  refine lv_pop hx hb dL_law_345 rfl ?_
  refine lv_aload_n hx hb dL_law_346 rfl (lv_at hl 2 rfl) ?_
  refine lv_aload_n hx hb dL_law_347 rfl (lv_at hl 0 rfl) ?_
  refine lv_iload_n hx hb dL_law_348 rfl (lv_at hl 3 rfl) ?_
  refine r_iconst hx hb dL_law_349 (by decide) (by decide) (fun x349 e349 => ?_)
  refine r_iadd hx hb dL_law_350 (by omega) (by omega) (fun x350 e350 => ?_)
  refine sldJ hx hb hX hbl hbA hS (xi.toNatClampNeg + 1) (by omega) (by omega) dL_law_351 ?_
  refine cl_Vi (z := z) (A := kA s) (rest := []) hC hK hSK (c_X7_woman l z σ h2 13 g2 (xs (xi.toNatClampNeg + 1)) r9 e2) k_X7_woman mw_5_35 ⟨rfl, rfl, (Nat.le_of_ble_eq_true rfl), (Nat.le_of_ble_eq_true rfl)⟩ (rv_Model hK hT g2) hT rfl hl.1 rfl (Nat.le_of_ble_eq_true rfl) dL_law_352 ⟨(Nat.le_of_ble_eq_true rfl), (Nat.le_of_ble_eq_true rfl)⟩ hS hAA hNA (fun r352 H locs hpo hS => ?_)
  obtain ⟨he2, hT⟩ := hpo
  have er2 := Option.some.inj he2
  refine lv_pop hx hb dL_law_355 rfl ?_
  refine lv_goto (tgt := 1334) hx hb dL_law_356 (by decide) ?_
  exact kont _ _ _ _ hT hrel hS
set_option maxHeartbeats 4000000 in
set_option maxRecDepth 100000 in
theorem lc_7 {p : Program} {l : Launch} {e : Env} {s : State} {m : MethodId} {below : List Frame} {meth : Method} {c : Code} {b L : Nat} {xs : Nat → Int32} {z : Zt} {h1 h2 : Nat} (C : LwC p s m meth c b L xs z h1 h2) {xi : Int32} (hxi : 0 ≤ xi.toInt) (hxL : xi.toInt + 5 ≤ L) {N : Nat} {σ : Sg} {H : Heap} {locs : List Loc} {ls : Array Slot} (hT : TY z (zA z) σ H) (hrel : rlS N σ) (hS : va_S (kA s) s.heap H locs) (hl : lv_has ls 4 [(0, .ref b), (1, .ref h1), (2, .ref h2), (3, .int xi)]) (kont : ∀ (N : Nat) (σ : Sg) (H : Heap) (locs : List Loc), TY z (zA z) σ H → rlS N σ → va_S (kA s) s.heap H locs → LW p l e s m below meth c b H locs 1334 ls []) : LW p l e s m below meth c b H locs 359 ls [] := by
  obtain ⟨hx, hb, hr, hml, hown, hts, hX, hbl, hlk, hK, hSK, hAA, g1, g2, hL⟩ := id C
  have hC : CallFix p m c cL_law 4 s #[Value.ref b] lw_ok RL := ⟨hx, hb, hml, hown, hts⟩
  have hbA : ¬ kA s b := Nat.not_le.mpr hbl
  have hNA : ∀ q, q < s.heap.size → ¬ zA z q → ¬ kA s q := fun q h _ h2 => absurd h (Nat.not_lt.mpr h2)
  have nxi := ix_nat (i := xi) hxi
  refine lv_aload_n hx hb dL_law_359 rfl (lv_at hl 1 rfl) ?_
  refine lv_aload_n hx hb dL_law_360 rfl (lv_at hl 0 rfl) ?_
  refine lv_iload_n hx hb dL_law_361 rfl (lv_at hl 3 rfl) ?_
  refine r_iconst hx hb dL_law_362 (by decide) (by decide) (fun x362 e362 => ?_)
  refine r_iadd hx hb dL_law_363 (by omega) (by omega) (fun x363 e363 => ?_)
  refine sldJ hx hb hX hbl hbA hS (xi.toNatClampNeg + 1) (by omega) (by omega) dL_law_364 ?_
  obtain ⟨r9, σ1, φ1, N1, e1, e13, e2, hr1⟩ := cl_atr hrel (xs (xi.toNatClampNeg + 1)).toInt
  refine cl_Vi (z := z) (A := kA s) (rest := []) hC hK hSK (c_X6_at l z σ h1 g1 (xs (xi.toNatClampNeg + 1)) (r9, σ1) e1) k_X6_at mw_3_10 ⟨rfl, rfl, (Nat.le_of_ble_eq_true rfl), (Nat.le_of_ble_eq_true rfl)⟩ (rv_HeelDance hK hT g1) hT rfl hl.1 rfl (Nat.le_of_ble_eq_true rfl) dL_law_365 ⟨(Nat.le_of_ble_eq_true rfl), (Nat.le_of_ble_eq_true rfl)⟩ hS hAA hNA (fun r365 H locs hpo hS => ?_)
  obtain ⟨σq, he1, hT⟩ := hpo
  obtain ⟨er1, es1⟩ := Prod.mk.inj (Option.some.inj he1)
  rw [es1] at hT
  refine lv_pop hx hb dL_law_368 rfl ?_
  refine lv_aload_n hx hb dL_law_369 rfl (lv_at hl 2 rfl) ?_
  refine lv_aload_n hx hb dL_law_370 rfl (lv_at hl 0 rfl) ?_
  refine lv_iload_n hx hb dL_law_371 rfl (lv_at hl 3 rfl) ?_
  refine r_iconst hx hb dL_law_372 (by decide) (by decide) (fun x372 e372 => ?_)
  refine r_iadd hx hb dL_law_373 (by omega) (by omega) (fun x373 e373 => ?_)
  refine sldJ hx hb hX hbl hbA hS (xi.toNatClampNeg + 1) (by omega) (by omega) dL_law_374 ?_
  refine cl_Vi (z := z) (A := kA s) (rest := []) hC hK hSK (c_X7_at l z σ1 h2 13 g2 (xs (xi.toNatClampNeg + 1)) (r9, φ1) (by rw [e13]; exact e2)) k_X7_at mw_5_39 ⟨rfl, rfl, (Nat.le_of_ble_eq_true rfl), (Nat.le_of_ble_eq_true rfl)⟩ (rv_Model hK hT g2) hT rfl hl.1 rfl (Nat.le_of_ble_eq_true rfl) dL_law_375 ⟨(Nat.le_of_ble_eq_true rfl), (Nat.le_of_ble_eq_true rfl)⟩ hS hAA hNA (fun r375 H locs hpo hS => ?_)
  obtain ⟨σ2, he2, hf2, hT⟩ := hpo
  obtain ⟨er2, es2⟩ := Prod.mk.inj (Option.some.inj he2)
  have hs2 : gset σ1 13 φ1 = σ2 := by rw [← es2]; exact FR_eq hf2
  rw [hs2] at hr1
  refine lv_pop hx hb dL_law_378 rfl ?_
  refine lv_goto (tgt := 1334) hx hb dL_law_379 (by decide) ?_
  exact kont _ _ _ _ hT hr1 hS
set_option maxHeartbeats 4000000 in
set_option maxRecDepth 100000 in
theorem lc_8 {p : Program} {l : Launch} {e : Env} {s : State} {m : MethodId} {below : List Frame} {meth : Method} {c : Code} {b L : Nat} {xs : Nat → Int32} {z : Zt} {h1 h2 : Nat} (C : LwC p s m meth c b L xs z h1 h2) {xi : Int32} (hxi : 0 ≤ xi.toInt) (hxL : xi.toInt + 5 ≤ L) {N : Nat} {σ : Sg} {H : Heap} {locs : List Loc} {ls : Array Slot} (hT : TY z (zA z) σ H) (hrel : rlS N σ) (hS : va_S (kA s) s.heap H locs) (hl : lv_has ls 4 [(0, .ref b), (1, .ref h1), (2, .ref h2), (3, .int xi)]) (kont : ∀ (N : Nat) (σ : Sg) (H : Heap) (locs : List Loc), TY z (zA z) σ H → rlS N σ → va_S (kA s) s.heap H locs → LW p l e s m below meth c b H locs 1334 ls []) : LW p l e s m below meth c b H locs 382 ls [] := by
  obtain ⟨hx, hb, hr, hml, hown, hts, hX, hbl, hlk, hK, hSK, hAA, g1, g2, hL⟩ := id C
  have hC : CallFix p m c cL_law 4 s #[Value.ref b] lw_ok RL := ⟨hx, hb, hml, hown, hts⟩
  have hbA : ¬ kA s b := Nat.not_le.mpr hbl
  have hNA : ∀ q, q < s.heap.size → ¬ zA z q → ¬ kA s q := fun q h _ h2 => absurd h (Nat.not_lt.mpr h2)
  have nxi := ix_nat (i := xi) hxi
  refine lv_aload_n hx hb dL_law_382 rfl (lv_at hl 1 rfl) ?_
  refine lv_aload_n hx hb dL_law_383 rfl (lv_at hl 0 rfl) ?_
  refine lv_iload_n hx hb dL_law_384 rfl (lv_at hl 3 rfl) ?_
  refine r_iconst hx hb dL_law_385 (by decide) (by decide) (fun x385 e385 => ?_)
  refine r_iadd hx hb dL_law_386 (by omega) (by omega) (fun x386 e386 => ?_)
  refine sldJ hx hb hX hbl hbA hS (xi.toNatClampNeg + 1) (by omega) (by omega) dL_law_387 ?_
  obtain ⟨r9, e1, e2⟩ := cl_figure hrel (xs (xi.toNatClampNeg + 1)).toInt
  refine cl_Vi (z := z) (A := kA s) (rest := []) hC hK hSK (c_X6_figure l z σ h1 g1 (xs (xi.toNatClampNeg + 1)) r9 e1) k_X6_figure mw_3_14 ⟨rfl, rfl, (Nat.le_of_ble_eq_true rfl), (Nat.le_of_ble_eq_true rfl)⟩ (rv_HeelDance hK hT g1) hT rfl hl.1 rfl (Nat.le_of_ble_eq_true rfl) dL_law_388 ⟨(Nat.le_of_ble_eq_true rfl), (Nat.le_of_ble_eq_true rfl)⟩ hS hAA hNA (fun r388 H locs hpo hS => ?_)
  obtain ⟨he1, hT⟩ := hpo
  have er1 := Option.some.inj he1
  refine lv_pop hx hb dL_law_391 rfl ?_
  refine lv_aload_n hx hb dL_law_392 rfl (lv_at hl 2 rfl) ?_
  refine lv_aload_n hx hb dL_law_393 rfl (lv_at hl 0 rfl) ?_
  refine lv_iload_n hx hb dL_law_394 rfl (lv_at hl 3 rfl) ?_
  refine r_iconst hx hb dL_law_395 (by decide) (by decide) (fun x395 e395 => ?_)
  refine r_iadd hx hb dL_law_396 (by omega) (by omega) (fun x396 e396 => ?_)
  refine sldJ hx hb hX hbl hbA hS (xi.toNatClampNeg + 1) (by omega) (by omega) dL_law_397 ?_
  refine cl_Vi (z := z) (A := kA s) (rest := []) hC hK hSK (c_X7_figure l z σ h2 13 g2 (xs (xi.toNatClampNeg + 1)) r9 e2) k_X7_figure mw_5_47 ⟨rfl, rfl, (Nat.le_of_ble_eq_true rfl), (Nat.le_of_ble_eq_true rfl)⟩ (rv_Model hK hT g2) hT rfl hl.1 rfl (Nat.le_of_ble_eq_true rfl) dL_law_398 ⟨(Nat.le_of_ble_eq_true rfl), (Nat.le_of_ble_eq_true rfl)⟩ hS hAA hNA (fun r398 H locs hpo hS => ?_)
  obtain ⟨he2, hT⟩ := hpo
  have er2 := Option.some.inj he2
  refine lv_pop hx hb dL_law_401 rfl ?_
  refine lv_goto (tgt := 1334) hx hb dL_law_402 (by decide) ?_
  exact kont _ _ _ _ hT hrel hS
set_option maxHeartbeats 4000000 in
set_option maxRecDepth 100000 in
theorem lc_9 {p : Program} {l : Launch} {e : Env} {s : State} {m : MethodId} {below : List Frame} {meth : Method} {c : Code} {b L : Nat} {xs : Nat → Int32} {z : Zt} {h1 h2 : Nat} (C : LwC p s m meth c b L xs z h1 h2) {xi : Int32} (hxi : 0 ≤ xi.toInt) (hxL : xi.toInt + 5 ≤ L) {N : Nat} {σ : Sg} {H : Heap} {locs : List Loc} {ls : Array Slot} (hT : TY z (zA z) σ H) (hrel : rlS N σ) (hS : va_S (kA s) s.heap H locs) (hl : lv_has ls 4 [(0, .ref b), (1, .ref h1), (2, .ref h2), (3, .int xi)]) (kont : ∀ (N : Nat) (σ : Sg) (H : Heap) (locs : List Loc), TY z (zA z) σ H → rlS N σ → va_S (kA s) s.heap H locs → LW p l e s m below meth c b H locs 1334 ls []) : LW p l e s m below meth c b H locs 405 ls [] := by
  obtain ⟨hx, hb, hr, hml, hown, hts, hX, hbl, hlk, hK, hSK, hAA, g1, g2, hL⟩ := id C
  have hC : CallFix p m c cL_law 4 s #[Value.ref b] lw_ok RL := ⟨hx, hb, hml, hown, hts⟩
  have hbA : ¬ kA s b := Nat.not_le.mpr hbl
  have hNA : ∀ q, q < s.heap.size → ¬ zA z q → ¬ kA s q := fun q h _ h2 => absurd h (Nat.not_lt.mpr h2)
  have nxi := ix_nat (i := xi) hxi
  refine lv_aload_n hx hb dL_law_405 rfl (lv_at hl 1 rfl) ?_
  refine lv_aload_n hx hb dL_law_406 rfl (lv_at hl 0 rfl) ?_
  refine lv_iload_n hx hb dL_law_407 rfl (lv_at hl 3 rfl) ?_
  refine r_iconst hx hb dL_law_408 (by decide) (by decide) (fun x408 e408 => ?_)
  refine r_iadd hx hb dL_law_409 (by omega) (by omega) (fun x409 e409 => ?_)
  refine sldJ hx hb hX hbl hbA hS (xi.toNatClampNeg + 1) (by omega) (by omega) dL_law_410 ?_
  obtain ⟨r9, e1, e2⟩ := cl_cousins hrel (xs (xi.toNatClampNeg + 1)).toInt
  refine cl_Vi (z := z) (A := kA s) (rest := []) hC hK hSK (c_X6_cousins l z σ h1 g1 (xs (xi.toNatClampNeg + 1)) r9 e1) k_X6_cousins mw_3_18 ⟨rfl, rfl, (Nat.le_of_ble_eq_true rfl), (Nat.le_of_ble_eq_true rfl)⟩ (rv_HeelDance hK hT g1) hT rfl hl.1 rfl (Nat.le_of_ble_eq_true rfl) dL_law_411 ⟨(Nat.le_of_ble_eq_true rfl), (Nat.le_of_ble_eq_true rfl)⟩ hS hAA hNA (fun r411 H locs hpo hS => ?_)
  obtain ⟨he1, hT⟩ := hpo
  have er1 := Option.some.inj he1
  refine lv_pop hx hb dL_law_414 rfl ?_
  refine lv_aload_n hx hb dL_law_415 rfl (lv_at hl 2 rfl) ?_
  refine lv_aload_n hx hb dL_law_416 rfl (lv_at hl 0 rfl) ?_
  refine lv_iload_n hx hb dL_law_417 rfl (lv_at hl 3 rfl) ?_
  refine r_iconst hx hb dL_law_418 (by decide) (by decide) (fun x418 e418 => ?_)
  refine r_iadd hx hb dL_law_419 (by omega) (by omega) (fun x419 e419 => ?_)
  refine sldJ hx hb hX hbl hbA hS (xi.toNatClampNeg + 1) (by omega) (by omega) dL_law_420 ?_
  refine cl_Vi (z := z) (A := kA s) (rest := []) hC hK hSK (c_X7_cousins l z σ h2 13 g2 (xs (xi.toNatClampNeg + 1)) r9 e2) k_X7_cousins mw_5_51 ⟨rfl, rfl, (Nat.le_of_ble_eq_true rfl), (Nat.le_of_ble_eq_true rfl)⟩ (rv_Model hK hT g2) hT rfl hl.1 rfl (Nat.le_of_ble_eq_true rfl) dL_law_421 ⟨(Nat.le_of_ble_eq_true rfl), (Nat.le_of_ble_eq_true rfl)⟩ hS hAA hNA (fun r421 H locs hpo hS => ?_)
  obtain ⟨he2, hT⟩ := hpo
  have er2 := Option.some.inj he2
  refine lv_pop hx hb dL_law_424 rfl ?_
  refine lv_goto (tgt := 1334) hx hb dL_law_425 (by decide) ?_
  exact kont _ _ _ _ hT hrel hS
set_option maxHeartbeats 4000000 in
set_option maxRecDepth 100000 in
theorem lc_10 {p : Program} {l : Launch} {e : Env} {s : State} {m : MethodId} {below : List Frame} {meth : Method} {c : Code} {b L : Nat} {xs : Nat → Int32} {z : Zt} {h1 h2 : Nat} (C : LwC p s m meth c b L xs z h1 h2) {xi : Int32} (hxi : 0 ≤ xi.toInt) (hxL : xi.toInt + 5 ≤ L) {N : Nat} {σ : Sg} {H : Heap} {locs : List Loc} {ls : Array Slot} (hT : TY z (zA z) σ H) (hrel : rlS N σ) (hS : va_S (kA s) s.heap H locs) (hl : lv_has ls 4 [(0, .ref b), (1, .ref h1), (2, .ref h2), (3, .int xi)]) (kont : ∀ (N : Nat) (σ : Sg) (H : Heap) (locs : List Loc), TY z (zA z) σ H → rlS N σ → va_S (kA s) s.heap H locs → LW p l e s m below meth c b H locs 1334 ls []) : LW p l e s m below meth c b H locs 428 ls [] := by
  obtain ⟨hx, hb, hr, hml, hown, hts, hX, hbl, hlk, hK, hSK, hAA, g1, g2, hL⟩ := id C
  have hC : CallFix p m c cL_law 4 s #[Value.ref b] lw_ok RL := ⟨hx, hb, hml, hown, hts⟩
  have hbA : ¬ kA s b := Nat.not_le.mpr hbl
  have hNA : ∀ q, q < s.heap.size → ¬ zA z q → ¬ kA s q := fun q h _ h2 => absurd h (Nat.not_lt.mpr h2)
  have nxi := ix_nat (i := xi) hxi
  refine lv_aload_n hx hb dL_law_428 rfl (lv_at hl 1 rfl) ?_
  refine lv_aload_n hx hb dL_law_429 rfl (lv_at hl 0 rfl) ?_
  refine lv_iload_n hx hb dL_law_430 rfl (lv_at hl 3 rfl) ?_
  refine r_iconst hx hb dL_law_431 (by decide) (by decide) (fun x431 e431 => ?_)
  refine r_iadd hx hb dL_law_432 (by omega) (by omega) (fun x432 e432 => ?_)
  refine sldJ hx hb hX hbl hbA hS (xi.toNatClampNeg + 1) (by omega) (by omega) dL_law_433 ?_
  refine lv_aload_n hx hb dL_law_434 rfl (lv_at hl 0 rfl) ?_
  refine lv_iload_n hx hb dL_law_435 rfl (lv_at hl 3 rfl) ?_
  refine r_iconst hx hb dL_law_436 (by decide) (by decide) (fun x436 e436 => ?_)
  refine r_iadd hx hb dL_law_437 (by omega) (by omega) (fun x437 e437 => ?_)
  refine sldJ hx hb hX hbl hbA hS (xi.toNatClampNeg + 2) (by omega) (by omega) dL_law_438 ?_
  refine lv_aload_n hx hb dL_law_439 rfl (lv_at hl 0 rfl) ?_
  refine lv_iload_n hx hb dL_law_440 rfl (lv_at hl 3 rfl) ?_
  refine r_iconst hx hb dL_law_441 (by decide) (by decide) (fun x441 e441 => ?_)
  refine r_iadd hx hb dL_law_442 (by omega) (by omega) (fun x442 e442 => ?_)
  refine sldJ hx hb hX hbl hbA hS (xi.toNatClampNeg + 3) (by omega) (by omega) dL_law_443 ?_
  obtain ⟨r9, σ1, φ1, N1, e1, e13, e2, hr1⟩ := cl_alter hrel (xs (xi.toNatClampNeg + 1)).toInt (xs (xi.toNatClampNeg + 2)).toInt (xs (xi.toNatClampNeg + 3)).toInt
  refine cl_Vi (z := z) (A := kA s) (rest := []) hC hK hSK (c_X6_alter l z σ h1 g1 (xs (xi.toNatClampNeg + 1)) (xs (xi.toNatClampNeg + 2)) (xs (xi.toNatClampNeg + 3)) (r9, σ1) e1) k_X6_alter mw_3_22 ⟨rfl, rfl, (Nat.le_of_ble_eq_true rfl), (Nat.le_of_ble_eq_true rfl)⟩ (rv_HeelDance hK hT g1) hT rfl hl.1 rfl (Nat.le_of_ble_eq_true rfl) dL_law_444 ⟨(Nat.le_of_ble_eq_true rfl), (Nat.le_of_ble_eq_true rfl)⟩ hS hAA hNA (fun r444 H locs hpo hS => ?_)
  obtain ⟨σq, he1, hT⟩ := hpo
  obtain ⟨er1, es1⟩ := Prod.mk.inj (Option.some.inj he1)
  rw [es1] at hT
  refine lv_pop hx hb dL_law_447 rfl ?_
  refine lv_aload_n hx hb dL_law_448 rfl (lv_at hl 2 rfl) ?_
  refine lv_aload_n hx hb dL_law_449 rfl (lv_at hl 0 rfl) ?_
  refine lv_iload_n hx hb dL_law_450 rfl (lv_at hl 3 rfl) ?_
  refine r_iconst hx hb dL_law_451 (by decide) (by decide) (fun x451 e451 => ?_)
  refine r_iadd hx hb dL_law_452 (by omega) (by omega) (fun x452 e452 => ?_)
  refine sldJ hx hb hX hbl hbA hS (xi.toNatClampNeg + 1) (by omega) (by omega) dL_law_453 ?_
  refine lv_aload_n hx hb dL_law_454 rfl (lv_at hl 0 rfl) ?_
  refine lv_iload_n hx hb dL_law_455 rfl (lv_at hl 3 rfl) ?_
  refine r_iconst hx hb dL_law_456 (by decide) (by decide) (fun x456 e456 => ?_)
  refine r_iadd hx hb dL_law_457 (by omega) (by omega) (fun x457 e457 => ?_)
  refine sldJ hx hb hX hbl hbA hS (xi.toNatClampNeg + 2) (by omega) (by omega) dL_law_458 ?_
  refine lv_aload_n hx hb dL_law_459 rfl (lv_at hl 0 rfl) ?_
  refine lv_iload_n hx hb dL_law_460 rfl (lv_at hl 3 rfl) ?_
  refine r_iconst hx hb dL_law_461 (by decide) (by decide) (fun x461 e461 => ?_)
  refine r_iadd hx hb dL_law_462 (by omega) (by omega) (fun x462 e462 => ?_)
  refine sldJ hx hb hX hbl hbA hS (xi.toNatClampNeg + 3) (by omega) (by omega) dL_law_463 ?_
  refine cl_Vi (z := z) (A := kA s) (rest := []) hC hK hSK (c_X7_alter l z σ1 h2 13 g2 (xs (xi.toNatClampNeg + 1)) (xs (xi.toNatClampNeg + 2)) (xs (xi.toNatClampNeg + 3)) (r9, φ1) (by rw [e13]; exact e2)) k_X7_alter mw_5_55 ⟨rfl, rfl, (Nat.le_of_ble_eq_true rfl), (Nat.le_of_ble_eq_true rfl)⟩ (rv_Model hK hT g2) hT rfl hl.1 rfl (Nat.le_of_ble_eq_true rfl) dL_law_464 ⟨(Nat.le_of_ble_eq_true rfl), (Nat.le_of_ble_eq_true rfl)⟩ hS hAA hNA (fun r464 H locs hpo hS => ?_)
  obtain ⟨σ2, he2, hf2, hT⟩ := hpo
  obtain ⟨er2, es2⟩ := Prod.mk.inj (Option.some.inj he2)
  have hs2 : gset σ1 13 φ1 = σ2 := by rw [← es2]; exact FR_eq hf2
  rw [hs2] at hr1
  refine lv_pop hx hb dL_law_467 rfl ?_
  refine lv_goto (tgt := 1334) hx hb dL_law_468 (by decide) ?_
  exact kont _ _ _ _ hT hr1 hS
set_option maxHeartbeats 4000000 in
set_option maxRecDepth 100000 in
theorem lc_11 {p : Program} {l : Launch} {e : Env} {s : State} {m : MethodId} {below : List Frame} {meth : Method} {c : Code} {b L : Nat} {xs : Nat → Int32} {z : Zt} {h1 h2 : Nat} (C : LwC p s m meth c b L xs z h1 h2) {xi : Int32} (hxi : 0 ≤ xi.toInt) (hxL : xi.toInt + 5 ≤ L) {N : Nat} {σ : Sg} {H : Heap} {locs : List Loc} {ls : Array Slot} (hT : TY z (zA z) σ H) (hrel : rlS N σ) (hS : va_S (kA s) s.heap H locs) (hl : lv_has ls 4 [(0, .ref b), (1, .ref h1), (2, .ref h2), (3, .int xi)]) (kont : ∀ (N : Nat) (σ : Sg) (H : Heap) (locs : List Loc), TY z (zA z) σ H → rlS N σ → va_S (kA s) s.heap H locs → LW p l e s m below meth c b H locs 1334 ls []) : LW p l e s m below meth c b H locs 471 ls [] := by
  obtain ⟨hx, hb, hr, hml, hown, hts, hX, hbl, hlk, hK, hSK, hAA, g1, g2, hL⟩ := id C
  have hC : CallFix p m c cL_law 4 s #[Value.ref b] lw_ok RL := ⟨hx, hb, hml, hown, hts⟩
  have hbA : ¬ kA s b := Nat.not_le.mpr hbl
  have hNA : ∀ q, q < s.heap.size → ¬ zA z q → ¬ kA s q := fun q h _ h2 => absurd h (Nat.not_lt.mpr h2)
  have nxi := ix_nat (i := xi) hxi
  refine lv_aload_n hx hb dL_law_471 rfl (lv_at hl 1 rfl) ?_
  refine lv_aload_n hx hb dL_law_472 rfl (lv_at hl 0 rfl) ?_
  refine lv_iload_n hx hb dL_law_473 rfl (lv_at hl 3 rfl) ?_
  refine r_iconst hx hb dL_law_474 (by decide) (by decide) (fun x474 e474 => ?_)
  refine r_iadd hx hb dL_law_475 (by omega) (by omega) (fun x475 e475 => ?_)
  refine sldJ hx hb hX hbl hbA hS (xi.toNatClampNeg + 1) (by omega) (by omega) dL_law_476 ?_
  refine lv_aload_n hx hb dL_law_477 rfl (lv_at hl 0 rfl) ?_
  refine lv_iload_n hx hb dL_law_478 rfl (lv_at hl 3 rfl) ?_
  refine r_iconst hx hb dL_law_479 (by decide) (by decide) (fun x479 e479 => ?_)
  refine r_iadd hx hb dL_law_480 (by omega) (by omega) (fun x480 e480 => ?_)
  refine sldJ hx hb hX hbl hbA hS (xi.toNatClampNeg + 2) (by omega) (by omega) dL_law_481 ?_
  obtain ⟨r9, σ1, φ1, N1, e1, e13, e2, hr1⟩ := cl_swap hrel (xs (xi.toNatClampNeg + 1)).toInt (xs (xi.toNatClampNeg + 2)).toInt
  refine cl_Vi (z := z) (A := kA s) (rest := []) hC hK hSK (c_X6_swap l z σ h1 g1 (xs (xi.toNatClampNeg + 1)) (xs (xi.toNatClampNeg + 2)) (r9, σ1) e1) k_X6_swap mw_3_30 ⟨rfl, rfl, (Nat.le_of_ble_eq_true rfl), (Nat.le_of_ble_eq_true rfl)⟩ (rv_HeelDance hK hT g1) hT rfl hl.1 rfl (Nat.le_of_ble_eq_true rfl) dL_law_482 ⟨(Nat.le_of_ble_eq_true rfl), (Nat.le_of_ble_eq_true rfl)⟩ hS hAA hNA (fun r482 H locs hpo hS => ?_)
  obtain ⟨σq, he1, hT⟩ := hpo
  obtain ⟨er1, es1⟩ := Prod.mk.inj (Option.some.inj he1)
  rw [es1] at hT
  refine lv_pop hx hb dL_law_485 rfl ?_
  refine lv_aload_n hx hb dL_law_486 rfl (lv_at hl 2 rfl) ?_
  refine lv_aload_n hx hb dL_law_487 rfl (lv_at hl 0 rfl) ?_
  refine lv_iload_n hx hb dL_law_488 rfl (lv_at hl 3 rfl) ?_
  refine r_iconst hx hb dL_law_489 (by decide) (by decide) (fun x489 e489 => ?_)
  refine r_iadd hx hb dL_law_490 (by omega) (by omega) (fun x490 e490 => ?_)
  refine sldJ hx hb hX hbl hbA hS (xi.toNatClampNeg + 1) (by omega) (by omega) dL_law_491 ?_
  refine lv_aload_n hx hb dL_law_492 rfl (lv_at hl 0 rfl) ?_
  refine lv_iload_n hx hb dL_law_493 rfl (lv_at hl 3 rfl) ?_
  refine r_iconst hx hb dL_law_494 (by decide) (by decide) (fun x494 e494 => ?_)
  refine r_iadd hx hb dL_law_495 (by omega) (by omega) (fun x495 e495 => ?_)
  refine sldJ hx hb hX hbl hbA hS (xi.toNatClampNeg + 2) (by omega) (by omega) dL_law_496 ?_
  refine cl_Vi (z := z) (A := kA s) (rest := []) hC hK hSK (c_X7_swap l z σ1 h2 13 g2 (xs (xi.toNatClampNeg + 1)) (xs (xi.toNatClampNeg + 2)) (r9, φ1) (by rw [e13]; exact e2)) k_X7_swap mw_5_65 ⟨rfl, rfl, (Nat.le_of_ble_eq_true rfl), (Nat.le_of_ble_eq_true rfl)⟩ (rv_Model hK hT g2) hT rfl hl.1 rfl (Nat.le_of_ble_eq_true rfl) dL_law_497 ⟨(Nat.le_of_ble_eq_true rfl), (Nat.le_of_ble_eq_true rfl)⟩ hS hAA hNA (fun r497 H locs hpo hS => ?_)
  obtain ⟨σ2, he2, hf2, hT⟩ := hpo
  obtain ⟨er2, es2⟩ := Prod.mk.inj (Option.some.inj he2)
  have hs2 : gset σ1 13 φ1 = σ2 := by rw [← es2]; exact FR_eq hf2
  rw [hs2] at hr1
  refine lv_pop hx hb dL_law_500 rfl ?_
  refine lv_goto (tgt := 1334) hx hb dL_law_501 (by decide) ?_
  exact kont _ _ _ _ hT hr1 hS
set_option maxHeartbeats 4000000 in
set_option maxRecDepth 100000 in
theorem lc_12 {p : Program} {l : Launch} {e : Env} {s : State} {m : MethodId} {below : List Frame} {meth : Method} {c : Code} {b L : Nat} {xs : Nat → Int32} {z : Zt} {h1 h2 : Nat} (C : LwC p s m meth c b L xs z h1 h2) {xi : Int32} (hxi : 0 ≤ xi.toInt) (hxL : xi.toInt + 5 ≤ L) {N : Nat} {σ : Sg} {H : Heap} {locs : List Loc} {ls : Array Slot} (hT : TY z (zA z) σ H) (hrel : rlS N σ) (hS : va_S (kA s) s.heap H locs) (hl : lv_has ls 4 [(0, .ref b), (1, .ref h1), (2, .ref h2), (3, .int xi)]) (kont : ∀ (N : Nat) (σ : Sg) (H : Heap) (locs : List Loc), TY z (zA z) σ H → rlS N σ → va_S (kA s) s.heap H locs → LW p l e s m below meth c b H locs 1334 ls []) : LW p l e s m below meth c b H locs 504 ls [] := by
  obtain ⟨hx, hb, hr, hml, hown, hts, hX, hbl, hlk, hK, hSK, hAA, g1, g2, hL⟩ := id C
  have hC : CallFix p m c cL_law 4 s #[Value.ref b] lw_ok RL := ⟨hx, hb, hml, hown, hts⟩
  have hbA : ¬ kA s b := Nat.not_le.mpr hbl
  have hNA : ∀ q, q < s.heap.size → ¬ zA z q → ¬ kA s q := fun q h _ h2 => absurd h (Nat.not_lt.mpr h2)
  have nxi := ix_nat (i := xi) hxi
  refine lv_aload_n hx hb dL_law_504 rfl (lv_at hl 1 rfl) ?_
  refine lv_aload_n hx hb dL_law_505 rfl (lv_at hl 0 rfl) ?_
  refine lv_iload_n hx hb dL_law_506 rfl (lv_at hl 3 rfl) ?_
  refine r_iconst hx hb dL_law_507 (by decide) (by decide) (fun x507 e507 => ?_)
  refine r_iadd hx hb dL_law_508 (by omega) (by omega) (fun x508 e508 => ?_)
  refine sldJ hx hb hX hbl hbA hS (xi.toNatClampNeg + 1) (by omega) (by omega) dL_law_509 ?_
  refine lv_aload_n hx hb dL_law_510 rfl (lv_at hl 0 rfl) ?_
  refine lv_iload_n hx hb dL_law_511 rfl (lv_at hl 3 rfl) ?_
  refine r_iconst hx hb dL_law_512 (by decide) (by decide) (fun x512 e512 => ?_)
  refine r_iadd hx hb dL_law_513 (by omega) (by omega) (fun x513 e513 => ?_)
  refine sldJ hx hb hX hbl hbA hS (xi.toNatClampNeg + 2) (by omega) (by omega) dL_law_514 ?_
  refine lv_aload_n hx hb dL_law_515 rfl (lv_at hl 0 rfl) ?_
  refine lv_iload_n hx hb dL_law_516 rfl (lv_at hl 3 rfl) ?_
  refine r_iconst hx hb dL_law_517 (by decide) (by decide) (fun x517 e517 => ?_)
  refine r_iadd hx hb dL_law_518 (by omega) (by omega) (fun x518 e518 => ?_)
  refine sldJ hx hb hX hbl hbA hS (xi.toNatClampNeg + 3) (by omega) (by omega) dL_law_519 ?_
  refine r_if_eq (tgt := 527) hx hb dL_law_520 (by decide) (fun c520 => ?_) (fun c520 => ?_)
  · refine r_iconst hx hb dL_law_527 (by decide) (by decide) (fun x527 e527 => ?_)
    obtain ⟨r9, σ1, φ1, N1, e1, e13, e2, hr1⟩ := cl_kin hrel (xs (xi.toNatClampNeg + 1)).toInt (xs (xi.toNatClampNeg + 2)).toInt x527.toInt (by omega)
    refine cl_Vi (z := z) (A := kA s) (rest := []) hC hK hSK (c_X6_kin l z σ h1 g1 (xs (xi.toNatClampNeg + 1)) (xs (xi.toNatClampNeg + 2)) x527 (r9, σ1) e1 ⟨by omega, by omega⟩) k_X6_kin mw_3_34 ⟨rfl, rfl, (Nat.le_of_ble_eq_true rfl), (Nat.le_of_ble_eq_true rfl)⟩ (rv_HeelDance hK hT g1) hT rfl hl.1 rfl (Nat.le_of_ble_eq_true rfl) dL_law_528 ⟨(Nat.le_of_ble_eq_true rfl), (Nat.le_of_ble_eq_true rfl)⟩ hS hAA hNA (fun r528 H locs hpo hS => ?_)
    obtain ⟨σq, he1, hT⟩ := hpo
    obtain ⟨er1, es1⟩ := Prod.mk.inj (Option.some.inj he1)
    rw [es1] at hT
    refine lv_pop hx hb dL_law_531 rfl ?_
    refine lv_aload_n hx hb dL_law_532 rfl (lv_at hl 2 rfl) ?_
    refine lv_aload_n hx hb dL_law_533 rfl (lv_at hl 0 rfl) ?_
    refine lv_iload_n hx hb dL_law_534 rfl (lv_at hl 3 rfl) ?_
    refine r_iconst hx hb dL_law_535 (by decide) (by decide) (fun x535 e535 => ?_)
    refine r_iadd hx hb dL_law_536 (by omega) (by omega) (fun x536 e536 => ?_)
    refine sldJ hx hb hX hbl hbA hS (xi.toNatClampNeg + 1) (by omega) (by omega) dL_law_537 ?_
    refine lv_aload_n hx hb dL_law_538 rfl (lv_at hl 0 rfl) ?_
    refine lv_iload_n hx hb dL_law_539 rfl (lv_at hl 3 rfl) ?_
    refine r_iconst hx hb dL_law_540 (by decide) (by decide) (fun x540 e540 => ?_)
    refine r_iadd hx hb dL_law_541 (by omega) (by omega) (fun x541 e541 => ?_)
    refine sldJ hx hb hX hbl hbA hS (xi.toNatClampNeg + 2) (by omega) (by omega) dL_law_542 ?_
    refine lv_aload_n hx hb dL_law_543 rfl (lv_at hl 0 rfl) ?_
    refine lv_iload_n hx hb dL_law_544 rfl (lv_at hl 3 rfl) ?_
    refine r_iconst hx hb dL_law_545 (by decide) (by decide) (fun x545 e545 => ?_)
    refine r_iadd hx hb dL_law_546 (by omega) (by omega) (fun x546 e546 => ?_)
    refine sldJ hx hb hX hbl hbA hS (xi.toNatClampNeg + 3) (by omega) (by omega) dL_law_547 ?_
    refine r_if_eq (tgt := 555) hx hb dL_law_548 (by decide) (fun c548 => ?_) (fun c548 => ?_)
    · refine r_iconst hx hb dL_law_555 (by decide) (by decide) (fun x555 e555 => ?_)
      refine cl_Vi (z := z) (A := kA s) (rest := []) hC hK hSK (c_X7_kin l z σ1 h2 13 g2 (xs (xi.toNatClampNeg + 1)) (xs (xi.toNatClampNeg + 2)) x555 (r9, φ1) (by rw [e13, show x555.toInt = x527.toInt by omega]; exact e2) ⟨by omega, by omega⟩) k_X7_kin mw_5_69 ⟨rfl, rfl, (Nat.le_of_ble_eq_true rfl), (Nat.le_of_ble_eq_true rfl)⟩ (rv_Model hK hT g2) hT rfl hl.1 rfl (Nat.le_of_ble_eq_true rfl) dL_law_556 ⟨(Nat.le_of_ble_eq_true rfl), (Nat.le_of_ble_eq_true rfl)⟩ hS hAA hNA (fun r556 H locs hpo hS => ?_)
      obtain ⟨σ2, he2, hf2, hT⟩ := hpo
      obtain ⟨er2, es2⟩ := Prod.mk.inj (Option.some.inj he2)
      have hs2 : gset σ1 13 φ1 = σ2 := by rw [← es2]; exact FR_eq hf2
      rw [hs2] at hr1
      refine lv_pop hx hb dL_law_559 rfl ?_
      refine lv_goto (tgt := 1334) hx hb dL_law_560 (by decide) ?_
      exact kont _ _ _ _ hT hr1 hS
    · exfalso; omega
  · refine r_iconst hx hb dL_law_523 (by decide) (by decide) (fun x523 e523 => ?_)
    refine lv_goto (tgt := 528) hx hb dL_law_524 (by decide) ?_
    obtain ⟨r9, σ1, φ1, N1, e1, e13, e2, hr1⟩ := cl_kin hrel (xs (xi.toNatClampNeg + 1)).toInt (xs (xi.toNatClampNeg + 2)).toInt x523.toInt (by omega)
    refine cl_Vi (z := z) (A := kA s) (rest := []) hC hK hSK (c_X6_kin l z σ h1 g1 (xs (xi.toNatClampNeg + 1)) (xs (xi.toNatClampNeg + 2)) x523 (r9, σ1) e1 ⟨by omega, by omega⟩) k_X6_kin mw_3_34 ⟨rfl, rfl, (Nat.le_of_ble_eq_true rfl), (Nat.le_of_ble_eq_true rfl)⟩ (rv_HeelDance hK hT g1) hT rfl hl.1 rfl (Nat.le_of_ble_eq_true rfl) dL_law_528 ⟨(Nat.le_of_ble_eq_true rfl), (Nat.le_of_ble_eq_true rfl)⟩ hS hAA hNA (fun r528 H locs hpo hS => ?_)
    obtain ⟨σq, he1, hT⟩ := hpo
    obtain ⟨er1, es1⟩ := Prod.mk.inj (Option.some.inj he1)
    rw [es1] at hT
    refine lv_pop hx hb dL_law_531 rfl ?_
    refine lv_aload_n hx hb dL_law_532 rfl (lv_at hl 2 rfl) ?_
    refine lv_aload_n hx hb dL_law_533 rfl (lv_at hl 0 rfl) ?_
    refine lv_iload_n hx hb dL_law_534 rfl (lv_at hl 3 rfl) ?_
    refine r_iconst hx hb dL_law_535 (by decide) (by decide) (fun x535 e535 => ?_)
    refine r_iadd hx hb dL_law_536 (by omega) (by omega) (fun x536 e536 => ?_)
    refine sldJ hx hb hX hbl hbA hS (xi.toNatClampNeg + 1) (by omega) (by omega) dL_law_537 ?_
    refine lv_aload_n hx hb dL_law_538 rfl (lv_at hl 0 rfl) ?_
    refine lv_iload_n hx hb dL_law_539 rfl (lv_at hl 3 rfl) ?_
    refine r_iconst hx hb dL_law_540 (by decide) (by decide) (fun x540 e540 => ?_)
    refine r_iadd hx hb dL_law_541 (by omega) (by omega) (fun x541 e541 => ?_)
    refine sldJ hx hb hX hbl hbA hS (xi.toNatClampNeg + 2) (by omega) (by omega) dL_law_542 ?_
    refine lv_aload_n hx hb dL_law_543 rfl (lv_at hl 0 rfl) ?_
    refine lv_iload_n hx hb dL_law_544 rfl (lv_at hl 3 rfl) ?_
    refine r_iconst hx hb dL_law_545 (by decide) (by decide) (fun x545 e545 => ?_)
    refine r_iadd hx hb dL_law_546 (by omega) (by omega) (fun x546 e546 => ?_)
    refine sldJ hx hb hX hbl hbA hS (xi.toNatClampNeg + 3) (by omega) (by omega) dL_law_547 ?_
    refine r_if_eq (tgt := 555) hx hb dL_law_548 (by decide) (fun c548 => ?_) (fun c548 => ?_)
    · exfalso; omega
    · refine r_iconst hx hb dL_law_551 (by decide) (by decide) (fun x551 e551 => ?_)
      refine lv_goto (tgt := 556) hx hb dL_law_552 (by decide) ?_
      refine cl_Vi (z := z) (A := kA s) (rest := []) hC hK hSK (c_X7_kin l z σ1 h2 13 g2 (xs (xi.toNatClampNeg + 1)) (xs (xi.toNatClampNeg + 2)) x551 (r9, φ1) (by rw [e13, show x551.toInt = x523.toInt by omega]; exact e2) ⟨by omega, by omega⟩) k_X7_kin mw_5_69 ⟨rfl, rfl, (Nat.le_of_ble_eq_true rfl), (Nat.le_of_ble_eq_true rfl)⟩ (rv_Model hK hT g2) hT rfl hl.1 rfl (Nat.le_of_ble_eq_true rfl) dL_law_556 ⟨(Nat.le_of_ble_eq_true rfl), (Nat.le_of_ble_eq_true rfl)⟩ hS hAA hNA (fun r556 H locs hpo hS => ?_)
      obtain ⟨σ2, he2, hf2, hT⟩ := hpo
      obtain ⟨er2, es2⟩ := Prod.mk.inj (Option.some.inj he2)
      have hs2 : gset σ1 13 φ1 = σ2 := by rw [← es2]; exact FR_eq hf2
      rw [hs2] at hr1
      refine lv_pop hx hb dL_law_559 rfl ?_
      refine lv_goto (tgt := 1334) hx hb dL_law_560 (by decide) ?_
      exact kont _ _ _ _ hT hr1 hS
set_option maxHeartbeats 4000000 in
set_option maxRecDepth 100000 in
theorem lc_13 {p : Program} {l : Launch} {e : Env} {s : State} {m : MethodId} {below : List Frame} {meth : Method} {c : Code} {b L : Nat} {xs : Nat → Int32} {z : Zt} {h1 h2 : Nat} (C : LwC p s m meth c b L xs z h1 h2) {xi : Int32} (hxi : 0 ≤ xi.toInt) (hxL : xi.toInt + 5 ≤ L) {N : Nat} {σ : Sg} {H : Heap} {locs : List Loc} {ls : Array Slot} (hT : TY z (zA z) σ H) (hrel : rlS N σ) (hS : va_S (kA s) s.heap H locs) (hl : lv_has ls 4 [(0, .ref b), (1, .ref h1), (2, .ref h2), (3, .int xi)]) (kont : ∀ (N : Nat) (σ : Sg) (H : Heap) (locs : List Loc), TY z (zA z) σ H → rlS N σ → va_S (kA s) s.heap H locs → LW p l e s m below meth c b H locs 1334 ls []) : LW p l e s m below meth c b H locs 563 ls [] := by
  obtain ⟨hx, hb, hr, hml, hown, hts, hX, hbl, hlk, hK, hSK, hAA, g1, g2, hL⟩ := id C
  have hC : CallFix p m c cL_law 4 s #[Value.ref b] lw_ok RL := ⟨hx, hb, hml, hown, hts⟩
  have hbA : ¬ kA s b := Nat.not_le.mpr hbl
  have hNA : ∀ q, q < s.heap.size → ¬ zA z q → ¬ kA s q := fun q h _ h2 => absurd h (Nat.not_lt.mpr h2)
  have nxi := ix_nat (i := xi) hxi
  refine lv_aload_n hx hb dL_law_563 rfl (lv_at hl 1 rfl) ?_
  refine lv_aload_n hx hb dL_law_564 rfl (lv_at hl 0 rfl) ?_
  refine lv_iload_n hx hb dL_law_565 rfl (lv_at hl 3 rfl) ?_
  refine r_iconst hx hb dL_law_566 (by decide) (by decide) (fun x566 e566 => ?_)
  refine r_iadd hx hb dL_law_567 (by omega) (by omega) (fun x567 e567 => ?_)
  refine sldJ hx hb hX hbl hbA hS (xi.toNatClampNeg + 1) (by omega) (by omega) dL_law_568 ?_
  obtain ⟨r9, σ1, φ1, N1, e1, e13, e2, hr1⟩ := cl_plan hrel (xs (xi.toNatClampNeg + 1)).toInt
  refine cl_Vi (z := z) (A := kA s) (rest := []) hC hK hSK (c_X6_plan l z σ h1 g1 (xs (xi.toNatClampNeg + 1)) (r9, σ1) e1) k_X6_plan mw_3_39 ⟨rfl, rfl, (Nat.le_of_ble_eq_true rfl), (Nat.le_of_ble_eq_true rfl)⟩ (rv_HeelDance hK hT g1) hT rfl hl.1 rfl (Nat.le_of_ble_eq_true rfl) dL_law_569 ⟨(Nat.le_of_ble_eq_true rfl), (Nat.le_of_ble_eq_true rfl)⟩ hS hAA hNA (fun r569 H locs hpo hS => ?_)
  obtain ⟨σq, he1, hT⟩ := hpo
  obtain ⟨er1, es1⟩ := Prod.mk.inj (Option.some.inj he1)
  rw [es1] at hT
  refine lv_pop hx hb dL_law_572 rfl ?_
  refine lv_aload_n hx hb dL_law_573 rfl (lv_at hl 2 rfl) ?_
  refine lv_aload_n hx hb dL_law_574 rfl (lv_at hl 0 rfl) ?_
  refine lv_iload_n hx hb dL_law_575 rfl (lv_at hl 3 rfl) ?_
  refine r_iconst hx hb dL_law_576 (by decide) (by decide) (fun x576 e576 => ?_)
  refine r_iadd hx hb dL_law_577 (by omega) (by omega) (fun x577 e577 => ?_)
  refine sldJ hx hb hX hbl hbA hS (xi.toNatClampNeg + 1) (by omega) (by omega) dL_law_578 ?_
  refine cl_Vi (z := z) (A := kA s) (rest := []) hC hK hSK (c_X7_plan l z σ1 h2 13 g2 (xs (xi.toNatClampNeg + 1)) (r9, φ1) (by rw [e13]; exact e2)) k_X7_plan mw_5_73 ⟨rfl, rfl, (Nat.le_of_ble_eq_true rfl), (Nat.le_of_ble_eq_true rfl)⟩ (rv_Model hK hT g2) hT rfl hl.1 rfl (Nat.le_of_ble_eq_true rfl) dL_law_579 ⟨(Nat.le_of_ble_eq_true rfl), (Nat.le_of_ble_eq_true rfl)⟩ hS hAA hNA (fun r579 H locs hpo hS => ?_)
  obtain ⟨σ2, he2, hf2, hT⟩ := hpo
  obtain ⟨er2, es2⟩ := Prod.mk.inj (Option.some.inj he2)
  have hs2 : gset σ1 13 φ1 = σ2 := by rw [← es2]; exact FR_eq hf2
  rw [hs2] at hr1
  refine lv_pop hx hb dL_law_582 rfl ?_
  refine lv_goto (tgt := 1334) hx hb dL_law_583 (by decide) ?_
  exact kont _ _ _ _ hT hr1 hS
set_option maxHeartbeats 4000000 in
set_option maxRecDepth 100000 in
theorem lc_14 {p : Program} {l : Launch} {e : Env} {s : State} {m : MethodId} {below : List Frame} {meth : Method} {c : Code} {b L : Nat} {xs : Nat → Int32} {z : Zt} {h1 h2 : Nat} (C : LwC p s m meth c b L xs z h1 h2) {xi : Int32} (hxi : 0 ≤ xi.toInt) (hxL : xi.toInt + 5 ≤ L) {N : Nat} {σ : Sg} {H : Heap} {locs : List Loc} {ls : Array Slot} (hT : TY z (zA z) σ H) (hrel : rlS N σ) (hS : va_S (kA s) s.heap H locs) (hl : lv_has ls 4 [(0, .ref b), (1, .ref h1), (2, .ref h2), (3, .int xi)]) (kont : ∀ (N : Nat) (σ : Sg) (H : Heap) (locs : List Loc), TY z (zA z) σ H → rlS N σ → va_S (kA s) s.heap H locs → LW p l e s m below meth c b H locs 1334 ls []) : LW p l e s m below meth c b H locs 586 ls [] := by
  obtain ⟨hx, hb, hr, hml, hown, hts, hX, hbl, hlk, hK, hSK, hAA, g1, g2, hL⟩ := id C
  have hC : CallFix p m c cL_law 4 s #[Value.ref b] lw_ok RL := ⟨hx, hb, hml, hown, hts⟩
  have hbA : ¬ kA s b := Nat.not_le.mpr hbl
  have hNA : ∀ q, q < s.heap.size → ¬ zA z q → ¬ kA s q := fun q h _ h2 => absurd h (Nat.not_lt.mpr h2)
  have nxi := ix_nat (i := xi) hxi
  refine lv_aload_n hx hb dL_law_586 rfl (lv_at hl 1 rfl) ?_
  refine lv_aload_n hx hb dL_law_587 rfl (lv_at hl 0 rfl) ?_
  refine lv_iload_n hx hb dL_law_588 rfl (lv_at hl 3 rfl) ?_
  refine r_iconst hx hb dL_law_589 (by decide) (by decide) (fun x589 e589 => ?_)
  refine r_iadd hx hb dL_law_590 (by omega) (by omega) (fun x590 e590 => ?_)
  refine sldJ hx hb hX hbl hbA hS (xi.toNatClampNeg + 1) (by omega) (by omega) dL_law_591 ?_
  obtain ⟨r9, σ1, φ1, N1, e1, e13, e2, hr1⟩ := cl_cut hrel (xs (xi.toNatClampNeg + 1)).toInt
  refine cl_Vi (z := z) (A := kA s) (rest := []) hC hK hSK (c_X6_cut l z σ h1 g1 (xs (xi.toNatClampNeg + 1)) (r9, σ1) e1) k_X6_cut mw_3_47 ⟨rfl, rfl, (Nat.le_of_ble_eq_true rfl), (Nat.le_of_ble_eq_true rfl)⟩ (rv_HeelDance hK hT g1) hT rfl hl.1 rfl (Nat.le_of_ble_eq_true rfl) dL_law_592 ⟨(Nat.le_of_ble_eq_true rfl), (Nat.le_of_ble_eq_true rfl)⟩ hS hAA hNA (fun r592 H locs hpo hS => ?_)
  obtain ⟨σq, he1, hT⟩ := hpo
  obtain ⟨er1, es1⟩ := Prod.mk.inj (Option.some.inj he1)
  rw [es1] at hT
  refine lv_pop hx hb dL_law_595 rfl ?_
  refine lv_aload_n hx hb dL_law_596 rfl (lv_at hl 2 rfl) ?_
  refine lv_aload_n hx hb dL_law_597 rfl (lv_at hl 0 rfl) ?_
  refine lv_iload_n hx hb dL_law_598 rfl (lv_at hl 3 rfl) ?_
  refine r_iconst hx hb dL_law_599 (by decide) (by decide) (fun x599 e599 => ?_)
  refine r_iadd hx hb dL_law_600 (by omega) (by omega) (fun x600 e600 => ?_)
  refine sldJ hx hb hX hbl hbA hS (xi.toNatClampNeg + 1) (by omega) (by omega) dL_law_601 ?_
  refine cl_Vi (z := z) (A := kA s) (rest := []) hC hK hSK (c_X7_cut l z σ1 h2 13 g2 (xs (xi.toNatClampNeg + 1)) (r9, φ1) (by rw [e13]; exact e2)) k_X7_cut mw_5_80 ⟨rfl, rfl, (Nat.le_of_ble_eq_true rfl), (Nat.le_of_ble_eq_true rfl)⟩ (rv_Model hK hT g2) hT rfl hl.1 rfl (Nat.le_of_ble_eq_true rfl) dL_law_602 ⟨(Nat.le_of_ble_eq_true rfl), (Nat.le_of_ble_eq_true rfl)⟩ hS hAA hNA (fun r602 H locs hpo hS => ?_)
  obtain ⟨σ2, he2, hf2, hT⟩ := hpo
  obtain ⟨er2, es2⟩ := Prod.mk.inj (Option.some.inj he2)
  have hs2 : gset σ1 13 φ1 = σ2 := by rw [← es2]; exact FR_eq hf2
  rw [hs2] at hr1
  refine lv_pop hx hb dL_law_605 rfl ?_
  refine lv_goto (tgt := 1334) hx hb dL_law_606 (by decide) ?_
  exact kont _ _ _ _ hT hr1 hS
set_option maxHeartbeats 4000000 in
set_option maxRecDepth 100000 in
theorem lc_15 {p : Program} {l : Launch} {e : Env} {s : State} {m : MethodId} {below : List Frame} {meth : Method} {c : Code} {b L : Nat} {xs : Nat → Int32} {z : Zt} {h1 h2 : Nat} (C : LwC p s m meth c b L xs z h1 h2) {xi : Int32} (hxi : 0 ≤ xi.toInt) (hxL : xi.toInt + 5 ≤ L) {N : Nat} {σ : Sg} {H : Heap} {locs : List Loc} {ls : Array Slot} (hT : TY z (zA z) σ H) (hrel : rlS N σ) (hS : va_S (kA s) s.heap H locs) (hl : lv_has ls 4 [(0, .ref b), (1, .ref h1), (2, .ref h2), (3, .int xi)]) (kont : ∀ (N : Nat) (σ : Sg) (H : Heap) (locs : List Loc), TY z (zA z) σ H → rlS N σ → va_S (kA s) s.heap H locs → LW p l e s m below meth c b H locs 1334 ls []) : LW p l e s m below meth c b H locs 609 ls [] := by
  obtain ⟨hx, hb, hr, hml, hown, hts, hX, hbl, hlk, hK, hSK, hAA, g1, g2, hL⟩ := id C
  have hC : CallFix p m c cL_law 4 s #[Value.ref b] lw_ok RL := ⟨hx, hb, hml, hown, hts⟩
  have hbA : ¬ kA s b := Nat.not_le.mpr hbl
  have hNA : ∀ q, q < s.heap.size → ¬ zA z q → ¬ kA s q := fun q h _ h2 => absurd h (Nat.not_lt.mpr h2)
  have nxi := ix_nat (i := xi) hxi
  refine lv_aload_n hx hb dL_law_609 rfl (lv_at hl 1 rfl) ?_
  refine lv_aload_n hx hb dL_law_610 rfl (lv_at hl 0 rfl) ?_
  refine lv_iload_n hx hb dL_law_611 rfl (lv_at hl 3 rfl) ?_
  refine r_iconst hx hb dL_law_612 (by decide) (by decide) (fun x612 e612 => ?_)
  refine r_iadd hx hb dL_law_613 (by omega) (by omega) (fun x613 e613 => ?_)
  refine sldJ hx hb hX hbl hbA hS (xi.toNatClampNeg + 1) (by omega) (by omega) dL_law_614 ?_
  obtain ⟨r9, σ1, φ1, N1, e1, e13, e2, hr1⟩ := cl_dance hrel (xs (xi.toNatClampNeg + 1)).toInt
  refine cl_Vi (z := z) (A := kA s) (rest := []) hC hK hSK (c_X6_dance l z σ h1 g1 (xs (xi.toNatClampNeg + 1)) (r9, σ1) e1) k_X6_dance mw_3_51 ⟨rfl, rfl, (Nat.le_of_ble_eq_true rfl), (Nat.le_of_ble_eq_true rfl)⟩ (rv_HeelDance hK hT g1) hT rfl hl.1 rfl (Nat.le_of_ble_eq_true rfl) dL_law_615 ⟨(Nat.le_of_ble_eq_true rfl), (Nat.le_of_ble_eq_true rfl)⟩ hS hAA hNA (fun r615 H locs hpo hS => ?_)
  obtain ⟨σq, he1, hT⟩ := hpo
  obtain ⟨er1, es1⟩ := Prod.mk.inj (Option.some.inj he1)
  rw [es1] at hT
  refine lv_pop hx hb dL_law_618 rfl ?_
  refine lv_aload_n hx hb dL_law_619 rfl (lv_at hl 2 rfl) ?_
  refine lv_aload_n hx hb dL_law_620 rfl (lv_at hl 0 rfl) ?_
  refine lv_iload_n hx hb dL_law_621 rfl (lv_at hl 3 rfl) ?_
  refine r_iconst hx hb dL_law_622 (by decide) (by decide) (fun x622 e622 => ?_)
  refine r_iadd hx hb dL_law_623 (by omega) (by omega) (fun x623 e623 => ?_)
  refine sldJ hx hb hX hbl hbA hS (xi.toNatClampNeg + 1) (by omega) (by omega) dL_law_624 ?_
  refine cl_Vi (z := z) (A := kA s) (rest := []) hC hK hSK (c_X7_dance l z σ1 h2 13 g2 (xs (xi.toNatClampNeg + 1)) (r9, φ1) (by rw [e13]; exact e2)) k_X7_dance mw_5_84 ⟨rfl, rfl, (Nat.le_of_ble_eq_true rfl), (Nat.le_of_ble_eq_true rfl)⟩ (rv_Model hK hT g2) hT rfl hl.1 rfl (Nat.le_of_ble_eq_true rfl) dL_law_625 ⟨(Nat.le_of_ble_eq_true rfl), (Nat.le_of_ble_eq_true rfl)⟩ hS hAA hNA (fun r625 H locs hpo hS => ?_)
  obtain ⟨σ2, he2, hf2, hT⟩ := hpo
  obtain ⟨er2, es2⟩ := Prod.mk.inj (Option.some.inj he2)
  have hs2 : gset σ1 13 φ1 = σ2 := by rw [← es2]; exact FR_eq hf2
  rw [hs2] at hr1
  refine lv_pop hx hb dL_law_628 rfl ?_
  refine lv_goto (tgt := 1334) hx hb dL_law_629 (by decide) ?_
  exact kont _ _ _ _ hT hr1 hS
set_option maxHeartbeats 4000000 in
set_option maxRecDepth 100000 in
theorem lc_16 {p : Program} {l : Launch} {e : Env} {s : State} {m : MethodId} {below : List Frame} {meth : Method} {c : Code} {b L : Nat} {xs : Nat → Int32} {z : Zt} {h1 h2 : Nat} (C : LwC p s m meth c b L xs z h1 h2) {xi : Int32} (hxi : 0 ≤ xi.toInt) (hxL : xi.toInt + 5 ≤ L) {N : Nat} {σ : Sg} {H : Heap} {locs : List Loc} {ls : Array Slot} (hT : TY z (zA z) σ H) (hrel : rlS N σ) (hS : va_S (kA s) s.heap H locs) (hl : lv_has ls 4 [(0, .ref b), (1, .ref h1), (2, .ref h2), (3, .int xi)]) (kont : ∀ (N : Nat) (σ : Sg) (H : Heap) (locs : List Loc), TY z (zA z) σ H → rlS N σ → va_S (kA s) s.heap H locs → LW p l e s m below meth c b H locs 1334 ls []) : LW p l e s m below meth c b H locs 632 ls [] := by
  obtain ⟨hx, hb, hr, hml, hown, hts, hX, hbl, hlk, hK, hSK, hAA, g1, g2, hL⟩ := id C
  have hC : CallFix p m c cL_law 4 s #[Value.ref b] lw_ok RL := ⟨hx, hb, hml, hown, hts⟩
  have hbA : ¬ kA s b := Nat.not_le.mpr hbl
  have hNA : ∀ q, q < s.heap.size → ¬ zA z q → ¬ kA s q := fun q h _ h2 => absurd h (Nat.not_lt.mpr h2)
  have nxi := ix_nat (i := xi) hxi
  refine lv_aload_n hx hb dL_law_632 rfl (lv_at hl 1 rfl) ?_
  refine lv_aload_n hx hb dL_law_633 rfl (lv_at hl 0 rfl) ?_
  refine lv_iload_n hx hb dL_law_634 rfl (lv_at hl 3 rfl) ?_
  refine r_iconst hx hb dL_law_635 (by decide) (by decide) (fun x635 e635 => ?_)
  refine r_iadd hx hb dL_law_636 (by omega) (by omega) (fun x636 e636 => ?_)
  refine sldJ hx hb hX hbl hbA hS (xi.toNatClampNeg + 1) (by omega) (by omega) dL_law_637 ?_
  obtain ⟨r9, σ1, φ1, N1, e1, e13, e2, hr1⟩ := cl_runs hrel (xs (xi.toNatClampNeg + 1)).toInt
  refine cl_Vi (z := z) (A := kA s) (rest := []) hC hK hSK (c_X6_runs l z σ h1 g1 (xs (xi.toNatClampNeg + 1)) (r9, σ1) e1) k_X6_runs mw_3_80 ⟨rfl, rfl, (Nat.le_of_ble_eq_true rfl), (Nat.le_of_ble_eq_true rfl)⟩ (rv_HeelDance hK hT g1) hT rfl hl.1 rfl (Nat.le_of_ble_eq_true rfl) dL_law_638 ⟨(Nat.le_of_ble_eq_true rfl), (Nat.le_of_ble_eq_true rfl)⟩ hS hAA hNA (fun r638 H locs hpo hS => ?_)
  obtain ⟨σq, he1, hT⟩ := hpo
  obtain ⟨er1, es1⟩ := Prod.mk.inj (Option.some.inj he1)
  rw [es1] at hT
  refine lv_pop hx hb dL_law_641 rfl ?_
  refine lv_aload_n hx hb dL_law_642 rfl (lv_at hl 2 rfl) ?_
  refine lv_aload_n hx hb dL_law_643 rfl (lv_at hl 0 rfl) ?_
  refine lv_iload_n hx hb dL_law_644 rfl (lv_at hl 3 rfl) ?_
  refine r_iconst hx hb dL_law_645 (by decide) (by decide) (fun x645 e645 => ?_)
  refine r_iadd hx hb dL_law_646 (by omega) (by omega) (fun x646 e646 => ?_)
  refine sldJ hx hb hX hbl hbA hS (xi.toNatClampNeg + 1) (by omega) (by omega) dL_law_647 ?_
  refine cl_Vi (z := z) (A := kA s) (rest := []) hC hK hSK (c_X7_runs l z σ1 h2 13 g2 (xs (xi.toNatClampNeg + 1)) (r9, φ1) (by rw [e13]; exact e2)) k_X7_runs mw_5_108 ⟨rfl, rfl, (Nat.le_of_ble_eq_true rfl), (Nat.le_of_ble_eq_true rfl)⟩ (rv_Model hK hT g2) hT rfl hl.1 rfl (Nat.le_of_ble_eq_true rfl) dL_law_648 ⟨(Nat.le_of_ble_eq_true rfl), (Nat.le_of_ble_eq_true rfl)⟩ hS hAA hNA (fun r648 H locs hpo hS => ?_)
  obtain ⟨σ2, he2, hf2, hT⟩ := hpo
  obtain ⟨er2, es2⟩ := Prod.mk.inj (Option.some.inj he2)
  have hs2 : gset σ1 13 φ1 = σ2 := by rw [← es2]; exact FR_eq hf2
  rw [hs2] at hr1
  refine lv_pop hx hb dL_law_651 rfl ?_
  refine lv_goto (tgt := 1334) hx hb dL_law_652 (by decide) ?_
  exact kont _ _ _ _ hT hr1 hS
set_option maxHeartbeats 4000000 in
set_option maxRecDepth 100000 in
theorem lc_17 {p : Program} {l : Launch} {e : Env} {s : State} {m : MethodId} {below : List Frame} {meth : Method} {c : Code} {b L : Nat} {xs : Nat → Int32} {z : Zt} {h1 h2 : Nat} (C : LwC p s m meth c b L xs z h1 h2) {xi : Int32} (hxi : 0 ≤ xi.toInt) (hxL : xi.toInt + 5 ≤ L) {N : Nat} {σ : Sg} {H : Heap} {locs : List Loc} {ls : Array Slot} (hT : TY z (zA z) σ H) (hrel : rlS N σ) (hS : va_S (kA s) s.heap H locs) (hl : lv_has ls 4 [(0, .ref b), (1, .ref h1), (2, .ref h2), (3, .int xi)]) (kont : ∀ (N : Nat) (σ : Sg) (H : Heap) (locs : List Loc), TY z (zA z) σ H → rlS N σ → va_S (kA s) s.heap H locs → LW p l e s m below meth c b H locs 1334 ls []) : LW p l e s m below meth c b H locs 655 ls [] := by
  obtain ⟨hx, hb, hr, hml, hown, hts, hX, hbl, hlk, hK, hSK, hAA, g1, g2, hL⟩ := id C
  have hC : CallFix p m c cL_law 4 s #[Value.ref b] lw_ok RL := ⟨hx, hb, hml, hown, hts⟩
  have hbA : ¬ kA s b := Nat.not_le.mpr hbl
  have hNA : ∀ q, q < s.heap.size → ¬ zA z q → ¬ kA s q := fun q h _ h2 => absurd h (Nat.not_lt.mpr h2)
  have nxi := ix_nat (i := xi) hxi
  refine lv_aload_n hx hb dL_law_655 rfl (lv_at hl 1 rfl) ?_
  refine lv_aload_n hx hb dL_law_656 rfl (lv_at hl 0 rfl) ?_
  refine lv_iload_n hx hb dL_law_657 rfl (lv_at hl 3 rfl) ?_
  refine r_iconst hx hb dL_law_658 (by decide) (by decide) (fun x658 e658 => ?_)
  refine r_iadd hx hb dL_law_659 (by omega) (by omega) (fun x659 e659 => ?_)
  refine sldJ hx hb hX hbl hbA hS (xi.toNatClampNeg + 1) (by omega) (by omega) dL_law_660 ?_
  refine lv_aload_n hx hb dL_law_661 rfl (lv_at hl 0 rfl) ?_
  refine lv_iload_n hx hb dL_law_662 rfl (lv_at hl 3 rfl) ?_
  refine r_iconst hx hb dL_law_663 (by decide) (by decide) (fun x663 e663 => ?_)
  refine r_iadd hx hb dL_law_664 (by omega) (by omega) (fun x664 e664 => ?_)
  refine sldJ hx hb hX hbl hbA hS (xi.toNatClampNeg + 2) (by omega) (by omega) dL_law_665 ?_
  obtain ⟨r9, σ1, φ1, N1, e1, e13, e2, hr1⟩ := cl_ahead hrel (xs (xi.toNatClampNeg + 1)).toInt (xs (xi.toNatClampNeg + 2)).toInt
  refine cl_Vi (z := z) (A := kA s) (rest := []) hC hK hSK (c_X6_ahead l z σ h1 g1 (xs (xi.toNatClampNeg + 1)) (xs (xi.toNatClampNeg + 2)) (r9, σ1) e1) k_X6_ahead mw_3_119 ⟨rfl, rfl, (Nat.le_of_ble_eq_true rfl), (Nat.le_of_ble_eq_true rfl)⟩ (rv_HeelDance hK hT g1) hT rfl hl.1 rfl (Nat.le_of_ble_eq_true rfl) dL_law_666 ⟨(Nat.le_of_ble_eq_true rfl), (Nat.le_of_ble_eq_true rfl)⟩ hS hAA hNA (fun r666 H locs hpo hS => ?_)
  obtain ⟨σq, he1, hT⟩ := hpo
  obtain ⟨er1, es1⟩ := Prod.mk.inj (Option.some.inj he1)
  rw [es1] at hT
  refine lv_pop hx hb dL_law_669 rfl ?_
  refine lv_aload_n hx hb dL_law_670 rfl (lv_at hl 2 rfl) ?_
  refine lv_aload_n hx hb dL_law_671 rfl (lv_at hl 0 rfl) ?_
  refine lv_iload_n hx hb dL_law_672 rfl (lv_at hl 3 rfl) ?_
  refine r_iconst hx hb dL_law_673 (by decide) (by decide) (fun x673 e673 => ?_)
  refine r_iadd hx hb dL_law_674 (by omega) (by omega) (fun x674 e674 => ?_)
  refine sldJ hx hb hX hbl hbA hS (xi.toNatClampNeg + 1) (by omega) (by omega) dL_law_675 ?_
  refine lv_aload_n hx hb dL_law_676 rfl (lv_at hl 0 rfl) ?_
  refine lv_iload_n hx hb dL_law_677 rfl (lv_at hl 3 rfl) ?_
  refine r_iconst hx hb dL_law_678 (by decide) (by decide) (fun x678 e678 => ?_)
  refine r_iadd hx hb dL_law_679 (by omega) (by omega) (fun x679 e679 => ?_)
  refine sldJ hx hb hX hbl hbA hS (xi.toNatClampNeg + 2) (by omega) (by omega) dL_law_680 ?_
  refine cl_Vi (z := z) (A := kA s) (rest := []) hC hK hSK (c_X7_ahead l z σ1 h2 13 g2 (xs (xi.toNatClampNeg + 1)) (xs (xi.toNatClampNeg + 2)) (r9, φ1) (by rw [e13]; exact e2)) k_X7_ahead mw_5_121 ⟨rfl, rfl, (Nat.le_of_ble_eq_true rfl), (Nat.le_of_ble_eq_true rfl)⟩ (rv_Model hK hT g2) hT rfl hl.1 rfl (Nat.le_of_ble_eq_true rfl) dL_law_681 ⟨(Nat.le_of_ble_eq_true rfl), (Nat.le_of_ble_eq_true rfl)⟩ hS hAA hNA (fun r681 H locs hpo hS => ?_)
  obtain ⟨σ2, he2, hf2, hT⟩ := hpo
  obtain ⟨er2, es2⟩ := Prod.mk.inj (Option.some.inj he2)
  have hs2 : gset σ1 13 φ1 = σ2 := by rw [← es2]; exact FR_eq hf2
  rw [hs2] at hr1
  refine lv_pop hx hb dL_law_684 rfl ?_
  refine lv_goto (tgt := 1334) hx hb dL_law_685 (by decide) ?_
  exact kont _ _ _ _ hT hr1 hS
set_option maxHeartbeats 4000000 in
set_option maxRecDepth 100000 in
theorem lc_18 {p : Program} {l : Launch} {e : Env} {s : State} {m : MethodId} {below : List Frame} {meth : Method} {c : Code} {b L : Nat} {xs : Nat → Int32} {z : Zt} {h1 h2 : Nat} (C : LwC p s m meth c b L xs z h1 h2) {xi : Int32} (hxi : 0 ≤ xi.toInt) (hxL : xi.toInt + 5 ≤ L) {N : Nat} {σ : Sg} {H : Heap} {locs : List Loc} {ls : Array Slot} (hT : TY z (zA z) σ H) (hrel : rlS N σ) (hS : va_S (kA s) s.heap H locs) (hl : lv_has ls 4 [(0, .ref b), (1, .ref h1), (2, .ref h2), (3, .int xi)]) (kont : ∀ (N : Nat) (σ : Sg) (H : Heap) (locs : List Loc), TY z (zA z) σ H → rlS N σ → va_S (kA s) s.heap H locs → LW p l e s m below meth c b H locs 1334 ls []) : LW p l e s m below meth c b H locs 688 ls [] := by
  obtain ⟨hx, hb, hr, hml, hown, hts, hX, hbl, hlk, hK, hSK, hAA, g1, g2, hL⟩ := id C
  have hC : CallFix p m c cL_law 4 s #[Value.ref b] lw_ok RL := ⟨hx, hb, hml, hown, hts⟩
  have hbA : ¬ kA s b := Nat.not_le.mpr hbl
  have hNA : ∀ q, q < s.heap.size → ¬ zA z q → ¬ kA s q := fun q h _ h2 => absurd h (Nat.not_lt.mpr h2)
  have nxi := ix_nat (i := xi) hxi
  refine lv_aload_n hx hb dL_law_688 rfl (lv_at hl 1 rfl) ?_
  refine lv_aload_n hx hb dL_law_689 rfl (lv_at hl 0 rfl) ?_
  refine lv_iload_n hx hb dL_law_690 rfl (lv_at hl 3 rfl) ?_
  refine r_iconst hx hb dL_law_691 (by decide) (by decide) (fun x691 e691 => ?_)
  refine r_iadd hx hb dL_law_692 (by omega) (by omega) (fun x692 e692 => ?_)
  refine sldJ hx hb hX hbl hbA hS (xi.toNatClampNeg + 1) (by omega) (by omega) dL_law_693 ?_
  refine lv_aload_n hx hb dL_law_694 rfl (lv_at hl 0 rfl) ?_
  refine lv_iload_n hx hb dL_law_695 rfl (lv_at hl 3 rfl) ?_
  refine r_iconst hx hb dL_law_696 (by decide) (by decide) (fun x696 e696 => ?_)
  refine r_iadd hx hb dL_law_697 (by omega) (by omega) (fun x697 e697 => ?_)
  refine sldJ hx hb hX hbl hbA hS (xi.toNatClampNeg + 2) (by omega) (by omega) dL_law_698 ?_
  obtain ⟨r9, σ1, φ1, N1, e1, e13, e2, hr1⟩ := cl_meets hrel (xs (xi.toNatClampNeg + 1)).toInt (xs (xi.toNatClampNeg + 2)).toInt
  refine cl_Vi (z := z) (A := kA s) (rest := []) hC hK hSK (c_X6_meets l z σ h1 g1 (xs (xi.toNatClampNeg + 1)) (xs (xi.toNatClampNeg + 2)) (r9, σ1) e1) k_X6_meets mw_3_123 ⟨rfl, rfl, (Nat.le_of_ble_eq_true rfl), (Nat.le_of_ble_eq_true rfl)⟩ (rv_HeelDance hK hT g1) hT rfl hl.1 rfl (Nat.le_of_ble_eq_true rfl) dL_law_699 ⟨(Nat.le_of_ble_eq_true rfl), (Nat.le_of_ble_eq_true rfl)⟩ hS hAA hNA (fun r699 H locs hpo hS => ?_)
  obtain ⟨σq, he1, hT⟩ := hpo
  obtain ⟨er1, es1⟩ := Prod.mk.inj (Option.some.inj he1)
  rw [es1] at hT
  refine lv_pop hx hb dL_law_702 rfl ?_
  refine lv_aload_n hx hb dL_law_703 rfl (lv_at hl 2 rfl) ?_
  refine lv_aload_n hx hb dL_law_704 rfl (lv_at hl 0 rfl) ?_
  refine lv_iload_n hx hb dL_law_705 rfl (lv_at hl 3 rfl) ?_
  refine r_iconst hx hb dL_law_706 (by decide) (by decide) (fun x706 e706 => ?_)
  refine r_iadd hx hb dL_law_707 (by omega) (by omega) (fun x707 e707 => ?_)
  refine sldJ hx hb hX hbl hbA hS (xi.toNatClampNeg + 1) (by omega) (by omega) dL_law_708 ?_
  refine lv_aload_n hx hb dL_law_709 rfl (lv_at hl 0 rfl) ?_
  refine lv_iload_n hx hb dL_law_710 rfl (lv_at hl 3 rfl) ?_
  refine r_iconst hx hb dL_law_711 (by decide) (by decide) (fun x711 e711 => ?_)
  refine r_iadd hx hb dL_law_712 (by omega) (by omega) (fun x712 e712 => ?_)
  refine sldJ hx hb hX hbl hbA hS (xi.toNatClampNeg + 2) (by omega) (by omega) dL_law_713 ?_
  refine cl_Vi (z := z) (A := kA s) (rest := []) hC hK hSK (c_X7_meets l z σ1 h2 13 g2 (xs (xi.toNatClampNeg + 1)) (xs (xi.toNatClampNeg + 2)) (r9, φ1) (by rw [e13]; exact e2)) k_X7_meets mw_5_126 ⟨rfl, rfl, (Nat.le_of_ble_eq_true rfl), (Nat.le_of_ble_eq_true rfl)⟩ (rv_Model hK hT g2) hT rfl hl.1 rfl (Nat.le_of_ble_eq_true rfl) dL_law_714 ⟨(Nat.le_of_ble_eq_true rfl), (Nat.le_of_ble_eq_true rfl)⟩ hS hAA hNA (fun r714 H locs hpo hS => ?_)
  obtain ⟨σ2, he2, hf2, hT⟩ := hpo
  obtain ⟨er2, es2⟩ := Prod.mk.inj (Option.some.inj he2)
  have hs2 : gset σ1 13 φ1 = σ2 := by rw [← es2]; exact FR_eq hf2
  rw [hs2] at hr1
  refine lv_pop hx hb dL_law_717 rfl ?_
  refine lv_goto (tgt := 1334) hx hb dL_law_718 (by decide) ?_
  exact kont _ _ _ _ hT hr1 hS
set_option maxHeartbeats 4000000 in
set_option maxRecDepth 100000 in
theorem lc_19 {p : Program} {l : Launch} {e : Env} {s : State} {m : MethodId} {below : List Frame} {meth : Method} {c : Code} {b L : Nat} {xs : Nat → Int32} {z : Zt} {h1 h2 : Nat} (C : LwC p s m meth c b L xs z h1 h2) {xi : Int32} (hxi : 0 ≤ xi.toInt) (hxL : xi.toInt + 5 ≤ L) {N : Nat} {σ : Sg} {H : Heap} {locs : List Loc} {ls : Array Slot} (hT : TY z (zA z) σ H) (hrel : rlS N σ) (hS : va_S (kA s) s.heap H locs) (hl : lv_has ls 4 [(0, .ref b), (1, .ref h1), (2, .ref h2), (3, .int xi)]) (kont : ∀ (N : Nat) (σ : Sg) (H : Heap) (locs : List Loc), TY z (zA z) σ H → rlS N σ → va_S (kA s) s.heap H locs → LW p l e s m below meth c b H locs 1334 ls []) : LW p l e s m below meth c b H locs 721 ls [] := by
  obtain ⟨hx, hb, hr, hml, hown, hts, hX, hbl, hlk, hK, hSK, hAA, g1, g2, hL⟩ := id C
  have hC : CallFix p m c cL_law 4 s #[Value.ref b] lw_ok RL := ⟨hx, hb, hml, hown, hts⟩
  have hbA : ¬ kA s b := Nat.not_le.mpr hbl
  have hNA : ∀ q, q < s.heap.size → ¬ zA z q → ¬ kA s q := fun q h _ h2 => absurd h (Nat.not_lt.mpr h2)
  have nxi := ix_nat (i := xi) hxi
  refine lv_aload_n hx hb dL_law_721 rfl (lv_at hl 1 rfl) ?_
  refine lv_aload_n hx hb dL_law_722 rfl (lv_at hl 0 rfl) ?_
  refine lv_iload_n hx hb dL_law_723 rfl (lv_at hl 3 rfl) ?_
  refine r_iconst hx hb dL_law_724 (by decide) (by decide) (fun x724 e724 => ?_)
  refine r_iadd hx hb dL_law_725 (by omega) (by omega) (fun x725 e725 => ?_)
  refine sldJ hx hb hX hbl hbA hS (xi.toNatClampNeg + 1) (by omega) (by omega) dL_law_726 ?_
  obtain ⟨r9, σ1, φ1, N1, e1, e13, e2, hr1⟩ := cl_never hrel (xs (xi.toNatClampNeg + 1)).toInt
  refine cl_Vi (z := z) (A := kA s) (rest := []) hC hK hSK (c_X6_never l z σ h1 g1 (xs (xi.toNatClampNeg + 1)) (r9, σ1) e1) k_X6_never mw_3_127 ⟨rfl, rfl, (Nat.le_of_ble_eq_true rfl), (Nat.le_of_ble_eq_true rfl)⟩ (rv_HeelDance hK hT g1) hT rfl hl.1 rfl (Nat.le_of_ble_eq_true rfl) dL_law_727 ⟨(Nat.le_of_ble_eq_true rfl), (Nat.le_of_ble_eq_true rfl)⟩ hS hAA hNA (fun r727 H locs hpo hS => ?_)
  obtain ⟨σq, he1, hT⟩ := hpo
  obtain ⟨er1, es1⟩ := Prod.mk.inj (Option.some.inj he1)
  rw [es1] at hT
  refine lv_pop hx hb dL_law_730 rfl ?_
  refine lv_aload_n hx hb dL_law_731 rfl (lv_at hl 2 rfl) ?_
  refine lv_aload_n hx hb dL_law_732 rfl (lv_at hl 0 rfl) ?_
  refine lv_iload_n hx hb dL_law_733 rfl (lv_at hl 3 rfl) ?_
  refine r_iconst hx hb dL_law_734 (by decide) (by decide) (fun x734 e734 => ?_)
  refine r_iadd hx hb dL_law_735 (by omega) (by omega) (fun x735 e735 => ?_)
  refine sldJ hx hb hX hbl hbA hS (xi.toNatClampNeg + 1) (by omega) (by omega) dL_law_736 ?_
  refine cl_Vi (z := z) (A := kA s) (rest := []) hC hK hSK (c_X7_never l z σ1 h2 13 g2 (xs (xi.toNatClampNeg + 1)) (r9, φ1) (by rw [e13]; exact e2)) k_X7_never mw_5_130 ⟨rfl, rfl, (Nat.le_of_ble_eq_true rfl), (Nat.le_of_ble_eq_true rfl)⟩ (rv_Model hK hT g2) hT rfl hl.1 rfl (Nat.le_of_ble_eq_true rfl) dL_law_737 ⟨(Nat.le_of_ble_eq_true rfl), (Nat.le_of_ble_eq_true rfl)⟩ hS hAA hNA (fun r737 H locs hpo hS => ?_)
  obtain ⟨σ2, he2, hf2, hT⟩ := hpo
  obtain ⟨er2, es2⟩ := Prod.mk.inj (Option.some.inj he2)
  have hs2 : gset σ1 13 φ1 = σ2 := by rw [← es2]; exact FR_eq hf2
  rw [hs2] at hr1
  refine lv_pop hx hb dL_law_740 rfl ?_
  refine lv_goto (tgt := 1334) hx hb dL_law_741 (by decide) ?_
  exact kont _ _ _ _ hT hr1 hS
set_option maxHeartbeats 4000000 in
set_option maxRecDepth 100000 in
theorem lc_20 {p : Program} {l : Launch} {e : Env} {s : State} {m : MethodId} {below : List Frame} {meth : Method} {c : Code} {b L : Nat} {xs : Nat → Int32} {z : Zt} {h1 h2 : Nat} (C : LwC p s m meth c b L xs z h1 h2) {xi : Int32} (hxi : 0 ≤ xi.toInt) (hxL : xi.toInt + 5 ≤ L) {N : Nat} {σ : Sg} {H : Heap} {locs : List Loc} {ls : Array Slot} (hT : TY z (zA z) σ H) (hrel : rlS N σ) (hS : va_S (kA s) s.heap H locs) (hl : lv_has ls 4 [(0, .ref b), (1, .ref h1), (2, .ref h2), (3, .int xi)]) (kont : ∀ (N : Nat) (σ : Sg) (H : Heap) (locs : List Loc), TY z (zA z) σ H → rlS N σ → va_S (kA s) s.heap H locs → LW p l e s m below meth c b H locs 1334 ls []) : LW p l e s m below meth c b H locs 744 ls [] := by
  obtain ⟨hx, hb, hr, hml, hown, hts, hX, hbl, hlk, hK, hSK, hAA, g1, g2, hL⟩ := id C
  have hC : CallFix p m c cL_law 4 s #[Value.ref b] lw_ok RL := ⟨hx, hb, hml, hown, hts⟩
  have hbA : ¬ kA s b := Nat.not_le.mpr hbl
  have hNA : ∀ q, q < s.heap.size → ¬ zA z q → ¬ kA s q := fun q h _ h2 => absurd h (Nat.not_lt.mpr h2)
  have nxi := ix_nat (i := xi) hxi
  refine lv_aload_n hx hb dL_law_744 rfl (lv_at hl 1 rfl) ?_
  refine lv_aload_n hx hb dL_law_745 rfl (lv_at hl 0 rfl) ?_
  refine lv_iload_n hx hb dL_law_746 rfl (lv_at hl 3 rfl) ?_
  refine r_iconst hx hb dL_law_747 (by decide) (by decide) (fun x747 e747 => ?_)
  refine r_iadd hx hb dL_law_748 (by omega) (by omega) (fun x748 e748 => ?_)
  refine sldJ hx hb hX hbl hbA hS (xi.toNatClampNeg + 1) (by omega) (by omega) dL_law_749 ?_
  obtain ⟨r9, σ1, φ1, N1, e1, e13, e2, hr1⟩ := cl_period hrel (xs (xi.toNatClampNeg + 1)).toInt
  refine cl_Vi (z := z) (A := kA s) (rest := []) hC hK hSK (c_X6_period l z σ h1 g1 (xs (xi.toNatClampNeg + 1)) (r9, σ1) e1) k_X6_period mw_3_131 ⟨rfl, rfl, (Nat.le_of_ble_eq_true rfl), (Nat.le_of_ble_eq_true rfl)⟩ (rv_HeelDance hK hT g1) hT rfl hl.1 rfl (Nat.le_of_ble_eq_true rfl) dL_law_750 ⟨(Nat.le_of_ble_eq_true rfl), (Nat.le_of_ble_eq_true rfl)⟩ hS hAA hNA (fun r750 H locs hpo hS => ?_)
  obtain ⟨σq, he1, hT⟩ := hpo
  obtain ⟨er1, es1⟩ := Prod.mk.inj (Option.some.inj he1)
  rw [es1] at hT
  refine lv_pop hx hb dL_law_753 rfl ?_
  refine lv_aload_n hx hb dL_law_754 rfl (lv_at hl 2 rfl) ?_
  refine lv_aload_n hx hb dL_law_755 rfl (lv_at hl 0 rfl) ?_
  refine lv_iload_n hx hb dL_law_756 rfl (lv_at hl 3 rfl) ?_
  refine r_iconst hx hb dL_law_757 (by decide) (by decide) (fun x757 e757 => ?_)
  refine r_iadd hx hb dL_law_758 (by omega) (by omega) (fun x758 e758 => ?_)
  refine sldJ hx hb hX hbl hbA hS (xi.toNatClampNeg + 1) (by omega) (by omega) dL_law_759 ?_
  refine cl_Vi (z := z) (A := kA s) (rest := []) hC hK hSK (c_X7_period l z σ1 h2 13 g2 (xs (xi.toNatClampNeg + 1)) (r9, φ1) (by rw [e13]; exact e2)) k_X7_period mw_5_134 ⟨rfl, rfl, (Nat.le_of_ble_eq_true rfl), (Nat.le_of_ble_eq_true rfl)⟩ (rv_Model hK hT g2) hT rfl hl.1 rfl (Nat.le_of_ble_eq_true rfl) dL_law_760 ⟨(Nat.le_of_ble_eq_true rfl), (Nat.le_of_ble_eq_true rfl)⟩ hS hAA hNA (fun r760 H locs hpo hS => ?_)
  obtain ⟨σ2, he2, hf2, hT⟩ := hpo
  obtain ⟨er2, es2⟩ := Prod.mk.inj (Option.some.inj he2)
  have hs2 : gset σ1 13 φ1 = σ2 := by rw [← es2]; exact FR_eq hf2
  rw [hs2] at hr1
  refine lv_pop hx hb dL_law_763 rfl ?_
  refine lv_goto (tgt := 1334) hx hb dL_law_764 (by decide) ?_
  exact kont _ _ _ _ hT hr1 hS
set_option maxHeartbeats 4000000 in
set_option maxRecDepth 100000 in
theorem lc_21 {p : Program} {l : Launch} {e : Env} {s : State} {m : MethodId} {below : List Frame} {meth : Method} {c : Code} {b L : Nat} {xs : Nat → Int32} {z : Zt} {h1 h2 : Nat} (C : LwC p s m meth c b L xs z h1 h2) {xi : Int32} (hxi : 0 ≤ xi.toInt) (hxL : xi.toInt + 5 ≤ L) {N : Nat} {σ : Sg} {H : Heap} {locs : List Loc} {ls : Array Slot} (hT : TY z (zA z) σ H) (hrel : rlS N σ) (hS : va_S (kA s) s.heap H locs) (hl : lv_has ls 4 [(0, .ref b), (1, .ref h1), (2, .ref h2), (3, .int xi)]) (kont : ∀ (N : Nat) (σ : Sg) (H : Heap) (locs : List Loc), TY z (zA z) σ H → rlS N σ → va_S (kA s) s.heap H locs → LW p l e s m below meth c b H locs 1334 ls []) : LW p l e s m below meth c b H locs 767 ls [] := by
  obtain ⟨hx, hb, hr, hml, hown, hts, hX, hbl, hlk, hK, hSK, hAA, g1, g2, hL⟩ := id C
  have hC : CallFix p m c cL_law 4 s #[Value.ref b] lw_ok RL := ⟨hx, hb, hml, hown, hts⟩
  have hbA : ¬ kA s b := Nat.not_le.mpr hbl
  have hNA : ∀ q, q < s.heap.size → ¬ zA z q → ¬ kA s q := fun q h _ h2 => absurd h (Nat.not_lt.mpr h2)
  have nxi := ix_nat (i := xi) hxi
  refine lv_aload_n hx hb dL_law_767 rfl (lv_at hl 1 rfl) ?_
  refine lv_aload_n hx hb dL_law_768 rfl (lv_at hl 0 rfl) ?_
  refine lv_iload_n hx hb dL_law_769 rfl (lv_at hl 3 rfl) ?_
  refine r_iconst hx hb dL_law_770 (by decide) (by decide) (fun x770 e770 => ?_)
  refine r_iadd hx hb dL_law_771 (by omega) (by omega) (fun x771 e771 => ?_)
  refine sldJ hx hb hX hbl hbA hS (xi.toNatClampNeg + 1) (by omega) (by omega) dL_law_772 ?_
  refine lv_aload_n hx hb dL_law_773 rfl (lv_at hl 0 rfl) ?_
  refine lv_iload_n hx hb dL_law_774 rfl (lv_at hl 3 rfl) ?_
  refine r_iconst hx hb dL_law_775 (by decide) (by decide) (fun x775 e775 => ?_)
  refine r_iadd hx hb dL_law_776 (by omega) (by omega) (fun x776 e776 => ?_)
  refine sldJ hx hb hX hbl hbA hS (xi.toNatClampNeg + 2) (by omega) (by omega) dL_law_777 ?_
  obtain ⟨r9, σ1, e1, hc1⟩ := ct_best hrel (xs (xi.toNatClampNeg + 1)).toInt (xs (xi.toNatClampNeg + 2)).toInt
  obtain ⟨r8, φ1, e2, hm1⟩ := mt_best hrel (xs (xi.toNatClampNeg + 1)).toInt (xs (xi.toNatClampNeg + 2)).toInt
  have e13 : σ1 13 = σ 13 := hc1.1 13 (by decide) (by decide) (by decide)
  have hr1 := rlS_s hrel hc1 hm1
  refine cl_Vi (z := z) (A := kA s) (rest := []) hC hK hSK (c_X6_best l z σ h1 g1 (xs (xi.toNatClampNeg + 1)) (xs (xi.toNatClampNeg + 2)) (r9, σ1) e1) k_X6_best mw_3_140 ⟨rfl, rfl, (Nat.le_of_ble_eq_true rfl), (Nat.le_of_ble_eq_true rfl)⟩ (rv_HeelDance hK hT g1) hT rfl hl.1 rfl (Nat.le_of_ble_eq_true rfl) dL_law_778 ⟨(Nat.le_of_ble_eq_true rfl), (Nat.le_of_ble_eq_true rfl)⟩ hS hAA hNA (fun r778 H locs hpo hS => ?_)
  obtain ⟨σq, he1, hT⟩ := hpo
  obtain ⟨er1, es1⟩ := Prod.mk.inj (Option.some.inj he1)
  rw [es1] at hT
  refine lv_pop hx hb dL_law_781 rfl ?_
  refine lv_aload_n hx hb dL_law_782 rfl (lv_at hl 2 rfl) ?_
  refine lv_aload_n hx hb dL_law_783 rfl (lv_at hl 0 rfl) ?_
  refine lv_iload_n hx hb dL_law_784 rfl (lv_at hl 3 rfl) ?_
  refine r_iconst hx hb dL_law_785 (by decide) (by decide) (fun x785 e785 => ?_)
  refine r_iadd hx hb dL_law_786 (by omega) (by omega) (fun x786 e786 => ?_)
  refine sldJ hx hb hX hbl hbA hS (xi.toNatClampNeg + 1) (by omega) (by omega) dL_law_787 ?_
  refine lv_aload_n hx hb dL_law_788 rfl (lv_at hl 0 rfl) ?_
  refine lv_iload_n hx hb dL_law_789 rfl (lv_at hl 3 rfl) ?_
  refine r_iconst hx hb dL_law_790 (by decide) (by decide) (fun x790 e790 => ?_)
  refine r_iadd hx hb dL_law_791 (by omega) (by omega) (fun x791 e791 => ?_)
  refine sldJ hx hb hX hbl hbA hS (xi.toNatClampNeg + 2) (by omega) (by omega) dL_law_792 ?_
  refine cl_Vi (z := z) (A := kA s) (rest := []) hC hK hSK (c_X7_best l z σ1 h2 13 g2 (xs (xi.toNatClampNeg + 1)) (xs (xi.toNatClampNeg + 2)) (r8, φ1) (by rw [e13]; exact e2)) k_X7_best mw_5_138 ⟨rfl, rfl, (Nat.le_of_ble_eq_true rfl), (Nat.le_of_ble_eq_true rfl)⟩ (rv_Model hK hT g2) hT rfl hl.1 rfl (Nat.le_of_ble_eq_true rfl) dL_law_793 ⟨(Nat.le_of_ble_eq_true rfl), (Nat.le_of_ble_eq_true rfl)⟩ hS hAA hNA (fun r793 H locs hpo hS => ?_)
  obtain ⟨σ2, he2, hf2, hT⟩ := hpo
  obtain ⟨er2, es2⟩ := Prod.mk.inj (Option.some.inj he2)
  have hs2 : gset σ1 13 φ1 = σ2 := by rw [← es2]; exact FR_eq hf2
  rw [hs2] at hr1
  refine lv_pop hx hb dL_law_796 rfl ?_
  refine lv_goto (tgt := 1334) hx hb dL_law_797 (by decide) ?_
  exact kont _ _ _ _ hT hr1 hS
set_option maxHeartbeats 4000000 in
set_option maxRecDepth 100000 in
theorem lc_22 {p : Program} {l : Launch} {e : Env} {s : State} {m : MethodId} {below : List Frame} {meth : Method} {c : Code} {b L : Nat} {xs : Nat → Int32} {z : Zt} {h1 h2 : Nat} (C : LwC p s m meth c b L xs z h1 h2) {xi : Int32} (hxi : 0 ≤ xi.toInt) (hxL : xi.toInt + 5 ≤ L) {N : Nat} {σ : Sg} {H : Heap} {locs : List Loc} {ls : Array Slot} (hT : TY z (zA z) σ H) (hrel : rlS N σ) (hS : va_S (kA s) s.heap H locs) (hl : lv_has ls 4 [(0, .ref b), (1, .ref h1), (2, .ref h2), (3, .int xi)]) (kont : ∀ (N : Nat) (σ : Sg) (H : Heap) (locs : List Loc), TY z (zA z) σ H → rlS N σ → va_S (kA s) s.heap H locs → LW p l e s m below meth c b H locs 1334 ls []) : LW p l e s m below meth c b H locs 800 ls [] := by
  obtain ⟨hx, hb, hr, hml, hown, hts, hX, hbl, hlk, hK, hSK, hAA, g1, g2, hL⟩ := id C
  have hC : CallFix p m c cL_law 4 s #[Value.ref b] lw_ok RL := ⟨hx, hb, hml, hown, hts⟩
  have hbA : ¬ kA s b := Nat.not_le.mpr hbl
  have hNA : ∀ q, q < s.heap.size → ¬ zA z q → ¬ kA s q := fun q h _ h2 => absurd h (Nat.not_lt.mpr h2)
  have nxi := ix_nat (i := xi) hxi
  refine lv_aload_n hx hb dL_law_800 rfl (lv_at hl 1 rfl) ?_
  refine lv_aload_n hx hb dL_law_801 rfl (lv_at hl 0 rfl) ?_
  refine lv_iload_n hx hb dL_law_802 rfl (lv_at hl 3 rfl) ?_
  refine r_iconst hx hb dL_law_803 (by decide) (by decide) (fun x803 e803 => ?_)
  refine r_iadd hx hb dL_law_804 (by omega) (by omega) (fun x804 e804 => ?_)
  refine sldJ hx hb hX hbl hbA hS (xi.toNatClampNeg + 1) (by omega) (by omega) dL_law_805 ?_
  obtain ⟨r9, σ1, e1, hc1⟩ := ct_orders hrel (xs (xi.toNatClampNeg + 1)).toInt
  obtain ⟨r8, φ1, e2, hm1⟩ := mt_orders hrel (xs (xi.toNatClampNeg + 1)).toInt
  have e13 : σ1 13 = σ 13 := hc1.1 13 (by decide) (by decide) (by decide)
  have hr1 := rlS_s hrel hc1 hm1
  refine cl_Vi (z := z) (A := kA s) (rest := []) hC hK hSK (c_X6_orders l z σ h1 g1 (xs (xi.toNatClampNeg + 1)) (r9, σ1) e1) k_X6_orders mw_3_170 ⟨rfl, rfl, (Nat.le_of_ble_eq_true rfl), (Nat.le_of_ble_eq_true rfl)⟩ (rv_HeelDance hK hT g1) hT rfl hl.1 rfl (Nat.le_of_ble_eq_true rfl) dL_law_806 ⟨(Nat.le_of_ble_eq_true rfl), (Nat.le_of_ble_eq_true rfl)⟩ hS hAA hNA (fun r806 H locs hpo hS => ?_)
  obtain ⟨σq, he1, hT⟩ := hpo
  obtain ⟨er1, es1⟩ := Prod.mk.inj (Option.some.inj he1)
  rw [es1] at hT
  refine lv_pop hx hb dL_law_809 rfl ?_
  refine lv_aload_n hx hb dL_law_810 rfl (lv_at hl 2 rfl) ?_
  refine lv_aload_n hx hb dL_law_811 rfl (lv_at hl 0 rfl) ?_
  refine lv_iload_n hx hb dL_law_812 rfl (lv_at hl 3 rfl) ?_
  refine r_iconst hx hb dL_law_813 (by decide) (by decide) (fun x813 e813 => ?_)
  refine r_iadd hx hb dL_law_814 (by omega) (by omega) (fun x814 e814 => ?_)
  refine sldJ hx hb hX hbl hbA hS (xi.toNatClampNeg + 1) (by omega) (by omega) dL_law_815 ?_
  refine cl_Vi (z := z) (A := kA s) (rest := []) hC hK hSK (c_X7_orders l z σ1 h2 13 g2 (xs (xi.toNatClampNeg + 1)) (r8, φ1) (by rw [e13]; exact e2)) k_X7_orders mw_5_148 ⟨rfl, rfl, (Nat.le_of_ble_eq_true rfl), (Nat.le_of_ble_eq_true rfl)⟩ (rv_Model hK hT g2) hT rfl hl.1 rfl (Nat.le_of_ble_eq_true rfl) dL_law_816 ⟨(Nat.le_of_ble_eq_true rfl), (Nat.le_of_ble_eq_true rfl)⟩ hS hAA hNA (fun r816 H locs hpo hS => ?_)
  obtain ⟨σ2, he2, hf2, hT⟩ := hpo
  obtain ⟨er2, es2⟩ := Prod.mk.inj (Option.some.inj he2)
  have hs2 : gset σ1 13 φ1 = σ2 := by rw [← es2]; exact FR_eq hf2
  rw [hs2] at hr1
  refine lv_pop hx hb dL_law_819 rfl ?_
  refine lv_goto (tgt := 1334) hx hb dL_law_820 (by decide) ?_
  exact kont _ _ _ _ hT hr1 hS
set_option maxHeartbeats 4000000 in
set_option maxRecDepth 100000 in
theorem lc_23 {p : Program} {l : Launch} {e : Env} {s : State} {m : MethodId} {below : List Frame} {meth : Method} {c : Code} {b L : Nat} {xs : Nat → Int32} {z : Zt} {h1 h2 : Nat} (C : LwC p s m meth c b L xs z h1 h2) {xi : Int32} (hxi : 0 ≤ xi.toInt) (hxL : xi.toInt + 5 ≤ L) {N : Nat} {σ : Sg} {H : Heap} {locs : List Loc} {ls : Array Slot} (hT : TY z (zA z) σ H) (hrel : rlS N σ) (hS : va_S (kA s) s.heap H locs) (hl : lv_has ls 4 [(0, .ref b), (1, .ref h1), (2, .ref h2), (3, .int xi)]) (kont : ∀ (N : Nat) (σ : Sg) (H : Heap) (locs : List Loc), TY z (zA z) σ H → rlS N σ → va_S (kA s) s.heap H locs → LW p l e s m below meth c b H locs 1334 ls []) : LW p l e s m below meth c b H locs 823 ls [] := by
  obtain ⟨hx, hb, hr, hml, hown, hts, hX, hbl, hlk, hK, hSK, hAA, g1, g2, hL⟩ := id C
  have hC : CallFix p m c cL_law 4 s #[Value.ref b] lw_ok RL := ⟨hx, hb, hml, hown, hts⟩
  have hbA : ¬ kA s b := Nat.not_le.mpr hbl
  have hNA : ∀ q, q < s.heap.size → ¬ zA z q → ¬ kA s q := fun q h _ h2 => absurd h (Nat.not_lt.mpr h2)
  have nxi := ix_nat (i := xi) hxi
  refine lv_aload_n hx hb dL_law_823 rfl (lv_at hl 1 rfl) ?_
  refine lv_aload_n hx hb dL_law_824 rfl (lv_at hl 0 rfl) ?_
  refine lv_iload_n hx hb dL_law_825 rfl (lv_at hl 3 rfl) ?_
  refine r_iconst hx hb dL_law_826 (by decide) (by decide) (fun x826 e826 => ?_)
  refine r_iadd hx hb dL_law_827 (by omega) (by omega) (fun x827 e827 => ?_)
  refine sldJ hx hb hX hbl hbA hS (xi.toNatClampNeg + 1) (by omega) (by omega) dL_law_828 ?_
  obtain ⟨r9, σ1, φ1, N1, e1, e13, e2, hr1⟩ := cl_again hrel (xs (xi.toNatClampNeg + 1)).toInt
  refine cl_Vi (z := z) (A := kA s) (rest := []) hC hK hSK (c_X6_again l z σ h1 g1 (xs (xi.toNatClampNeg + 1)) (r9, σ1) e1) k_X6_again mw_3_174 ⟨rfl, rfl, (Nat.le_of_ble_eq_true rfl), (Nat.le_of_ble_eq_true rfl)⟩ (rv_HeelDance hK hT g1) hT rfl hl.1 rfl (Nat.le_of_ble_eq_true rfl) dL_law_829 ⟨(Nat.le_of_ble_eq_true rfl), (Nat.le_of_ble_eq_true rfl)⟩ hS hAA hNA (fun r829 H locs hpo hS => ?_)
  obtain ⟨σq, he1, hT⟩ := hpo
  obtain ⟨er1, es1⟩ := Prod.mk.inj (Option.some.inj he1)
  rw [es1] at hT
  refine lv_pop hx hb dL_law_832 rfl ?_
  refine lv_aload_n hx hb dL_law_833 rfl (lv_at hl 2 rfl) ?_
  refine lv_aload_n hx hb dL_law_834 rfl (lv_at hl 0 rfl) ?_
  refine lv_iload_n hx hb dL_law_835 rfl (lv_at hl 3 rfl) ?_
  refine r_iconst hx hb dL_law_836 (by decide) (by decide) (fun x836 e836 => ?_)
  refine r_iadd hx hb dL_law_837 (by omega) (by omega) (fun x837 e837 => ?_)
  refine sldJ hx hb hX hbl hbA hS (xi.toNatClampNeg + 1) (by omega) (by omega) dL_law_838 ?_
  refine cl_Vi (z := z) (A := kA s) (rest := []) hC hK hSK (c_X7_again l z σ1 h2 13 g2 (xs (xi.toNatClampNeg + 1)) (r9, φ1) (by rw [e13]; exact e2)) k_X7_again mw_5_159 ⟨rfl, rfl, (Nat.le_of_ble_eq_true rfl), (Nat.le_of_ble_eq_true rfl)⟩ (rv_Model hK hT g2) hT rfl hl.1 rfl (Nat.le_of_ble_eq_true rfl) dL_law_839 ⟨(Nat.le_of_ble_eq_true rfl), (Nat.le_of_ble_eq_true rfl)⟩ hS hAA hNA (fun r839 H locs hpo hS => ?_)
  obtain ⟨σ2, he2, hf2, hT⟩ := hpo
  obtain ⟨er2, es2⟩ := Prod.mk.inj (Option.some.inj he2)
  have hs2 : gset σ1 13 φ1 = σ2 := by rw [← es2]; exact FR_eq hf2
  rw [hs2] at hr1
  refine lv_pop hx hb dL_law_842 rfl ?_
  refine lv_goto (tgt := 1334) hx hb dL_law_843 (by decide) ?_
  exact kont _ _ _ _ hT hr1 hS
set_option maxHeartbeats 4000000 in
set_option maxRecDepth 100000 in
theorem lc_24 {p : Program} {l : Launch} {e : Env} {s : State} {m : MethodId} {below : List Frame} {meth : Method} {c : Code} {b L : Nat} {xs : Nat → Int32} {z : Zt} {h1 h2 : Nat} (C : LwC p s m meth c b L xs z h1 h2) {xi : Int32} (hxi : 0 ≤ xi.toInt) (hxL : xi.toInt + 5 ≤ L) {N : Nat} {σ : Sg} {H : Heap} {locs : List Loc} {ls : Array Slot} (hT : TY z (zA z) σ H) (hrel : rlS N σ) (hS : va_S (kA s) s.heap H locs) (hl : lv_has ls 4 [(0, .ref b), (1, .ref h1), (2, .ref h2), (3, .int xi)]) (kont : ∀ (N : Nat) (σ : Sg) (H : Heap) (locs : List Loc), TY z (zA z) σ H → rlS N σ → va_S (kA s) s.heap H locs → LW p l e s m below meth c b H locs 1334 ls []) : LW p l e s m below meth c b H locs 846 ls [] := by
  obtain ⟨hx, hb, hr, hml, hown, hts, hX, hbl, hlk, hK, hSK, hAA, g1, g2, hL⟩ := id C
  have hC : CallFix p m c cL_law 4 s #[Value.ref b] lw_ok RL := ⟨hx, hb, hml, hown, hts⟩
  have hbA : ¬ kA s b := Nat.not_le.mpr hbl
  have hNA : ∀ q, q < s.heap.size → ¬ zA z q → ¬ kA s q := fun q h _ h2 => absurd h (Nat.not_lt.mpr h2)
  have nxi := ix_nat (i := xi) hxi
  refine lv_aload_n hx hb dL_law_846 rfl (lv_at hl 1 rfl) ?_
  refine lv_aload_n hx hb dL_law_847 rfl (lv_at hl 0 rfl) ?_
  refine lv_iload_n hx hb dL_law_848 rfl (lv_at hl 3 rfl) ?_
  refine r_iconst hx hb dL_law_849 (by decide) (by decide) (fun x849 e849 => ?_)
  refine r_iadd hx hb dL_law_850 (by omega) (by omega) (fun x850 e850 => ?_)
  refine sldJ hx hb hX hbl hbA hS (xi.toNatClampNeg + 1) (by omega) (by omega) dL_law_851 ?_
  obtain ⟨r9, σ1, φ1, N1, e1, e13, e2, hr1⟩ := cl_coins hrel (xs (xi.toNatClampNeg + 1)).toInt
  refine cl_Vi (z := z) (A := kA s) (rest := []) hC hK hSK (c_X6_coins l z σ h1 g1 (xs (xi.toNatClampNeg + 1)) (r9, σ1) e1) k_X6_coins mw_3_182 ⟨rfl, rfl, (Nat.le_of_ble_eq_true rfl), (Nat.le_of_ble_eq_true rfl)⟩ (rv_HeelDance hK hT g1) hT rfl hl.1 rfl (Nat.le_of_ble_eq_true rfl) dL_law_852 ⟨(Nat.le_of_ble_eq_true rfl), (Nat.le_of_ble_eq_true rfl)⟩ hS hAA hNA (fun r852 H locs hpo hS => ?_)
  obtain ⟨σq, he1, hT⟩ := hpo
  obtain ⟨er1, es1⟩ := Prod.mk.inj (Option.some.inj he1)
  rw [es1] at hT
  refine lv_pop hx hb dL_law_855 rfl ?_
  refine lv_aload_n hx hb dL_law_856 rfl (lv_at hl 2 rfl) ?_
  refine lv_aload_n hx hb dL_law_857 rfl (lv_at hl 0 rfl) ?_
  refine lv_iload_n hx hb dL_law_858 rfl (lv_at hl 3 rfl) ?_
  refine r_iconst hx hb dL_law_859 (by decide) (by decide) (fun x859 e859 => ?_)
  refine r_iadd hx hb dL_law_860 (by omega) (by omega) (fun x860 e860 => ?_)
  refine sldJ hx hb hX hbl hbA hS (xi.toNatClampNeg + 1) (by omega) (by omega) dL_law_861 ?_
  refine cl_Vi (z := z) (A := kA s) (rest := []) hC hK hSK (c_X7_coins l z σ1 h2 13 g2 (xs (xi.toNatClampNeg + 1)) (r9, φ1) (by rw [e13]; exact e2)) k_X7_coins mw_5_167 ⟨rfl, rfl, (Nat.le_of_ble_eq_true rfl), (Nat.le_of_ble_eq_true rfl)⟩ (rv_Model hK hT g2) hT rfl hl.1 rfl (Nat.le_of_ble_eq_true rfl) dL_law_862 ⟨(Nat.le_of_ble_eq_true rfl), (Nat.le_of_ble_eq_true rfl)⟩ hS hAA hNA (fun r862 H locs hpo hS => ?_)
  obtain ⟨σ2, he2, hf2, hT⟩ := hpo
  obtain ⟨er2, es2⟩ := Prod.mk.inj (Option.some.inj he2)
  have hs2 : gset σ1 13 φ1 = σ2 := by rw [← es2]; exact FR_eq hf2
  rw [hs2] at hr1
  refine lv_pop hx hb dL_law_865 rfl ?_
  refine lv_goto (tgt := 1334) hx hb dL_law_866 (by decide) ?_
  exact kont _ _ _ _ hT hr1 hS
set_option maxHeartbeats 4000000 in
set_option maxRecDepth 100000 in
theorem lc_25 {p : Program} {l : Launch} {e : Env} {s : State} {m : MethodId} {below : List Frame} {meth : Method} {c : Code} {b L : Nat} {xs : Nat → Int32} {z : Zt} {h1 h2 : Nat} (C : LwC p s m meth c b L xs z h1 h2) {xi : Int32} (hxi : 0 ≤ xi.toInt) (hxL : xi.toInt + 5 ≤ L) {N : Nat} {σ : Sg} {H : Heap} {locs : List Loc} {ls : Array Slot} (hT : TY z (zA z) σ H) (hrel : rlS N σ) (hS : va_S (kA s) s.heap H locs) (hl : lv_has ls 4 [(0, .ref b), (1, .ref h1), (2, .ref h2), (3, .int xi)]) (kont : ∀ (N : Nat) (σ : Sg) (H : Heap) (locs : List Loc), TY z (zA z) σ H → rlS N σ → va_S (kA s) s.heap H locs → LW p l e s m below meth c b H locs 1334 ls []) : LW p l e s m below meth c b H locs 869 ls [] := by
  obtain ⟨hx, hb, hr, hml, hown, hts, hX, hbl, hlk, hK, hSK, hAA, g1, g2, hL⟩ := id C
  have hC : CallFix p m c cL_law 4 s #[Value.ref b] lw_ok RL := ⟨hx, hb, hml, hown, hts⟩
  have hbA : ¬ kA s b := Nat.not_le.mpr hbl
  have hNA : ∀ q, q < s.heap.size → ¬ zA z q → ¬ kA s q := fun q h _ h2 => absurd h (Nat.not_lt.mpr h2)
  have nxi := ix_nat (i := xi) hxi
  refine lv_aload_n hx hb dL_law_869 rfl (lv_at hl 1 rfl) ?_
  refine lv_aload_n hx hb dL_law_870 rfl (lv_at hl 0 rfl) ?_
  refine lv_iload_n hx hb dL_law_871 rfl (lv_at hl 3 rfl) ?_
  refine r_iconst hx hb dL_law_872 (by decide) (by decide) (fun x872 e872 => ?_)
  refine r_iadd hx hb dL_law_873 (by omega) (by omega) (fun x873 e873 => ?_)
  refine sldJ hx hb hX hbl hbA hS (xi.toNatClampNeg + 1) (by omega) (by omega) dL_law_874 ?_
  refine lv_aload_n hx hb dL_law_875 rfl (lv_at hl 0 rfl) ?_
  refine lv_iload_n hx hb dL_law_876 rfl (lv_at hl 3 rfl) ?_
  refine r_iconst hx hb dL_law_877 (by decide) (by decide) (fun x877 e877 => ?_)
  refine r_iadd hx hb dL_law_878 (by omega) (by omega) (fun x878 e878 => ?_)
  refine sldJ hx hb hX hbl hbA hS (xi.toNatClampNeg + 2) (by omega) (by omega) dL_law_879 ?_
  refine lv_aload_n hx hb dL_law_880 rfl (lv_at hl 0 rfl) ?_
  refine lv_iload_n hx hb dL_law_881 rfl (lv_at hl 3 rfl) ?_
  refine r_iconst hx hb dL_law_882 (by decide) (by decide) (fun x882 e882 => ?_)
  refine r_iadd hx hb dL_law_883 (by omega) (by omega) (fun x883 e883 => ?_)
  refine sldJ hx hb hX hbl hbA hS (xi.toNatClampNeg + 3) (by omega) (by omega) dL_law_884 ?_
  obtain ⟨r9, σ1, φ1, N1, e1, e13, e2, hr1⟩ := cl_luck hrel (xs (xi.toNatClampNeg + 1)).toInt (xs (xi.toNatClampNeg + 2)).toInt (xs (xi.toNatClampNeg + 3)).toInt
  refine cl_Vl (z := z) (A := kA s) (rest := []) hC hK hSK (c_X6_luck l z σ h1 g1 (xs (xi.toNatClampNeg + 1)) (xs (xi.toNatClampNeg + 2)) (xs (xi.toNatClampNeg + 3)) (r9, σ1) e1) k_X6_luck mw_3_186 ⟨rfl, rfl, (Nat.le_of_ble_eq_true rfl), (Nat.le_of_ble_eq_true rfl)⟩ (rv_HeelDance hK hT g1) hT rfl hl.1 rfl (Nat.le_of_ble_eq_true rfl) dL_law_885 ⟨(Nat.le_of_ble_eq_true rfl), (Nat.le_of_ble_eq_true rfl)⟩ hS hAA hNA (fun r885 H locs hpo hS => ?_)
  obtain ⟨σq, he1, hT⟩ := hpo
  obtain ⟨er1, es1⟩ := Prod.mk.inj (Option.some.inj he1)
  rw [es1] at hT
  refine lv_pop2_2 hx hb dL_law_888 rfl ?_
  refine lv_aload_n hx hb dL_law_889 rfl (lv_at hl 2 rfl) ?_
  refine lv_aload_n hx hb dL_law_890 rfl (lv_at hl 0 rfl) ?_
  refine lv_iload_n hx hb dL_law_891 rfl (lv_at hl 3 rfl) ?_
  refine r_iconst hx hb dL_law_892 (by decide) (by decide) (fun x892 e892 => ?_)
  refine r_iadd hx hb dL_law_893 (by omega) (by omega) (fun x893 e893 => ?_)
  refine sldJ hx hb hX hbl hbA hS (xi.toNatClampNeg + 1) (by omega) (by omega) dL_law_894 ?_
  refine lv_aload_n hx hb dL_law_895 rfl (lv_at hl 0 rfl) ?_
  refine lv_iload_n hx hb dL_law_896 rfl (lv_at hl 3 rfl) ?_
  refine r_iconst hx hb dL_law_897 (by decide) (by decide) (fun x897 e897 => ?_)
  refine r_iadd hx hb dL_law_898 (by omega) (by omega) (fun x898 e898 => ?_)
  refine sldJ hx hb hX hbl hbA hS (xi.toNatClampNeg + 2) (by omega) (by omega) dL_law_899 ?_
  refine lv_aload_n hx hb dL_law_900 rfl (lv_at hl 0 rfl) ?_
  refine lv_iload_n hx hb dL_law_901 rfl (lv_at hl 3 rfl) ?_
  refine r_iconst hx hb dL_law_902 (by decide) (by decide) (fun x902 e902 => ?_)
  refine r_iadd hx hb dL_law_903 (by omega) (by omega) (fun x903 e903 => ?_)
  refine sldJ hx hb hX hbl hbA hS (xi.toNatClampNeg + 3) (by omega) (by omega) dL_law_904 ?_
  refine cl_Vl (z := z) (A := kA s) (rest := []) hC hK hSK (c_X7_luck l z σ1 h2 13 g2 (xs (xi.toNatClampNeg + 1)) (xs (xi.toNatClampNeg + 2)) (xs (xi.toNatClampNeg + 3)) (r9, φ1) (by rw [e13]; exact e2)) k_X7_luck mw_5_172 ⟨rfl, rfl, (Nat.le_of_ble_eq_true rfl), (Nat.le_of_ble_eq_true rfl)⟩ (rv_Model hK hT g2) hT rfl hl.1 rfl (Nat.le_of_ble_eq_true rfl) dL_law_905 ⟨(Nat.le_of_ble_eq_true rfl), (Nat.le_of_ble_eq_true rfl)⟩ hS hAA hNA (fun r905 H locs hpo hS => ?_)
  obtain ⟨σ2, he2, hf2, hT⟩ := hpo
  obtain ⟨er2, es2⟩ := Prod.mk.inj (Option.some.inj he2)
  have hs2 : gset σ1 13 φ1 = σ2 := by rw [← es2]; exact FR_eq hf2
  rw [hs2] at hr1
  refine lv_pop2_2 hx hb dL_law_908 rfl ?_
  refine lv_goto (tgt := 1334) hx hb dL_law_909 (by decide) ?_
  exact kont _ _ _ _ hT hr1 hS
set_option maxHeartbeats 4000000 in
set_option maxRecDepth 100000 in
theorem lc_26 {p : Program} {l : Launch} {e : Env} {s : State} {m : MethodId} {below : List Frame} {meth : Method} {c : Code} {b L : Nat} {xs : Nat → Int32} {z : Zt} {h1 h2 : Nat} (C : LwC p s m meth c b L xs z h1 h2) {xi : Int32} (hxi : 0 ≤ xi.toInt) (hxL : xi.toInt + 5 ≤ L) {N : Nat} {σ : Sg} {H : Heap} {locs : List Loc} {ls : Array Slot} (hT : TY z (zA z) σ H) (hrel : rlS N σ) (hS : va_S (kA s) s.heap H locs) (hl : lv_has ls 4 [(0, .ref b), (1, .ref h1), (2, .ref h2), (3, .int xi)]) (kont : ∀ (N : Nat) (σ : Sg) (H : Heap) (locs : List Loc), TY z (zA z) σ H → rlS N σ → va_S (kA s) s.heap H locs → LW p l e s m below meth c b H locs 1334 ls []) : LW p l e s m below meth c b H locs 912 ls [] := by
  obtain ⟨hx, hb, hr, hml, hown, hts, hX, hbl, hlk, hK, hSK, hAA, g1, g2, hL⟩ := id C
  have hC : CallFix p m c cL_law 4 s #[Value.ref b] lw_ok RL := ⟨hx, hb, hml, hown, hts⟩
  have hbA : ¬ kA s b := Nat.not_le.mpr hbl
  have hNA : ∀ q, q < s.heap.size → ¬ zA z q → ¬ kA s q := fun q h _ h2 => absurd h (Nat.not_lt.mpr h2)
  have nxi := ix_nat (i := xi) hxi
  refine lv_aload_n hx hb dL_law_912 rfl (lv_at hl 1 rfl) ?_
  refine lv_aload_n hx hb dL_law_913 rfl (lv_at hl 0 rfl) ?_
  refine lv_iload_n hx hb dL_law_914 rfl (lv_at hl 3 rfl) ?_
  refine r_iconst hx hb dL_law_915 (by decide) (by decide) (fun x915 e915 => ?_)
  refine r_iadd hx hb dL_law_916 (by omega) (by omega) (fun x916 e916 => ?_)
  refine sldJ hx hb hX hbl hbA hS (xi.toNatClampNeg + 1) (by omega) (by omega) dL_law_917 ?_
  refine lv_aload_n hx hb dL_law_918 rfl (lv_at hl 0 rfl) ?_
  refine lv_iload_n hx hb dL_law_919 rfl (lv_at hl 3 rfl) ?_
  refine r_iconst hx hb dL_law_920 (by decide) (by decide) (fun x920 e920 => ?_)
  refine r_iadd hx hb dL_law_921 (by omega) (by omega) (fun x921 e921 => ?_)
  refine sldJ hx hb hX hbl hbA hS (xi.toNatClampNeg + 2) (by omega) (by omega) dL_law_922 ?_
  obtain ⟨r9, σ1, φ1, N1, e1, e13, e2, hr1⟩ := cl_mean hrel (xs (xi.toNatClampNeg + 1)).toInt (xs (xi.toNatClampNeg + 2)).toInt
  refine cl_Vl (z := z) (A := kA s) (rest := []) hC hK hSK (c_X6_mean l z σ h1 g1 (xs (xi.toNatClampNeg + 1)) (xs (xi.toNatClampNeg + 2)) (r9, σ1) e1) k_X6_mean mw_3_208 ⟨rfl, rfl, (Nat.le_of_ble_eq_true rfl), (Nat.le_of_ble_eq_true rfl)⟩ (rv_HeelDance hK hT g1) hT rfl hl.1 rfl (Nat.le_of_ble_eq_true rfl) dL_law_923 ⟨(Nat.le_of_ble_eq_true rfl), (Nat.le_of_ble_eq_true rfl)⟩ hS hAA hNA (fun r923 H locs hpo hS => ?_)
  obtain ⟨σq, he1, hT⟩ := hpo
  obtain ⟨er1, es1⟩ := Prod.mk.inj (Option.some.inj he1)
  rw [es1] at hT
  refine lv_pop2_2 hx hb dL_law_926 rfl ?_
  refine lv_aload_n hx hb dL_law_927 rfl (lv_at hl 2 rfl) ?_
  refine lv_aload_n hx hb dL_law_928 rfl (lv_at hl 0 rfl) ?_
  refine lv_iload_n hx hb dL_law_929 rfl (lv_at hl 3 rfl) ?_
  refine r_iconst hx hb dL_law_930 (by decide) (by decide) (fun x930 e930 => ?_)
  refine r_iadd hx hb dL_law_931 (by omega) (by omega) (fun x931 e931 => ?_)
  refine sldJ hx hb hX hbl hbA hS (xi.toNatClampNeg + 1) (by omega) (by omega) dL_law_932 ?_
  refine lv_aload_n hx hb dL_law_933 rfl (lv_at hl 0 rfl) ?_
  refine lv_iload_n hx hb dL_law_934 rfl (lv_at hl 3 rfl) ?_
  refine r_iconst hx hb dL_law_935 (by decide) (by decide) (fun x935 e935 => ?_)
  refine r_iadd hx hb dL_law_936 (by omega) (by omega) (fun x936 e936 => ?_)
  refine sldJ hx hb hX hbl hbA hS (xi.toNatClampNeg + 2) (by omega) (by omega) dL_law_937 ?_
  refine cl_Vl (z := z) (A := kA s) (rest := []) hC hK hSK (c_X7_mean l z σ1 h2 13 g2 (xs (xi.toNatClampNeg + 1)) (xs (xi.toNatClampNeg + 2)) (r9, φ1) (by rw [e13]; exact e2)) k_X7_mean mw_5_192 ⟨rfl, rfl, (Nat.le_of_ble_eq_true rfl), (Nat.le_of_ble_eq_true rfl)⟩ (rv_Model hK hT g2) hT rfl hl.1 rfl (Nat.le_of_ble_eq_true rfl) dL_law_938 ⟨(Nat.le_of_ble_eq_true rfl), (Nat.le_of_ble_eq_true rfl)⟩ hS hAA hNA (fun r938 H locs hpo hS => ?_)
  obtain ⟨σ2, he2, hf2, hT⟩ := hpo
  obtain ⟨er2, es2⟩ := Prod.mk.inj (Option.some.inj he2)
  have hs2 : gset σ1 13 φ1 = σ2 := by rw [← es2]; exact FR_eq hf2
  rw [hs2] at hr1
  refine lv_pop2_2 hx hb dL_law_941 rfl ?_
  refine lv_goto (tgt := 1334) hx hb dL_law_942 (by decide) ?_
  exact kont _ _ _ _ hT hr1 hS
set_option maxHeartbeats 4000000 in
set_option maxRecDepth 100000 in
theorem lc_27 {p : Program} {l : Launch} {e : Env} {s : State} {m : MethodId} {below : List Frame} {meth : Method} {c : Code} {b L : Nat} {xs : Nat → Int32} {z : Zt} {h1 h2 : Nat} (C : LwC p s m meth c b L xs z h1 h2) {xi : Int32} (hxi : 0 ≤ xi.toInt) (hxL : xi.toInt + 5 ≤ L) {N : Nat} {σ : Sg} {H : Heap} {locs : List Loc} {ls : Array Slot} (hT : TY z (zA z) σ H) (hrel : rlS N σ) (hS : va_S (kA s) s.heap H locs) (hl : lv_has ls 4 [(0, .ref b), (1, .ref h1), (2, .ref h2), (3, .int xi)]) (kont : ∀ (N : Nat) (σ : Sg) (H : Heap) (locs : List Loc), TY z (zA z) σ H → rlS N σ → va_S (kA s) s.heap H locs → LW p l e s m below meth c b H locs 1334 ls []) : LW p l e s m below meth c b H locs 945 ls [] := by
  obtain ⟨hx, hb, hr, hml, hown, hts, hX, hbl, hlk, hK, hSK, hAA, g1, g2, hL⟩ := id C
  have hC : CallFix p m c cL_law 4 s #[Value.ref b] lw_ok RL := ⟨hx, hb, hml, hown, hts⟩
  have hbA : ¬ kA s b := Nat.not_le.mpr hbl
  have hNA : ∀ q, q < s.heap.size → ¬ zA z q → ¬ kA s q := fun q h _ h2 => absurd h (Nat.not_lt.mpr h2)
  have nxi := ix_nat (i := xi) hxi
  refine lv_aload_n hx hb dL_law_945 rfl (lv_at hl 1 rfl) ?_
  refine lv_aload_n hx hb dL_law_946 rfl (lv_at hl 0 rfl) ?_
  refine lv_iload_n hx hb dL_law_947 rfl (lv_at hl 3 rfl) ?_
  refine r_iconst hx hb dL_law_948 (by decide) (by decide) (fun x948 e948 => ?_)
  refine r_iadd hx hb dL_law_949 (by omega) (by omega) (fun x949 e949 => ?_)
  refine sldJ hx hb hX hbl hbA hS (xi.toNatClampNeg + 1) (by omega) (by omega) dL_law_950 ?_
  refine lv_aload_n hx hb dL_law_951 rfl (lv_at hl 0 rfl) ?_
  refine lv_iload_n hx hb dL_law_952 rfl (lv_at hl 3 rfl) ?_
  refine r_iconst hx hb dL_law_953 (by decide) (by decide) (fun x953 e953 => ?_)
  refine r_iadd hx hb dL_law_954 (by omega) (by omega) (fun x954 e954 => ?_)
  refine sldJ hx hb hX hbl hbA hS (xi.toNatClampNeg + 2) (by omega) (by omega) dL_law_955 ?_
  refine lv_aload_n hx hb dL_law_956 rfl (lv_at hl 0 rfl) ?_
  refine lv_iload_n hx hb dL_law_957 rfl (lv_at hl 3 rfl) ?_
  refine r_iconst hx hb dL_law_958 (by decide) (by decide) (fun x958 e958 => ?_)
  refine r_iadd hx hb dL_law_959 (by omega) (by omega) (fun x959 e959 => ?_)
  refine sldJ hx hb hX hbl hbA hS (xi.toNatClampNeg + 3) (by omega) (by omega) dL_law_960 ?_
  obtain ⟨r9, σ1, φ1, N1, e1, e13, e2, hr1⟩ := cl_see hrel (xs (xi.toNatClampNeg + 1)).toInt (xs (xi.toNatClampNeg + 2)).toInt (xs (xi.toNatClampNeg + 3)).toInt
  refine cl_Vi (z := z) (A := kA s) (rest := []) hC hK hSK (c_X6_see l z σ h1 g1 (xs (xi.toNatClampNeg + 1)) (xs (xi.toNatClampNeg + 2)) (xs (xi.toNatClampNeg + 3)) (r9, σ1) e1) k_X6_see mw_3_212 ⟨rfl, rfl, (Nat.le_of_ble_eq_true rfl), (Nat.le_of_ble_eq_true rfl)⟩ (rv_HeelDance hK hT g1) hT rfl hl.1 rfl (Nat.le_of_ble_eq_true rfl) dL_law_961 ⟨(Nat.le_of_ble_eq_true rfl), (Nat.le_of_ble_eq_true rfl)⟩ hS hAA hNA (fun r961 H locs hpo hS => ?_)
  obtain ⟨σq, he1, hT⟩ := hpo
  obtain ⟨er1, es1⟩ := Prod.mk.inj (Option.some.inj he1)
  rw [es1] at hT
  refine lv_pop hx hb dL_law_964 rfl ?_
  refine lv_aload_n hx hb dL_law_965 rfl (lv_at hl 2 rfl) ?_
  refine lv_aload_n hx hb dL_law_966 rfl (lv_at hl 0 rfl) ?_
  refine lv_iload_n hx hb dL_law_967 rfl (lv_at hl 3 rfl) ?_
  refine r_iconst hx hb dL_law_968 (by decide) (by decide) (fun x968 e968 => ?_)
  refine r_iadd hx hb dL_law_969 (by omega) (by omega) (fun x969 e969 => ?_)
  refine sldJ hx hb hX hbl hbA hS (xi.toNatClampNeg + 1) (by omega) (by omega) dL_law_970 ?_
  refine lv_aload_n hx hb dL_law_971 rfl (lv_at hl 0 rfl) ?_
  refine lv_iload_n hx hb dL_law_972 rfl (lv_at hl 3 rfl) ?_
  refine r_iconst hx hb dL_law_973 (by decide) (by decide) (fun x973 e973 => ?_)
  refine r_iadd hx hb dL_law_974 (by omega) (by omega) (fun x974 e974 => ?_)
  refine sldJ hx hb hX hbl hbA hS (xi.toNatClampNeg + 2) (by omega) (by omega) dL_law_975 ?_
  refine lv_aload_n hx hb dL_law_976 rfl (lv_at hl 0 rfl) ?_
  refine lv_iload_n hx hb dL_law_977 rfl (lv_at hl 3 rfl) ?_
  refine r_iconst hx hb dL_law_978 (by decide) (by decide) (fun x978 e978 => ?_)
  refine r_iadd hx hb dL_law_979 (by omega) (by omega) (fun x979 e979 => ?_)
  refine sldJ hx hb hX hbl hbA hS (xi.toNatClampNeg + 3) (by omega) (by omega) dL_law_980 ?_
  refine cl_Vi (z := z) (A := kA s) (rest := []) hC hK hSK (c_X7_see l z σ1 h2 13 g2 (xs (xi.toNatClampNeg + 1)) (xs (xi.toNatClampNeg + 2)) (xs (xi.toNatClampNeg + 3)) (r9, φ1) (by rw [e13]; exact e2)) k_X7_see mw_5_196 ⟨rfl, rfl, (Nat.le_of_ble_eq_true rfl), (Nat.le_of_ble_eq_true rfl)⟩ (rv_Model hK hT g2) hT rfl hl.1 rfl (Nat.le_of_ble_eq_true rfl) dL_law_981 ⟨(Nat.le_of_ble_eq_true rfl), (Nat.le_of_ble_eq_true rfl)⟩ hS hAA hNA (fun r981 H locs hpo hS => ?_)
  obtain ⟨σ2, he2, hf2, hT⟩ := hpo
  obtain ⟨er2, es2⟩ := Prod.mk.inj (Option.some.inj he2)
  have hs2 : gset σ1 13 φ1 = σ2 := by rw [← es2]; exact FR_eq hf2
  rw [hs2] at hr1
  refine lv_pop hx hb dL_law_984 rfl ?_
  refine lv_goto (tgt := 1334) hx hb dL_law_985 (by decide) ?_
  exact kont _ _ _ _ hT hr1 hS
set_option maxHeartbeats 4000000 in
set_option maxRecDepth 100000 in
theorem lc_28 {p : Program} {l : Launch} {e : Env} {s : State} {m : MethodId} {below : List Frame} {meth : Method} {c : Code} {b L : Nat} {xs : Nat → Int32} {z : Zt} {h1 h2 : Nat} (C : LwC p s m meth c b L xs z h1 h2) {xi : Int32} (hxi : 0 ≤ xi.toInt) (hxL : xi.toInt + 5 ≤ L) {N : Nat} {σ : Sg} {H : Heap} {locs : List Loc} {ls : Array Slot} (hT : TY z (zA z) σ H) (hrel : rlS N σ) (hS : va_S (kA s) s.heap H locs) (hl : lv_has ls 4 [(0, .ref b), (1, .ref h1), (2, .ref h2), (3, .int xi)]) (kont : ∀ (N : Nat) (σ : Sg) (H : Heap) (locs : List Loc), TY z (zA z) σ H → rlS N σ → va_S (kA s) s.heap H locs → LW p l e s m below meth c b H locs 1334 ls []) : LW p l e s m below meth c b H locs 988 ls [] := by
  obtain ⟨hx, hb, hr, hml, hown, hts, hX, hbl, hlk, hK, hSK, hAA, g1, g2, hL⟩ := id C
  have hC : CallFix p m c cL_law 4 s #[Value.ref b] lw_ok RL := ⟨hx, hb, hml, hown, hts⟩
  have hbA : ¬ kA s b := Nat.not_le.mpr hbl
  have hNA : ∀ q, q < s.heap.size → ¬ zA z q → ¬ kA s q := fun q h _ h2 => absurd h (Nat.not_lt.mpr h2)
  have nxi := ix_nat (i := xi) hxi
  refine lv_aload_n hx hb dL_law_988 rfl (lv_at hl 1 rfl) ?_
  refine lv_aload_n hx hb dL_law_989 rfl (lv_at hl 0 rfl) ?_
  refine lv_iload_n hx hb dL_law_990 rfl (lv_at hl 3 rfl) ?_
  refine r_iconst hx hb dL_law_991 (by decide) (by decide) (fun x991 e991 => ?_)
  refine r_iadd hx hb dL_law_992 (by omega) (by omega) (fun x992 e992 => ?_)
  refine sldJ hx hb hX hbl hbA hS (xi.toNatClampNeg + 1) (by omega) (by omega) dL_law_993 ?_
  obtain ⟨r9, σ1, φ1, N1, e1, e13, e2, hr1⟩ := cl_forget hrel (xs (xi.toNatClampNeg + 1)).toInt
  refine cl_Vi (z := z) (A := kA s) (rest := []) hC hK hSK (c_X6_forget l z σ h1 g1 (xs (xi.toNatClampNeg + 1)) (r9, σ1) e1) k_X6_forget mw_3_220 ⟨rfl, rfl, (Nat.le_of_ble_eq_true rfl), (Nat.le_of_ble_eq_true rfl)⟩ (rv_HeelDance hK hT g1) hT rfl hl.1 rfl (Nat.le_of_ble_eq_true rfl) dL_law_994 ⟨(Nat.le_of_ble_eq_true rfl), (Nat.le_of_ble_eq_true rfl)⟩ hS hAA hNA (fun r994 H locs hpo hS => ?_)
  obtain ⟨σq, he1, hT⟩ := hpo
  obtain ⟨er1, es1⟩ := Prod.mk.inj (Option.some.inj he1)
  rw [es1] at hT
  refine lv_pop hx hb dL_law_997 rfl ?_
  refine lv_aload_n hx hb dL_law_998 rfl (lv_at hl 2 rfl) ?_
  refine lv_aload_n hx hb dL_law_999 rfl (lv_at hl 0 rfl) ?_
  refine lv_iload_n hx hb dL_law_1000 rfl (lv_at hl 3 rfl) ?_
  refine r_iconst hx hb dL_law_1001 (by decide) (by decide) (fun x1001 e1001 => ?_)
  refine r_iadd hx hb dL_law_1002 (by omega) (by omega) (fun x1002 e1002 => ?_)
  refine sldJ hx hb hX hbl hbA hS (xi.toNatClampNeg + 1) (by omega) (by omega) dL_law_1003 ?_
  refine cl_Vi (z := z) (A := kA s) (rest := []) hC hK hSK (c_X7_forget l z σ1 h2 13 g2 (xs (xi.toNatClampNeg + 1)) (r9, φ1) (by rw [e13]; exact e2)) k_X7_forget mw_5_200 ⟨rfl, rfl, (Nat.le_of_ble_eq_true rfl), (Nat.le_of_ble_eq_true rfl)⟩ (rv_Model hK hT g2) hT rfl hl.1 rfl (Nat.le_of_ble_eq_true rfl) dL_law_1004 ⟨(Nat.le_of_ble_eq_true rfl), (Nat.le_of_ble_eq_true rfl)⟩ hS hAA hNA (fun r1004 H locs hpo hS => ?_)
  obtain ⟨σ2, he2, hf2, hT⟩ := hpo
  obtain ⟨er2, es2⟩ := Prod.mk.inj (Option.some.inj he2)
  have hs2 : gset σ1 13 φ1 = σ2 := by rw [← es2]; exact FR_eq hf2
  rw [hs2] at hr1
  refine lv_pop hx hb dL_law_1007 rfl ?_
  refine lv_goto (tgt := 1334) hx hb dL_law_1008 (by decide) ?_
  exact kont _ _ _ _ hT hr1 hS
set_option maxHeartbeats 4000000 in
set_option maxRecDepth 100000 in
theorem lc_29 {p : Program} {l : Launch} {e : Env} {s : State} {m : MethodId} {below : List Frame} {meth : Method} {c : Code} {b L : Nat} {xs : Nat → Int32} {z : Zt} {h1 h2 : Nat} (C : LwC p s m meth c b L xs z h1 h2) {xi : Int32} (hxi : 0 ≤ xi.toInt) (hxL : xi.toInt + 5 ≤ L) {N : Nat} {σ : Sg} {H : Heap} {locs : List Loc} {ls : Array Slot} (hT : TY z (zA z) σ H) (hrel : rlS N σ) (hS : va_S (kA s) s.heap H locs) (hl : lv_has ls 4 [(0, .ref b), (1, .ref h1), (2, .ref h2), (3, .int xi)]) (kont : ∀ (N : Nat) (σ : Sg) (H : Heap) (locs : List Loc), TY z (zA z) σ H → rlS N σ → va_S (kA s) s.heap H locs → LW p l e s m below meth c b H locs 1334 ls []) : LW p l e s m below meth c b H locs 1011 ls [] := by
  obtain ⟨hx, hb, hr, hml, hown, hts, hX, hbl, hlk, hK, hSK, hAA, g1, g2, hL⟩ := id C
  have hC : CallFix p m c cL_law 4 s #[Value.ref b] lw_ok RL := ⟨hx, hb, hml, hown, hts⟩
  have hbA : ¬ kA s b := Nat.not_le.mpr hbl
  have hNA : ∀ q, q < s.heap.size → ¬ zA z q → ¬ kA s q := fun q h _ h2 => absurd h (Nat.not_lt.mpr h2)
  have nxi := ix_nat (i := xi) hxi
  refine lv_aload_n hx hb dL_law_1011 rfl (lv_at hl 1 rfl) ?_
  obtain ⟨r9, σ1, φ1, N1, e1, e13, e2, hr1⟩ := cl_bent hrel 
  refine cl_Vi (z := z) (A := kA s) (rest := []) hC hK hSK (c_X6_bent l z σ h1 g1  (r9, σ1) e1) k_X6_bent mw_3_224 ⟨rfl, rfl, (Nat.le_of_ble_eq_true rfl), (Nat.le_of_ble_eq_true rfl)⟩ (rv_HeelDance hK hT g1) hT rfl hl.1 rfl (Nat.le_of_ble_eq_true rfl) dL_law_1012 ⟨(Nat.le_of_ble_eq_true rfl), (Nat.le_of_ble_eq_true rfl)⟩ hS hAA hNA (fun r1012 H locs hpo hS => ?_)
  obtain ⟨σq, he1, hT⟩ := hpo
  obtain ⟨er1, es1⟩ := Prod.mk.inj (Option.some.inj he1)
  rw [es1] at hT
  refine lv_pop hx hb dL_law_1015 rfl ?_
  refine lv_aload_n hx hb dL_law_1016 rfl (lv_at hl 2 rfl) ?_
  refine cl_Vi (z := z) (A := kA s) (rest := []) hC hK hSK (c_X7_bent l z σ1 h2 13 g2  (r9, φ1) (by rw [e13]; exact e2)) k_X7_bent mw_5_204 ⟨rfl, rfl, (Nat.le_of_ble_eq_true rfl), (Nat.le_of_ble_eq_true rfl)⟩ (rv_Model hK hT g2) hT rfl hl.1 rfl (Nat.le_of_ble_eq_true rfl) dL_law_1017 ⟨(Nat.le_of_ble_eq_true rfl), (Nat.le_of_ble_eq_true rfl)⟩ hS hAA hNA (fun r1017 H locs hpo hS => ?_)
  obtain ⟨σ2, he2, hf2, hT⟩ := hpo
  obtain ⟨er2, es2⟩ := Prod.mk.inj (Option.some.inj he2)
  have hs2 : gset σ1 13 φ1 = σ2 := by rw [← es2]; exact FR_eq hf2
  rw [hs2] at hr1
  refine lv_pop hx hb dL_law_1020 rfl ?_
  refine lv_goto (tgt := 1334) hx hb dL_law_1021 (by decide) ?_
  exact kont _ _ _ _ hT hr1 hS
set_option maxHeartbeats 4000000 in
set_option maxRecDepth 100000 in
theorem lc_30 {p : Program} {l : Launch} {e : Env} {s : State} {m : MethodId} {below : List Frame} {meth : Method} {c : Code} {b L : Nat} {xs : Nat → Int32} {z : Zt} {h1 h2 : Nat} (C : LwC p s m meth c b L xs z h1 h2) {xi : Int32} (hxi : 0 ≤ xi.toInt) (hxL : xi.toInt + 5 ≤ L) {N : Nat} {σ : Sg} {H : Heap} {locs : List Loc} {ls : Array Slot} (hT : TY z (zA z) σ H) (hrel : rlS N σ) (hS : va_S (kA s) s.heap H locs) (hl : lv_has ls 4 [(0, .ref b), (1, .ref h1), (2, .ref h2), (3, .int xi)]) (kont : ∀ (N : Nat) (σ : Sg) (H : Heap) (locs : List Loc), TY z (zA z) σ H → rlS N σ → va_S (kA s) s.heap H locs → LW p l e s m below meth c b H locs 1334 ls []) : LW p l e s m below meth c b H locs 1024 ls [] := by
  obtain ⟨hx, hb, hr, hml, hown, hts, hX, hbl, hlk, hK, hSK, hAA, g1, g2, hL⟩ := id C
  have hC : CallFix p m c cL_law 4 s #[Value.ref b] lw_ok RL := ⟨hx, hb, hml, hown, hts⟩
  have hbA : ¬ kA s b := Nat.not_le.mpr hbl
  have hNA : ∀ q, q < s.heap.size → ¬ zA z q → ¬ kA s q := fun q h _ h2 => absurd h (Nat.not_lt.mpr h2)
  have nxi := ix_nat (i := xi) hxi
  refine lv_aload_n hx hb dL_law_1024 rfl (lv_at hl 1 rfl) ?_
  refine lv_aload_n hx hb dL_law_1025 rfl (lv_at hl 0 rfl) ?_
  refine lv_iload_n hx hb dL_law_1026 rfl (lv_at hl 3 rfl) ?_
  refine r_iconst hx hb dL_law_1027 (by decide) (by decide) (fun x1027 e1027 => ?_)
  refine r_iadd hx hb dL_law_1028 (by omega) (by omega) (fun x1028 e1028 => ?_)
  refine sldJ hx hb hX hbl hbA hS (xi.toNatClampNeg + 1) (by omega) (by omega) dL_law_1029 ?_
  obtain ⟨r9, σ1, φ1, N1, e1, e13, e2, hr1⟩ := cl_heights hrel (xs (xi.toNatClampNeg + 1)).toInt
  refine cl_Vi (z := z) (A := kA s) (rest := []) hC hK hSK (c_X6_heights l z σ h1 g1 (xs (xi.toNatClampNeg + 1)) (r9, σ1) e1) k_X6_heights mw_3_232 ⟨rfl, rfl, (Nat.le_of_ble_eq_true rfl), (Nat.le_of_ble_eq_true rfl)⟩ (rv_HeelDance hK hT g1) hT rfl hl.1 rfl (Nat.le_of_ble_eq_true rfl) dL_law_1030 ⟨(Nat.le_of_ble_eq_true rfl), (Nat.le_of_ble_eq_true rfl)⟩ hS hAA hNA (fun r1030 H locs hpo hS => ?_)
  obtain ⟨σq, he1, hT⟩ := hpo
  obtain ⟨er1, es1⟩ := Prod.mk.inj (Option.some.inj he1)
  rw [es1] at hT
  refine lv_pop hx hb dL_law_1033 rfl ?_
  refine lv_aload_n hx hb dL_law_1034 rfl (lv_at hl 2 rfl) ?_
  refine lv_aload_n hx hb dL_law_1035 rfl (lv_at hl 0 rfl) ?_
  refine lv_iload_n hx hb dL_law_1036 rfl (lv_at hl 3 rfl) ?_
  refine r_iconst hx hb dL_law_1037 (by decide) (by decide) (fun x1037 e1037 => ?_)
  refine r_iadd hx hb dL_law_1038 (by omega) (by omega) (fun x1038 e1038 => ?_)
  refine sldJ hx hb hX hbl hbA hS (xi.toNatClampNeg + 1) (by omega) (by omega) dL_law_1039 ?_
  refine cl_Vi (z := z) (A := kA s) (rest := []) hC hK hSK (c_X7_heights l z σ1 h2 13 g2 (xs (xi.toNatClampNeg + 1)) (r9, φ1) (by rw [e13]; exact e2)) k_X7_heights mw_5_212 ⟨rfl, rfl, (Nat.le_of_ble_eq_true rfl), (Nat.le_of_ble_eq_true rfl)⟩ (rv_Model hK hT g2) hT rfl hl.1 rfl (Nat.le_of_ble_eq_true rfl) dL_law_1040 ⟨(Nat.le_of_ble_eq_true rfl), (Nat.le_of_ble_eq_true rfl)⟩ hS hAA hNA (fun r1040 H locs hpo hS => ?_)
  obtain ⟨σ2, he2, hf2, hT⟩ := hpo
  obtain ⟨er2, es2⟩ := Prod.mk.inj (Option.some.inj he2)
  have hs2 : gset σ1 13 φ1 = σ2 := by rw [← es2]; exact FR_eq hf2
  rw [hs2] at hr1
  refine lv_pop hx hb dL_law_1043 rfl ?_
  refine lv_goto (tgt := 1334) hx hb dL_law_1044 (by decide) ?_
  exact kont _ _ _ _ hT hr1 hS
set_option maxHeartbeats 4000000 in
set_option maxRecDepth 100000 in
theorem lc_31 {p : Program} {l : Launch} {e : Env} {s : State} {m : MethodId} {below : List Frame} {meth : Method} {c : Code} {b L : Nat} {xs : Nat → Int32} {z : Zt} {h1 h2 : Nat} (C : LwC p s m meth c b L xs z h1 h2) {xi : Int32} (hxi : 0 ≤ xi.toInt) (hxL : xi.toInt + 5 ≤ L) {N : Nat} {σ : Sg} {H : Heap} {locs : List Loc} {ls : Array Slot} (hT : TY z (zA z) σ H) (hrel : rlS N σ) (hS : va_S (kA s) s.heap H locs) (hl : lv_has ls 4 [(0, .ref b), (1, .ref h1), (2, .ref h2), (3, .int xi)]) (kont : ∀ (N : Nat) (σ : Sg) (H : Heap) (locs : List Loc), TY z (zA z) σ H → rlS N σ → va_S (kA s) s.heap H locs → LW p l e s m below meth c b H locs 1334 ls []) : LW p l e s m below meth c b H locs 1047 ls [] := by
  obtain ⟨hx, hb, hr, hml, hown, hts, hX, hbl, hlk, hK, hSK, hAA, g1, g2, hL⟩ := id C
  have hC : CallFix p m c cL_law 4 s #[Value.ref b] lw_ok RL := ⟨hx, hb, hml, hown, hts⟩
  have hbA : ¬ kA s b := Nat.not_le.mpr hbl
  have hNA : ∀ q, q < s.heap.size → ¬ zA z q → ¬ kA s q := fun q h _ h2 => absurd h (Nat.not_lt.mpr h2)
  have nxi := ix_nat (i := xi) hxi
  refine lv_aload_n hx hb dL_law_1047 rfl (lv_at hl 1 rfl) ?_
  refine lv_aload_n hx hb dL_law_1048 rfl (lv_at hl 0 rfl) ?_
  refine lv_iload_n hx hb dL_law_1049 rfl (lv_at hl 3 rfl) ?_
  refine r_iconst hx hb dL_law_1050 (by decide) (by decide) (fun x1050 e1050 => ?_)
  refine r_iadd hx hb dL_law_1051 (by omega) (by omega) (fun x1051 e1051 => ?_)
  refine sldJ hx hb hX hbl hbA hS (xi.toNatClampNeg + 1) (by omega) (by omega) dL_law_1052 ?_
  obtain ⟨r9, σ1, φ1, N1, e1, e13, e2, hr1⟩ := cl_shoes hrel (xs (xi.toNatClampNeg + 1)).toInt
  refine cl_Vi (z := z) (A := kA s) (rest := []) hC hK hSK (c_X6_shoes l z σ h1 g1 (xs (xi.toNatClampNeg + 1)) (r9, σ1) e1) k_X6_shoes mw_3_236 ⟨rfl, rfl, (Nat.le_of_ble_eq_true rfl), (Nat.le_of_ble_eq_true rfl)⟩ (rv_HeelDance hK hT g1) hT rfl hl.1 rfl (Nat.le_of_ble_eq_true rfl) dL_law_1053 ⟨(Nat.le_of_ble_eq_true rfl), (Nat.le_of_ble_eq_true rfl)⟩ hS hAA hNA (fun r1053 H locs hpo hS => ?_)
  obtain ⟨σq, he1, hT⟩ := hpo
  obtain ⟨er1, es1⟩ := Prod.mk.inj (Option.some.inj he1)
  rw [es1] at hT
  refine lv_pop hx hb dL_law_1056 rfl ?_
  refine lv_aload_n hx hb dL_law_1057 rfl (lv_at hl 2 rfl) ?_
  refine lv_aload_n hx hb dL_law_1058 rfl (lv_at hl 0 rfl) ?_
  refine lv_iload_n hx hb dL_law_1059 rfl (lv_at hl 3 rfl) ?_
  refine r_iconst hx hb dL_law_1060 (by decide) (by decide) (fun x1060 e1060 => ?_)
  refine r_iadd hx hb dL_law_1061 (by omega) (by omega) (fun x1061 e1061 => ?_)
  refine sldJ hx hb hX hbl hbA hS (xi.toNatClampNeg + 1) (by omega) (by omega) dL_law_1062 ?_
  refine cl_Vi (z := z) (A := kA s) (rest := []) hC hK hSK (c_X7_shoes l z σ1 h2 13 g2 (xs (xi.toNatClampNeg + 1)) (r9, φ1) (by rw [e13]; exact e2)) k_X7_shoes mw_5_216 ⟨rfl, rfl, (Nat.le_of_ble_eq_true rfl), (Nat.le_of_ble_eq_true rfl)⟩ (rv_Model hK hT g2) hT rfl hl.1 rfl (Nat.le_of_ble_eq_true rfl) dL_law_1063 ⟨(Nat.le_of_ble_eq_true rfl), (Nat.le_of_ble_eq_true rfl)⟩ hS hAA hNA (fun r1063 H locs hpo hS => ?_)
  obtain ⟨σ2, he2, hf2, hT⟩ := hpo
  obtain ⟨er2, es2⟩ := Prod.mk.inj (Option.some.inj he2)
  have hs2 : gset σ1 13 φ1 = σ2 := by rw [← es2]; exact FR_eq hf2
  rw [hs2] at hr1
  refine lv_pop hx hb dL_law_1066 rfl ?_
  refine lv_goto (tgt := 1334) hx hb dL_law_1067 (by decide) ?_
  exact kont _ _ _ _ hT hr1 hS
set_option maxHeartbeats 4000000 in
set_option maxRecDepth 100000 in
theorem lc_32 {p : Program} {l : Launch} {e : Env} {s : State} {m : MethodId} {below : List Frame} {meth : Method} {c : Code} {b L : Nat} {xs : Nat → Int32} {z : Zt} {h1 h2 : Nat} (C : LwC p s m meth c b L xs z h1 h2) {xi : Int32} (hxi : 0 ≤ xi.toInt) (hxL : xi.toInt + 5 ≤ L) {N : Nat} {σ : Sg} {H : Heap} {locs : List Loc} {ls : Array Slot} (hT : TY z (zA z) σ H) (hrel : rlS N σ) (hS : va_S (kA s) s.heap H locs) (hl : lv_has ls 4 [(0, .ref b), (1, .ref h1), (2, .ref h2), (3, .int xi)]) (kont : ∀ (N : Nat) (σ : Sg) (H : Heap) (locs : List Loc), TY z (zA z) σ H → rlS N σ → va_S (kA s) s.heap H locs → LW p l e s m below meth c b H locs 1334 ls []) : LW p l e s m below meth c b H locs 1070 ls [] := by
  obtain ⟨hx, hb, hr, hml, hown, hts, hX, hbl, hlk, hK, hSK, hAA, g1, g2, hL⟩ := id C
  have hC : CallFix p m c cL_law 4 s #[Value.ref b] lw_ok RL := ⟨hx, hb, hml, hown, hts⟩
  have hbA : ¬ kA s b := Nat.not_le.mpr hbl
  have hNA : ∀ q, q < s.heap.size → ¬ zA z q → ¬ kA s q := fun q h _ h2 => absurd h (Nat.not_lt.mpr h2)
  have nxi := ix_nat (i := xi) hxi
  refine lv_aload_n hx hb dL_law_1070 rfl (lv_at hl 1 rfl) ?_
  refine lv_aload_n hx hb dL_law_1071 rfl (lv_at hl 0 rfl) ?_
  refine lv_iload_n hx hb dL_law_1072 rfl (lv_at hl 3 rfl) ?_
  refine r_iconst hx hb dL_law_1073 (by decide) (by decide) (fun x1073 e1073 => ?_)
  refine r_iadd hx hb dL_law_1074 (by omega) (by omega) (fun x1074 e1074 => ?_)
  refine sldJ hx hb hX hbl hbA hS (xi.toNatClampNeg + 1) (by omega) (by omega) dL_law_1075 ?_
  refine lv_aload_n hx hb dL_law_1076 rfl (lv_at hl 0 rfl) ?_
  refine lv_iload_n hx hb dL_law_1077 rfl (lv_at hl 3 rfl) ?_
  refine r_iconst hx hb dL_law_1078 (by decide) (by decide) (fun x1078 e1078 => ?_)
  refine r_iadd hx hb dL_law_1079 (by omega) (by omega) (fun x1079 e1079 => ?_)
  refine sldJ hx hb hX hbl hbA hS (xi.toNatClampNeg + 2) (by omega) (by omega) dL_law_1080 ?_
  refine lv_aload_n hx hb dL_law_1081 rfl (lv_at hl 0 rfl) ?_
  refine lv_iload_n hx hb dL_law_1082 rfl (lv_at hl 3 rfl) ?_
  refine r_iconst hx hb dL_law_1083 (by decide) (by decide) (fun x1083 e1083 => ?_)
  refine r_iadd hx hb dL_law_1084 (by omega) (by omega) (fun x1084 e1084 => ?_)
  refine sldJ hx hb hX hbl hbA hS (xi.toNatClampNeg + 3) (by omega) (by omega) dL_law_1085 ?_
  obtain ⟨r9, σ1, φ1, N1, e1, e13, e2, hr1⟩ := cl_drift hrel (xs (xi.toNatClampNeg + 1)).toInt (xs (xi.toNatClampNeg + 2)).toInt (xs (xi.toNatClampNeg + 3)).toInt
  refine cl_Vi (z := z) (A := kA s) (rest := []) hC hK hSK (c_X6_drift l z σ h1 g1 (xs (xi.toNatClampNeg + 1)) (xs (xi.toNatClampNeg + 2)) (xs (xi.toNatClampNeg + 3)) (r9, σ1) e1) k_X6_drift mw_4_0 ⟨rfl, rfl, (Nat.le_of_ble_eq_true rfl), (Nat.le_of_ble_eq_true rfl)⟩ (rv_HeelDance hK hT g1) hT rfl hl.1 rfl (Nat.le_of_ble_eq_true rfl) dL_law_1086 ⟨(Nat.le_of_ble_eq_true rfl), (Nat.le_of_ble_eq_true rfl)⟩ hS hAA hNA (fun r1086 H locs hpo hS => ?_)
  obtain ⟨σq, he1, hT⟩ := hpo
  obtain ⟨er1, es1⟩ := Prod.mk.inj (Option.some.inj he1)
  rw [es1] at hT
  refine lv_pop hx hb dL_law_1089 rfl ?_
  refine lv_aload_n hx hb dL_law_1090 rfl (lv_at hl 2 rfl) ?_
  refine lv_aload_n hx hb dL_law_1091 rfl (lv_at hl 0 rfl) ?_
  refine lv_iload_n hx hb dL_law_1092 rfl (lv_at hl 3 rfl) ?_
  refine r_iconst hx hb dL_law_1093 (by decide) (by decide) (fun x1093 e1093 => ?_)
  refine r_iadd hx hb dL_law_1094 (by omega) (by omega) (fun x1094 e1094 => ?_)
  refine sldJ hx hb hX hbl hbA hS (xi.toNatClampNeg + 1) (by omega) (by omega) dL_law_1095 ?_
  refine lv_aload_n hx hb dL_law_1096 rfl (lv_at hl 0 rfl) ?_
  refine lv_iload_n hx hb dL_law_1097 rfl (lv_at hl 3 rfl) ?_
  refine r_iconst hx hb dL_law_1098 (by decide) (by decide) (fun x1098 e1098 => ?_)
  refine r_iadd hx hb dL_law_1099 (by omega) (by omega) (fun x1099 e1099 => ?_)
  refine sldJ hx hb hX hbl hbA hS (xi.toNatClampNeg + 2) (by omega) (by omega) dL_law_1100 ?_
  refine lv_aload_n hx hb dL_law_1101 rfl (lv_at hl 0 rfl) ?_
  refine lv_iload_n hx hb dL_law_1102 rfl (lv_at hl 3 rfl) ?_
  refine r_iconst hx hb dL_law_1103 (by decide) (by decide) (fun x1103 e1103 => ?_)
  refine r_iadd hx hb dL_law_1104 (by omega) (by omega) (fun x1104 e1104 => ?_)
  refine sldJ hx hb hX hbl hbA hS (xi.toNatClampNeg + 3) (by omega) (by omega) dL_law_1105 ?_
  refine cl_Vi (z := z) (A := kA s) (rest := []) hC hK hSK (c_X7_drift l z σ1 h2 13 g2 (xs (xi.toNatClampNeg + 1)) (xs (xi.toNatClampNeg + 2)) (xs (xi.toNatClampNeg + 3)) (r9, φ1) (by rw [e13]; exact e2)) k_X7_drift mw_5_220 ⟨rfl, rfl, (Nat.le_of_ble_eq_true rfl), (Nat.le_of_ble_eq_true rfl)⟩ (rv_Model hK hT g2) hT rfl hl.1 rfl (Nat.le_of_ble_eq_true rfl) dL_law_1106 ⟨(Nat.le_of_ble_eq_true rfl), (Nat.le_of_ble_eq_true rfl)⟩ hS hAA hNA (fun r1106 H locs hpo hS => ?_)
  obtain ⟨σ2, he2, hf2, hT⟩ := hpo
  obtain ⟨er2, es2⟩ := Prod.mk.inj (Option.some.inj he2)
  have hs2 : gset σ1 13 φ1 = σ2 := by rw [← es2]; exact FR_eq hf2
  rw [hs2] at hr1
  refine lv_pop hx hb dL_law_1109 rfl ?_
  refine lv_goto (tgt := 1334) hx hb dL_law_1110 (by decide) ?_
  exact kont _ _ _ _ hT hr1 hS
set_option maxHeartbeats 4000000 in
set_option maxRecDepth 100000 in
theorem lc_33 {p : Program} {l : Launch} {e : Env} {s : State} {m : MethodId} {below : List Frame} {meth : Method} {c : Code} {b L : Nat} {xs : Nat → Int32} {z : Zt} {h1 h2 : Nat} (C : LwC p s m meth c b L xs z h1 h2) {xi : Int32} (hxi : 0 ≤ xi.toInt) (hxL : xi.toInt + 5 ≤ L) {N : Nat} {σ : Sg} {H : Heap} {locs : List Loc} {ls : Array Slot} (hT : TY z (zA z) σ H) (hrel : rlS N σ) (hS : va_S (kA s) s.heap H locs) (hl : lv_has ls 4 [(0, .ref b), (1, .ref h1), (2, .ref h2), (3, .int xi)]) (kont : ∀ (N : Nat) (σ : Sg) (H : Heap) (locs : List Loc), TY z (zA z) σ H → rlS N σ → va_S (kA s) s.heap H locs → LW p l e s m below meth c b H locs 1334 ls []) : LW p l e s m below meth c b H locs 1113 ls [] := by
  obtain ⟨hx, hb, hr, hml, hown, hts, hX, hbl, hlk, hK, hSK, hAA, g1, g2, hL⟩ := id C
  have hC : CallFix p m c cL_law 4 s #[Value.ref b] lw_ok RL := ⟨hx, hb, hml, hown, hts⟩
  have hbA : ¬ kA s b := Nat.not_le.mpr hbl
  have hNA : ∀ q, q < s.heap.size → ¬ zA z q → ¬ kA s q := fun q h _ h2 => absurd h (Nat.not_lt.mpr h2)
  have nxi := ix_nat (i := xi) hxi
  refine lv_aload_n hx hb dL_law_1113 rfl (lv_at hl 1 rfl) ?_
  refine lv_aload_n hx hb dL_law_1114 rfl (lv_at hl 0 rfl) ?_
  refine lv_iload_n hx hb dL_law_1115 rfl (lv_at hl 3 rfl) ?_
  refine r_iconst hx hb dL_law_1116 (by decide) (by decide) (fun x1116 e1116 => ?_)
  refine r_iadd hx hb dL_law_1117 (by omega) (by omega) (fun x1117 e1117 => ?_)
  refine sldJ hx hb hX hbl hbA hS (xi.toNatClampNeg + 1) (by omega) (by omega) dL_law_1118 ?_
  obtain ⟨r9, σ1, φ1, N1, e1, e13, e2, hr1⟩ := cl_keep hrel (TY_GD hT g2) (xs (xi.toNatClampNeg + 1)).toInt
  refine cl_Vi (z := z) (A := kA s) (rest := []) hC hK hSK (c_X6_keep l z σ h1 g1 (xs (xi.toNatClampNeg + 1)) (r9, σ1) e1) k_X6_keep mw_4_5 ⟨rfl, rfl, (Nat.le_of_ble_eq_true rfl), (Nat.le_of_ble_eq_true rfl)⟩ (rv_HeelDance hK hT g1) hT rfl hl.1 rfl (Nat.le_of_ble_eq_true rfl) dL_law_1119 ⟨(Nat.le_of_ble_eq_true rfl), (Nat.le_of_ble_eq_true rfl)⟩ hS hAA hNA (fun r1119 H locs hpo hS => ?_)
  obtain ⟨σq, he1, hT⟩ := hpo
  obtain ⟨er1, es1⟩ := Prod.mk.inj (Option.some.inj he1)
  rw [es1] at hT
  refine lv_pop hx hb dL_law_1122 rfl ?_
  refine lv_aload_n hx hb dL_law_1123 rfl (lv_at hl 2 rfl) ?_
  refine lv_aload_n hx hb dL_law_1124 rfl (lv_at hl 0 rfl) ?_
  refine lv_iload_n hx hb dL_law_1125 rfl (lv_at hl 3 rfl) ?_
  refine r_iconst hx hb dL_law_1126 (by decide) (by decide) (fun x1126 e1126 => ?_)
  refine r_iadd hx hb dL_law_1127 (by omega) (by omega) (fun x1127 e1127 => ?_)
  refine sldJ hx hb hX hbl hbA hS (xi.toNatClampNeg + 1) (by omega) (by omega) dL_law_1128 ?_
  refine cl_Vi (z := z) (A := kA s) (rest := []) hC hK hSK (c_X7_keep l z σ1 h2 13 g2 (xs (xi.toNatClampNeg + 1)) (r9, φ1) (by rw [e13]; exact e2)) k_X7_keep mw_5_226 ⟨rfl, rfl, (Nat.le_of_ble_eq_true rfl), (Nat.le_of_ble_eq_true rfl)⟩ (rv_Model hK hT g2) hT rfl hl.1 rfl (Nat.le_of_ble_eq_true rfl) dL_law_1129 ⟨(Nat.le_of_ble_eq_true rfl), (Nat.le_of_ble_eq_true rfl)⟩ hS hAA hNA (fun r1129 H locs hpo hS => ?_)
  obtain ⟨σ2, he2, hf2, hT⟩ := hpo
  obtain ⟨er2, es2⟩ := Prod.mk.inj (Option.some.inj he2)
  have hs2 : gset σ1 13 φ1 = σ2 := by rw [← es2]; exact FR_eq hf2
  rw [hs2] at hr1
  refine lv_pop hx hb dL_law_1132 rfl ?_
  refine lv_goto (tgt := 1334) hx hb dL_law_1133 (by decide) ?_
  exact kont _ _ _ _ hT hr1 hS
set_option maxHeartbeats 4000000 in
set_option maxRecDepth 100000 in
theorem lc_34 {p : Program} {l : Launch} {e : Env} {s : State} {m : MethodId} {below : List Frame} {meth : Method} {c : Code} {b L : Nat} {xs : Nat → Int32} {z : Zt} {h1 h2 : Nat} (C : LwC p s m meth c b L xs z h1 h2) {xi : Int32} (hxi : 0 ≤ xi.toInt) (hxL : xi.toInt + 5 ≤ L) {N : Nat} {σ : Sg} {H : Heap} {locs : List Loc} {ls : Array Slot} (hT : TY z (zA z) σ H) (hrel : rlS N σ) (hS : va_S (kA s) s.heap H locs) (hl : lv_has ls 4 [(0, .ref b), (1, .ref h1), (2, .ref h2), (3, .int xi)]) (kont : ∀ (N : Nat) (σ : Sg) (H : Heap) (locs : List Loc), TY z (zA z) σ H → rlS N σ → va_S (kA s) s.heap H locs → LW p l e s m below meth c b H locs 1334 ls []) : LW p l e s m below meth c b H locs 1136 ls [] := by
  obtain ⟨hx, hb, hr, hml, hown, hts, hX, hbl, hlk, hK, hSK, hAA, g1, g2, hL⟩ := id C
  have hC : CallFix p m c cL_law 4 s #[Value.ref b] lw_ok RL := ⟨hx, hb, hml, hown, hts⟩
  have hbA : ¬ kA s b := Nat.not_le.mpr hbl
  have hNA : ∀ q, q < s.heap.size → ¬ zA z q → ¬ kA s q := fun q h _ h2 => absurd h (Nat.not_lt.mpr h2)
  have nxi := ix_nat (i := xi) hxi
  refine lv_aload_n hx hb dL_law_1136 rfl (lv_at hl 1 rfl) ?_
  refine lv_aload_n hx hb dL_law_1137 rfl (lv_at hl 0 rfl) ?_
  refine lv_iload_n hx hb dL_law_1138 rfl (lv_at hl 3 rfl) ?_
  refine r_iconst hx hb dL_law_1139 (by decide) (by decide) (fun x1139 e1139 => ?_)
  refine r_iadd hx hb dL_law_1140 (by omega) (by omega) (fun x1140 e1140 => ?_)
  refine sldJ hx hb hX hbl hbA hS (xi.toNatClampNeg + 1) (by omega) (by omega) dL_law_1141 ?_
  obtain ⟨r9, σ1, φ1, N1, e1, e13, e2, hr1⟩ := cl_back hrel (TY_GD hT g2) (xs (xi.toNatClampNeg + 1)).toInt
  refine cl_Vi (z := z) (A := kA s) (rest := []) hC hK hSK (c_X6_back l z σ h1 g1 (xs (xi.toNatClampNeg + 1)) (r9, σ1) e1) k_X6_back mw_4_9 ⟨rfl, rfl, (Nat.le_of_ble_eq_true rfl), (Nat.le_of_ble_eq_true rfl)⟩ (rv_HeelDance hK hT g1) hT rfl hl.1 rfl (Nat.le_of_ble_eq_true rfl) dL_law_1142 ⟨(Nat.le_of_ble_eq_true rfl), (Nat.le_of_ble_eq_true rfl)⟩ hS hAA hNA (fun r1142 H locs hpo hS => ?_)
  obtain ⟨σq, he1, hT⟩ := hpo
  obtain ⟨er1, es1⟩ := Prod.mk.inj (Option.some.inj he1)
  rw [es1] at hT
  refine lv_pop hx hb dL_law_1145 rfl ?_
  refine lv_aload_n hx hb dL_law_1146 rfl (lv_at hl 2 rfl) ?_
  refine lv_aload_n hx hb dL_law_1147 rfl (lv_at hl 0 rfl) ?_
  refine lv_iload_n hx hb dL_law_1148 rfl (lv_at hl 3 rfl) ?_
  refine r_iconst hx hb dL_law_1149 (by decide) (by decide) (fun x1149 e1149 => ?_)
  refine r_iadd hx hb dL_law_1150 (by omega) (by omega) (fun x1150 e1150 => ?_)
  refine sldJ hx hb hX hbl hbA hS (xi.toNatClampNeg + 1) (by omega) (by omega) dL_law_1151 ?_
  refine cl_Vi (z := z) (A := kA s) (rest := []) hC hK hSK (c_X7_back l z σ1 h2 13 g2 (xs (xi.toNatClampNeg + 1)) (r9, φ1) (by rw [e13]; exact e2)) k_X7_back mw_5_234 ⟨rfl, rfl, (Nat.le_of_ble_eq_true rfl), (Nat.le_of_ble_eq_true rfl)⟩ (rv_Model hK hT g2) hT rfl hl.1 rfl (Nat.le_of_ble_eq_true rfl) dL_law_1152 ⟨(Nat.le_of_ble_eq_true rfl), (Nat.le_of_ble_eq_true rfl)⟩ hS hAA hNA (fun r1152 H locs hpo hS => ?_)
  obtain ⟨σ2, he2, hf2, hT⟩ := hpo
  obtain ⟨er2, es2⟩ := Prod.mk.inj (Option.some.inj he2)
  have hs2 : gset σ1 13 φ1 = σ2 := by rw [← es2]; exact FR_eq hf2
  rw [hs2] at hr1
  refine lv_pop hx hb dL_law_1155 rfl ?_
  refine lv_goto (tgt := 1334) hx hb dL_law_1156 (by decide) ?_
  exact kont _ _ _ _ hT hr1 hS
set_option maxHeartbeats 4000000 in
set_option maxRecDepth 100000 in
theorem lc_35 {p : Program} {l : Launch} {e : Env} {s : State} {m : MethodId} {below : List Frame} {meth : Method} {c : Code} {b L : Nat} {xs : Nat → Int32} {z : Zt} {h1 h2 : Nat} (C : LwC p s m meth c b L xs z h1 h2) {xi : Int32} (hxi : 0 ≤ xi.toInt) (hxL : xi.toInt + 5 ≤ L) {N : Nat} {σ : Sg} {H : Heap} {locs : List Loc} {ls : Array Slot} (hT : TY z (zA z) σ H) (hrel : rlS N σ) (hS : va_S (kA s) s.heap H locs) (hl : lv_has ls 4 [(0, .ref b), (1, .ref h1), (2, .ref h2), (3, .int xi)]) (kont : ∀ (N : Nat) (σ : Sg) (H : Heap) (locs : List Loc), TY z (zA z) σ H → rlS N σ → va_S (kA s) s.heap H locs → LW p l e s m below meth c b H locs 1334 ls []) : LW p l e s m below meth c b H locs 1159 ls [] := by
  obtain ⟨hx, hb, hr, hml, hown, hts, hX, hbl, hlk, hK, hSK, hAA, g1, g2, hL⟩ := id C
  have hC : CallFix p m c cL_law 4 s #[Value.ref b] lw_ok RL := ⟨hx, hb, hml, hown, hts⟩
  have hbA : ¬ kA s b := Nat.not_le.mpr hbl
  have hNA : ∀ q, q < s.heap.size → ¬ zA z q → ¬ kA s q := fun q h _ h2 => absurd h (Nat.not_lt.mpr h2)
  have nxi := ix_nat (i := xi) hxi
  refine lv_aload_n hx hb dL_law_1159 rfl (lv_at hl 1 rfl) ?_
  refine lv_aload_n hx hb dL_law_1160 rfl (lv_at hl 0 rfl) ?_
  refine lv_iload_n hx hb dL_law_1161 rfl (lv_at hl 3 rfl) ?_
  refine r_iconst hx hb dL_law_1162 (by decide) (by decide) (fun x1162 e1162 => ?_)
  refine r_iadd hx hb dL_law_1163 (by omega) (by omega) (fun x1163 e1163 => ?_)
  refine sldJ hx hb hX hbl hbA hS (xi.toNatClampNeg + 1) (by omega) (by omega) dL_law_1164 ?_
  refine lv_aload_n hx hb dL_law_1165 rfl (lv_at hl 0 rfl) ?_
  refine lv_iload_n hx hb dL_law_1166 rfl (lv_at hl 3 rfl) ?_
  refine r_iconst hx hb dL_law_1167 (by decide) (by decide) (fun x1167 e1167 => ?_)
  refine r_iadd hx hb dL_law_1168 (by omega) (by omega) (fun x1168 e1168 => ?_)
  refine sldJ hx hb hX hbl hbA hS (xi.toNatClampNeg + 2) (by omega) (by omega) dL_law_1169 ?_
  refine lv_aload_n hx hb dL_law_1170 rfl (lv_at hl 0 rfl) ?_
  refine lv_iload_n hx hb dL_law_1171 rfl (lv_at hl 3 rfl) ?_
  refine r_iconst hx hb dL_law_1172 (by decide) (by decide) (fun x1172 e1172 => ?_)
  refine r_iadd hx hb dL_law_1173 (by omega) (by omega) (fun x1173 e1173 => ?_)
  refine sldJ hx hb hX hbl hbA hS (xi.toNatClampNeg + 3) (by omega) (by omega) dL_law_1174 ?_
  obtain ⟨r9, σ1, φ1, N1, e1, e13, e2, hr1⟩ := cl_sheet hrel (xs (xi.toNatClampNeg + 1)).toInt (xs (xi.toNatClampNeg + 2)).toInt (xs (xi.toNatClampNeg + 3)).toInt
  refine cl_Vi (z := z) (A := kA s) (rest := []) hC hK hSK (c_X6_sheet l z σ h1 g1 (xs (xi.toNatClampNeg + 1)) (xs (xi.toNatClampNeg + 2)) (xs (xi.toNatClampNeg + 3)) (r9, σ1) e1) k_X6_sheet mw_4_13 ⟨rfl, rfl, (Nat.le_of_ble_eq_true rfl), (Nat.le_of_ble_eq_true rfl)⟩ (rv_HeelDance hK hT g1) hT rfl hl.1 rfl (Nat.le_of_ble_eq_true rfl) dL_law_1175 ⟨(Nat.le_of_ble_eq_true rfl), (Nat.le_of_ble_eq_true rfl)⟩ hS hAA hNA (fun r1175 H locs hpo hS => ?_)
  obtain ⟨σq, he1, hT⟩ := hpo
  obtain ⟨er1, es1⟩ := Prod.mk.inj (Option.some.inj he1)
  rw [es1] at hT
  refine lv_aload_n hx hb dL_law_1178 rfl (lv_at hl 2 rfl) ?_
  refine lv_aload_n hx hb dL_law_1179 rfl (lv_at hl 0 rfl) ?_
  refine lv_iload_n hx hb dL_law_1180 rfl (lv_at hl 3 rfl) ?_
  refine r_iconst hx hb dL_law_1181 (by decide) (by decide) (fun x1181 e1181 => ?_)
  refine r_iadd hx hb dL_law_1182 (by omega) (by omega) (fun x1182 e1182 => ?_)
  refine sldJ hx hb hX hbl hbA hS (xi.toNatClampNeg + 1) (by omega) (by omega) dL_law_1183 ?_
  refine lv_aload_n hx hb dL_law_1184 rfl (lv_at hl 0 rfl) ?_
  refine lv_iload_n hx hb dL_law_1185 rfl (lv_at hl 3 rfl) ?_
  refine r_iconst hx hb dL_law_1186 (by decide) (by decide) (fun x1186 e1186 => ?_)
  refine r_iadd hx hb dL_law_1187 (by omega) (by omega) (fun x1187 e1187 => ?_)
  refine sldJ hx hb hX hbl hbA hS (xi.toNatClampNeg + 2) (by omega) (by omega) dL_law_1188 ?_
  refine lv_aload_n hx hb dL_law_1189 rfl (lv_at hl 0 rfl) ?_
  refine lv_iload_n hx hb dL_law_1190 rfl (lv_at hl 3 rfl) ?_
  refine r_iconst hx hb dL_law_1191 (by decide) (by decide) (fun x1191 e1191 => ?_)
  refine r_iadd hx hb dL_law_1192 (by omega) (by omega) (fun x1192 e1192 => ?_)
  refine sldJ hx hb hX hbl hbA hS (xi.toNatClampNeg + 3) (by omega) (by omega) dL_law_1193 ?_
  refine cl_Vi (z := z) (A := kA s) (rest := [.int r1175]) hC hK hSK (c_X7_sheet l z σ1 h2 13 g2 (xs (xi.toNatClampNeg + 1)) (xs (xi.toNatClampNeg + 2)) (xs (xi.toNatClampNeg + 3)) (r9, φ1) (by rw [e13]; exact e2)) k_X7_sheet mw_5_238 ⟨rfl, rfl, (Nat.le_of_ble_eq_true rfl), (Nat.le_of_ble_eq_true rfl)⟩ (rv_Model hK hT g2) hT rfl hl.1 rfl (Nat.le_of_ble_eq_true rfl) dL_law_1194 ⟨(Nat.le_of_ble_eq_true rfl), (Nat.le_of_ble_eq_true rfl)⟩ hS hAA hNA (fun r1194 H locs hpo hS => ?_)
  obtain ⟨σ2, he2, hf2, hT⟩ := hpo
  obtain ⟨er2, es2⟩ := Prod.mk.inj (Option.some.inj he2)
  have hs2 : gset σ1 13 φ1 = σ2 := by rw [← es2]; exact FR_eq hf2
  rw [hs2] at hr1
  refine r_icmp_eq (tgt := 1334) hx hb dL_law_1197 (by decide) (fun c1197 => ?_) (fun c1197 => ?_)
  · exact kont _ _ _ _ hT hr1 hS
  · exact absurd (er1.trans er2.symm) c1197
set_option maxHeartbeats 4000000 in
set_option maxRecDepth 100000 in
theorem lc_36 {p : Program} {l : Launch} {e : Env} {s : State} {m : MethodId} {below : List Frame} {meth : Method} {c : Code} {b L : Nat} {xs : Nat → Int32} {z : Zt} {h1 h2 : Nat} (C : LwC p s m meth c b L xs z h1 h2) {xi : Int32} (hxi : 0 ≤ xi.toInt) (hxL : xi.toInt + 5 ≤ L) {N : Nat} {σ : Sg} {H : Heap} {locs : List Loc} {ls : Array Slot} (hT : TY z (zA z) σ H) (hrel : rlS N σ) (hS : va_S (kA s) s.heap H locs) (hl : lv_has ls 4 [(0, .ref b), (1, .ref h1), (2, .ref h2), (3, .int xi)]) (kont : ∀ (N : Nat) (σ : Sg) (H : Heap) (locs : List Loc), TY z (zA z) σ H → rlS N σ → va_S (kA s) s.heap H locs → LW p l e s m below meth c b H locs 1334 ls []) : LW p l e s m below meth c b H locs 1202 ls [] := by
  obtain ⟨hx, hb, hr, hml, hown, hts, hX, hbl, hlk, hK, hSK, hAA, g1, g2, hL⟩ := id C
  have hC : CallFix p m c cL_law 4 s #[Value.ref b] lw_ok RL := ⟨hx, hb, hml, hown, hts⟩
  have hbA : ¬ kA s b := Nat.not_le.mpr hbl
  have hNA : ∀ q, q < s.heap.size → ¬ zA z q → ¬ kA s q := fun q h _ h2 => absurd h (Nat.not_lt.mpr h2)
  have nxi := ix_nat (i := xi) hxi
  refine lv_aload_n hx hb dL_law_1202 rfl (lv_at hl 1 rfl) ?_
  refine lv_aload_n hx hb dL_law_1203 rfl (lv_at hl 0 rfl) ?_
  refine lv_iload_n hx hb dL_law_1204 rfl (lv_at hl 3 rfl) ?_
  refine r_iconst hx hb dL_law_1205 (by decide) (by decide) (fun x1205 e1205 => ?_)
  refine r_iadd hx hb dL_law_1206 (by omega) (by omega) (fun x1206 e1206 => ?_)
  refine sldJ hx hb hX hbl hbA hS (xi.toNatClampNeg + 1) (by omega) (by omega) dL_law_1207 ?_
  refine lv_aload_n hx hb dL_law_1208 rfl (lv_at hl 0 rfl) ?_
  refine lv_iload_n hx hb dL_law_1209 rfl (lv_at hl 3 rfl) ?_
  refine r_iconst hx hb dL_law_1210 (by decide) (by decide) (fun x1210 e1210 => ?_)
  refine r_iadd hx hb dL_law_1211 (by omega) (by omega) (fun x1211 e1211 => ?_)
  refine sldJ hx hb hX hbl hbA hS (xi.toNatClampNeg + 2) (by omega) (by omega) dL_law_1212 ?_
  refine lv_aload_n hx hb dL_law_1213 rfl (lv_at hl 0 rfl) ?_
  refine lv_iload_n hx hb dL_law_1214 rfl (lv_at hl 3 rfl) ?_
  refine r_iconst hx hb dL_law_1215 (by decide) (by decide) (fun x1215 e1215 => ?_)
  refine r_iadd hx hb dL_law_1216 (by omega) (by omega) (fun x1216 e1216 => ?_)
  refine sldJ hx hb hX hbl hbA hS (xi.toNatClampNeg + 3) (by omega) (by omega) dL_law_1217 ?_
  obtain ⟨r9, σ1, φ1, N1, e1, e13, e2, hr1⟩ := cl_lay hrel (xs (xi.toNatClampNeg + 1)).toInt (xs (xi.toNatClampNeg + 2)).toInt (xs (xi.toNatClampNeg + 3)).toInt
  refine cl_Vi (z := z) (A := kA s) (rest := []) hC hK hSK (c_X6_lay l z σ h1 g1 (xs (xi.toNatClampNeg + 1)) (xs (xi.toNatClampNeg + 2)) (xs (xi.toNatClampNeg + 3)) (r9, σ1) e1) k_X6_lay mw_4_32 ⟨rfl, rfl, (Nat.le_of_ble_eq_true rfl), (Nat.le_of_ble_eq_true rfl)⟩ (rv_HeelDance hK hT g1) hT rfl hl.1 rfl (Nat.le_of_ble_eq_true rfl) dL_law_1218 ⟨(Nat.le_of_ble_eq_true rfl), (Nat.le_of_ble_eq_true rfl)⟩ hS hAA hNA (fun r1218 H locs hpo hS => ?_)
  obtain ⟨σq, he1, hT⟩ := hpo
  obtain ⟨er1, es1⟩ := Prod.mk.inj (Option.some.inj he1)
  rw [es1] at hT
  refine lv_pop hx hb dL_law_1221 rfl ?_
  refine lv_aload_n hx hb dL_law_1222 rfl (lv_at hl 2 rfl) ?_
  refine lv_aload_n hx hb dL_law_1223 rfl (lv_at hl 0 rfl) ?_
  refine lv_iload_n hx hb dL_law_1224 rfl (lv_at hl 3 rfl) ?_
  refine r_iconst hx hb dL_law_1225 (by decide) (by decide) (fun x1225 e1225 => ?_)
  refine r_iadd hx hb dL_law_1226 (by omega) (by omega) (fun x1226 e1226 => ?_)
  refine sldJ hx hb hX hbl hbA hS (xi.toNatClampNeg + 1) (by omega) (by omega) dL_law_1227 ?_
  refine lv_aload_n hx hb dL_law_1228 rfl (lv_at hl 0 rfl) ?_
  refine lv_iload_n hx hb dL_law_1229 rfl (lv_at hl 3 rfl) ?_
  refine r_iconst hx hb dL_law_1230 (by decide) (by decide) (fun x1230 e1230 => ?_)
  refine r_iadd hx hb dL_law_1231 (by omega) (by omega) (fun x1231 e1231 => ?_)
  refine sldJ hx hb hX hbl hbA hS (xi.toNatClampNeg + 2) (by omega) (by omega) dL_law_1232 ?_
  refine lv_aload_n hx hb dL_law_1233 rfl (lv_at hl 0 rfl) ?_
  refine lv_iload_n hx hb dL_law_1234 rfl (lv_at hl 3 rfl) ?_
  refine r_iconst hx hb dL_law_1235 (by decide) (by decide) (fun x1235 e1235 => ?_)
  refine r_iadd hx hb dL_law_1236 (by omega) (by omega) (fun x1236 e1236 => ?_)
  refine sldJ hx hb hX hbl hbA hS (xi.toNatClampNeg + 3) (by omega) (by omega) dL_law_1237 ?_
  refine cl_Vi (z := z) (A := kA s) (rest := []) hC hK hSK (c_X7_lay l z σ1 h2 13 g2 (xs (xi.toNatClampNeg + 1)) (xs (xi.toNatClampNeg + 2)) (xs (xi.toNatClampNeg + 3)) (r9, φ1) (by rw [e13]; exact e2)) k_X7_lay mw_6_6 ⟨rfl, rfl, (Nat.le_of_ble_eq_true rfl), (Nat.le_of_ble_eq_true rfl)⟩ (rv_Model hK hT g2) hT rfl hl.1 rfl (Nat.le_of_ble_eq_true rfl) dL_law_1238 ⟨(Nat.le_of_ble_eq_true rfl), (Nat.le_of_ble_eq_true rfl)⟩ hS hAA hNA (fun r1238 H locs hpo hS => ?_)
  obtain ⟨σ2, he2, hf2, hT⟩ := hpo
  obtain ⟨er2, es2⟩ := Prod.mk.inj (Option.some.inj he2)
  have hs2 : gset σ1 13 φ1 = σ2 := by rw [← es2]; exact FR_eq hf2
  rw [hs2] at hr1
  refine lv_pop hx hb dL_law_1241 rfl ?_
  refine lv_goto (tgt := 1334) hx hb dL_law_1242 (by decide) ?_
  exact kont _ _ _ _ hT hr1 hS
set_option maxHeartbeats 4000000 in
set_option maxRecDepth 100000 in
theorem lc_37 {p : Program} {l : Launch} {e : Env} {s : State} {m : MethodId} {below : List Frame} {meth : Method} {c : Code} {b L : Nat} {xs : Nat → Int32} {z : Zt} {h1 h2 : Nat} (C : LwC p s m meth c b L xs z h1 h2) {xi : Int32} (hxi : 0 ≤ xi.toInt) (hxL : xi.toInt + 5 ≤ L) {N : Nat} {σ : Sg} {H : Heap} {locs : List Loc} {ls : Array Slot} (hT : TY z (zA z) σ H) (hrel : rlS N σ) (hS : va_S (kA s) s.heap H locs) (hl : lv_has ls 4 [(0, .ref b), (1, .ref h1), (2, .ref h2), (3, .int xi)]) (kont : ∀ (N : Nat) (σ : Sg) (H : Heap) (locs : List Loc), TY z (zA z) σ H → rlS N σ → va_S (kA s) s.heap H locs → LW p l e s m below meth c b H locs 1334 ls []) : LW p l e s m below meth c b H locs 1245 ls [] := by
  obtain ⟨hx, hb, hr, hml, hown, hts, hX, hbl, hlk, hK, hSK, hAA, g1, g2, hL⟩ := id C
  have hC : CallFix p m c cL_law 4 s #[Value.ref b] lw_ok RL := ⟨hx, hb, hml, hown, hts⟩
  have hbA : ¬ kA s b := Nat.not_le.mpr hbl
  have hNA : ∀ q, q < s.heap.size → ¬ zA z q → ¬ kA s q := fun q h _ h2 => absurd h (Nat.not_lt.mpr h2)
  have nxi := ix_nat (i := xi) hxi
  refine lv_aload_n hx hb dL_law_1245 rfl (lv_at hl 1 rfl) ?_
  refine lv_aload_n hx hb dL_law_1246 rfl (lv_at hl 0 rfl) ?_
  refine lv_iload_n hx hb dL_law_1247 rfl (lv_at hl 3 rfl) ?_
  refine r_iconst hx hb dL_law_1248 (by decide) (by decide) (fun x1248 e1248 => ?_)
  refine r_iadd hx hb dL_law_1249 (by omega) (by omega) (fun x1249 e1249 => ?_)
  refine sldJ hx hb hX hbl hbA hS (xi.toNatClampNeg + 1) (by omega) (by omega) dL_law_1250 ?_
  refine lv_aload_n hx hb dL_law_1251 rfl (lv_at hl 0 rfl) ?_
  refine lv_iload_n hx hb dL_law_1252 rfl (lv_at hl 3 rfl) ?_
  refine r_iconst hx hb dL_law_1253 (by decide) (by decide) (fun x1253 e1253 => ?_)
  refine r_iadd hx hb dL_law_1254 (by omega) (by omega) (fun x1254 e1254 => ?_)
  refine sldJ hx hb hX hbl hbA hS (xi.toNatClampNeg + 2) (by omega) (by omega) dL_law_1255 ?_
  refine lv_aload_n hx hb dL_law_1256 rfl (lv_at hl 0 rfl) ?_
  refine lv_iload_n hx hb dL_law_1257 rfl (lv_at hl 3 rfl) ?_
  refine r_iconst hx hb dL_law_1258 (by decide) (by decide) (fun x1258 e1258 => ?_)
  refine r_iadd hx hb dL_law_1259 (by omega) (by omega) (fun x1259 e1259 => ?_)
  refine sldJ hx hb hX hbl hbA hS (xi.toNatClampNeg + 3) (by omega) (by omega) dL_law_1260 ?_
  refine lv_aload_n hx hb dL_law_1261 rfl (lv_at hl 0 rfl) ?_
  refine lv_iload_n hx hb dL_law_1262 rfl (lv_at hl 3 rfl) ?_
  refine r_iconst hx hb dL_law_1263 (by decide) (by decide) (fun x1263 e1263 => ?_)
  refine r_iadd hx hb dL_law_1264 (by omega) (by omega) (fun x1264 e1264 => ?_)
  refine sldJ hx hb hX hbl hbA hS (xi.toNatClampNeg + 4) (by omega) (by omega) dL_law_1265 ?_
  obtain ⟨r9, σ1, φ1, N1, e1, e13, e2, hr1⟩ := cl_read hrel (xs (xi.toNatClampNeg + 1)).toInt (xs (xi.toNatClampNeg + 2)).toInt (xs (xi.toNatClampNeg + 3)).toInt (xs (xi.toNatClampNeg + 4)).toInt (i32_in _)
  refine cl_Vi (z := z) (A := kA s) (rest := []) hC hK hSK (c_X6_read l z σ h1 g1 (xs (xi.toNatClampNeg + 1)) (xs (xi.toNatClampNeg + 2)) (xs (xi.toNatClampNeg + 3)) (xs (xi.toNatClampNeg + 4)) (r9, σ1) e1) k_X6_read mw_4_44 ⟨rfl, rfl, (Nat.le_of_ble_eq_true rfl), (Nat.le_of_ble_eq_true rfl)⟩ (rv_HeelDance hK hT g1) hT rfl hl.1 rfl (Nat.le_of_ble_eq_true rfl) dL_law_1266 ⟨(Nat.le_of_ble_eq_true rfl), (Nat.le_of_ble_eq_true rfl)⟩ hS hAA hNA (fun r1266 H locs hpo hS => ?_)
  obtain ⟨σq, he1, hT⟩ := hpo
  obtain ⟨er1, es1⟩ := Prod.mk.inj (Option.some.inj he1)
  rw [es1] at hT
  refine lv_pop hx hb dL_law_1269 rfl ?_
  refine lv_aload_n hx hb dL_law_1270 rfl (lv_at hl 2 rfl) ?_
  refine lv_aload_n hx hb dL_law_1271 rfl (lv_at hl 0 rfl) ?_
  refine lv_iload_n hx hb dL_law_1272 rfl (lv_at hl 3 rfl) ?_
  refine r_iconst hx hb dL_law_1273 (by decide) (by decide) (fun x1273 e1273 => ?_)
  refine r_iadd hx hb dL_law_1274 (by omega) (by omega) (fun x1274 e1274 => ?_)
  refine sldJ hx hb hX hbl hbA hS (xi.toNatClampNeg + 1) (by omega) (by omega) dL_law_1275 ?_
  refine lv_aload_n hx hb dL_law_1276 rfl (lv_at hl 0 rfl) ?_
  refine lv_iload_n hx hb dL_law_1277 rfl (lv_at hl 3 rfl) ?_
  refine r_iconst hx hb dL_law_1278 (by decide) (by decide) (fun x1278 e1278 => ?_)
  refine r_iadd hx hb dL_law_1279 (by omega) (by omega) (fun x1279 e1279 => ?_)
  refine sldJ hx hb hX hbl hbA hS (xi.toNatClampNeg + 2) (by omega) (by omega) dL_law_1280 ?_
  refine lv_aload_n hx hb dL_law_1281 rfl (lv_at hl 0 rfl) ?_
  refine lv_iload_n hx hb dL_law_1282 rfl (lv_at hl 3 rfl) ?_
  refine r_iconst hx hb dL_law_1283 (by decide) (by decide) (fun x1283 e1283 => ?_)
  refine r_iadd hx hb dL_law_1284 (by omega) (by omega) (fun x1284 e1284 => ?_)
  refine sldJ hx hb hX hbl hbA hS (xi.toNatClampNeg + 3) (by omega) (by omega) dL_law_1285 ?_
  refine lv_aload_n hx hb dL_law_1286 rfl (lv_at hl 0 rfl) ?_
  refine lv_iload_n hx hb dL_law_1287 rfl (lv_at hl 3 rfl) ?_
  refine r_iconst hx hb dL_law_1288 (by decide) (by decide) (fun x1288 e1288 => ?_)
  refine r_iadd hx hb dL_law_1289 (by omega) (by omega) (fun x1289 e1289 => ?_)
  refine sldJ hx hb hX hbl hbA hS (xi.toNatClampNeg + 4) (by omega) (by omega) dL_law_1290 ?_
  refine cl_Vi (z := z) (A := kA s) (rest := []) hC hK hSK (c_X7_read l z σ1 h2 13 g2 (xs (xi.toNatClampNeg + 1)) (xs (xi.toNatClampNeg + 2)) (xs (xi.toNatClampNeg + 3)) (xs (xi.toNatClampNeg + 4)) (r9, φ1) (by rw [e13]; exact e2)) k_X7_read mw_6_10 ⟨rfl, rfl, (Nat.le_of_ble_eq_true rfl), (Nat.le_of_ble_eq_true rfl)⟩ (rv_Model hK hT g2) hT rfl hl.1 rfl (Nat.le_of_ble_eq_true rfl) dL_law_1291 ⟨(Nat.le_of_ble_eq_true rfl), (Nat.le_of_ble_eq_true rfl)⟩ hS hAA hNA (fun r1291 H locs hpo hS => ?_)
  obtain ⟨σ2, he2, hf2, hT⟩ := hpo
  obtain ⟨er2, es2⟩ := Prod.mk.inj (Option.some.inj he2)
  have hs2 : gset σ1 13 φ1 = σ2 := by rw [← es2]; exact FR_eq hf2
  rw [hs2] at hr1
  refine lv_pop hx hb dL_law_1294 rfl ?_
  refine lv_goto (tgt := 1334) hx hb dL_law_1295 (by decide) ?_
  exact kont _ _ _ _ hT hr1 hS
set_option maxHeartbeats 4000000 in
set_option maxRecDepth 100000 in
theorem lc_38 {p : Program} {l : Launch} {e : Env} {s : State} {m : MethodId} {below : List Frame} {meth : Method} {c : Code} {b L : Nat} {xs : Nat → Int32} {z : Zt} {h1 h2 : Nat} (C : LwC p s m meth c b L xs z h1 h2) {xi : Int32} (hxi : 0 ≤ xi.toInt) (hxL : xi.toInt + 5 ≤ L) {N : Nat} {σ : Sg} {H : Heap} {locs : List Loc} {ls : Array Slot} (hT : TY z (zA z) σ H) (hrel : rlS N σ) (hS : va_S (kA s) s.heap H locs) (hl : lv_has ls 4 [(0, .ref b), (1, .ref h1), (2, .ref h2), (3, .int xi)]) (kont : ∀ (N : Nat) (σ : Sg) (H : Heap) (locs : List Loc), TY z (zA z) σ H → rlS N σ → va_S (kA s) s.heap H locs → LW p l e s m below meth c b H locs 1334 ls []) : LW p l e s m below meth c b H locs 1298 ls [] := by
  obtain ⟨hx, hb, hr, hml, hown, hts, hX, hbl, hlk, hK, hSK, hAA, g1, g2, hL⟩ := id C
  have hC : CallFix p m c cL_law 4 s #[Value.ref b] lw_ok RL := ⟨hx, hb, hml, hown, hts⟩
  have hbA : ¬ kA s b := Nat.not_le.mpr hbl
  have hNA : ∀ q, q < s.heap.size → ¬ zA z q → ¬ kA s q := fun q h _ h2 => absurd h (Nat.not_lt.mpr h2)
  have nxi := ix_nat (i := xi) hxi
  refine lv_aload_n hx hb dL_law_1298 rfl (lv_at hl 1 rfl) ?_
  obtain ⟨r9, e1, e2⟩ := cl_torn hrel 
  refine cl_Vi (z := z) (A := kA s) (rest := []) hC hK hSK (c_X6_torn l z σ h1 g1  r9 e1) k_X6_torn mw_4_48 ⟨rfl, rfl, (Nat.le_of_ble_eq_true rfl), (Nat.le_of_ble_eq_true rfl)⟩ (rv_HeelDance hK hT g1) hT rfl hl.1 rfl (Nat.le_of_ble_eq_true rfl) dL_law_1299 ⟨(Nat.le_of_ble_eq_true rfl), (Nat.le_of_ble_eq_true rfl)⟩ hS hAA hNA (fun r1299 H locs hpo hS => ?_)
  obtain ⟨he1, hT⟩ := hpo
  have er1 := Option.some.inj he1
  refine lv_pop hx hb dL_law_1302 rfl ?_
  refine lv_aload_n hx hb dL_law_1303 rfl (lv_at hl 2 rfl) ?_
  refine cl_Vi (z := z) (A := kA s) (rest := []) hC hK hSK (c_X7_torn l z σ h2 13 g2  r9 e2) k_X7_torn mw_6_16 ⟨rfl, rfl, (Nat.le_of_ble_eq_true rfl), (Nat.le_of_ble_eq_true rfl)⟩ (rv_Model hK hT g2) hT rfl hl.1 rfl (Nat.le_of_ble_eq_true rfl) dL_law_1304 ⟨(Nat.le_of_ble_eq_true rfl), (Nat.le_of_ble_eq_true rfl)⟩ hS hAA hNA (fun r1304 H locs hpo hS => ?_)
  obtain ⟨he2, hT⟩ := hpo
  have er2 := Option.some.inj he2
  refine lv_pop hx hb dL_law_1307 rfl ?_
  refine lv_goto (tgt := 1334) hx hb dL_law_1308 (by decide) ?_
  exact kont _ _ _ _ hT hrel hS
set_option maxHeartbeats 4000000 in
set_option maxRecDepth 100000 in
theorem lc_39 {p : Program} {l : Launch} {e : Env} {s : State} {m : MethodId} {below : List Frame} {meth : Method} {c : Code} {b L : Nat} {xs : Nat → Int32} {z : Zt} {h1 h2 : Nat} (C : LwC p s m meth c b L xs z h1 h2) {xi : Int32} (hxi : 0 ≤ xi.toInt) (hxL : xi.toInt + 5 ≤ L) {N : Nat} {σ : Sg} {H : Heap} {locs : List Loc} {ls : Array Slot} (hT : TY z (zA z) σ H) (hrel : rlS N σ) (hS : va_S (kA s) s.heap H locs) (hl : lv_has ls 4 [(0, .ref b), (1, .ref h1), (2, .ref h2), (3, .int xi)]) (kont : ∀ (N : Nat) (σ : Sg) (H : Heap) (locs : List Loc), TY z (zA z) σ H → rlS N σ → va_S (kA s) s.heap H locs → LW p l e s m below meth c b H locs 1334 ls []) : LW p l e s m below meth c b H locs 1311 ls [] := by
  obtain ⟨hx, hb, hr, hml, hown, hts, hX, hbl, hlk, hK, hSK, hAA, g1, g2, hL⟩ := id C
  have hC : CallFix p m c cL_law 4 s #[Value.ref b] lw_ok RL := ⟨hx, hb, hml, hown, hts⟩
  have hbA : ¬ kA s b := Nat.not_le.mpr hbl
  have hNA : ∀ q, q < s.heap.size → ¬ zA z q → ¬ kA s q := fun q h _ h2 => absurd h (Nat.not_lt.mpr h2)
  have nxi := ix_nat (i := xi) hxi
  refine lv_aload_n hx hb dL_law_1311 rfl (lv_at hl 1 rfl) ?_
  refine lv_aload_n hx hb dL_law_1312 rfl (lv_at hl 0 rfl) ?_
  refine lv_iload_n hx hb dL_law_1313 rfl (lv_at hl 3 rfl) ?_
  refine r_iconst hx hb dL_law_1314 (by decide) (by decide) (fun x1314 e1314 => ?_)
  refine r_iadd hx hb dL_law_1315 (by omega) (by omega) (fun x1315 e1315 => ?_)
  refine sldJ hx hb hX hbl hbA hS (xi.toNatClampNeg + 1) (by omega) (by omega) dL_law_1316 ?_
  obtain ⟨r9, φ1, N1, e1, e2, hr1⟩ := cl_count hrel (xs (xi.toNatClampNeg + 1)).toInt
  refine cl_Vi (z := z) (A := kA s) (rest := []) hC hK hSK (c_X6_count l z σ h1 g1 (xs (xi.toNatClampNeg + 1)) r9 e1) k_X6_count mw_4_52 ⟨rfl, rfl, (Nat.le_of_ble_eq_true rfl), (Nat.le_of_ble_eq_true rfl)⟩ (rv_HeelDance hK hT g1) hT rfl hl.1 rfl (Nat.le_of_ble_eq_true rfl) dL_law_1317 ⟨(Nat.le_of_ble_eq_true rfl), (Nat.le_of_ble_eq_true rfl)⟩ hS hAA hNA (fun r1317 H locs hpo hS => ?_)
  obtain ⟨he1, hT⟩ := hpo
  have er1 := Option.some.inj he1
  refine lv_pop hx hb dL_law_1320 rfl ?_
  refine lv_aload_n hx hb dL_law_1321 rfl (lv_at hl 2 rfl) ?_
  refine lv_aload_n hx hb dL_law_1322 rfl (lv_at hl 0 rfl) ?_
  refine lv_iload_n hx hb dL_law_1323 rfl (lv_at hl 3 rfl) ?_
  refine r_iconst hx hb dL_law_1324 (by decide) (by decide) (fun x1324 e1324 => ?_)
  refine r_iadd hx hb dL_law_1325 (by omega) (by omega) (fun x1325 e1325 => ?_)
  refine sldJ hx hb hX hbl hbA hS (xi.toNatClampNeg + 1) (by omega) (by omega) dL_law_1326 ?_
  refine cl_Vi (z := z) (A := kA s) (rest := []) hC hK hSK (c_X7_count l z σ h2 13 g2 (xs (xi.toNatClampNeg + 1)) (r9, φ1) e2) k_X7_count mw_6_20 ⟨rfl, rfl, (Nat.le_of_ble_eq_true rfl), (Nat.le_of_ble_eq_true rfl)⟩ (rv_Model hK hT g2) hT rfl hl.1 rfl (Nat.le_of_ble_eq_true rfl) dL_law_1327 ⟨(Nat.le_of_ble_eq_true rfl), (Nat.le_of_ble_eq_true rfl)⟩ hS hAA hNA (fun r1327 H locs hpo hS => ?_)
  obtain ⟨σ2, he2, hf2, hT⟩ := hpo
  obtain ⟨er2, es2⟩ := Prod.mk.inj (Option.some.inj he2)
  have hs2 : gset σ 13 φ1 = σ2 := by rw [← es2]; exact FR_eq hf2
  rw [hs2] at hr1
  refine lv_pop hx hb dL_law_1330 rfl ?_
  refine lv_goto (tgt := 1334) hx hb dL_law_1331 (by decide) ?_
  exact kont _ _ _ _ hT hr1 hS
