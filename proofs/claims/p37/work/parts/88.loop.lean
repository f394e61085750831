set_option maxHeartbeats 4000000 in
set_option maxRecDepth 100000 in
theorem law_loop {p : Program} {l : Launch} {e : Env} {s : State} {m : MethodId} {below : List Frame} {meth : Method} {c : Code} {b L : Nat} {xs : Nat → Int32} {z : Zt} {h1 h2 : Nat} (C : LwC p s m meth c b L xs z h1 h2) : ∀ (n : Nat) (xi : Int32) (N : Nat) (σ : Sg) (H : Heap) (locs : List Loc) (ls : Array Slot), 0 ≤ xi.toInt → xi.toInt ≤ L → (L : Int) - xi.toInt < n → TY z (zA z) σ H → rlS N σ → va_S (kA s) s.heap H locs → lv_has ls 4 [(0, .ref b), (1, .ref h1), (2, .ref h2), (3, .int xi)] → LW p l e s m below meth c b H locs 18 ls [] := by
  obtain ⟨hx, hb, hr, hml, hown, hts, hX, hbl, hlk, hK, hSK, hAA, g1, g2, hL⟩ := id C
  have hbA : ¬ kA s b := Nat.not_le.mpr hbl
  intro n
  induction n with
  | zero => intro xi N σ H locs ls h0 h1 h2; exfalso; omega
  | succ n ih =>
    intro xi N σ H locs ls hx0 hx1 hxn hT hrel hS hl
    have nxi := ix_nat (i := xi) hx0
    refine lv_iload_n hx hb dL_law_18 rfl (lv_at hl 3 rfl) ?_
    refine lv_aload_n hx hb dL_law_19 rfl (lv_at hl 0 rfl) ?_
    refine va_slen hx hb hX hbl hbA hS dL_law_20 ?_
    have eL := ofn hL
    generalize Int32.ofNat L = xL at eL ⊢
    refine r_iconst hx hb dL_law_21 (by decide) (by decide) (fun x21 e21 => ?_)
    refine r_isub hx hb dL_law_22 (by omega) (by omega) (fun x22 e22 => ?_)
    refine r_icmp_gt (tgt := 1340) hx hb dL_law_23 (by decide) (fun c23 => ?_) (fun c23 => ?_)
    · refine va_forget (fun q hq => hS.2.2 q hq) ?_
      refine lv_iconst (v := 1) hx hb dL_law_1340 (by decide) ?_
      exact lw_ret hx hb hr hlk dL_law_1341
    · refine lv_aload_n hx hb dL_law_26 rfl (lv_at hl 0 rfl) ?_
      refine lv_iload_n hx hb dL_law_27 rfl (lv_at hl 3 rfl) ?_
      refine sldJ hx hb hX hbl hbA hS (xi.toNatClampNeg) (by omega) (by omega) dL_law_28 ?_
      refine r_bipush hx hb dL_law_29 rfl (fun x29 e29 => ?_)
      refine w_iand hx hb dL_law_31 (fun x31 => ?_)
      have kont : ∀ (N : Nat) (σ : Sg) (H : Heap) (locs : List Loc), TY z (zA z) σ H → rlS N σ → va_S (kA s) s.heap H locs → LW p l e s m below meth c b H locs 1334 ls [] := by
        intro N σ H locs hT hrel hS
        refine r_iinc (lv' := fun v__ => [(3, .int v__), (0, .ref b), (1, .ref h1), (2, .ref h2)]) hx hb dL_law_1334 hl (k := 3) rfl (by decide) (fun _ => rfl) ⟨by decide, by decide⟩ (by omega) (by omega) (fun x5 ls e5 hl => ?_)
        refine lv_goto (tgt := 18) hx hb dL_law_1337 (by decide) ?_
        exact ih x5 N σ H locs ls (by omega) (by omega) (by omega) hT hrel hS (lv_sub hl [1, 2, 3, 0] rfl)
      rcases (show x31.toInt = 0 ∨ x31.toInt = 1 ∨ x31.toInt = 2 ∨ x31.toInt = 3 ∨ x31.toInt = 4 ∨ x31.toInt = 5 ∨ x31.toInt = 6 ∨ x31.toInt = 7 ∨ x31.toInt = 8 ∨ x31.toInt = 9 ∨ x31.toInt = 10 ∨ x31.toInt = 11 ∨ x31.toInt = 12 ∨ x31.toInt = 13 ∨ x31.toInt = 14 ∨ x31.toInt = 15 ∨ x31.toInt = 16 ∨ x31.toInt = 17 ∨ x31.toInt = 18 ∨ x31.toInt = 19 ∨ x31.toInt = 20 ∨ x31.toInt = 21 ∨ x31.toInt = 22 ∨ x31.toInt = 23 ∨ x31.toInt = 24 ∨ x31.toInt = 25 ∨ x31.toInt = 26 ∨ x31.toInt = 27 ∨ x31.toInt = 28 ∨ x31.toInt = 29 ∨ x31.toInt = 30 ∨ x31.toInt = 31 ∨ x31.toInt = 32 ∨ x31.toInt = 33 ∨ x31.toInt = 34 ∨ x31.toInt = 35 ∨ x31.toInt = 36 ∨ x31.toInt = 37 ∨ x31.toInt = 38 ∨ x31.toInt = 39 ∨ (x31.toInt < 0 ∨ 39 < x31.toInt) by omega) with c32 | c32 | c32 | c32 | c32 | c32 | c32 | c32 | c32 | c32 | c32 | c32 | c32 | c32 | c32 | c32 | c32 | c32 | c32 | c32 | c32 | c32 | c32 | c32 | c32 | c32 | c32 | c32 | c32 | c32 | c32 | c32 | c32 | c32 | c32 | c32 | c32 | c32 | c32 | c32 | c32
      · refine lv_tableIn (off := 176) (tgt := 208) hx hb dL_law_32 (by omega) (by omega) (by rw [c32]; rfl) (by decide) ?_
        exact lc_0 C hx0 (by omega) hT hrel hS hl kont
      · refine lv_tableIn (off := 199) (tgt := 231) hx hb dL_law_32 (by omega) (by omega) (by rw [c32]; rfl) (by decide) ?_
        exact lc_1 C hx0 (by omega) hT hrel hS hl kont
      · refine lv_tableIn (off := 222) (tgt := 254) hx hb dL_law_32 (by omega) (by omega) (by rw [c32]; rfl) (by decide) ?_
        exact lc_2 C hx0 (by omega) hT hrel hS hl kont
      · refine lv_tableIn (off := 235) (tgt := 267) hx hb dL_law_32 (by omega) (by omega) (by rw [c32]; rfl) (by decide) ?_
        exact lc_3 C hx0 (by omega) hT hrel hS hl kont
      · refine lv_tableIn (off := 248) (tgt := 280) hx hb dL_law_32 (by omega) (by omega) (by rw [c32]; rfl) (by decide) ?_
        exact lc_4 C hx0 (by omega) hT hrel hS hl kont
      · refine lv_tableIn (off := 271) (tgt := 303) hx hb dL_law_32 (by omega) (by omega) (by rw [c32]; rfl) (by decide) ?_
        exact lc_5 C hx0 (by omega) hT hrel hS hl kont
      · refine lv_tableIn (off := 304) (tgt := 336) hx hb dL_law_32 (by omega) (by omega) (by rw [c32]; rfl) (by decide) ?_
        exact lc_6 C hx0 (by omega) hT hrel hS hl kont
      · refine lv_tableIn (off := 327) (tgt := 359) hx hb dL_law_32 (by omega) (by omega) (by rw [c32]; rfl) (by decide) ?_
        exact lc_7 C hx0 (by omega) hT hrel hS hl kont
      · refine lv_tableIn (off := 350) (tgt := 382) hx hb dL_law_32 (by omega) (by omega) (by rw [c32]; rfl) (by decide) ?_
        exact lc_8 C hx0 (by omega) hT hrel hS hl kont
      · refine lv_tableIn (off := 373) (tgt := 405) hx hb dL_law_32 (by omega) (by omega) (by rw [c32]; rfl) (by decide) ?_
        exact lc_9 C hx0 (by omega) hT hrel hS hl kont
      · refine lv_tableIn (off := 396) (tgt := 428) hx hb dL_law_32 (by omega) (by omega) (by rw [c32]; rfl) (by decide) ?_
        exact lc_10 C hx0 (by omega) hT hrel hS hl kont
      · refine lv_tableIn (off := 439) (tgt := 471) hx hb dL_law_32 (by omega) (by omega) (by rw [c32]; rfl) (by decide) ?_
        exact lc_11 C hx0 (by omega) hT hrel hS hl kont
      · refine lv_tableIn (off := 472) (tgt := 504) hx hb dL_law_32 (by omega) (by omega) (by rw [c32]; rfl) (by decide) ?_
        exact lc_12 C hx0 (by omega) hT hrel hS hl kont
      · refine lv_tableIn (off := 531) (tgt := 563) hx hb dL_law_32 (by omega) (by omega) (by rw [c32]; rfl) (by decide) ?_
        exact lc_13 C hx0 (by omega) hT hrel hS hl kont
      · refine lv_tableIn (off := 554) (tgt := 586) hx hb dL_law_32 (by omega) (by omega) (by rw [c32]; rfl) (by decide) ?_
        exact lc_14 C hx0 (by omega) hT hrel hS hl kont
      · refine lv_tableIn (off := 577) (tgt := 609) hx hb dL_law_32 (by omega) (by omega) (by rw [c32]; rfl) (by decide) ?_
        exact lc_15 C hx0 (by omega) hT hrel hS hl kont
      · refine lv_tableIn (off := 600) (tgt := 632) hx hb dL_law_32 (by omega) (by omega) (by rw [c32]; rfl) (by decide) ?_
        exact lc_16 C hx0 (by omega) hT hrel hS hl kont
      · refine lv_tableIn (off := 623) (tgt := 655) hx hb dL_law_32 (by omega) (by omega) (by rw [c32]; rfl) (by decide) ?_
        exact lc_17 C hx0 (by omega) hT hrel hS hl kont
      · refine lv_tableIn (off := 656) (tgt := 688) hx hb dL_law_32 (by omega) (by omega) (by rw [c32]; rfl) (by decide) ?_
        exact lc_18 C hx0 (by omega) hT hrel hS hl kont
      · refine lv_tableIn (off := 689) (tgt := 721) hx hb dL_law_32 (by omega) (by omega) (by rw [c32]; rfl) (by decide) ?_
        exact lc_19 C hx0 (by omega) hT hrel hS hl kont
      · refine lv_tableIn (off := 712) (tgt := 744) hx hb dL_law_32 (by omega) (by omega) (by rw [c32]; rfl) (by decide) ?_
        exact lc_20 C hx0 (by omega) hT hrel hS hl kont
      · refine lv_tableIn (off := 735) (tgt := 767) hx hb dL_law_32 (by omega) (by omega) (by rw [c32]; rfl) (by decide) ?_
        exact lc_21 C hx0 (by omega) hT hrel hS hl kont
      · refine lv_tableIn (off := 768) (tgt := 800) hx hb dL_law_32 (by omega) (by omega) (by rw [c32]; rfl) (by decide) ?_
        exact lc_22 C hx0 (by omega) hT hrel hS hl kont
      · refine lv_tableIn (off := 791) (tgt := 823) hx hb dL_law_32 (by omega) (by omega) (by rw [c32]; rfl) (by decide) ?_
        exact lc_23 C hx0 (by omega) hT hrel hS hl kont
      · refine lv_tableIn (off := 814) (tgt := 846) hx hb dL_law_32 (by omega) (by omega) (by rw [c32]; rfl) (by decide) ?_
        exact lc_24 C hx0 (by omega) hT hrel hS hl kont
      · refine lv_tableIn (off := 837) (tgt := 869) hx hb dL_law_32 (by omega) (by omega) (by rw [c32]; rfl) (by decide) ?_
        exact lc_25 C hx0 (by omega) hT hrel hS hl kont
      · refine lv_tableIn (off := 880) (tgt := 912) hx hb dL_law_32 (by omega) (by omega) (by rw [c32]; rfl) (by decide) ?_
        exact lc_26 C hx0 (by omega) hT hrel hS hl kont
      · refine lv_tableIn (off := 913) (tgt := 945) hx hb dL_law_32 (by omega) (by omega) (by rw [c32]; rfl) (by decide) ?_
        exact lc_27 C hx0 (by omega) hT hrel hS hl kont
      · refine lv_tableIn (off := 956) (tgt := 988) hx hb dL_law_32 (by omega) (by omega) (by rw [c32]; rfl) (by decide) ?_
        exact lc_28 C hx0 (by omega) hT hrel hS hl kont
      · refine lv_tableIn (off := 979) (tgt := 1011) hx hb dL_law_32 (by omega) (by omega) (by rw [c32]; rfl) (by decide) ?_
        exact lc_29 C hx0 (by omega) hT hrel hS hl kont
      · refine lv_tableIn (off := 992) (tgt := 1024) hx hb dL_law_32 (by omega) (by omega) (by rw [c32]; rfl) (by decide) ?_
        exact lc_30 C hx0 (by omega) hT hrel hS hl kont
      · refine lv_tableIn (off := 1015) (tgt := 1047) hx hb dL_law_32 (by omega) (by omega) (by rw [c32]; rfl) (by decide) ?_
        exact lc_31 C hx0 (by omega) hT hrel hS hl kont
      · refine lv_tableIn (off := 1038) (tgt := 1070) hx hb dL_law_32 (by omega) (by omega) (by rw [c32]; rfl) (by decide) ?_
        exact lc_32 C hx0 (by omega) hT hrel hS hl kont
      · refine lv_tableIn (off := 1081) (tgt := 1113) hx hb dL_law_32 (by omega) (by omega) (by rw [c32]; rfl) (by decide) ?_
        exact lc_33 C hx0 (by omega) hT hrel hS hl kont
      · refine lv_tableIn (off := 1104) (tgt := 1136) hx hb dL_law_32 (by omega) (by omega) (by rw [c32]; rfl) (by decide) ?_
        exact lc_34 C hx0 (by omega) hT hrel hS hl kont
      · refine lv_tableIn (off := 1127) (tgt := 1159) hx hb dL_law_32 (by omega) (by omega) (by rw [c32]; rfl) (by decide) ?_
        exact lc_35 C hx0 (by omega) hT hrel hS hl kont
      · refine lv_tableIn (off := 1170) (tgt := 1202) hx hb dL_law_32 (by omega) (by omega) (by rw [c32]; rfl) (by decide) ?_
        exact lc_36 C hx0 (by omega) hT hrel hS hl kont
      · refine lv_tableIn (off := 1213) (tgt := 1245) hx hb dL_law_32 (by omega) (by omega) (by rw [c32]; rfl) (by decide) ?_
        exact lc_37 C hx0 (by omega) hT hrel hS hl kont
      · refine lv_tableIn (off := 1266) (tgt := 1298) hx hb dL_law_32 (by omega) (by omega) (by rw [c32]; rfl) (by decide) ?_
        exact lc_38 C hx0 (by omega) hT hrel hS hl kont
      · refine lv_tableIn (off := 1279) (tgt := 1311) hx hb dL_law_32 (by omega) (by omega) (by rw [c32]; rfl) (by decide) ?_
        exact lc_39 C hx0 (by omega) hT hrel hS hl kont
      · refine lv_tableOut (tgt := 1334) hx hb dL_law_32 c32 (by decide) ?_
        exact kont N σ H locs hT hrel hS
set_option maxHeartbeats 4000000 in
set_option maxRecDepth 100000 in
theorem whole_start {p : Program} {e : Env} {s : State} {m : MethodId} {below : List Frame} {meth : Method} {c : Code} (l : Launch) {b L : Nat} {xs : Nat → Int32} (hL : L ≤ 320) (C0 : lw_At p s m meth c b L xs) : W p l e room_1 s m #[Value.ref b] below meth c s.heap [] 0 0 (lw_Z below #[Value.ref b] s) (entryFrame m ([Value.ref b] : List Value).toArray 4) := by
  obtain ⟨hx, hb, hr, hml, hown, htb, hX, hbl, hlk, hgv⟩ := id C0
  have hts := ok_tbl htb
  have hNW := NW_ini htb
  obtain ⟨K, hKK⟩ := ks_all htb hgv
  obtain ⟨zz, hKz⟩ := K_ini hts hNW
  obtain ⟨z0, hz0⟩ : ∃ z0 : Zt, z0 = (zz.1, zz.2.1, [], fun _ => (0, 0), K) := ⟨_, rfl⟩
  have hK : va_K (zD z0) vwCl (zT z0) s := by rw [hz0]; exact hKz
  have hzK : zK z0 = K := by rw [hz0]
  obtain ⟨φ1, hi1, -⟩ := D_fd (iniS 13)
  obtain ⟨φ2, hi2, -⟩ := D_kd φ1
  have hA : ∀ q : Nat, s.heap.size ≤ q → kA s q := fun _ h => h
  have hS : va_S (kA s) s.heap s.heap [] := va_S.rf
  have hC : CT z0 [] [] (kA s) [] s.heap := CT.ini (fun k q h => by simp at h) ⟨fun i j p q h => by simp at h, fun k q h => by simp at h⟩
  have hC0 : CallFix p m c cL_law 4 s #[Value.ref b] lw_ok RL := ⟨hx, hb, hml, hown, hts⟩
  have hl := lv_entry ([.ref b]) (n := 4) (Nat.le_of_ble_eq_true rfl)
  rw [lg_entry_eq]
  generalize (lg_sl ([.ref b]) ++ List.replicate (4 - (lg_sl ([.ref b])).length) Slot.unset).toArray = ls at hl ⊢
  have hl : lv_has ls 4 [(0, .ref b)] := hl
  refine ct_new (own := RL) (ci := 6) (fs := [.null, .null, .null, .null, .null, .null, .null, .int 0, .int 0]) hx hb hts ic_HeelDance tyX6 tyX6_ok hown mw_1_17 mw_1_18 mw_1_1 hK hC hS hA rfl df_X6 (Nat.le_of_ble_eq_true rfl) (Nat.le_of_ble_eq_true rfl) dL_law_0 (fun h1 H hC hS => ?_)
  refine W.widen (k := 1) (n := 9) (by omega) (by omega) ?_
  refine lv_dup hx hb dL_law_3 rfl ?_
  refine ct_call (own := RL) (X := []) (rest := [.ref h1]) none hC0 hK hNW (fun sz => c_X6_init l z0 h1 sz 0) k_X6_init mw_1_19 ⟨(Nat.le_of_ble_eq_true rfl), (Nat.le_of_ble_eq_true rfl)⟩ hC (by simp) hl.1 (Nat.le_of_ble_eq_true rfl) dL_law_4 ⟨(Nat.le_of_ble_eq_true rfl), (Nat.le_of_ble_eq_true rfl)⟩ hS hA (fun H locs hC hS => ?_)
  refine W.widen (k := 144) (n := 1142) (by omega) (by omega) ?_
  refine lv_astore_n (lv' := [(1, .ref h1), (0, .ref b)]) hx hb dL_law_7 rfl hl (by decide) rfl (fun ls hl => ?_)
  refine ct_new (own := RL) (ci := 7) (fs := [.null, .null, .null, .int 0, .null, .int 0, .int 0, .int 0, .int 0, .null, .int 0, .int 0, .int 0, .int 0, .int 0, .int 0, .int 0, .null, .null, .long 0, .long 0, .null, .null, .null, .int 0, .null]) hx hb hts ic_Model tyX7 tyX7_ok hown mw_4_56 mw_4_57 mw_1_8 hK hC hS hA rfl df_X7 (Nat.le_of_ble_eq_true rfl) (Nat.le_of_ble_eq_true rfl) dL_law_8 (fun h2 H hC hS => ?_)
  refine W.widen (k := 145) (n := 1168) (by omega) (by omega) ?_
  have hC : CT z0 ([(16, 0), (36, 0), (33, 0), (37, 0), (13, 23), (23, 23), (13, 22), (23, 22), (13, 21), (23, 21), (13, 20), (23, 20), (12, 0), (35, 0), (56, 0), (57, 0), (58, 0), (11, 11), (51, 11), (52, 11), (53, 11), (54, 11), (27, 11), (55, 11), (28, 11), (29, 11), (11, 10), (51, 10), (52, 10), (53, 10), (54, 10), (27, 10), (55, 10), (28, 10), (29, 10), (11, 9), (51, 9), (52, 9), (53, 9), (54, 9), (27, 9), (55, 9), (28, 9), (29, 9), (11, 8), (51, 8), (52, 8), (53, 8), (54, 8), (27, 8), (55, 8), (28, 8), (29, 8), (11, 7), (51, 7), (52, 7), (53, 7), (54, 7), (27, 7), (55, 7), (28, 7), (29, 7), (11, 6), (51, 6), (52, 6), (53, 6), (54, 6), (27, 6), (55, 6), (28, 6), (29, 6), (15, 5), (24, 5), (11, 5), (51, 5), (52, 5), (53, 5), (54, 5), (27, 5), (55, 5), (28, 5), (29, 5), (10, 4), (20, 4), (21, 4), (25, 4), (26, 4), (22, 4), (11, 4), (51, 4), (52, 4), (53, 4), (54, 4), (27, 4), (55, 4), (28, 4), (29, 4), (10, 3), (20, 3), (21, 3), (25, 3), (26, 3), (22, 3), (11, 3), (51, 3), (52, 3), (53, 3), (54, 3), (27, 3), (55, 3), (28, 3), (29, 3), (10, 1), (20, 1), (21, 1), (25, 1), (26, 1), (22, 1), (11, 1), (51, 1), (52, 1), (53, 1), (54, 1), (27, 1), (55, 1), (28, 1), (29, 1), (14, 2), (30, 2), (10, 2), (20, 2), (21, 2), (25, 2), (26, 2), (22, 2), (11, 2), (51, 2), (52, 2), (53, 2), (54, 2), (27, 2), (55, 2), (28, 2), (29, 2)] ++ []) [(h1, (16, 0))] (kA s) [(h2, .inr (7, [.null, .null, .null, .int 0, .null, .int 0, .int 0, .int 0, .int 0, .null, .int 0, .int 0, .int 0, .int 0, .int 0, .int 0, .int 0, .null, .null, .long 0, .long 0, .null, .null, .null, .int 0, .null]))] H := hC
  refine lv_dup hx hb dL_law_11 rfl ?_
  have h2A : kA s h2 := by obtain ⟨L9, G9, ⟨E9, hP9, hD9, hm9, hE9⟩, hb9, hF9⟩ := hC; exact hD9.2 0 _ rfl
  refine cm_call (own := RL) (rest := [.ref h2]) hC0 hK hNW (SK_base htb hgv hKK (zx z0 [h2] (fun _ => (0, 0))) hzK (fun q hq => by rw [List.mem_singleton.mp hq]; exact h2A)) (fun sz => c_X7_init l z0 h2 sz φ2 ⟨φ1, hi1, hi2⟩) k_X7_init mw_4_58 ⟨(Nat.le_of_ble_eq_true rfl), (Nat.le_of_ble_eq_true rfl)⟩ hC (by decide) hl.1 (Nat.le_of_ble_eq_true rfl) dL_law_12 ⟨(Nat.le_of_ble_eq_true rfl), (Nat.le_of_ble_eq_true rfl)⟩ hS hA h2A (fun q h1 h2 => absurd h1 (Nat.not_lt.mpr h2)) (fun L9 G9 H locs hT hG1 hG2 hLA hS => ?_)
  refine W.widen (k := 600000) (n := 7302250) (by omega) (by omega) ?_
  refine lv_astore_n (lv' := [(2, .ref h2), (1, .ref h1), (0, .ref b)]) hx hb dL_law_15 rfl hl (by decide) rfl (fun ls hl => ?_)
  refine r_iconst hx hb dL_law_16 (by decide) (by decide) (fun x16 e16 => ?_)
  refine lv_istore_n (lv' := [(3, .int x16), (2, .ref h2), (1, .ref h1), (0, .ref b)]) hx hb dL_law_17 rfl hl (by decide) rfl (fun ls hl => ?_)
  have C : LwC p s m meth c b L xs (zx z0 L9 G9) h1 h2 := ⟨hx, hb, hr, hml, hown, hts, hX, hbl, hlk, hK, SK_base htb hgv hKK (zx z0 L9 G9) hzK (fun q hq => hLA q hq), fun q hq => hLA q hq, hG1, hG2, hL⟩
  exact law_loop C (L + 1) x16 0 _ H locs ls (by omega) (by omega) (by omega) hT (ini_rl hi1 hi2) hS (lv_sub hl [3, 2, 1, 0] rfl)
