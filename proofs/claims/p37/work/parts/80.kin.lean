/-! a line of COUSINS -/
theorem orlt : ∀ x : Nat, x < 32 → ∀ m : Nat, m < 5 → b_or x (b_shl 1 m) ≠ 0 ∧ ∀ n : Nat, n < 6 → (b_or x (b_shl 1 m) < 2 ^ n ↔ (x : Int) < 2 ^ n ∧ m < n) := by decide +kernel
def wc (M : Lo) (w m : Nat) (h1 h2 : Int) : Lo := wrl (wrl (wrl (wrl M 43 (25 + w) (b_or (M 43 (25 + w)) (b_shl 1 m))) 17 6 (M 17 6 + 1)) 17 8 h1) 17 8 h2
theorem wc_D (M : Lo) (w m : Nat) (h1 h2 : Int) : KD M (wc M w m h1 h2) := KD_17 (KD_17 (KD_17 (KD_43 (KD_rf M) _ _) (by decide) _) (by decide) _) (by decide) _
theorem rc112 (M : Lo) : D_X7_readCousins_112 M = D_X7_next M := by
  rw [D_X7_readCousins_112.eq_1]
  cases D_X7_next M <;> rfl
theorem rc43 {M Ma : Lo} {t : Int} {w m : Nat} (hn : D_X7_needs M t 4 = some Ma) (hw : w < 5) (hm : m < 5) (h6 : 0 ≤ Ma 17 6 ∧ Ma 17 6 < 6) (h8 : -4 ≤ Ma 17 8 ∧ Ma 17 8 ≤ 4) : ∃ h1 h2 : Int, D_X7_readCousins_43 m w M t = D_X7_next (wc Ma w m h1 h2) ∧ (∀ n : Int, h2 < n ↔ Ma 17 8 < n ∧ (w : Int) < n ∧ (m : Int) < n) ∧ -4 ≤ h2 ∧ h2 ≤ 4 := by
  have e : ∀ h1 h2 : Int, wrl (wrl (wrl (wrl Ma 43 (25 + w) (b_or (Ma 43 (25 + w)) (b_shl 1 m))) 17 6 (Ma 17 6 + 1)) 17 8 h1) 17 8 h2 = wc Ma w m h1 h2 := fun _ _ => rfl
  have e8 : wrl (wrl Ma 43 (25 + w) (b_or (Ma 43 (25 + w)) (b_shl 1 m))) 17 6 (Ma 17 6 + 1) 17 8 = Ma 17 8 := by rw [wrl_ni _ _ (by decide), wrl_nr _ _ (by decide)]
  rw [D_X7_readCousins_43.eq_1]
  simp only [bnd_e]
  rw [hn]
  simp only [bd1_e, bns_e]
  rw [chk_e ⟨by omega, by omega⟩, show (25 + (w : Int)).toNat = 25 + w by omega, chk_e (gd59_mf (by omega)), wrl_nr Ma _ (show (17 : Nat) ≠ 43 by decide), chk_e ⟨by omega, by omega⟩, e8]
  have g : ∀ h0 : Int, -4 ≤ h0 → h0 ≤ 4 → (∀ n : Int, h0 < n ↔ Ma 17 8 < n ∧ (w : Int) < n) → ∃ h1 h2 : Int, D_X7_readCousins_89 m (wrl (wrl Ma 43 (25 + w) (b_or (Ma 43 (25 + w)) (b_shl 1 m))) 17 6 (Ma 17 6 + 1)) h0 = D_X7_next (wc Ma w m h1 h2) ∧ (∀ n : Int, h2 < n ↔ Ma 17 8 < n ∧ (w : Int) < n ∧ (m : Int) < n) ∧ -4 ≤ h2 ∧ h2 ≤ 4 := fun h1 a b hh => by
    rw [D_X7_readCousins_89.eq_1, chk_e ⟨a, b⟩]
    simp only [bns_e, bnd_e]
    rw [wrl_at]
    by_cases c : h1 < (m : Int)
    · refine ⟨h1, m, ?_, fun n => ?_, by omega, by omega⟩
      · rw [if_pos c, D_X7_readCousins_109.eq_1, chk_e ⟨by omega, by omega⟩]
        simp only [bns_e]
        rw [rc112, e]
      · have := hh n; omega
    · refine ⟨h1, h1, ?_, fun n => ?_, a, b⟩
      · rw [if_neg c, D_X7_readCousins_109.eq_1, chk_e ⟨a, b⟩]
        simp only [bns_e]
        rw [rc112, e]
      · have := hh n; omega
  by_cases c : Ma 17 8 < (w : Int)
  · rw [if_pos c]
    exact g w (by omega) (by omega) (fun n => by omega)
  · rw [if_neg c]
    exact g _ h8.1 h8.2 (fun n => by omega)
theorem rc_s {M1 M2 M3 : Lo} {w m : Nat} (h1 : D_X7_readNumber M1 0 4 = some ((w : Int), M2)) (h2 : D_X7_looked M2 0 4 = some ((m : Int), M3)) (h15 : M3 17 15 = 0) (hw : w < 5) : D_X7_readCousins M1 = (if b_and (b_shr (M3 43 (25 + w)) m) 1 = 0 then D_X7_readCousins_43 m w M3 1 else D_X7_readCousins_43 m w M3 0) := by
  rw [D_X7_readCousins.eq_1]
  simp only [bnd_e]
  rw [h1]
  simp only [bd2_e]
  rw [h2]
  simp only [bd2_e]
  rw [if_pos h15, chk_e ⟨by omega, by omega⟩, show (25 + (w : Int)).toNat = 25 + w by omega]
theorem rc_f {M1 M2 M3 : Lo} {a b : Int} (h1 : D_X7_readNumber M1 0 4 = some (a, M2)) (h2 : D_X7_looked M2 0 4 = some (b, M3)) (h15 : 1 ≤ M3 17 15) : D_X7_readCousins M1 = some M3 := by
  rw [D_X7_readCousins.eq_1]
  simp only [bnd_e]
  rw [h1]
  simp only [bd2_e]
  rw [h2]
  simp only [bd2_e]
  rw [if_neg (by omega), rc112, nx_f h15]
theorem kcn_w {φ : Lo} {w : Nat} {v : Int} (hw : w < 5) (hv : pc v = pc (φ 20 w) + 1) : kcn (wrl φ 20 w v) = kcn φ + 1 := by
  unfold kcn
  rw [wrl_r]
  rcases (show w = 0 ∨ w = 1 ∨ w = 2 ∨ w = 3 ∨ w = 4 by omega) with rfl | rfl | rfl | rfl | rfl
  · rw [up1_at, up1_ne _ _ (by decide), up1_ne _ _ (by decide), up1_ne _ _ (by decide), up1_ne _ _ (by decide)]; omega
  · rw [up1_at, up1_ne _ _ (by decide), up1_ne _ _ (by decide), up1_ne _ _ (by decide), up1_ne _ _ (by decide)]; omega
  · rw [up1_at, up1_ne _ _ (by decide), up1_ne _ _ (by decide), up1_ne _ _ (by decide), up1_ne _ _ (by decide)]; omega
  · rw [up1_at, up1_ne _ _ (by decide), up1_ne _ _ (by decide), up1_ne _ _ (by decide), up1_ne _ _ (by decide)]; omega
  · rw [up1_at, up1_ne _ _ (by decide), up1_ne _ _ (by decide), up1_ne _ _ (by decide), up1_ne _ _ (by decide)]; omega
theorem DR_kin {φ M : Lo} {w m : Nat} {h1 h2 : Int} (hd : DR φ M) (hw : w < 5) (hm : m < 5) (hc : kcn φ < 6) (hb : b_and (b_shr (φ 20 w) m) 1 = 0) (hh : ∀ n : Int, h2 < n ↔ M 17 8 < n ∧ (w : Int) < n ∧ (m : Int) < n) (hi : -4 ≤ h2 ∧ h2 ≤ 4) : DR (wrl φ 20 w (b_or (φ 20 w) (b_shl 1 m))) (wc M w m h1 h2) := by
  obtain ⟨k1, k2, k3, k4, k5⟩ := hd.2.1
  obtain ⟨ek, eb⟩ := k1 w hw
  obtain ⟨x, hx, ex⟩ := nat_of (x := φ 20 w) (b := 32) eb.1 (by omega)
  have ol := orlt x hx m hm
  have hkb := kinb x hx m hm
  rw [← ex] at hkb ol
  have hv : 0 ≤ b_or (φ 20 w) (b_shl 1 m) ∧ b_or (φ 20 w) (b_shl 1 m) ≤ 31 ∧ pc (b_or (φ 20 w) (b_shl 1 m)) = pc (φ 20 w) + 1 := by
    rcases hkb with ⟨b0, b1, b2, b3, b4, b5⟩ | ⟨b0, b1⟩
    · exact ⟨b2, b3, b4⟩
    · omega
  generalize hV : b_or (φ 20 w) (b_shl 1 m) = V at hv ol
  have c43 : wc M w m h1 h2 43 = up1 (M 43) (25 + w) V := by
    unfold wc
    rw [wrl_nr _ _ (by decide), wrl_nr _ _ (by decide), wrl_nr _ _ (by decide), wrl_r, ← ek, hV]
  have c8 : wc M w m h1 h2 17 8 = h2 := by unfold wc; rw [wrl_at]
  have c6 : wc M w m h1 h2 17 6 = M 17 6 + 1 := by unfold wc; rw [wrl_ni _ _ (by decide), wrl_ni _ _ (by decide), wrl_at]
  have c57 : ∀ i, i = 5 ∨ i = 7 → wc M w m h1 h2 17 i = M 17 i := fun i hi => by unfold wc; rw [wrl_ni _ _ (by omega), wrl_ni _ _ (by omega), wrl_ni _ _ (by omega), wrl_nr _ _ (by decide)]
  have kr : ∀ r, r ≠ 20 → wrl φ 20 w V r = φ r := fun r a => wrl_nr _ _ a
  refine ⟨DM_cg hd.1 (kr 11 (by decide)) (kr 51 (by decide)) (kr 52 (by decide)) (kr 53 (by decide)) (kr 54 (by decide)) (kr 27 (by decide)) (c57 5 (Or.inl rfl)) (fun i hi => by rw [c43, up1_ne _ _ (by omega)]), ⟨fun u hu => ?_, by rw [c6, kcn_w hw hv.2.2, k2], by rw [kcn_w hw hv.2.2]; omega, by rw [c8]; exact hi, fun n hn => ?_⟩, DP_cg hd.2.2 (by rw [kr 14 (by decide)]) (kr 10 (by decide)) (kr 21 (by decide)) (c57 7 (Or.inr rfl)) (fun i hi => by rw [c43, up1_ne _ _ (by omega)])⟩
  · rw [c43, wrl_r]
    by_cases c : u = w
    · subst c
      rw [up1_at, up1_at]; exact ⟨rfl, hv.1, hv.2.1⟩
    · rw [up1_ne _ _ c, up1_ne _ _ (by omega)]; exact k1 u hu
  · have on := ol.2 n (by omega)
    rw [c8, wrl_r, hh]
    constructor
    · rintro ⟨a, b, c⟩ u hu
      have H := (k5 n hn).1 a
      by_cases d : u = w
      · subst d
        rw [up1_at]
        exact ⟨fun _ => on.2 ⟨(H u hu).1 (by omega), by omega⟩, fun z => by omega⟩
      · rw [up1_ne _ _ d]; exact H u hu
    · intro H
      have Hw := H w hw
      rw [up1_at] at Hw
      have wn : w < n := by
        by_cases z : w < n
        · exact z
        · exact absurd (Hw.2 (by omega)) ol.1
      have o2 := on.1 (Hw.1 wn)
      refine ⟨(k5 n hn).2 (fun u hu => ?_), by omega, by omega⟩
      by_cases d : u = w
      · subst d
        exact ⟨fun _ => o2.1, fun z => by omega⟩
      · have Hu := H u hu
        rw [up1_ne _ _ d] at Hu
        exact Hu
theorem rl17_c {M : Lo} : D_X7_readLine_17 M 4 = (if M 17 6 < 6 then D_X7_readLine_75 4 M 1 else D_X7_readLine_75 4 M 0) := by
  rw [D_X7_readLine_17.eq_1]
  simp only [bnd_e, D_X7_readLine_30.eq_1, need1, bd1_e, D_X7_readLine_70.eq_1, if_true]
  rw [if_neg (by decide)]
theorem D_arek (φ : Lo) (w m : Nat) : D_X0_areKin φ w m = some (if b_and (b_shr (φ 20 w) m) 1 = 1 then 1 else 0) := by
  rw [D_X0_areKin.eq_1]
  simp only [bnd_e]
  rw [tn]
  split <;> rfl
theorem kin_ln {L e : Nat} {φ M : Lo} (h : SY L e φ M) (hd : DR φ M) : OL L e M (D_X4_cousinsLine φ) (D_X7_readLine_17 M 4) := by
  have h15 : M 17 15 = 0 := h.2.2.2.2.1
  obtain ⟨k1, k2, k3, k4, k5⟩ := hd.2.1
  rw [rl17_c, D_X4_cousinsLine.eq_1, D_ak (fun w hw => (k1 w hw).2)]
  simp only [bd0_e, bnd_e]
  have kp : 0 ≤ kcn φ := by
    unfold kcn
    have := pc_in (φ 20 0)
    have := pc_in (φ 20 1)
    have := pc_in (φ 20 2)
    have := pc_in (φ 20 3)
    have := pc_in (φ 20 4)
    omega
  by_cases hc : kcn φ < 6
  · rw [if_pos (show M 17 6 < 6 by omega), if_pos hc, rl75_1 (by decide) hd.2.2.1.2, rl119_s]
    obtain ⟨M1, s1, s2, s3⟩ := sy_nx h
    rw [s1]
    simp only [bd1_e]
    rw [if_pos trivial]
    by_cases hf : 0 < M1 17 15
    · rw [if_pos hf]
      rcases nu s3 4 with ⟨φ1, v, e1, x1, x2, x3, x4, x5, x6, -⟩ | ⟨φ1, M', x1, x2, x3, x4, x5⟩
      · have := x6.2.2.2.2.1; omega
      · have em : M' = M1 := x5 (by omega)
        rw [em] at x3
        refine Or.inr ⟨φ1, M1, ?_, rfl, x3, KM_K s2⟩
        rw [x1]
        simp only [bd2_e, bnd_e, if_true]
    · rw [if_neg hf]
      rcases nu s3 4 with ⟨φ1, v, e1, x1, x2, x3, x4, x5, x6, x7, x8⟩ | ⟨φ1, M', x1, x2, x3, x4, x5⟩
      · obtain ⟨M3, y1, y2, y3⟩ := sy_nx x6
        have r1 := rn_of x2 y1
        rw [x1]
        simp only [bd2_e, i10, bnd_e]
        rcases nu y3 4 with ⟨φ2, v2, e2, z1, z2, z3, z4, z5, z6, z7, z8⟩ | ⟨φ2, M', z1, z2, z3, z4, z5⟩
        · obtain ⟨w, hw, rfl⟩ := nat_of (b := 5) x4 (by omega)
          obtain ⟨m, hm, rfl⟩ := nat_of (b := 5) z4 (by omega)
          have k8 : K8 φ φ2 := K8_tr z7 x7
          have d2 : DR φ2 M3 := DR_K hd k8 (K17_tr y2 s2)
          obtain ⟨j1, j2, j3, j4, j5⟩ := d2.2.1
          have kc2 : kcn φ2 = kcn φ := by unfold kcn; rw [k8.1 20 (by decide)]
          obtain ⟨ek, eb⟩ := j1 w hw
          obtain ⟨x, hx, ex⟩ := nat_of (x := φ2 20 w) (b := 32) eb.1 (by omega)
          have hkb := kinb x hx m hm
          rw [← ex] at hkb
          rw [rc_s r1 z2 z6.2.2.2.2.1 hw, z1, ← ek]
          simp only [bd2_e, i10, bnd_e, bns_e]
          rw [x3, z3, chk_e ⟨by omega, by omega⟩, D_arek, tn]
          simp only [bd0_e]
          rcases hkb with ⟨b0, -⟩ | ⟨b0, -⟩
          · rw [if_neg (show ¬ b_and (b_shr (φ2 20 w) m) 1 = 1 by omega), if_pos b0, if_pos (show (0 : Int) = 0 from rfl)]
            obtain ⟨h1, h2, c1, c2, c3⟩ := rc43 (need1 M3 4) hw hm (by omega) j4
            rw [c1]
            have d3 := DR_kin (h1 := h1) d2 hw hm (by omega) b0 c2 c3
            obtain ⟨M5, w1, w2, w3⟩ := sy_nx (SY_D (SY_E z6 (KE_w (r := 20) (KE_rf _) (by decide) w (b_or (φ2 20 w) (b_shl 1 m)))) (wc_D M3 w m h1 h2))
            rw [w1]
            simp only [bd1_e]
            have fin := semi w3 (DR_K d3 (K8_rf _) w2)
            have fin2 := OL_pre fin (show e ≤ e2 by omega) (KM_tr (KM_K w2) (KM_tr (KM_D (wc_D M3 w m h1 h2)) (KM_K (K17_tr y2 s2))))
            rw [bd2_id]
            exact fin2
          · rw [if_pos b0, if_neg (show ¬ b_and (b_shr (φ2 20 w) m) 1 = 0 by omega), if_neg (show ¬ (1 : Int) = 0 by decide)]
            obtain ⟨h1, h2, c1, -, -⟩ := rc43 (need_0 4 z6.2.2.2.2.1) hw hm (by rw [(fl_K M3 4).2 6 (by decide)]; omega) (by rw [(fl_K M3 4).2 8 (by decide)]; exact j4)
            have ft : FT _ (wc (fl M3 4) w m h1 h2) := FT_D (ref_FT z6 (by decide)) (wc_D (fl M3 4) w m h1 h2)
            rw [c1, nx_f ft.2.2]
            simp only [bd1_e, D_ref, bd2_e]
            exact Or.inr ⟨_, _, rfl, rl163_f ft.2.2, ft, KM_tr (KM_D (wc_D (fl M3 4) w m h1 h2)) (KM_tr (KM_K (fl_K M3 4)) (KM_K (K17_tr y2 s2)))⟩
        · rw [rc_f r1 z2 z3.2.2, z1]
          simp only [bd2_e, bnd_e, bd1_e, if_true]
          exact Or.inr ⟨φ2, M', rfl, rl163_f z3.2.2, z3, KM_K (K17_tr z4 (K17_tr y2 s2))⟩
      · rw [rc_f (rn_of x2 (nx_f x3.2.2)) (lk_f x3.2.2 0 4) x3.2.2, x1]
        simp only [bd2_e, bnd_e, bd1_e, if_true]
        exact Or.inr ⟨φ1, M', rfl, rl163_f x3.2.2, x3, KM_K (K17_tr x4 s2)⟩
  · rw [if_neg (show ¬ M 17 6 < 6 by omega), if_neg hc]
    obtain ⟨M', h1, h2⟩ := rl75_0 h15 4
    rw [h1]
    simp only [D_ref, bd2_e]
    exact Or.inr ⟨_, M', rfl, rfl, FT_D (ref_FT h (by decide)) h2, KM_tr (KM_D h2) (KM_K (fl_K _ _))⟩
