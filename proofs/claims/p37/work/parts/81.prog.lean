/-! the program's line -/
theorem rp_f {M : Lo} (h : 1 ≤ M 17 15) (n : Nat) : D_X7_readProgram_0 (n + 1) M = some M := by
  rw [D_X7_readProgram_0.eq_2]
  simp only [bnd_e]
  rw [if_neg (by omega)]
theorem rp54_f {M : Lo} (h : 1 ≤ M 17 15) (n : Nat) (r t : Int) : D_X7_readProgram_54 (D_X7_readProgram_0 (n + 1)) r M t = some M := by
  rw [D_X7_readProgram_54.eq_1]
  simp only [bnd_e]
  rw [need_f h]
  simp only [bd1_e, bnd_e]
  rw [if_neg (by omega), D_X7_readProgram_92.eq_1, nx_f h]
  simp only [bd1_e]
  exact rp_f h n
theorem D_af {φ : Lo} {i : Nat} (h6 : φ 10 6 = i) (hi : i < 8) (f : Int) : D_X0_addFigure φ f = some (wrl (wrl φ 21 i f) 10 6 ((i + 1 : Nat) : Int)) := by
  rw [D_X0_addFigure.eq_1]
  simp only [bnd_e, bns_e, wrl_nr _ _ (show (10 : Nat) ≠ 21 by decide)]
  rw [h6, if_pos (by omega), tn, chk_e ⟨by omega, by omega⟩, chk_e ⟨by omega, by omega⟩, nc1]
theorem DR_fig {φ M : Lo} {i : Nat} (hd : DR φ M) (h6 : φ 10 6 = i) (hi : i < 8) (h7 : M 17 7 = 1) (f : Int) : DR (wrl (wrl φ 21 i f) 10 6 ((i + 1 : Nat) : Int)) (wrl (wrl M 43 (32 + i) f) 43 31 ((i + 1 : Nat) : Int)) := by
  obtain ⟨p1, p2, p3, p4, p5, p6⟩ := hd.2.2
  have kr : ∀ r, r ≠ 21 → r ≠ 10 → wrl (wrl φ 21 i f) 10 6 ((i + 1 : Nat) : Int) r = φ r := fun r a b => by rw [wrl_nr _ _ b, wrl_nr _ _ a]
  have m17 : wrl (wrl M 43 (32 + i) f) 43 31 ((i + 1 : Nat) : Int) 17 = M 17 := by rw [wrl_nr _ _ (by decide), wrl_nr _ _ (by decide)]
  have m43 : ∀ j, j ≠ 31 → j ≠ 32 + i → wrl (wrl M 43 (32 + i) f) 43 31 ((i + 1 : Nat) : Int) 43 j = M 43 j := fun j a b => by rw [wrl_ni _ _ a, wrl_ni _ _ b]
  have e6 : wrl (wrl φ 21 i f) 10 6 ((i + 1 : Nat) : Int) 10 6 = ((i + 1 : Nat) : Int) := wrl_at _ _ _ _
  refine ⟨DM_cg hd.1 (kr 11 (by decide) (by decide)) (kr 51 (by decide) (by decide)) (kr 52 (by decide) (by decide)) (kr 53 (by decide) (by decide)) (kr 54 (by decide) (by decide)) (kr 27 (by decide) (by decide)) (by rw [m17]) (fun j hj => m43 j (by omega) (by omega)), DK_cg hd.2.1 (kr 20 (by decide) (by decide)) (by rw [m17]) (by rw [m17]) (fun j a b => m43 j (by omega) (by omega)), ⟨by rw [kr 14 (by decide) (by decide), m17]; exact p1, ⟨by rw [e6, wrl_at], by rw [e6]; omega, by rw [e6]; omega⟩, by rw [m17, h7]; exact fun z => absurd z (by decide), fun j hj => ?_, ?_, ?_⟩⟩
  · rw [e6] at hj
    rw [wrl_nr _ _ (show (21 : Nat) ≠ 10 by decide), wrl_ni _ _ (show 32 + j ≠ 31 by omega), wrl_r, wrl_r]
    by_cases c : j = i
    · subst c
      rw [up1_at, up1_at]
    · rw [up1_ne _ _ c, up1_ne _ _ (by omega)]
      exact p4 j (by omega)
  · rw [wrl_ni _ _ (by decide), wrl_nr _ _ (by decide)]; exact p5
  · rw [m43 40 (by decide) (by omega)]; exact p6
theorem pl_l {L : Nat} : ∀ (n n' i p : Nat) (φ M : Lo), AX L p φ M → DR φ M → M 17 7 = 1 → φ 10 6 = i → i ≤ 8 → 9 < n + i → 9 < n' + i → OL L p M (D_X4_programLine_24 n φ i) (bd1 (D_X7_readProgram_0 n' M) (fun φ => D_X7_readLine_163 φ)) := by
  intro n
  induction n with
  | zero => intro n' i p φ M a b c d e f; omega
  | succ n ih =>
    intro n' i p φ M h hd h7 h6 hi hn hn'
    obtain ⟨n2, rfl⟩ : ∃ m, n' = m + 1 := ⟨n' - 1, by omega⟩
    rw [D_X4_programLine_24.eq_2]
    simp only [bnd_e]
    rw [if_neg (show ¬ (8 : Int) < (i : Int) by omega)]
    rcases h.2 with ⟨φ1, q, e, k, ha, b1, b2, b3, b4, b5, b6, b7, b8⟩ | ⟨φ1, ha, hf⟩
    · have h15 : M 17 15 = 0 := b2.2.2.2.2.1
      have d1 : DR φ1 M := DR_K hd (K8_K b1) (K17_rf M)
      have g6 : φ1 10 6 = i := by rw [b1.1 10 (by decide)]; exact h6
      have m31 : M 43 31 = i := by rw [← d1.2.2.2.1.1]; exact g6
      rw [ha, D_X7_readProgram_0.eq_2]
      simp only [bd2_e, i10, bnd_e]
      rw [if_pos h15, b3, b5]
      by_cases c3 : k = 3
      · rw [if_pos c3, if_neg (by omega)]
        simp only [bd1_e]
        obtain ⟨M', n1, n3, n4⟩ := sy_nx b2
        exact Or.inl ⟨φ1, M', e, rfl, by rw [rl163_3 h15 (b5.trans c3)]; exact n1, n4, DR_K d1 (K8_rf φ1) n3, by omega, KM_K n3⟩
      · rw [if_neg c3]
        by_cases c1 : k = 1
        · rw [if_pos c1, if_pos c1]
          obtain ⟨r, r1, r2, r3⟩ := fw_eq b2.1 b2.2.2.1 b4 b2.2.2.2.1 (by rw [← b2.2.2.2.2.2.2]; exact b4) b7 b2.2.2.2.2.2.1
          rw [r2]
          simp only [bd0_e, show (31 : Int).toNat = 31 from rfl]
          rw [g6, m31]
          by_cases c8 : (i : Int) < 8
          · rw [if_pos c8, if_pos c8, D_X4_programLine_79.eq_1, D_X7_readProgram_38.eq_1]
            simp only [bnd_e, need1, bd1_e]
            rw [if_pos (b3.trans c1), r1]
            simp only [bd0_e]
            rw [D_X4_programLine_96.eq_1]
            simp only [bnd_e]
            obtain ⟨n3, rfl⟩ : ∃ m, n2 = m + 1 := ⟨n2 - 1, by omega⟩
            by_cases cr : r = -4
            · have hf2 : 1 ≤ fl M 2 17 15 := by rw [fl_15]; decide
              rw [if_pos cr, if_pos cr, D_X7_readProgram_54.eq_1]
              simp only [bnd_e]
              rw [need_0 2 h15]
              simp only [bd1_e, bnd_e]
              rw [if_neg (by omega), D_X7_readProgram_92.eq_1, nx_f hf2]
              simp only [bd1_e]
              rw [rp_f hf2]
              simp only [bd1_e, D_ref, bd2_e]
              exact Or.inr ⟨_, _, rfl, rl163_f hf2, ref_FT b2 (by decide), KM_K (fl_K M 2)⟩
            · rw [if_neg cr, if_neg cr, D_af g6 (by omega), D_X7_readProgram_54.eq_1]
              simp only [bnd_e, need1, bd1_e, bns_e]
              have t31 : (31 : Int).toNat = 31 := rfl
              have k1 : gd59 (32 + M 43 (31 : Int).toNat).toNat r := gd59_mf (by rw [t31, m31]; omega)
              have k2 : gd59 (31 : Int).toNat (wrl M 43 (32 + M 43 (31 : Int).toNat).toNat r 43 (31 : Int).toNat + 1) := gd59_m31 rfl (by rw [t31, m31, show (32 + (i : Int)).toNat = 32 + i by omega, wrl_ni M r (show (31 : Nat) ≠ 32 + i by omega), m31]; omega)
              rw [if_pos h15, chk_e k1, chk_e k2, t31, m31, show (32 + (i : Int)).toNat = 32 + i by omega, wrl_ni M r (show (31 : Nat) ≠ 32 + i by omega), m31, nc1, D_X7_readProgram_92.eq_1]
              have hE : KE φ1 (wrl (wrl φ1 21 i r) 10 6 ((i + 1 : Nat) : Int)) := KE_w (KE_w (KE_rf _) (by decide) _ _) (by decide) _ _
              have hD : KD M (wrl (wrl M 43 (32 + i) r) 43 31 ((i + 1 : Nat) : Int)) := KD_43 (KD_43 (KD_rf M) _ _) _ _
              obtain ⟨M2, s1, s2, s3⟩ := sy_nx (SY_D (SY_E b2 hE) hD)
              rw [s1]
              simp only [bd1_e]
              have d2 := DR_K (DR_fig d1 g6 (by omega) h7 r) (K8_rf _) s2
              exact OL_pre (ih (n3 + 1) (i + 1) e _ M2 s3 d2 (by rw [s2.2 7 (by decide), wrl_nr _ _ (by decide), wrl_nr _ _ (by decide)]; exact h7) (wrl_at _ _ _ _) (by omega) (by omega) (by omega)) (by omega) (KM_tr (KM_K s2) (KM_D hD))
          · have hf5 : 1 ≤ fl M 5 17 15 := by rw [fl_15]; decide
            obtain ⟨n3, rfl⟩ : ∃ m, n2 = m + 1 := ⟨n2 - 1, by omega⟩
            rw [if_neg c8, if_neg c8, D_X7_readProgram_38.eq_1]
            simp only [bnd_e]
            rw [need_0 5 h15]
            simp only [bd1_e, bnd_e, rp54_f hf5]
            have ee : (if r = -4 then some (fl M 5) else some (fl M 5)) = some (fl M 5) := by split <;> rfl
            rw [ee]
            simp only [bd1_e, D_ref, bd2_e]
            exact Or.inr ⟨_, _, rfl, rl163_f hf5, ref_FT b2 (by decide), KM_K (fl_K M 5)⟩
        · rw [if_neg c1, if_neg c1, D_X4_programLine_79.eq_1]
          simp only [bnd_e, bd1_e]
          rw [if_neg (by rw [b3]; exact c1), D_X4_programLine_96.eq_1]
          simp only [bnd_e, if_true, D_ref, bd2_e]
          exact Or.inr ⟨_, _, rfl, rl163_n h15 (by rw [b5]; exact c3), ref_FT b2 (by decide), KM_K (fl_K M 2)⟩
    · rw [ha, rp_f hf.2.2]
      simp only [bd2_e, bnd_e, bd1_e, if_true]
      exact Or.inr ⟨φ1, M, rfl, rl163_f hf.2.2, hf, KM_rf M⟩
theorem rl17_p (M : Lo) : D_X7_readLine_17 M 5 = D_X7_readLine_75 5 M 1 := by
  rw [D_X7_readLine_17.eq_1]
  simp only [bnd_e, D_X7_readLine_30.eq_1, need1, bd1_e, D_X7_readLine_70.eq_1, if_true]
  rw [if_neg (by decide), if_neg (by decide)]
theorem prog_ln {L e : Nat} {φ M : Lo} (h : SY L e φ M) (hd : DR φ M) : OL L e M (D_X4_programLine φ) (D_X7_readLine_17 M 5) := by
  have h15 : M 17 15 = 0 := h.2.2.2.2.1
  obtain ⟨⟨p1, p1'⟩, p2, p3, p4, p5, p6⟩ := hd.2.2
  rw [rl17_p, D_X4_programLine.eq_1, D_X7_readLine_75.eq_1]
  simp only [bnd_e, need1, bd1_e, if_true]
  by_cases c : M 17 7 = 0
  · rw [if_pos c, if_pos (p1.trans c), D_X7_readLine_92.eq_1]
    simp only [bnd_e, bns_e]
    rw [D_X7_readLine_97.eq_1]
    simp only [bnd_e, need1, bd1_e, if_true]
    rw [if_pos c, D_X7_readLine_114.eq_1]
    simp only [bnd_e]
    rw [D_X7_readLine_119.eq_1]
    simp only [bns_e]
    have hE : KE φ (wrl φ 14 9 1) := KE_14 (KE_rf φ) (Or.inr rfl) 1
    have hD : KD M (wrl M 17 7 1) := KD_17 (KD_rf M) (by decide) 1
    obtain ⟨M1, s1, s2, s3⟩ := sy_nx (SY_D (SY_E h hE) hD)
    rw [s1]
    simp only [bd1_e, bnd_e]
    rw [if_neg (show ¬ (5 : Int) = 4 by decide), if_pos trivial, D_X7_readProgram.eq_1]
    have d1 : DR (wrl φ 14 9 1) (wrl M 17 7 1) := by
      refine ⟨DM_cg hd.1 (wrl_nr _ _ (by decide)) (wrl_nr _ _ (by decide)) (wrl_nr _ _ (by decide)) (wrl_nr _ _ (by decide)) (wrl_nr _ _ (by decide)) (wrl_nr _ _ (by decide)) (wrl_ni _ _ (by decide)) (fun i _ => by rw [wrl_nr _ _ (by decide)]), DK_cg hd.2.1 (wrl_nr _ _ (by decide)) (wrl_ni _ _ (by decide)) (wrl_ni _ _ (by decide)) (fun i _ _ => by rw [wrl_nr _ _ (by decide)]), ?_⟩
      unfold DP
      rw [wrl_at, wrl_at, wrl_nr φ _ (show (10 : Nat) ≠ 14 by decide), wrl_nr φ _ (show (21 : Nat) ≠ 14 by decide), wrl_nr M _ (show (43 : Nat) ≠ 17 by decide)]
      exact ⟨⟨rfl, Or.inr rfl⟩, p2, fun z => absurd z (by decide), p4, p5, p6⟩
    have d2 : DR (wrl φ 14 9 1) M1 := DR_K d1 (K8_rf _) s2
    have q7 : M1 17 7 = 1 := by rw [s2.2 7 (by decide), wrl_at]
    have q6 : wrl φ 14 9 1 10 6 = ((0 : Nat) : Int) := by rw [wrl_nr _ _ (by decide)]; exact p3 c
    have fin : OL L e M1 (D_X4_programLine_24 5000 (wrl φ 14 9 1) 0) (bd1 (D_X7_readProgram_0 5000 M1) (fun φ => D_X7_readLine_163 φ)) := by
      generalize hk : (5000 : Nat) = n
      exact pl_l n n 0 e _ M1 s3 d2 q7 q6 (by omega) (by omega) (by omega)
    have ee : (if 0 < M1 17 15 then some M1 else bd1 (D_X7_readProgram_0 5000 M1) (fun φ => D_X7_readLine_163 φ)) = bd1 (D_X7_readProgram_0 5000 M1) (fun φ => D_X7_readLine_163 φ) := by
      by_cases cf : 0 < M1 17 15
      · have hf : 1 ≤ M1 17 15 := by omega
        rw [if_pos cf]
        generalize hk : (5000 : Nat) = n
        obtain ⟨m, rfl⟩ : ∃ m, n = m + 1 := ⟨n - 1, by omega⟩
        rw [rp_f hf]
        simp only [bd1_e]
        rw [rl163_f hf]
      · rw [if_neg cf]
    rw [ee]
    exact OL_pre fin (Nat.le_refl _) (KM_tr (KM_K s2) (KM_D hD))
  · rw [if_neg c, if_neg (by rw [p1]; exact c)]
    obtain ⟨M', h1, h2⟩ := rl97_f (M := fl M 4) (by rw [fl_15]; decide) 5 1
    have e1 : D_X7_readLine_97 5 M 0 = some M' := by
      rw [← h1, D_X7_readLine_97.eq_1, D_X7_readLine_97.eq_1]
      simp only [bnd_e]
      rw [need_0 4 h15, need1]
    rw [e1]
    simp only [D_ref, bd2_e]
    exact Or.inr ⟨_, M', rfl, rfl, FT_D (ref_FT h (by decide)) h2, KM_tr (KM_D h2) (KM_K (fl_K _ _))⟩
