theorem cl_man {N : Nat} {σ : Sg} (h : rlS N σ) (p q : Int) : CS σ (D_X6_man σ p q) (D_X7_man (σ 13) p q) := by
  obtain ⟨n1, n2, n5⟩ := rlS_N h
  by_cases hp : 0 ≤ p ∧ p < N
  · obtain ⟨m, hm, rfl⟩ := nat_of hp.1 hp.2
    obtain ⟨M1, s1, s2, s3⟩ := D_st (σ 13)
    have hF := FF_st h.1.2.1 s3
    have hq := hF.2.1 m hm
    have n3 : M1 17 3 = N := by rw [s2 17 (by decide)]; exact n2
    have ec : ∀ x, D_X6_man σ m q = x ↔ (if q = 0 then some (σ 1 51 m, σ) else if q = 1 then some (σ 1 52 m, σ) else if q = 2 then some (σ 1 53 m, σ) else if q = 3 then some (σ 1 54 m, σ) else if q = 4 then some (stt (σ 1 51 m) (σ 1 52 m) (σ 1 53 m) + 2, σ) else if q = 5 then bd1 (D_X1_lineUp (σ 1)) (fun φ => some (φ 29 m, gset σ 1 φ)) else if q = 6 then bd0 (D_X1_womanWith (σ 1) m) (fun r => some (r, σ)) else some (-1, σ)) = x := fun x => by
      simp only [D_X6_man.eq_1, D_nob0 n1 hp, bd0_e, if_true, bnd_e, bns_e, gset_at, tn, D_stature]
    have em : ∀ x, D_X7_man (σ 13) m q = x ↔ (if q = 0 then bd0 (D_X7_of M1 m q) (fun r => some (r, M1)) else if q = 1 then bd0 (D_X7_of M1 m q) (fun r => some (r, M1)) else if q = 2 then bd0 (D_X7_of M1 m q) (fun r => some (r, M1)) else if q = 3 then bd0 (D_X7_of M1 m q) (fun r => some (r, M1)) else if q = 4 then some (mS (M1 41) m + 2, M1) else if q = 5 then bd0 (D_X7_rankOf M1 m) (fun r => some (r, M1)) else if q = 6 then bd0 (D_X7_partnerOf M1 m) (fun r => some (r, M1)) else some (-1, M1)) = x := fun x => by
      simp only [D_X7_man.eq_1, D_one1 n2 hp, bd0_e, i10, s1, bd1_e, bnd_e, D_mst]
    have go : ∀ r : Int, D_X6_man σ m q = some (r, σ) → D_X7_man (σ 13) m q = some (r, M1) → CS σ (D_X6_man σ m q) (D_X7_man (σ 13) m q) := fun r a b => CS_scr h r a b (sC_rf σ) (sM_st s2)
    by_cases q0 : q = 0
    · refine go (σ 1 51 m) ((ec _).mpr ?_) ((em _).mpr ?_)
      · rw [if_pos q0]
      · rw [if_pos q0, q0, D_of0, hq.1]; simp only [bd0_e]
    · by_cases q1 : q = 1
      · refine go (σ 1 52 m) ((ec _).mpr ?_) ((em _).mpr ?_)
        · rw [if_neg q0, if_pos q1]
        · rw [if_neg q0, if_pos q1, q1, D_of1, hq.2.1]; simp only [bd0_e]
      · by_cases q2 : q = 2
        · refine go (σ 1 53 m) ((ec _).mpr ?_) ((em _).mpr ?_)
          · rw [if_neg q0, if_neg q1, if_pos q2]
          · rw [if_neg q0, if_neg q1, if_pos q2, q2, D_of2, hq.2.2.1]; simp only [bd0_e]
        · by_cases q3 : q = 3
          · refine go (σ 1 54 m) ((ec _).mpr ?_) ((em _).mpr ?_)
            · rw [if_neg q0, if_neg q1, if_neg q2, if_pos q3]
            · rw [if_neg q0, if_neg q1, if_neg q2, if_pos q3, q3, D_of3, hq.2.2.2.1]; simp only [bd0_e]
          · by_cases q4 : q = 4
            · refine go (stt (σ 1 51 m) (σ 1 52 m) (σ 1 53 m) + 2) ((ec _).mpr ?_) ((em _).mpr ?_)
              · rw [if_neg q0, if_neg q1, if_neg q2, if_neg q3, if_pos q4]
              · rw [if_neg q0, if_neg q1, if_neg q2, if_neg q3, if_pos q4]
                unfold mS
                rw [hq.1, hq.2.1, hq.2.2.1]
            · by_cases q5 : q = 5
              · obtain ⟨φ', a1, a2, a3⟩ := lineUp_FF hF
                refine CS_scr h (rk (mS (M1 41)) (mT (M1 41)) m N : Int) ((ec _).mpr ?_) ((em _).mpr ?_) (sC_1 a2) (sM_st s2)
                · rw [if_neg q0, if_neg q1, if_neg q2, if_neg q3, if_neg q4, if_pos q5, a1]
                  simp only [bd1_e]
                  rw [(a3 m hm).2]
                · rw [if_neg q0, if_neg q1, if_neg q2, if_neg q3, if_neg q4, if_pos q5, D_rank n5 n3 hm]
                  simp only [bd0_e]
              · by_cases q6 : q = 6
                · obtain ⟨r, r1, r2⟩ := D_pw hF n3 (m : Int)
                  refine go r ((ec _).mpr ?_) ((em _).mpr ?_)
                  · rw [if_neg q0, if_neg q1, if_neg q2, if_neg q3, if_neg q4, if_neg q5, if_pos q6, r1]; simp only [bd0_e]
                  · rw [if_neg q0, if_neg q1, if_neg q2, if_neg q3, if_neg q4, if_neg q5, if_pos q6, r2]; simp only [bd0_e]
                · refine go (-1) ((ec _).mpr ?_) ((em _).mpr ?_)
                  · rw [if_neg q0, if_neg q1, if_neg q2, if_neg q3, if_neg q4, if_neg q5, if_neg q6]
                  · rw [if_neg q0, if_neg q1, if_neg q2, if_neg q3, if_neg q4, if_neg q5, if_neg q6]
  · refine CS_same h (-1) ?_ ?_
    · simp only [D_X6_man.eq_1, D_nob1 n1 hp, bd0_e, i10, bnd_e]
    · simp only [D_X7_man.eq_1, D_one0 n2 hp, bd0_e, if_true, bnd_e]
/-- the reference's dance: from its row st, to its row st -/
theorem D_mdn {N : Nat} {φ M : Lo} (hF : FF N φ (M 40)) (hM : M 17 3 = N) (h0 : N ≠ 0) {f : Int} (hf : 0 ≤ f ∧ f ≤ 3) : ∃ φ' M' : Lo, D_X1_step φ f = some φ' ∧ D_X7_dance M f = some (pc (rb (φ' 27) N), M') ∧ FF N φ' (M' 40) ∧ kpF φ φ' ∧ (∀ r, r ≠ 40 → r ≠ 41 → r ≠ 45 → M' r = M r) ∧ (∀ i, 25 ≤ i → i ≠ 30 → M' 40 i = M 40 i) := by
  have n5 := hF.1.2
  obtain ⟨M1, s1, s2, s3⟩ := D_st M
  obtain ⟨φ', M2, a1, a2, a3, a4, a5⟩ := step_sim (FF_st hF s3) (by rw [s2 17 (by decide)]; exact hM) f
  obtain ⟨M3, b1, b2, b3, b4⟩ := D_se M2
  have n3 : M3 17 3 = N := by rw [b2 17 (by decide), a5.1 17 (by decide) (by decide), s2 17 (by decide)]; exact hM
  have hF3 : FF N φ' (M3 40) := FF_cg a3 rfl rfl (fun _ _ => ⟨rfl, rfl, rfl, rfl, rfl⟩) (fun i hi => b3 i (by omega))
  have hr := rb_31 (φ' 27) (w := N) n5
  refine ⟨φ', M3, a1, ?_, hF3, a4, fun r x y z => by rw [b2 r x, a5.1 r y z, s2 r y], fun i x y => ?_⟩
  · simp only [D_X7_dance.eq_1, D_mfig1 hf, bd0_e, i10, bnd_e]
    rw [hM, if_neg (by omega), s1]
    simp only [bd1_e]
    rw [a2]
    simp only [bd1_e]
    rw [b1]
    simp only [bd1_e]
    rw [D_mr n5 n3, rb_cg (Q := φ' 27) N (fun i hi => by rw [b2 41 (by decide)]; exact (a3.2.1 i hi).2.2.2.2.symm)]
    simp only [bd0_e]
    rw [D_bo hr.1 hr.2]
    simp only [bd0_e]
  · by_cases c : i < 59
    · rw [b3 i c, a5.2 i x y, s3 i c]
    · rw [b4 i (by omega), a5.1 40 (by decide) (by decide), s2 40 (by decide)]
theorem EE_kp {N : Nat} {φ φ' : Lo} {μ μ' : Nat → Int} (h : EE N φ μ) (hk : kpF φ φ') (hμ : ∀ i, 25 ≤ i → i ≠ 30 → μ' i = μ i) : EE N φ' μ' := by
  have k : ∀ r, r = 10 ∨ r = 20 ∨ r = 21 ∨ r = 22 ∨ r = 25 ∨ r = 26 → φ' r = φ r := fun r hr => hk.1 r (by omega) (by omega) (by omega) (by omega) (by omega) (by omega) (by omega)
  exact EE_cg h (fun w _ => by rw [k 20 (by omega)]) (by rw [k 10 (by omega)]) (fun i _ => by rw [k 21 (by omega)]) (by rw [k 10 (by omega)]) (fun i _ => ⟨by rw [k 25 (by omega)], by rw [k 26 (by omega)], by rw [k 22 (by omega)]⟩) (fun i a _ b => hμ i a b)
theorem cl_dance {N : Nat} {σ : Sg} (h : rlS N σ) (f : Int) : CS σ (D_X6_dance σ f) (D_X7_dance (σ 13) f) := by
  obtain ⟨n1, n2, n5⟩ := rlS_N h
  by_cases hf : 0 ≤ f ∧ f ≤ 3
  · by_cases h0 : N = 0
    · refine CS_same h (-2) ?_ ?_
      · simp only [D_X6_dance.eq_1, D_cfig1 hf, bd0_e, i10, bnd_e]
        rw [n1, if_pos (by omega)]
      · simp only [D_X7_dance.eq_1, D_mfig1 hf, bd0_e, i10, bnd_e]
        rw [n2, if_pos (by omega)]
    · obtain ⟨φ', M', a1, a2, a3, a4, a5, a6⟩ := D_mdn h.1.2.1 n2 h0 hf
      have hr := rb_31 (φ' 27) (w := N) n5
      refine ⟨_, gset σ 1 φ', M', N, ?_, gset_ne _ _ (by decide), a2, ?_⟩
      · simp only [D_X6_dance.eq_1, D_cfig1 hf, bd0_e, i10, bnd_e]
        rw [n1, if_neg (by omega), a1]
        simp only [bd1_e, bns_e, gset_at]
        rw [D_rb n5 a3.1.1]
        simp only [bd0_e]
        rw [D_bc hr.1 hr.2]
        simp only [bd0_e]
      · have g : ∀ o, o ≠ 13 → o ≠ 1 → gset (gset σ 1 φ') 13 M' o = σ o := fun o x y => g2 o x y
        have hI := h.2.1
        refine rl_mk h (g 2 (by decide) (by decide)) (fun k hk => g (20 + k) (by omega) (by omega)) (by rw [g 0 (by decide) (by decide)]) ?_ ?_ ?_ ?_ ?_ ?_ ?_
        · intro i _; rw [gset_at, a5 17 (by decide) (by decide) (by decide)]
        · rw [gset_at, a5 44 (by decide) (by decide) (by decide)]
        · rw [gset_at, a5 47 (by decide) (by decide) (by decide)]
        · rw [gset_at, a5 48 (by decide) (by decide) (by decide)]
        · rw [gset_at, a5 49 (by decide) (by decide) (by decide)]
        · rw [g2a (by decide), gset_at]
          exact ⟨by rw [a5 17 (by decide) (by decide) (by decide)]; exact n2, a3, EE_kp h.1.2.2 a4 a6⟩
        · rw [g 0 (by decide) (by decide), g 3 (by decide) (by decide), g 4 (by decide) (by decide), gset_at]
          obtain ⟨b1, b2, b3, b4⟩ := hI
          unfold RIm
          rw [a5 42 (by decide) (by decide) (by decide)]
          exact ⟨b1, b2, RI1_c b3 rfl (fun i hi => a6 _ (by omega) (by omega)), RI1_c b4 rfl (fun i hi => a6 _ (by omega) (by omega))⟩
  · refine CS_same h (-1) ?_ ?_
    · simp only [D_X6_dance.eq_1, D_cfig0 hf, bd0_e, if_true, bnd_e]
    · simp only [D_X7_dance.eq_1, D_mfig0 hf, bd0_e, if_true, bnd_e]
