/-! a program that is danced -/
def trM (g : Nat → Int) (M : Lo) : Nat → Lo
  | 0 => M
  | k + 1 => (D_X7_danceOn (trM g M k) (g k)).getD M
theorem trM_ok {N : Nat} {φ M : Lo} (hF : FF N φ (M 41)) (hM : M 17 3 = N) (g : Nat → Int) : ∀ k, (∃ ψ, FF N ψ (trM g M k 41)) ∧ kpM M (trM g M k) ∧ trM g M k 17 3 = N ∧ D_X7_danceOn (trM g M k) (g k) = some (trM g M (k + 1)) := by
  have one : ∀ (k : Nat), (∃ ψ, FF N ψ (trM g M k 41)) → trM g M k 17 3 = N → kpM M (trM g M k) → (∃ ψ, FF N ψ (trM g M (k + 1) 41)) ∧ kpM M (trM g M (k + 1)) ∧ D_X7_danceOn (trM g M k) (g k) = some (trM g M (k + 1)) := fun k ⟨ψ, h1⟩ h2 h3 => by
    obtain ⟨φ', M', a1, a2, a3, a4, a5⟩ := step_sim h1 h2 (g k)
    have e : trM g M (k + 1) = M' := by
      show (D_X7_danceOn (trM g M k) (g k)).getD M = M'
      rw [a2]; rfl
    rw [e]
    exact ⟨⟨φ', a3⟩, kpM_tr a5 h3, a2⟩
  intro k
  induction k with
  | zero =>
    have h := one 0 ⟨φ, hF⟩ hM (kpM_rf M)
    exact ⟨⟨φ, hF⟩, kpM_rf M, hM, h.2.2⟩
  | succ k ih =>
    obtain ⟨h1, h2, h3, h4⟩ := ih
    have h := one k h1 h3 h2
    have hn : trM g M (k + 1) 17 3 = N := by rw [h.2.1.1 17 (by decide) (by decide)]; exact hM
    exact ⟨h.1, h.2.1, hn, (one (k + 1) h.1 hn h.2.1).2.2⟩
/-- the class goes along with the reference -/
theorem step_tr {N : Nat} {φ φ0 M : Lo} {g : Nat → Int} (hF0 : FF N φ0 (M 41)) (hM : M 17 3 = N) {k : Nat} (hF : FF N φ (trM g M k 41)) : ∃ φ', D_X1_step φ (g k) = some φ' ∧ FF N φ' (trM g M (k + 1) 41) ∧ kpF φ φ' := by
  obtain ⟨-, -, h3, h4⟩ := trM_ok hF0 hM g k
  obtain ⟨φ', M', a1, a2, a3, a4, a5⟩ := step_sim hF h3 (g k)
  rw [h4] at a2
  cases a2
  exact ⟨φ', a1, a3, a4⟩
theorem FF_wr {N : Nat} {φ : Lo} {μ : Nat → Int} (h : FF N φ μ) {φ' : Lo} (e : ∀ r, r ≠ 15 → r ≠ 24 → φ' r = φ r) : FF N φ' μ :=
  FF_cg h (by rw [e 11 (by decide) (by decide)]) (by rw [e 11 (by decide) (by decide)]) (fun m _ => ⟨by rw [e 51 (by decide) (by decide)], by rw [e 52 (by decide) (by decide)], by rw [e 53 (by decide) (by decide)], by rw [e 54 (by decide) (by decide)], by rw [e 27 (by decide) (by decide)]⟩) (fun _ _ => rfl)
theorem D_note {φ : Lo} {k : Nat} (hk : φ 15 2 = k) : D_X5_note φ = some (cpl φ φ 27 0 24 (5 * k) 5) := by
  simp only [D_X5_note.eq_1, bnd_e, bns_e]
  rw [hk, show ((k : Int) * 5).toNat = 5 * k by omega]; rfl
/-- the walk's state behind k FIGURES -/
def WK (N : Nat) (g : Nat → Int) (M φ : Lo) (k : Nat) : Prop := φ 15 2 = k ∧ FF N φ (trM g M k 41) ∧ ∀ j, j ≤ k → ∀ w, w < N → φ 24 (5 * j + w) = trM g M j 41 (20 + w)
theorem WK_note {N k : Nat} {g : Nat → Int} {M φ : Lo} (h5 : N ≤ 5) (hk : φ 15 2 = k) (hF : FF N φ (trM g M k 41)) (hp : ∀ j, j < k → ∀ w, w < N → φ 24 (5 * j + w) = trM g M j 41 (20 + w)) : WK N g M (cpl φ φ 27 0 24 (5 * k) 5) k := by
  refine ⟨by rw [cpl_nr _ _ (by decide)]; exact hk, FF_wr hF (fun r _ b => cpl_nr _ _ b), fun j hj w hw => ?_⟩
  by_cases q : j = k
  · subst q
    rw [cpl_at _ _ ⟨by omega, by omega⟩, show 0 + (5 * j + w - 5 * j) = w by omega]
    exact (hF.2.1 w hw).2.2.2.2
  · rw [show cpl φ φ 27 0 24 (5 * k) 5 24 (5 * j + w) = φ 24 (5 * j + w) from if_neg (by omega)]
    exact hp j (by omega) w hw
theorem D_foll {N F : Nat} {σ0 : Sg} {φ0 M : Lo} {g : Nat → Int} (hF0 : FF N φ0 (M 41)) (hM : M 17 3 = N) (a : Nat) (ha : a ≠ 5) (hf : σ0 a 10 6 = F) (hF8 : F ≤ 8) (hg : ∀ i, i < F → σ0 a 21 i = g i) : ∀ (n k : Nat) (φ : Lo), F < n + k → k ≤ F → WK N g M φ k → ∃ φ', D_X5_follow_9 a n (gset σ0 5 φ) = some (gset σ0 5 φ') ∧ WK N g M φ' F := by
  have n5 := hF0.1.2
  intro n
  induction n with
  | zero => intro k φ h1 h2; omega
  | succ n ih =>
    intro k φ hn hk hW
    obtain ⟨w1, w2, w3⟩ := id hW
    rw [D_X5_follow_9.eq_2]
    simp only [bnd_e, bns_e, gset_at, gset_ne _ _ ha]
    rw [w1, hf]
    by_cases h : (k : Int) < (F : Int)
    · obtain ⟨φ', s1, s2, s3⟩ := step_tr (g := g) hF0 hM w2
      have e15 : φ' 15 2 = k := by rw [s3.1 15 (by decide) (by decide) (by decide) (by decide) (by decide) (by decide) (by decide)]; exact w1
      have e24 : φ' 24 = φ 24 := s3.1 24 (by decide) (by decide) (by decide) (by decide) (by decide) (by decide) (by decide)
      rw [if_pos h, if_pos (by omega), chk_e ⟨by omega, by omega⟩, tn, hg k (by omega), s1]
      simp only [bd1_e, bns_e, bnd_e, gset_at, gset_gset]
      rw [e15, chk_e ⟨by omega, by omega⟩, wr_g]
      simp only [gset_at]
      have hk1 : wrl φ' 15 2 ((k : Int) + 1) 15 2 = ((k + 1 : Nat) : Int) := by rw [wrl_at]; rfl
      rw [D_note hk1]
      simp only [bd1_e, gset_gset]
      refine ih (k + 1) _ (by omega) (by omega) (WK_note n5 hk1 (FF_wr s2 (fun r x _ => wrl_nr _ _ x)) (fun j hj w hw => ?_))
      rw [wrl_nr _ _ (by decide), e24]
      exact w3 j (by omega) w hw
    · rw [if_neg h]
      have e : k = F := by omega
      subst e
      exact ⟨φ, rfl, hW⟩
theorem D_fol {N F : Nat} {σ : Sg} {M : Lo} {g : Nat → Int} (hF : FF N (σ 5) (M 41)) (hM : M 17 3 = N) {a : Nat} (ha : a ≠ 5) (hf : σ a 10 6 = F) (hF8 : F ≤ 8) (hg : ∀ i, i < F → σ a 21 i = g i) : ∃ φ', D_X5_follow a σ = some (gset σ 5 φ') ∧ WK N g M φ' F := by
  have hk0 : wrl (σ 5) 15 2 0 15 2 = ((0 : Nat) : Int) := by rw [wrl_at]; rfl
  rw [D_X5_follow.eq_1]
  simp only [bnd_e, bns_e]
  rw [wr_0]
  simp only [gset_at]
  rw [D_note hk0]
  simp only [bd1_e, gset_gset]
  generalize hk : (5000 : Nat) = n
  exact D_foll hF hM a ha hf hF8 hg n 0 _ (by omega) (Nat.zero_le _) (WK_note hF.1.2 hk0 (FF_wr hF (fun r x _ => wrl_nr _ _ x)) (fun j hj => absurd hj (Nat.not_lt_zero _)))
theorem D_pb {N F : Nat} {g : Nat → Int} {M φ : Lo} (h : WK N g M φ F) {w k : Nat} (hw : w < N) : D_X5_partnerBehind φ w k = some (trM g M (min k F) 41 (20 + w)) := by
  obtain ⟨w1, w2, w3⟩ := h
  simp only [D_X5_partnerBehind.eq_1, bnd_e]
  rw [w1, show (min (k : Int) (F : Int) * 5 + (w : Int)).toNat = 5 * (min k F) + w by omega, w3 _ (Nat.min_le_right _ _) w hw]
/-- walkNow, and the reference's start -/
theorem walk_start {N : Nat} {σ : Sg} (h : rlS N σ) : ∃ (M1 : Lo) (F : Nat) (φ5 : Lo), D_X7_starts (σ 13) = some M1 ∧ (∀ r, r ≠ 41 → M1 r = σ 13 r) ∧ M1 17 3 = N ∧ FF N (σ 1) (M1 41) ∧ M1 41 31 = F ∧ F ≤ 8 ∧ σ 1 10 6 = F ∧ (∀ j, j < 59 → M1 41 j = σ 13 40 j) ∧ D_X6_walkNow σ = some (gset σ 5 φ5) ∧ WK N (fun i => M1 41 (32 + i)) M1 φ5 F := by
  obtain ⟨n1, n2, n5⟩ := rlS_N h
  obtain ⟨k1, ⟨f1, f2, f3⟩, f4, f5, f6, f7⟩ := h.1.2.2
  obtain ⟨M1, s1, s2, s3⟩ := D_st (σ 13)
  have hF := FF_st h.1.2.1 s3
  have n3 : M1 17 3 = N := by rw [s2 17 (by decide)]; exact n2
  obtain ⟨F, hF9, hf⟩ := nat_of (b := 9) f2 (by omega)
  obtain ⟨φ', c1, c2⟩ := D_cf (σ := σ) (o := 5) (a := 1) (N := N) (by decide) n5 n1
  have hF5 : FF N (gset σ 5 φ' 5) (M1 41) := by rw [gset_at]; exact FF_cpd hF c2
  obtain ⟨φ5, d1, d2⟩ := D_fol (σ := gset σ 5 φ') (g := fun i => M1 41 (32 + i)) (F := F) (a := 1) hF5 n3 (by decide) (by rw [gset_ne _ _ (by decide)]; exact hf) (by omega) (fun i hi => by rw [gset_ne _ _ (by decide), f4 i (by omega), s3 _ (by omega)])
  refine ⟨M1, F, φ5, s1, s2, n3, hF, by rw [s3 31 (by decide), ← f1]; exact hf, by omega, hf, s3, ?_, d2⟩
  rw [D_X6_walkNow.eq_1, c1]
  simp only [bd1_e]
  rw [d1]
  simp only [bd1_e, gset_gset]
theorem sM_tr2 {M M1 : Lo} {g : Nat → Int} {k N : Nat} {φ : Lo} (hs : ∀ r, r ≠ 41 → M1 r = M r) (hF : FF N φ (M1 41)) (hM : M1 17 3 = N) : sM M (trM g M1 k) := sM_tr (sM_kp (trM_ok hF hM g k).2.1) (sM_st hs)
/-! ahead -/
theorem cl_ahead {N : Nat} {σ : Sg} (h : rlS N σ) (p q : Int) : CS σ (D_X6_ahead σ p q) (D_X7_ahead (σ 13) p q) := by
  obtain ⟨n1, n2, n5⟩ := rlS_N h
  by_cases hp : 0 ≤ p ∧ p < N
  · by_cases hq : 0 ≤ q ∧ q ≤ 8
    · obtain ⟨w, hw, rfl⟩ := nat_of hp.1 hp.2
      obtain ⟨t, ht, rfl⟩ := nat_of (b := 9) hq.1 (by omega)
      obtain ⟨M1, F, φ5, s1, s2, n3, hF, f1, f8, fc, s3, c1, c2⟩ := walk_start h
      generalize hgd : (fun i => M1 41 (32 + i)) = g at c2
      have key : ∀ (n k : Nat), F < n + k → k ≤ min t F → D_X7_ahead_28 w t n (trM g M1 k) k = some (trM g M1 (min t F) 41 (20 + w), trM g M1 (min t F)) := by
        intro n
        induction n with
        | zero => intro k a b; omega
        | succ n ih =>
          intro k hn hk
          obtain ⟨-, a2, a3, a4⟩ := trM_ok hF n3 g k
          rw [D_X7_ahead_28.eq_2]
          simp only [bnd_e, D_X7_ahead_63.eq_1, show (31 : Int).toNat = 31 from rfl]
          rw [a2.2 31 (by decide) (by decide), f1, show (20 + (w : Int)).toNat = 20 + w by omega, show (32 + (k : Int)).toNat = 32 + k by omega, a2.2 (32 + k) (by omega) (by omega), show M1 41 (32 + k) = g k by rw [← hgd], a4]
          simp only [bd1_e]
          by_cases c : k < min t F
          · rw [if_pos (by omega), if_pos (by omega), nc1]
            exact ih (k + 1) (by omega) (by omega)
          · have e : k = min t F := by omega
            rw [← e]
            by_cases c2 : (k : Int) < (F : Int)
            · rw [if_pos c2, if_neg (by omega)]
            · rw [if_neg c2]
      refine CS_scr h (trM g M1 (min t F) 41 (20 + w)) ?_ ?_ (sC_g (o := 5) (φ := φ5) (by decide)) (sM_tr2 (k := min t F) (g := g) s2 hF n3)
      · simp only [D_X6_ahead.eq_1, D_nob0 n1 hp, bd0_e, if_true, bnd_e]
        rw [if_neg (by omega), if_neg (by omega), c1]
        simp only [bd1_e, gset_at]
        rw [D_pb c2 hw]
        simp only [bd0_e]
      · simp only [D_X7_ahead.eq_1, D_one1 n2 hp, bd0_e, i10, bnd_e, D_in1 hq.1 hq.2, s1, bd1_e]
        generalize hk : (5000 : Nat) = n
        exact key n 0 (by omega) (Nat.zero_le _)
    · refine CS_same h (-1) ?_ ?_
      · simp only [D_X6_ahead.eq_1, D_nob0 n1 hp, bd0_e, if_true, bnd_e]
        by_cases c : q < 0
        · rw [if_pos c]
        · rw [if_neg c, if_pos (by omega)]
      · simp only [D_X7_ahead.eq_1, D_one1 n2 hp, bd0_e, i10, bnd_e]
        rw [D_in0 (by omega)]
        simp only [bd0_e, if_true]
  · refine CS_same h (-1) ?_ ?_
    · simp only [D_X6_ahead.eq_1, D_nob1 n1 hp, bd0_e, i10, bnd_e]
    · simp only [D_X7_ahead.eq_1, D_one0 n2 hp, bd0_e, if_true, bnd_e]
/-! meets -/
theorem cl_meets {N : Nat} {σ : Sg} (h : rlS N σ) (p q : Int) : CS σ (D_X6_meets σ p q) (D_X7_meets (σ 13) p q) := by
  obtain ⟨n1, n2, n5⟩ := rlS_N h
  by_cases hp : 0 ≤ p ∧ p < N
  · by_cases hq : 0 ≤ q ∧ q < N
    · obtain ⟨w, hw, rfl⟩ := nat_of hp.1 hp.2
      obtain ⟨M1, F, φ5, s1, s2, n3, hF, f1, f8, fc, s3, c1, c2⟩ := walk_start h
      generalize hgd : (fun i => M1 41 (32 + i)) = g at c2
      have key : ∀ (n n' k : Nat), F + 1 < n + k → F + 1 < n' + k → k ≤ F + 1 → ∃ (r : Int) (j : Nat), D_X6_meets_24 w q n (gset σ 5 φ5) k = some (r, gset σ 5 φ5) ∧ D_X7_meets_24 w q n' (trM g M1 (min k F)) k = some (r, trM g M1 j) := by
        intro n
        induction n with
        | zero => intro n' k a b c; omega
        | succ n ih =>
          intro n' k hn hn' hk
          cases n' with
          | zero => omega
          | succ n' =>
            obtain ⟨-, a2, a3, a4⟩ := trM_ok hF n3 g (min k F)
            rw [D_X6_meets_24.eq_2, D_X7_meets_24.eq_2]
            simp only [bnd_e, D_X7_meets_74.eq_1, show (31 : Int).toNat = 31 from rfl, gset_at]
            rw [c2.1, a2.2 31 (by decide) (by decide), f1, show (20 + (w : Int)).toNat = 20 + w by omega, show (32 + (k : Int)).toNat = 32 + k by omega, a2.2 (32 + k) (by omega) (by omega), show M1 41 (32 + k) = g k by rw [← hgd], D_pb c2 hw]
            simp only [bd0_e]
            by_cases c : (F : Int) < (k : Int)
            · rw [if_pos c, if_pos c]
              exact ⟨-4, min k F, rfl, rfl⟩
            · rw [if_neg c, if_neg c]
              have em : min k F = k := by omega
              rw [em] at a4 ⊢
              by_cases d : trM g M1 k 41 (20 + w) = q
              · rw [if_pos d, if_pos d]
                exact ⟨k, k, rfl, rfl⟩
              · rw [if_neg d, if_neg d, nc1]
                by_cases e : (k : Int) < (F : Int)
                · rw [if_pos e, a4]
                  simp only [bd1_e]
                  have := ih n' (k + 1) (by omega) (by omega) (by omega)
                  rw [show min (k + 1) F = k + 1 by omega] at this
                  exact this
                · rw [if_neg e]
                  have := ih n' (k + 1) (by omega) (by omega) (by omega)
                  rw [show min (k + 1) F = k by omega] at this
                  exact this
      obtain ⟨r, j, e1, e2⟩ : ∃ (r : Int) (j : Nat), D_X6_meets_24 w q 5000 (gset σ 5 φ5) 0 = some (r, gset σ 5 φ5) ∧ D_X7_meets_24 w q 5000 M1 0 = some (r, trM g M1 j) := by
        generalize hk : (5000 : Nat) = n
        have := key n n 0 (by omega) (by omega) (Nat.zero_le _)
        rw [show min 0 F = 0 by omega] at this
        exact this
      refine CS_scr h r ?_ ?_ (sC_g (o := 5) (φ := φ5) (by decide)) (sM_tr2 (k := j) (g := g) s2 hF n3)
      · simp only [D_X6_meets.eq_1, D_nob0 n1 hp, D_nob0 n1 hq, bd0_e, if_true, bnd_e, c1, bd1_e]
        exact e1
      · simp only [D_X7_meets.eq_1, D_one1 n2 hp, D_one1 n2 hq, bd0_e, i10, bnd_e, s1, bd1_e]
        exact e2
    · refine CS_same h (-1) ?_ ?_
      · simp only [D_X6_meets.eq_1, D_nob0 n1 hp, D_nob1 n1 hq, bd0_e, if_true, i10, bnd_e]
      · simp only [D_X7_meets.eq_1, D_one1 n2 hp, D_one0 n2 hq, bd0_e, if_true, i10, bnd_e]
  · refine CS_same h (-1) ?_ ?_
    · simp only [D_X6_meets.eq_1, D_nob1 n1 hp, bd0_e, i10, bnd_e]
    · simp only [D_X7_meets.eq_1, D_one0 n2 hp, bd0_e, if_true, bnd_e]
