/-! BENT, HEIGHTS, SHOES: the tries -/
theorem or0 {x : Int} (hx : w32 x = x) : b_or x 0 = x := by
  unfold b_or
  rw [show Int32.ofInt 0 = 0 from rfl, Int32.or_zero]
  exact hx
theorem or32 (x y : Int) : w32 (b_or x y) = b_or x y := by
  unfold w32 b_or
  rw [Int32.ofInt_toInt]
theorem w3232 (x : Int) : w32 (w32 x) = w32 x := by
  unfold w32
  rw [Int32.ofInt_toInt]
theorem shl0 : ∀ k : Nat, k < 10 → b_shl 0 k = 0 := by decide +kernel
theorem D_fl0 : D_X7_flag 0 = some 0 := rfl
theorem D_fl1 : D_X7_flag 1 = some 1 := rfl
theorem try_start {N : Nat} {σ : Sg} (h : rlS N σ) (φ : Lo) {M : Lo} (hS : sM (σ 13) M) : ∃ (M1 φ0 : Lo), D_X7_starts M = some M1 ∧ D_X1_copyFrom 5 1 (gset σ 5 φ) = some (gset σ 5 φ0) ∧ FF N φ0 (M1 41) ∧ M1 17 3 = N ∧ sM (σ 13) M1 ∧ (∀ j, j < 59 → M1 41 j = σ 13 40 j) := by
  obtain ⟨n1, n2, n5⟩ := rlS_N h
  have m40 : M 40 = σ 13 40 := hS.1 40 (by decide) (by decide) (by decide) (by decide) (by decide) (by decide)
  obtain ⟨M1, s1, s2, s3⟩ := D_st M
  have n3 : M1 17 3 = N := by rw [s2 17 (by decide), hS.2.1]; exact n2
  have e41 : ∀ j, j < 59 → M1 41 j = σ 13 40 j := fun j hj => by rw [s3 j hj, m40]
  have hF1 : FF N (σ 1) (M1 41) := FF_st h.1.2.1 e41
  obtain ⟨φ0, c1, c2⟩ := D_cf (σ := gset σ 5 φ) (o := 5) (a := 1) (N := N) (by decide) n5 (by rw [gset_ne _ _ (by decide)]; exact n1)
  rw [gset_gset] at c1
  rw [gset_ne σ φ (show (1 : Nat) ≠ 5 by decide)] at c2
  exact ⟨M1, φ0, s1, c1, FF_cpd hF1 c2, n3, sM_tr (sM_st s2) hS, e41⟩
theorem D_bec (M : Lo) (m j : Nat) (v : Int) : D_X7_becomesOf M m j v = some (wrl M 41 (4 * m + j) v) := by
  simp only [D_X7_becomesOf.eq_1, bnd_e, bns_e]
  rw [show (4 * (m : Int) + (j : Int)).toNat = 4 * m + j by omega]
theorem D_ofm (M : Lo) (m j : Nat) : D_X7_of M m j = some (M 41 (4 * m + j)) := by
  simp only [D_X7_of.eq_1, bnd_e]
  rw [show (4 * (m : Int) + (j : Int)).toNat = 4 * m + j by omega]
theorem sM_w41 (M : Lo) (i : Nat) (v : Int) : sM M (wrl M 41 i v) := sM_st (fun _ hr => wrl_nr _ _ hr)
theorem cl_bent {N : Nat} {σ : Sg} (h : rlS N σ) : CS σ (D_X6_bent σ) (D_X7_bent (σ 13)) := by
  obtain ⟨n1, n2, n5⟩ := rlS_N h
  have key : ∀ (n k : Nat) (φ M : Lo) (a : Int), N < n + k → k ≤ N → sM (σ 13) M → w32 a = a → ∃ (r : Int) (φ' M' : Lo), D_X6_bent_4 n (gset σ 5 φ) a k = some (r, gset σ 5 φ') ∧ D_X7_bent_4 n M a k = some (r, M') ∧ sM (σ 13) M' := by
    intro n
    induction n with
    | zero => intro k φ M a x y; omega
    | succ n ih =>
      intro k φ M a hn hk hS ha
      have m3 : M 17 3 = N := by rw [hS.2.1]; exact n2
      rw [D_X6_bent_4.eq_2, D_X7_bent_4.eq_2]
      simp only [bnd_e, bns_e, D_X6_bent_61.eq_1]
      rw [gset_ne σ φ (show (1 : Nat) ≠ 5 by decide), n1, m3]
      by_cases c : (k : Int) < (N : Int)
      · obtain ⟨M1, φ0, s1, c1, hF, m3', hS1, e41⟩ := try_start h φ hS
        have b0 := D_bec M1 k 0 2
        rw [c0] at b0
        rw [if_pos c, if_pos c, s1, c1]
        simp only [bd1_e]
        rw [b0]
        simp only [bd1_e]
        rw [tn, wr_g]
        have hF2 : FF N (wrl φ0 51 k 2) (wrl M1 41 (4 * k + 0) 2 41) := by
          rw [wrl_r]
          exact FF_up hF (by omega) (Or.inl ⟨rfl, rfl, by decide, by decide⟩)
        obtain ⟨r, φ', M', q1, q2, q3, q4⟩ := so_eq h hF2 (by rw [wrl_nr _ _ (by decide)]; exact m3') (fun j x y z => by rw [wrl_ni _ _ (by omega), e41 j y])
        have hS2 : sM (σ 13) M' := sM_tr (sM_kp q3) (sM_tr (sM_w41 _ _ _) hS1)
        rw [q1, q2]
        simp only [bd2_e]
        rw [nc1]
        rcases q4 with rfl | rfl
        · rw [if_pos rfl, D_fl0]
          simp only [bd0_e]
          rw [shl0 k (by omega), or0 ha]
          exact ih (k + 1) φ' M' a (by omega) (by omega) hS2 ha
        · rw [if_neg (by decide), D_fl1]
          simp only [bd0_e]
          exact ih (k + 1) φ' M' _ (by omega) (by omega) hS2 (or32 _ _)
      · rw [if_neg c, if_neg c]
        exact ⟨a, φ, M, rfl, rfl, hS⟩
  obtain ⟨r, φ2, M3, q1, q2, q3⟩ : ∃ (r : Int) (φ2 M3 : Lo), D_X6_bent_4 5000 (gset σ 5 (σ 5)) 0 0 = some (r, gset σ 5 φ2) ∧ D_X7_bent_4 5000 (σ 13) 0 0 = some (r, M3) ∧ sM (σ 13) M3 := by
    generalize hk : (5000 : Nat) = n
    exact key n 0 (σ 5) (σ 13) 0 (by omega) (Nat.zero_le _) (sM_rf _) rfl
  rw [gset_self] at q1
  refine CS_scr h r ?_ ?_ (sC_g (o := 5) (φ := φ2) (by decide)) q3
  · simp only [D_X6_bent.eq_1, bnd_e]
    exact q1
  · simp only [D_X7_bent.eq_1, bnd_e]
    exact q2
theorem cl_heights {N : Nat} {σ : Sg} (h : rlS N σ) (p : Int) : CS σ (D_X6_heights σ p) (D_X7_heights (σ 13) p) := by
  obtain ⟨n1, n2, n5⟩ := rlS_N h
  by_cases hp : 0 ≤ p ∧ p < N
  · obtain ⟨P, hP, rfl⟩ := nat_of (x := p) (b := N) hp.1 hp.2
    have key : ∀ (n k : Nat) (φ M : Lo) (a : Int), 10 < n + k → k ≤ 10 → sM (σ 13) M → w32 a = a → ∃ (r : Int) (φ' M' : Lo), D_X6_heights_14 P n (gset σ 5 φ) a k = some (r, gset σ 5 φ') ∧ D_X7_heights_14 P n M a k = some (r, M') ∧ sM (σ 13) M' := by
      intro n
      induction n with
      | zero => intro k φ M a x y; omega
      | succ n ih =>
        intro k φ M a hn hk hS ha
        rw [D_X6_heights_14.eq_2, D_X7_heights_14.eq_2]
        simp only [bnd_e, bns_e, D_X6_heights_63.eq_1]
        by_cases c : (9 : Int) < (k : Int)
        · rw [if_pos c, if_pos c]
          exact ⟨a, φ, M, rfl, rfl, hS⟩
        · obtain ⟨M1, φ0, s1, c1, hF, m3', hS1, e41⟩ := try_start h φ hS
          have b0 := D_bec M1 P 1 k
          rw [show ((1 : Nat) : Int) = 1 from rfl] at b0
          rw [if_neg c, if_neg c, s1, c1]
          simp only [bd1_e]
          rw [b0]
          simp only [bd1_e]
          rw [tn, wr_g]
          have hF2 : FF N (wrl φ0 52 P k) (wrl M1 41 (4 * P + 1) k 41) := by
            rw [wrl_r]
            exact FF_up hF (by omega) (Or.inr (Or.inl ⟨rfl, rfl, by omega, by omega⟩))
          obtain ⟨r, φ', M', q1, q2, q3, q4⟩ := so_eq h hF2 (by rw [wrl_nr _ _ (by decide)]; exact m3') (fun j x y z => by rw [wrl_ni _ _ (by omega), e41 j y])
          have hS2 : sM (σ 13) M' := sM_tr (sM_kp q3) (sM_tr (sM_w41 _ _ _) hS1)
          rw [q1, q2]
          simp only [bd2_e]
          rw [nc1]
          rcases q4 with rfl | rfl
          · rw [if_pos rfl, D_fl0]
            simp only [bd0_e]
            rw [shl0 k (by omega), or0 ha]
            exact ih (k + 1) φ' M' a (by omega) (by omega) hS2 ha
          · rw [if_neg (by decide), D_fl1]
            simp only [bd0_e]
            exact ih (k + 1) φ' M' _ (by omega) (by omega) hS2 (or32 _ _)
    obtain ⟨r, φ2, M3, q1, q2, q3⟩ : ∃ (r : Int) (φ2 M3 : Lo), D_X6_heights_14 P 5000 (gset σ 5 (σ 5)) 0 0 = some (r, gset σ 5 φ2) ∧ D_X7_heights_14 P 5000 (σ 13) 0 0 = some (r, M3) ∧ sM (σ 13) M3 := by
      generalize hk : (5000 : Nat) = n
      exact key n 0 (σ 5) (σ 13) 0 (by omega) (Nat.zero_le _) (sM_rf _) rfl
    rw [gset_self] at q1
    refine CS_scr h r ?_ ?_ (sC_g (o := 5) (φ := φ2) (by decide)) q3
    · simp only [D_X6_heights.eq_1, D_nob0 n1 hp, bd0_e, if_true, bnd_e]
      exact q1
    · simp only [D_X7_heights.eq_1, D_one1 n2 hp, bd0_e, i10, bnd_e]
      exact q2
  · refine CS_same h (-1) ?_ ?_
    · simp only [D_X6_heights.eq_1, D_nob1 n1 hp, bd0_e, i10, bnd_e]
    · simp only [D_X7_heights.eq_1, D_one0 n2 hp, bd0_e, if_true, bnd_e]
theorem cl_shoes {N : Nat} {σ : Sg} (h : rlS N σ) (p : Int) : CS σ (D_X6_shoes σ p) (D_X7_shoes (σ 13) p) := by
  obtain ⟨n1, n2, n5⟩ := rlS_N h
  have k0 := h.1.2.1
  by_cases hp : 0 ≤ p ∧ p ≤ 1
  · have ki : ∀ (r19 : Sg → Int → Int → Int → Option (Int × Sg)) (r17 : Lo → Int → Int → Int → Option (Int × Lo)) (i : Nat), i < N → ∀ (n j : Nat) (φ M : Lo) (a b : Int), N < n + j → i < j → j ≤ N → sM (σ 13) M → w32 b = b → ∃ (a' b' : Int) (φ' M' : Lo), D_X6_shoes_40 r19 i n (gset σ 5 φ) a b j = r19 (gset σ 5 φ') a' b' ((i + 1 : Nat) : Int) ∧ D_X7_shoes_32 r17 i n M b a j = r17 M' b' a' ((i + 1 : Nat) : Int) ∧ sM (σ 13) M' ∧ w32 b' = b' := by
      intro r19 r17 i hi n
      induction n with
      | zero => intro j φ M a b x y; omega
      | succ n ih =>
        intro j φ M a b hn hij hj hS hb
        have m3 : M 17 3 = N := by rw [hS.2.1]; exact n2
        rw [D_X6_shoes_40.eq_2, D_X7_shoes_32.eq_2]
        simp only [bnd_e, bns_e, D_X6_shoes_151.eq_1, D_X6_shoes_147.eq_1, D_X7_shoes_103.eq_1, D_X7_shoes_104.eq_1]
        rw [gset_ne σ φ (show (1 : Nat) ≠ 5 by decide), n1, m3]
        by_cases c : (j : Int) < (N : Int)
        · obtain ⟨M1, φ0, s1, c1, hF, m3', hS1, e41⟩ := try_start h φ hS
          have b0 := D_ofm M1 i 2
          have b1 := D_ofm M1 j 2
          have x1 : M1 41 (4 * i + 2) = σ 1 53 i := by rw [e41 _ (by omega)]; exact (k0.2.1 i (by omega)).2.2.1.symm
          have x2 : M1 41 (4 * j + 2) = σ 1 53 j := by rw [e41 _ (by omega)]; exact (k0.2.1 j (by omega)).2.2.1.symm
          have y1 := (k0.2.2.2.1 i (by omega)).2.2.1
          have y2 := (k0.2.2.2.1 j (by omega)).2.2.1
          rw [show ((2 : Nat) : Int) = 2 from rfl] at b0 b1
          have b2 := D_bec M1 i 2 (σ 1 53 j)
          have b3 := D_bec (wrl M1 41 (4 * i + 2) (σ 1 53 j)) j 2 (σ 1 53 i)
          rw [show ((2 : Nat) : Int) = 2 from rfl] at b2 b3
          rw [if_pos c, if_pos c, s1, c1]
          simp only [bd1_e]
          rw [b0, b1, x1, x2]
          simp only [bd0_e]
          rw [b2]
          simp only [bd1_e]
          rw [b3]
          simp only [bd1_e]
          rw [tn, tn, gset_ne σ φ0 (show (1 : Nat) ≠ 5 by decide), wr_g, gset_ne σ _ (show (1 : Nat) ≠ 5 by decide), wr_g]
          have hF1 : FF N (wrl φ0 53 i (σ 1 53 j)) (wrl M1 41 (4 * i + 2) (σ 1 53 j) 41) := by
            rw [wrl_r]
            exact FF_up hF (by omega) (Or.inr (Or.inr (Or.inl ⟨rfl, rfl, y2.1, y2.2⟩)))
          have hF2 : FF N (wrl (wrl φ0 53 i (σ 1 53 j)) 53 j (σ 1 53 i)) (wrl (wrl M1 41 (4 * i + 2) (σ 1 53 j)) 41 (4 * j + 2) (σ 1 53 i) 41) := by
            rw [wrl_r]
            exact FF_up hF1 (by omega) (Or.inr (Or.inr (Or.inl ⟨rfl, rfl, y1.1, y1.2⟩)))
          obtain ⟨r, φ', M', q1, q2, q3, q4⟩ := so_eq h hF2 (by rw [wrl_nr _ _ (by decide), wrl_nr _ _ (by decide)]; exact m3') (fun j x y z => by rw [wrl_ni _ _ (by omega), wrl_ni _ _ (by omega), e41 j y])
          have hS2 : sM (σ 13) M' := sM_tr (sM_kp q3) (sM_tr (sM_w41 _ _ _) (sM_tr (sM_w41 _ _ _) hS1))
          rw [q1, q2]
          simp only [bd2_e]
          rw [nc1]
          rcases q4 with rfl | rfl
          · rw [if_pos rfl, if_pos rfl, D_fl0]
            simp only [bd0_e]
            rw [Int.add_zero, hb]
            exact ih (j + 1) φ' M' a b (by omega) (by omega) (by omega) hS2 hb
          · rw [D_fl1]
            simp only [bd0_e, i10]
            by_cases d : b = 0
            · rw [if_pos d, if_pos d]
              exact ih (j + 1) φ' M' _ _ (by omega) (by omega) (by omega) hS2 (w3232 _)
            · rw [if_neg d, if_neg d]
              exact ih (j + 1) φ' M' _ _ (by omega) (by omega) (by omega) hS2 (w3232 _)
        · rw [if_neg c, if_neg c, nc1]
          exact ⟨a, b, φ, M, rfl, rfl, hS, hb⟩
    have key : ∀ (n i : Nat) (φ M : Lo) (a b : Int), N < n + i → i ≤ N → sM (σ 13) M → w32 b = b → ∃ (r : Int) (φ' M' : Lo), D_X6_shoes_19 p n (gset σ 5 φ) a b i = some (r, gset σ 5 φ') ∧ D_X7_shoes_17 p n M b a i = some (r, M') ∧ sM (σ 13) M' := by
      intro n
      induction n with
      | zero => intro i φ M a b x y; omega
      | succ n ih =>
        intro i φ M a b hn hi hS hb
        have m3 : M 17 3 = N := by rw [hS.2.1]; exact n2
        rw [D_X6_shoes_19.eq_2, D_X7_shoes_17.eq_2]
        simp only [bnd_e]
        rw [gset_ne σ φ (show (1 : Nat) ≠ 5 by decide), n1, m3, nc1]
        by_cases c : (i : Int) < (N : Int)
        · rw [if_pos c, if_pos c]
          obtain ⟨a', b', φ', M', q1, q2, q3, q4⟩ : ∃ (a' b' : Int) (φ' M' : Lo), D_X6_shoes_40 (D_X6_shoes_19 p n) i 5000 (gset σ 5 φ) a b ((i + 1 : Nat) : Int) = D_X6_shoes_19 p n (gset σ 5 φ') a' b' ((i + 1 : Nat) : Int) ∧ D_X7_shoes_32 (D_X7_shoes_17 p n) i 5000 M b a ((i + 1 : Nat) : Int) = D_X7_shoes_17 p n M' b' a' ((i + 1 : Nat) : Int) ∧ sM (σ 13) M' ∧ w32 b' = b' := by
            generalize hk : (5000 : Nat) = m
            exact ki _ _ i (by omega) m (i + 1) φ M a b (by omega) (by omega) (by omega) hS hb
          rw [q1, q2]
          exact ih (i + 1) φ' M' a' b' (by omega) (by omega) q3 q4
        · rw [if_neg c, if_neg c]
          by_cases d : p = 0
          · rw [if_pos d, if_pos d]
            exact ⟨a, φ, M, rfl, rfl, hS⟩
          · rw [if_neg d, if_neg d]
            exact ⟨b, φ, M, rfl, rfl, hS⟩
    obtain ⟨r, φ2, M3, q1, q2, q3⟩ : ∃ (r : Int) (φ2 M3 : Lo), D_X6_shoes_19 p 5000 (gset σ 5 (σ 5)) (-4) 0 0 = some (r, gset σ 5 φ2) ∧ D_X7_shoes_17 p 5000 (σ 13) 0 (-4) 0 = some (r, M3) ∧ sM (σ 13) M3 := by
      generalize hk : (5000 : Nat) = n
      exact key n 0 (σ 5) (σ 13) (-4) 0 (by omega) (Nat.zero_le _) (sM_rf _) rfl
    rw [gset_self] at q1
    refine CS_scr h r ?_ ?_ (sC_g (o := 5) (φ := φ2) (by decide)) q3
    · simp only [D_X6_shoes.eq_1, bnd_e]
      rw [if_neg (by omega), if_neg (by omega)]
      exact q1
    · simp only [D_X7_shoes.eq_1, D_prt1 hp, bd0_e, i10, bnd_e]
      exact q2
  · refine CS_same h (-1) ?_ ?_
    · simp only [D_X6_shoes.eq_1, bnd_e]
      by_cases c : p < 0
      · rw [if_pos c]
      · rw [if_neg c, if_pos (by omega)]
    · simp only [D_X7_shoes.eq_1, D_prt0 hp, bd0_e, if_true, bnd_e]
