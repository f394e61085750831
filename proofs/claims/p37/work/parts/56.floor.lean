/-! calls that look at the floor -/
def CM (σ : Sg) (dc : Option Int) (dm : Option (Int × Lo)) : Prop := ∃ (r : Int) (M' : Lo) (N' : Nat), dc = some r ∧ dm = some (r, M') ∧ rlS N' (gset σ 13 M')
theorem CM_scr {N : Nat} {σ : Sg} {M' : Lo} {dc : Option Int} {dm : Option (Int × Lo)} (h : rlS N σ) (r : Int) (h1 : dc = some r) (h2 : dm = some (r, M')) (hM : sM (σ 13) M') : CM σ dc dm := ⟨r, M', N, h1, h2, rlS_s h (sC_rf σ) hM⟩
theorem sM_st {M M' : Lo} (h : ∀ r, r ≠ 41 → M' r = M r) : sM M M' := ⟨fun r _ b _ _ _ _ => h r b, by rw [h 17 (by decide)], by rw [h 17 (by decide)], by rw [h 17 (by decide)], by rw [h 17 (by decide)]⟩
def sm (f : Nat → Int) : Nat → Int
  | 0 => 0
  | n + 1 => sm f n + f n
theorem sm_in {f : Nat → Int} : ∀ n, (∀ i, i < n → 0 ≤ f i ∧ f i ≤ 9) → 0 ≤ sm f n ∧ sm f n ≤ 9 * n
  | 0, _ => by unfold sm; decide
  | n + 1, h => by
    have ih := sm_in n (fun i hi => h i (by omega))
    have := h n (Nat.lt_succ_self _)
    unfold sm
    omega
theorem sm_cg {f g : Nat → Int} : ∀ n, (∀ i, i < n → f i = g i) → sm f n = sm g n
  | 0, _ => rfl
  | n + 1, h => by
    unfold sm
    rw [sm_cg n (fun i hi => h i (by omega)), h n (Nat.lt_succ_self _)]
theorem D_s53 {φ : Lo} {N : Nat} (h5 : N ≤ 5) (hr : ∀ i, i < N → 0 ≤ φ 53 i ∧ φ 53 i ≤ 9) : D_sum53 φ N = some (sm (φ 53) N) := by
  have key : ∀ (k i : Nat), N < k + i → i ≤ N → D_sum53_4 N φ k (sm (φ 53) i) i = some (sm (φ 53) N) := by
    intro k
    induction k with
    | zero => intro i h1 h2; omega
    | succ k ih =>
      intro i hk hi
      rw [D_sum53_4.eq_2]
      simp only [bnd_e, tn]
      by_cases h : (i : Int) < (N : Int)
      · have h1 := sm_in (f := φ 53) i (fun j hj => hr j (by omega))
        have h2 := hr i (by omega)
        rw [if_pos h, if_pos (by omega), w32_id (by omega) (by omega), nc1]
        exact ih (i + 1) (by omega) (by omega)
      · rw [if_neg h, show i = N by omega]
  rw [D_sum53.eq_1]
  simp only [bnd_e]
  generalize hk : (5000 : Nat) = k
  have := key k 0 (by omega) (Nat.zero_le _)
  exact this
theorem D_s54 {φ : Lo} {N : Nat} (h5 : N ≤ 5) (hr : ∀ i, i < N → 0 ≤ φ 54 i ∧ φ 54 i ≤ 9) : D_sum54 φ N = some (sm (φ 54) N) := by
  have key : ∀ (k i : Nat), N < k + i → i ≤ N → D_sum54_4 N φ k (sm (φ 54) i) i = some (sm (φ 54) N) := by
    intro k
    induction k with
    | zero => intro i h1 h2; omega
    | succ k ih =>
      intro i hk hi
      rw [D_sum54_4.eq_2]
      simp only [bnd_e, tn]
      by_cases h : (i : Int) < (N : Int)
      · have h1 := sm_in (f := φ 54) i (fun j hj => hr j (by omega))
        have h2 := hr i (by omega)
        rw [if_pos h, if_pos (by omega), w32_id (by omega) (by omega), nc1]
        exact ih (i + 1) (by omega) (by omega)
      · rw [if_neg h, show i = N by omega]
  rw [D_sum54.eq_1]
  simp only [bnd_e]
  generalize hk : (5000 : Nat) = k
  have := key k 0 (by omega) (Nat.zero_le _)
  exact this
theorem D_alo {M : Lo} {N : Nat} {j : Nat} (h5 : N ≤ 5) (hN : M 17 3 = N) (hj : j < 4) (hr : ∀ i, i < N → 0 ≤ M 41 (4 * i + j) ∧ M 41 (4 * i + j) ≤ 9) : D_X7_allOf M j = some (sm (fun i => M 41 (4 * i + j)) N) := by
  have key : ∀ (k i : Nat), N < k + i → i ≤ N → D_X7_allOf_4 j M k (sm (fun i => M 41 (4 * i + j)) i) i = some (sm (fun i => M 41 (4 * i + j)) N) := by
    intro k
    induction k with
    | zero => intro i h1 h2; omega
    | succ k ih =>
      intro i hk hi
      rw [D_X7_allOf_4.eq_2]
      simp only [bnd_e, D_X7_of.eq_1]
      rw [hN, show (4 * (i : Int) + (j : Int)).toNat = 4 * i + j by omega]
      simp only [bd0_e]
      by_cases h : (i : Int) < (N : Int)
      · have h1 := sm_in (f := fun i => M 41 (4 * i + j)) i (fun t ht => hr t (by omega))
        have h2 := hr i (by omega)
        rw [if_pos h, w32_id (by omega) (by omega), nc1]
        exact ih (i + 1) (by omega) (by omega)
      · rw [if_neg h, show i = N by omega]
  rw [D_X7_allOf.eq_1]
  simp only [bnd_e]
  generalize hk : (5000 : Nat) = k
  have := key k 0 (by omega) (Nat.zero_le _)
  exact this
theorem FF_st {N : Nat} {φ M M' : Lo} (h : FF N φ (M 40)) (e : ∀ j, j < 59 → M' 41 j = M 40 j) : FF N φ (M' 41) := FF_cg h rfl rfl (fun _ _ => ⟨rfl, rfl, rfl, rfl, rfl⟩) (fun i hi => e i (by omega))
theorem cl_rule {N : Nat} {σ : Sg} (h : rlS N σ) (p : Int) : CM σ (D_X6_rule σ p) (D_X7_rule (σ 13) p) := by
  obtain ⟨n1, n2, n5⟩ := rlS_N h
  obtain ⟨k1, ⟨f1, f2, f3⟩, f4, f5, f6, f7⟩ := h.1.2.2
  obtain ⟨M', s1, s2, s3⟩ := D_st (σ 13)
  have hF := FF_st h.1.2.1 s3
  have s40 : M' 40 = σ 13 40 := s2 40 (by decide)
  have n3 : M' 17 3 = N := by rw [s2 17 (by decide)]; exact n2
  have go : ∀ r : Int, D_X6_rule σ p = some r → D_X7_rule (σ 13) p = some (r, M') → CM σ (D_X6_rule σ p) (D_X7_rule (σ 13) p) := fun r a b => CM_scr h r a b (sM_st s2)
  have em : ∀ x, D_X7_rule (σ 13) p = x ↔ (if p = 0 then some (M' 17 3, M') else if p = 1 then bd0 (D_X7_kinMany M') (fun r46 => some (r46, M')) else if p = 2 then some (M' 40 31, M') else if p = 3 then some (M' 40 30, M') else if p = 4 then bd0 (D_X7_round M') (fun r67 => some (r67, M')) else some (-1, M')) = x := fun x => by
    simp only [D_X7_rule.eq_1, s1, bd1_e, bnd_e, show (31 : Int).toNat = 31 from rfl, show (30 : Int).toNat = 30 from rfl]
  have ec : ∀ x, D_X6_rule σ p = x ↔ (if p = 0 then some (σ 1 11 8) else if p = 1 then bd0 (D_X0_allKin (σ 1)) (fun r51 => some r51) else if p = 2 then some (σ 1 10 6) else if p = 3 then some (σ 1 11 9) else if p = 4 then bd0 (D_X1_roundBits (σ 1)) (fun r81 => some r81) else some (-1)) = x := fun x => by
    simp only [D_X6_rule.eq_1, bnd_e]
  by_cases p0 : p = 0
  · refine go N ((ec _).mpr ?_) ((em _).mpr ?_)
    · rw [if_pos p0, n1]
    · rw [if_pos p0, n3]
  · by_cases p1 : p = 1
    · refine go (kcn (σ 1)) ((ec _).mpr ?_) ((em _).mpr ?_)
      · rw [if_neg p0, if_pos p1, D_ak (fun w hw => (k1 w hw).2)]; simp only [bd0_e]
      · rw [if_neg p0, if_pos p1, D_mk (φ := σ 1) (M := M') (by rw [s40]; exact k1)]; simp only [bd0_e]
    · by_cases p2 : p = 2
      · refine go (σ 1 10 6) ((ec _).mpr ?_) ((em _).mpr ?_)
        · rw [if_neg p0, if_neg p1, if_pos p2]
        · rw [if_neg p0, if_neg p1, if_pos p2, s40, f1]
      · by_cases p3 : p = 3
        · refine go (σ 1 11 9) ((ec _).mpr ?_) ((em _).mpr ?_)
          · rw [if_neg p0, if_neg p1, if_neg p2, if_pos p3]
          · rw [if_neg p0, if_neg p1, if_neg p2, if_pos p3, s40, h.1.2.1.2.2.1.1]
        · by_cases p4 : p = 4
          · refine go (rb (σ 1 27) N) ((ec _).mpr ?_) ((em _).mpr ?_)
            · rw [if_neg p0, if_neg p1, if_neg p2, if_neg p3, if_pos p4, D_rb n5 n1]; simp only [bd0_e]
            · rw [if_neg p0, if_neg p1, if_neg p2, if_neg p3, if_pos p4, D_mr n5 n3, rb_cg (Q := σ 1 27) N (fun i hi => (hF.2.1 i hi).2.2.2.2.symm)]; simp only [bd0_e]
          · refine go (-1) ((ec _).mpr ?_) ((em _).mpr ?_)
            · rw [if_neg p0, if_neg p1, if_neg p2, if_neg p3, if_neg p4]
            · rw [if_neg p0, if_neg p1, if_neg p2, if_neg p3, if_neg p4]
theorem cl_count {N : Nat} {σ : Sg} (h : rlS N σ) (p : Int) : CM σ (D_X6_count σ p) (D_X7_count (σ 13) p) := by
  obtain ⟨n1, n2, n5⟩ := rlS_N h
  obtain ⟨k1, f1, f4, ⟨f5, g5, g6⟩, f6, f7⟩ := h.1.2.2
  obtain ⟨⟨b1, b2⟩, ⟨b3, b4⟩, b5, b6⟩ := h.2.1
  obtain ⟨M', s1, s2, s3⟩ := D_st (σ 13)
  have hF := FF_st h.1.2.1 s3
  have hr := h.1.2.1.2.2.2.1
  have n3 : M' 17 3 = N := by rw [s2 17 (by decide)]; exact n2
  have go : ∀ r : Int, D_X6_count σ p = some r → D_X7_count (σ 13) p = some (r, M') → CM σ (D_X6_count σ p) (D_X7_count (σ 13) p) := fun r a b => CM_scr h r a b (sM_st s2)
  have em : ∀ x, D_X7_count (σ 13) p = x ↔ (if p = 0 then some (M' 40 40, M') else if p = 1 then bd0 (D_X7_flag (M' 42 0)) (fun r58 => bd0 (D_X7_flag (M' 42 1)) (fun r67 => some (r58 + r67, M'))) else if p = 2 then some (M' 17 10, M') else if p = 3 then (if M' 47 0 = -4 then some (-4, M') else some (M' 48 0, M')) else if p = 4 then bd0 (D_X7_allOf M' 2) (fun r => some (r, M')) else if p = 5 then bd0 (D_X7_allOf M' 3) (fun r => some (r, M')) else some (-1, M')) = x := fun x => by
    simp only [D_X7_count.eq_1, s1, bd1_e, bnd_e, show (40 : Int).toNat = 40 from rfl, show (0 : Int).toNat = 0 from rfl, show (1 : Int).toNat = 1 from rfl]
  have ec : ∀ x, D_X6_count σ p = x ↔ (if p = 0 then some (σ 1 10 7) else if p = 1 then (if σ 0 33 0 = 0 then D_X6_count_62 σ 0 else D_X6_count_62 σ 1) else if p = 2 then some (σ 2 14 2) else if p = 3 then (if σ 20 13 1 = -1 then some (-4) else some (σ 20 13 2)) else if p = 4 then bd0 (D_sum53 (σ 1) (σ 1 11 8)) (fun r => some r) else if p = 5 then bd0 (D_sum54 (σ 1) (σ 1 11 8)) (fun r => some r) else some (-1)) = x := fun x => by
    simp only [D_X6_count.eq_1, bnd_e, show (0 : Int).toNat = 0 from rfl, Nat.add_zero]
  by_cases p0 : p = 0
  · refine go (σ 1 10 7) ((ec _).mpr ?_) ((em _).mpr ?_)
    · rw [if_pos p0]
    · rw [if_pos p0, s2 40 (by decide), f5]
  · by_cases p1 : p = 1
    · refine go (σ 13 42 0 + σ 13 42 1) ((ec _).mpr ?_) ((em _).mpr ?_)
      · rw [if_neg p0, if_pos p1, b1]
        simp only [D_X6_count_62.eq_1, bnd_e, show (1 : Int).toNat = 1 from rfl]
        rw [b3]
        rcases b2 with q | q <;> rcases b4 with q2 | q2 <;> rw [q, q2]
        · rw [if_pos rfl, if_pos rfl]
        · rw [if_pos rfl, if_neg (by decide)]
        · rw [if_neg (by decide), if_pos rfl]
        · rw [if_neg (by decide), if_neg (by decide)]
      · rw [if_neg p0, if_pos p1, s2 42 (by decide)]
        have ef : ∀ v : Int, (v = 0 ∨ v = 1) → D_X7_flag v = some v := fun v hv => by
          rcases hv with rfl | rfl
          · exact D_flag0
          · exact D_flag1 (by decide)
        rw [ef _ b2, ef _ b4]
        simp only [bd0_e]
    · by_cases p2 : p = 2
      · refine go (σ 2 14 2) ((ec _).mpr ?_) ((em _).mpr ?_)
        · rw [if_neg p0, if_neg p1, if_pos p2]
        · rw [if_neg p0, if_neg p1, if_pos p2, s2 17 (by decide), h.2.2.1.1.1]
      · by_cases p3 : p = 3
        · obtain ⟨t1, ⟨t2, t3, t4⟩, t5⟩ := h.2.2.2.2 0 (by decide)
          have t1 : ((σ 20 13 1 = -1 ∧ σ 13 47 0 = -4) ∨ (σ 20 13 1 = σ 13 47 0 ∧ 0 ≤ σ 20 13 1 ∧ σ 20 13 1 ≤ 2)) := t1
          have t2 : σ 20 13 2 = σ 13 48 0 := t2
          rcases t1 with ⟨l1, l2⟩ | ⟨l1, l2, l3⟩
          · refine go (-4) ((ec _).mpr ?_) ((em _).mpr ?_)
            · rw [if_neg p0, if_neg p1, if_neg p2, if_pos p3, if_pos l1]
            · rw [if_neg p0, if_neg p1, if_neg p2, if_pos p3, s2 47 (by decide), if_pos l2]
          · refine go (σ 20 13 2) ((ec _).mpr ?_) ((em _).mpr ?_)
            · rw [if_neg p0, if_neg p1, if_neg p2, if_pos p3, if_neg (by omega)]
            · rw [if_neg p0, if_neg p1, if_neg p2, if_pos p3, s2 47 (by decide), if_neg (by omega), s2 48 (by decide), t2]
        · by_cases p4 : p = 4
          · have ee := D_alo (M := M') (j := 2) n5 n3 (by decide) (fun i hi => by rw [← (hF.2.1 i hi).2.2.1]; exact (hr i hi).2.2.1)
            refine go (sm (σ 1 53) N) ((ec _).mpr ?_) ((em _).mpr ?_)
            · rw [if_neg p0, if_neg p1, if_neg p2, if_neg p3, if_pos p4, n1, D_s53 n5 (fun i hi => (hr i hi).2.2.1)]; simp only [bd0_e]
            · rw [if_neg p0, if_neg p1, if_neg p2, if_neg p3, if_pos p4, show (2 : Int) = ((2 : Nat) : Int) from rfl, ee, sm_cg (g := σ 1 53) N (fun i hi => (hF.2.1 i hi).2.2.1.symm)]; simp only [bd0_e]
          · by_cases p5 : p = 5
            · have ee := D_alo (M := M') (j := 3) n5 n3 (by decide) (fun i hi => by rw [← (hF.2.1 i hi).2.2.2.1]; exact (hr i hi).2.2.2.1)
              refine go (sm (σ 1 54) N) ((ec _).mpr ?_) ((em _).mpr ?_)
              · rw [if_neg p0, if_neg p1, if_neg p2, if_neg p3, if_neg p4, if_pos p5, n1, D_s54 n5 (fun i hi => (hr i hi).2.2.2.1)]; simp only [bd0_e]
              · rw [if_neg p0, if_neg p1, if_neg p2, if_neg p3, if_neg p4, if_pos p5, show (3 : Int) = ((3 : Nat) : Int) from rfl, ee, sm_cg (g := σ 1 54) N (fun i hi => (hF.2.1 i hi).2.2.2.1.symm)]; simp only [bd0_e]
            · refine go (-1) ((ec _).mpr ?_) ((em _).mpr ?_)
              · rw [if_neg p0, if_neg p1, if_neg p2, if_neg p3, if_neg p4, if_neg p5]
              · rw [if_neg p0, if_neg p1, if_neg p2, if_neg p3, if_neg p4, if_neg p5]
/-! the WOMAN who is with a MAN -/
theorem D_pw {N : Nat} {φ M : Lo} (hF : FF N φ (M 41)) (hM : M 17 3 = N) (m : Int) : ∃ r, D_X1_womanWith φ m = some r ∧ D_X7_partnerOf M m = some r := by
  obtain ⟨⟨n1, n5⟩, hq, -, -, -⟩ := id hF
  rcases Classical.em (∃ j : Nat, j < N ∧ φ 27 j = m) with ⟨j, hj, ej⟩ | hno
  · refine ⟨j, ?_, ?_⟩
    · have key : ∀ (k w : Nat), N < k + w → w ≤ j → D_X1_womanWith_2 m φ k w = some (j : Int) := by
        intro k
        induction k with
        | zero => intro w h1 h2; omega
        | succ k ih =>
          intro w hk hw
          rw [D_X1_womanWith_2.eq_2]
          simp only [bnd_e, tn]
          rw [n1, if_pos (by omega)]
          by_cases q : φ 27 w = m
          · have : w = j := by
              by_cases c : w = j
              · exact c
              · exact absurd (q.trans ej.symm) (FF_inj hF (by omega) hj c)
            rw [if_pos q, this]
          · have : w ≠ j := fun c => q (by rw [c]; exact ej)
            rw [if_neg q, nc1]
            exact ih (w + 1) (by omega) (by omega)
      rw [D_X1_womanWith.eq_1]
      simp only [bnd_e]
      generalize hk : (5000 : Nat) = k
      exact key k 0 (by omega) (Nat.zero_le _)
    · have key : ∀ (k w : Nat) (f : Int), N < k + w → w ≤ N → (w ≤ j ∨ f = j) → D_X7_partnerOf_5 m M k f w = some (j : Int) := by
        intro k
        induction k with
        | zero => intro w f h1 h2; omega
        | succ k ih =>
          intro w f hk hw hf
          rw [D_X7_partnerOf_5.eq_2]
          simp only [bnd_e, D_X7_partnerOf_31.eq_1]
          rw [hM, show (20 + (w : Int)).toNat = 20 + w by omega, nc1]
          by_cases h : (w : Int) < (N : Int)
          · have e27 := (hq w (by omega)).2.2.2.2
            rw [if_pos h, ← e27]
            by_cases q : φ 27 w = m
            · have : w = j := by
                by_cases c : w = j
                · exact c
                · exact absurd (q.trans ej.symm) (FF_inj hF (by omega) hj c)
              rw [if_pos q]
              exact ih (w + 1) _ (by omega) (by omega) (Or.inr (by omega))
            · have : w ≠ j := fun c => q (by rw [c]; exact ej)
              rw [if_neg q]
              exact ih (w + 1) _ (by omega) (by omega) (by rcases hf with c | c; exact Or.inl (by omega); exact Or.inr c)
          · rw [if_neg h]
            rcases hf with c | c
            · omega
            · rw [c]
      rw [D_X7_partnerOf.eq_1]
      simp only [bnd_e]
      generalize hk : (5000 : Nat) = k
      exact key k 0 (-4) (by omega) (Nat.zero_le _) (Or.inl (Nat.zero_le _))
  · have hno : ∀ j, j < N → φ 27 j ≠ m := fun j a b => hno ⟨j, a, b⟩
    refine ⟨-4, ?_, ?_⟩
    · have key : ∀ (k w : Nat), N < k + w → w ≤ N → D_X1_womanWith_2 m φ k w = some (-4) := by
        intro k
        induction k with
        | zero => intro w h1 h2; omega
        | succ k ih =>
          intro w hk hw
          rw [D_X1_womanWith_2.eq_2]
          simp only [bnd_e, tn]
          rw [n1]
          by_cases h : (w : Int) < (N : Int)
          · rw [if_pos h, if_neg (hno w (by omega)), nc1]
            exact ih (w + 1) (by omega) (by omega)
          · rw [if_neg h]
      rw [D_X1_womanWith.eq_1]
      simp only [bnd_e]
      generalize hk : (5000 : Nat) = k
      exact key k 0 (by omega) (Nat.zero_le _)
    · have key : ∀ (k w : Nat), N < k + w → w ≤ N → D_X7_partnerOf_5 m M k (-4) w = some (-4) := by
        intro k
        induction k with
        | zero => intro w h1 h2; omega
        | succ k ih =>
          intro w hk hw
          rw [D_X7_partnerOf_5.eq_2]
          simp only [bnd_e, D_X7_partnerOf_31.eq_1]
          rw [hM, show (20 + (w : Int)).toNat = 20 + w by omega, nc1]
          by_cases h : (w : Int) < (N : Int)
          · rw [if_pos h, ← (hq w (by omega)).2.2.2.2, if_neg (hno w (by omega))]
            exact ih (w + 1) (by omega) (by omega)
          · rw [if_neg h]
      rw [D_X7_partnerOf.eq_1]
      simp only [bnd_e]
      generalize hk : (5000 : Nat) = k
      exact key k 0 (by omega) (Nat.zero_le _)
theorem lineUp_FF {N : Nat} {φ : Lo} {μ : Nat → Int} (hF : FF N φ μ) : ∃ φ' : Lo, D_X1_lineUp φ = some φ' ∧ ofr φ φ' ∧ ∀ j, j < N → φ' 28 (rk (mS μ) (mT μ) j N) = j ∧ φ' 29 j = (rk (mS μ) (mT μ) j N : Int) :=
  D_lineUp hF.1.2 hF.1.1 (S := mS μ) (T := mT μ) (fun j hj => by
    obtain ⟨q1, q2, q3, q4, q5⟩ := hF.2.1 j hj
    unfold mS; rw [q1, q2, q3]) (fun j hj => (hF.2.1 j hj).2.2.2.1)
theorem cl_atr {N : Nat} {σ : Sg} (h : rlS N σ) (p : Int) : CS σ (D_X6_at σ p) (D_X7_at (σ 13) p) := by
  obtain ⟨n1, n2, n5⟩ := rlS_N h
  by_cases hp : 0 ≤ p ∧ p < N
  · obtain ⟨w, hw, rfl⟩ := nat_of hp.1 hp.2
    obtain ⟨M1, s1, s2, s3⟩ := D_st (σ 13)
    have hF := FF_st h.1.2.1 s3
    obtain ⟨φ', a1, a2, a3⟩ := lineUp_FF hF
    obtain ⟨M2, b1, b2, b3⟩ := D_find (φ := M1) n5 (by rw [s2 17 (by decide)]; exact n2)
    obtain ⟨j, j1, j2⟩ := rk_onto (S := mS (M1 41)) (T := mT (M1 41)) (M := N) (i := w) hw
    refine CS_scr h (j : Int) ?_ ?_ (sC_1 a2) (M' := M2) (sM_tr (M' := M1) ⟨fun r _ _ _ d _ _ => b2 r d, by rw [b2 17 (by decide)], by rw [b2 17 (by decide)], by rw [b2 17 (by decide)], by rw [b2 17 (by decide)]⟩ (sM_st s2))
    · simp only [D_X6_at.eq_1, D_nob0 n1 hp, bd0_e, if_true, a1, bd1_e, bns_e, bnd_e, gset_at, tn]
      rw [← j2, (a3 j j1).1]
    · simp only [D_X7_at.eq_1, D_one1 n2 hp, bd0_e, i10, s1, bd1_e, b1, bnd_e, tn]
      rw [← j2, b3 j j1]
  · refine CS_same h (-1) ?_ ?_
    · simp only [D_X6_at.eq_1, D_nob1 n1 hp, bd0_e, i10, bnd_e]
    · simp only [D_X7_at.eq_1, D_one0 n2 hp, bd0_e, if_true, bnd_e]
