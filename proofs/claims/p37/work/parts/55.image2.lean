theorem rl_mk {N : Nat} {σ σ' : Sg} (h : rlS N σ) (e2 : σ' 2 = σ 2) (es : ∀ k, k < 4 → σ' (20 + k) = σ (20 + k)) (e16 : σ' 0 16 = σ 0 16) (m17 : ∀ i, i ≠ 3 → σ' 13 17 i = σ 13 17 i) (m44 : σ' 13 44 = σ 13 44) (m47 : σ' 13 47 = σ 13 47) (m48 : σ' 13 48 = σ 13 48) (m49 : σ' 13 49 = σ 13 49) {N' : Nat} (hF : RFl N' (σ' 1) (σ' 13)) (hI : RIm N' (σ' 0) (σ' 3) (σ' 4) (σ' 13)) : rlS N' σ' := by
  obtain ⟨-, -, c, d, e⟩ := h
  refine ⟨hF, hI, ?_, ?_, fun k hk => ?_⟩
  · rw [e2]; exact RTp_m c (m17 10 (by decide)) m44
  · unfold RFt at d ⊢; rw [e16, m17 15 (by decide), m17 24 (by decide)]; exact d
  · rw [es k hk]; exact RSh_m (e k hk) m47 m48 m49
theorem RFl_c {N : Nat} {φ M M' : Lo} (h : RFl N φ M) (e17 : M' 17 3 = M 17 3) (e40 : ∀ i, i < 59 → M' 40 i = M 40 i) : RFl N φ M' :=
  ⟨by rw [e17]; exact h.1, FF_cg h.2.1 rfl rfl (fun _ _ => ⟨rfl, rfl, rfl, rfl, rfl⟩) (fun i hi => e40 i (by omega)), EE_cg h.2.2 (fun _ _ => rfl) rfl (fun _ _ => rfl) rfl (fun _ _ => ⟨rfl, rfl, rfl⟩) (fun i _ hi _ => e40 i hi)⟩
theorem RI1_c {N : Nat} {kp kp' : Int} {φ : Lo} {μ μ' : Nat → Int} (h : RI1 N kp φ μ) (ek : kp' = kp) (e : ∀ i, i < 59 → μ' i = μ i) : RI1 N kp' φ μ' := fun q => by
  obtain ⟨a, b⟩ := h (by rw [← ek]; exact q)
  exact ⟨FF_cg a rfl rfl (fun _ _ => ⟨rfl, rfl, rfl, rfl, rfl⟩) (fun i hi => e i (by omega)), EE_cg b (fun _ _ => rfl) rfl (fun _ _ => rfl) rfl (fun _ _ => ⟨rfl, rfl, rfl⟩) (fun i _ hi _ => e i hi)⟩
theorem cl_keep {N : Nat} {σ : Sg} (h : rlS N σ) (hg : GD (σ 13)) (p : Int) : CS σ (D_X6_keep σ p) (D_X7_keep (σ 13) p) := by
  obtain ⟨n1, n2, n5⟩ := rlS_N h
  obtain ⟨⟨b1, b2⟩, ⟨b3, b4⟩, b5, b6⟩ := h.2.1
  by_cases hp : 0 ≤ p ∧ p ≤ 1
  · obtain ⟨k, hk, rfl⟩ := nat_of (b := 2) hp.1 (by omega)
    have hkk : σ 0 33 k = σ 13 42 k ∧ (σ 13 42 k = 0 ∨ σ 13 42 k = 1) := by
      rcases (show k = 0 ∨ k = 1 by omega) with rfl | rfl
      · exact ⟨b1, b2⟩
      · exact ⟨b3, b4⟩
    obtain ⟨φ', c1, c2⟩ := D_ce (σ := σ) (o := 3 + k) (a := 1) (N := N) (by omega) n5 n1
    obtain ⟨M', d1, d2, d3, d4⟩ := D_cpy (M := wrl (σ 13) 42 k 1) (t := 59 * (k + 1)) (s := 0) (by omega) (fun i hi => by
      rw [wrl_nr _ _ (by decide)]
      exact gd_seg (by omega) hi (gd_of hg (Or.inl rfl) hi))
    have ed : D_X7_copies (wrl (σ 13) 42 k 1) (59 * ((k : Int) + 1)) 0 = some M' := by
      rw [show 59 * ((k : Int) + 1) = ((59 * (k + 1) : Nat) : Int) by omega]; exact d1
    have e1 : D_X6_keep σ k = some (σ 13 42 k, gset (gset σ (3 + k) φ') 0 (wrl (σ 0) 33 k 1)) := by
      simp only [D_X6_keep.eq_1, D_X6_keep_25.eq_1, bnd_e, bns_e, tn, c1, bd1_e]
      rw [if_neg (by omega), if_pos (by omega), wr_0, gset_ne _ _ (by omega), hkk.1]
      rcases hkk.2 with q | q
      · rw [q, if_pos rfl]
      · rw [q, if_neg (by decide)]
    have e2 : D_X7_keep (σ 13) k = some (σ 13 42 k, M') := by
      simp only [D_X7_keep.eq_1, bnd_e, bns_e, tn, D_in1 hp.1 hp.2, bd0_e, i10]
      have ef : D_X7_flag (σ 13 42 k) = some (σ 13 42 k) := by
        rcases hkk.2 with q | q
        · rw [q]; exact D_flag0
        · rw [q]; exact D_flag1 (by decide)
      rw [ef]
      simp only [bd0_e]
      rw [ed]
      simp only [bd1_e]
    have m40 : ∀ i, i < 59 → M' 40 i = σ 13 40 i := fun i hi => by rw [d4 i (by omega), wrl_nr _ _ (by decide)]
    refine ⟨_, _, _, N, e1, by rw [gset_ne _ _ (by decide), gset_ne _ _ (by omega)], e2, ?_⟩
    have g : ∀ o, o ≠ 13 → o ≠ 0 → o ≠ 3 + k → gset (gset (gset σ (3 + k) φ') 0 (wrl (σ 0) 33 k 1)) 13 M' o = σ o := fun o a b c => by rw [gset_ne _ _ a, gset_ne _ _ b, gset_ne _ _ c]
    have gk : gset (gset (gset σ (3 + k) φ') 0 (wrl (σ 0) 33 k 1)) 13 M' (3 + k) = φ' := by rw [gset_ne _ _ (by omega), gset_ne _ _ (by omega), gset_at]
    have g0 : gset (gset (gset σ (3 + k) φ') 0 (wrl (σ 0) 33 k 1)) 13 M' 0 = wrl (σ 0) 33 k 1 := by rw [gset_ne _ _ (by decide), gset_at]
    have mr : ∀ r, r ≠ 40 → r ≠ 42 → M' r = σ 13 r := fun r a b => by rw [d2 r a, wrl_nr _ _ b]
    have m42 : M' 42 = up1 (σ 13 42) k 1 := by rw [d2 42 (by decide), wrl_r]
    refine rl_mk h (g 2 (by decide) (by decide) (by omega)) (fun j hj => g (20 + j) (by omega) (by omega) (by omega)) (by rw [g0, wrl_nr _ _ (by decide)]) ?_ ?_ ?_ ?_ ?_ ?_ ?_
    · intro i _; rw [gset_at, mr 17 (by decide) (by decide)]
    · rw [gset_at, mr 44 (by decide) (by decide)]
    · rw [gset_at, mr 47 (by decide) (by decide)]
    · rw [gset_at, mr 48 (by decide) (by decide)]
    · rw [gset_at, mr 49 (by decide) (by decide)]
    · rw [g 1 (by decide) (by decide) (by omega), gset_at]
      exact RFl_c h.1 (by rw [mr 17 (by decide) (by decide)]) m40
    · rw [g0, gset_at]
      have hFE := cpe_FE h.1.2.1 h.1.2.2 c2
      have hnew : FF N φ' (fun i => M' 40 (59 * (k + 1) + i)) ∧ EE N φ' (fun i => M' 40 (59 * (k + 1) + i)) := by
        have e40 : ∀ i, i < 59 → M' 40 (59 * (k + 1) + i) = σ 13 40 i := fun i hi => by rw [d3 i hi, wrl_nr _ _ (by decide), Nat.zero_add]
        exact ⟨FF_cg hFE.1 rfl rfl (fun _ _ => ⟨rfl, rfl, rfl, rfl, rfl⟩) (fun i hi => e40 i (by omega)), EE_cg hFE.2 (fun _ _ => rfl) rfl (fun _ _ => rfl) rfl (fun _ _ => ⟨rfl, rfl, rfl⟩) (fun i _ hi _ => e40 i hi)⟩
      unfold RIm
      rw [m42, wrl_r]
      rcases (show k = 0 ∨ k = 1 by omega) with rfl | rfl
      · rw [gk, g 4 (by decide) (by decide) (by decide), up1_at, up1_at, up1_ne _ _ (by decide), up1_ne _ _ (by decide)]
        exact ⟨⟨rfl, Or.inr rfl⟩, ⟨b3, b4⟩, fun _ => hnew, RI1_c b6 rfl (fun i hi => by rw [d4 _ (by omega), wrl_nr _ _ (by decide)])⟩
      · rw [gk, g 3 (by decide) (by decide) (by decide), up1_at, up1_at, up1_ne _ _ (by decide), up1_ne _ _ (by decide)]
        exact ⟨⟨b1, b2⟩, ⟨rfl, Or.inr rfl⟩, RI1_c b5 rfl (fun i hi => by rw [d4 _ (by omega), wrl_nr _ _ (by decide)]), fun _ => hnew⟩
  · refine CS_same h (-1) ?_ ?_
    · simp only [D_X6_keep.eq_1, bnd_e]
      by_cases c : p < 0
      · rw [if_pos c]
      · rw [if_neg c, if_neg (by omega)]
    · simp only [D_X7_keep.eq_1, bnd_e]
      rw [D_in0 (by omega)]
      simp only [bd0_e, if_true]
theorem cl_back {N : Nat} {σ : Sg} (h : rlS N σ) (hg : GD (σ 13)) (p : Int) : CS σ (D_X6_back σ p) (D_X7_back (σ 13) p) := by
  obtain ⟨n1, n2, n5⟩ := rlS_N h
  obtain ⟨⟨b1, b2⟩, ⟨b3, b4⟩, b5, b6⟩ := h.2.1
  by_cases hp : 0 ≤ p ∧ p ≤ 1
  · obtain ⟨k, hk, rfl⟩ := nat_of (b := 2) hp.1 (by omega)
    have hkk : σ 0 33 k = σ 13 42 k ∧ (σ 13 42 k = 0 ∨ σ 13 42 k = 1) ∧ RI1 N (σ 13 42 k) (σ (3 + k)) (fun i => σ 13 40 (59 * (k + 1) + i)) := by
      rcases (show k = 0 ∨ k = 1 by omega) with rfl | rfl
      · exact ⟨b1, b2, b5⟩
      · exact ⟨b3, b4, b6⟩
    obtain ⟨hk1, hk2, hk3⟩ := hkk
    rcases hk2 with q | q
    · refine CS_same h (-2) ?_ ?_
      · simp only [D_X6_back.eq_1, bnd_e, tn]
        rw [if_neg (by omega), if_pos (by omega), hk1, q, if_pos rfl]
      · simp only [D_X7_back.eq_1, bnd_e, tn, D_in1 hp.1 hp.2, bd0_e, i10]
        rw [q, if_pos rfl]
    · obtain ⟨hF, hE⟩ := hk3 q
      obtain ⟨φ', c1, c2⟩ := D_ce (σ := σ) (o := 1) (a := 3 + k) (N := N) (by omega) n5 hF.1.1
      obtain ⟨M', d1, d2, d3, d4⟩ := D_cpy (M := σ 13) (t := 0) (s := 59 * (k + 1)) (by omega) (fun i hi => gd_seg (Or.inl rfl) hi (gd_of hg (by omega) hi))
      have ed : D_X7_copies (σ 13) 0 (59 * ((k : Int) + 1)) = some M' := by
        rw [show 59 * ((k : Int) + 1) = ((59 * (k + 1) : Nat) : Int) by omega]; exact d1
      have hFE := cpe_FE hF hE c2
      have e40 : ∀ i, i < 59 → M' 40 i = σ 13 40 (59 * (k + 1) + i) := fun i hi => by rw [← d3 i hi, Nat.zero_add]
      have hF' : FF N φ' (M' 40) := FF_cg hFE.1 rfl rfl (fun _ _ => ⟨rfl, rfl, rfl, rfl, rfl⟩) (fun i hi => e40 i (by omega))
      have hE' : EE N φ' (M' 40) := EE_cg hFE.2 (fun _ _ => rfl) rfl (fun _ _ => rfl) rfl (fun _ _ => ⟨rfl, rfl, rfl⟩) (fun i _ hi _ => e40 i hi)
      refine ⟨φ' 11 9, gset σ 1 φ', M', N, ?_, gset_ne _ _ (by decide), ?_, rlS_w h ⟨d2, fun i hi => d4 i (by omega)⟩ hF' hE'⟩
      · simp only [D_X6_back.eq_1, bnd_e, tn, c1, bd1_e, gset_at]
        rw [if_neg (by omega), if_pos (by omega), hk1, q, if_neg (by decide)]
      · simp only [D_X7_back.eq_1, bnd_e, tn, D_in1 hp.1 hp.2, bd0_e, i10]
        rw [q, if_neg (by decide), ed]
        simp only [bd1_e]
        rw [show (30 : Int).toNat = 30 from rfl, hF'.2.2.1.1]
  · refine CS_same h (-1) ?_ ?_
    · simp only [D_X6_back.eq_1, bnd_e]
      by_cases c : p < 0
      · rw [if_pos c]
      · rw [if_neg c, if_neg (by omega)]
    · simp only [D_X7_back.eq_1, bnd_e]
      rw [D_in0 (by omega)]
      simp only [bd0_e, if_true]
/-! SHEETS -/
theorem D_f23l {φ0 : Lo} {v : Int} : ∀ (k i : Nat) (φ : Lo), 40 < k + i → i ≤ 40 → (∀ r, r ≠ 23 → φ r = φ0 r) → (∀ j, j < i → φ 23 j = v) → ∃ φ' : Lo, D_fill23_5 v 40 k φ i = some φ' ∧ (∀ r, r ≠ 23 → φ' r = φ0 r) ∧ (∀ j, j < 40 → φ' 23 j = v) := by
  intro k
  induction k with
  | zero => intro i φ h1 h2; omega
  | succ k ih =>
    intro i φ hk hi hr h1
    rw [D_fill23_5.eq_2]
    simp only [bnd_e, bns_e, tn]
    by_cases h : (i : Int) < 40
    · rw [if_pos h, nc1]
      refine ih (i + 1) _ (by omega) (by omega) (fun r h => by rw [wrl_nr _ _ h]; exact hr r h) (fun j hj => ?_)
      rw [wrl_r]
      by_cases q : j = i
      · rw [q, up1_at]
      · rw [up1_ne _ _ q]; exact h1 j (by omega)
    · rw [if_neg h]
      have e : i = 40 := by omega
      subst e
      exact ⟨φ, rfl, hr, h1⟩
theorem D_renew (φ : Lo) {lane n : Int} (hn : 0 ≤ n ∧ n ≤ 40) : ∃ φ' : Lo, D_X3_renew φ lane n = some φ' ∧ φ' 13 1 = lane ∧ φ' 13 2 = n ∧ (∀ i, i < 40 → φ' 23 i = 0) := by
  obtain ⟨φ', h1, h2, h3⟩ : ∃ φ' : Lo, D_fill23 (wrl (wrl φ 13 1 lane) 13 2 n) 0 = some φ' ∧ (∀ r, r ≠ 23 → φ' r = wrl (wrl φ 13 1 lane) 13 2 n r) ∧ (∀ j, j < 40 → φ' 23 j = 0) := by
    rw [D_fill23.eq_1]
    simp only [bnd_e]
    generalize hk : (5000 : Nat) = k
    exact D_f23l k 0 _ (by omega) (by omega) (fun _ _ => rfl) (fun j h => absurd h (Nat.not_lt_zero _))
  refine ⟨φ', ?_, ?_, ?_, h3⟩
  · rw [D_X3_renew.eq_1]
    simp only [bnd_e, bns_e]
    rw [show max 0 (min n 40) = n by omega, h1]
    simp only [bd1_e]
  · rw [h2 13 (by decide), wrl_ni _ _ (by decide), wrl_at]
  · rw [h2 13 (by decide), wrl_at]
theorem D_mshl {M0 : Lo} {k0 : Nat} : ∀ (k i : Nat) (M : Lo), 40 < k + i → i ≤ 40 → (∀ r, r ≠ 49 → M r = M0 r) → (∀ j, (j < 40 * k0 ∨ 40 * k0 + i ≤ j) → M 49 j = M0 49 j) → (∀ j, j < i → M 49 (40 * k0 + j) = 0) → ∃ M' : Lo, D_X7_sheet_40 k0 k M i = some (1, M') ∧ (∀ r, r ≠ 49 → M' r = M0 r) ∧ (∀ j, (j < 40 * k0 ∨ 40 * k0 + 40 ≤ j) → M' 49 j = M0 49 j) ∧ (∀ j, j < 40 → M' 49 (40 * k0 + j) = 0) := by
  intro k
  induction k with
  | zero => intro i M h1 h2; omega
  | succ k ih =>
    intro i M hk hi hr h1 h2
    rw [D_X7_sheet_40.eq_2]
    simp only [bnd_e, bns_e]
    by_cases h : (i : Int) < 40
    · rw [if_pos h, nc1, show (40 * (k0 : Int) + (i : Int)).toNat = 40 * k0 + i by omega]
      refine ih (i + 1) _ (by omega) (by omega) (fun r h => by rw [wrl_nr _ _ h]; exact hr r h) (fun j hj => ?_) (fun j hj => ?_)
      · rw [wrl_ni _ _ (by omega)]; exact h1 j (by omega)
      · rw [wrl_r]
        by_cases q : j = i
        · rw [q, up1_at]
        · rw [up1_ne _ _ (by omega)]; exact h2 j (by omega)
    · rw [if_neg h]
      have e : i = 40 := by omega
      subst e
      exact ⟨M, rfl, hr, h1, h2⟩
theorem nosh0 {p : Int} (h : 0 ≤ p ∧ p ≤ 3) : D_X6_isNoSheet p = some 0 := by
  simp only [D_X6_isNoSheet.eq_1, bnd_e]; rw [if_neg (by omega), if_pos (by omega)]
theorem nosh1 {p : Int} (h : ¬ (0 ≤ p ∧ p ≤ 3)) : D_X6_isNoSheet p = some 1 := by
  simp only [D_X6_isNoSheet.eq_1, bnd_e]
  by_cases c : p < 0
  · rw [if_pos c]
  · rw [if_neg c, if_neg (by omega)]
theorem noln0 {p : Int} (h : 0 ≤ p ∧ p ≤ 2) : D_X6_isNoLane p = some 0 := by
  simp only [D_X6_isNoLane.eq_1, bnd_e]; rw [if_neg (by omega), if_pos (by omega)]
theorem noln1 {p : Int} (h : ¬ (0 ≤ p ∧ p ≤ 2)) : D_X6_isNoLane p = some 1 := by
  simp only [D_X6_isNoLane.eq_1, bnd_e]
  by_cases c : p < 0
  · rw [if_pos c]
  · rw [if_neg c, if_neg (by omega)]
theorem issh1 {p q : Int} (h : 0 ≤ p ∧ p ≤ 3) (h2 : 0 ≤ q ∧ q ≤ 2) : D_X7_isSheet p q = some 1 := by
  simp only [D_X7_isSheet.eq_1, bnd_e, D_in1 h.1 h.2, D_in1 h2.1 h2.2, bd0_e, i10]
theorem issh0 {p q : Int} (h : ¬ (0 ≤ p ∧ p ≤ 3) ∨ ¬ (0 ≤ q ∧ q ≤ 2)) : D_X7_isSheet p q = some 0 := by
  by_cases c : 0 ≤ p ∧ p ≤ 3
  · simp only [D_X7_isSheet.eq_1, bnd_e, D_in1 c.1 c.2, bd0_e, i10]
    rw [D_in0 (by omega)]
    simp only [bd0_e, if_true]
  · simp only [D_X7_isSheet.eq_1, bnd_e]
    rw [D_in0 (by omega)]
    simp only [bd0_e, if_true]
theorem rl_sheet {N : Nat} {σ : Sg} {k : Nat} {φ' M' : Lo} (h : rlS N σ) (hk : k < 4) (hM : ∀ r, r ≠ 47 → r ≠ 48 → r ≠ 49 → M' r = σ 13 r) (h4 : ∀ j, j ≠ k → M' 47 j = σ 13 47 j ∧ M' 48 j = σ 13 48 j) (h9 : ∀ j, (j < 40 * k ∨ 40 * k + 40 ≤ j) → M' 49 j = σ 13 49 j) (hs : RSh k φ' M') : rlS N (gset (gset σ (20 + k) φ') 13 M') := by
  obtain ⟨a, b, c, d, e⟩ := h
  unfold rlS
  rw [gset_at, g2 1 (by decide) (by omega), g2 0 (by decide) (by omega), g2 2 (by decide) (by omega), g2 3 (by decide) (by omega), g2 4 (by decide) (by omega)]
  have m17 := hM 17 (by decide) (by decide) (by decide)
  have m40 := hM 40 (by decide) (by decide) (by decide)
  refine ⟨RFl_m a (by rw [m17]) m40, RIm_m b (hM 42 (by decide) (by decide) (by decide)) m40, RTp_m c (by rw [m17]) (hM 44 (by decide) (by decide) (by decide)), RFt_m d (by rw [m17]) (by rw [m17]), fun j hj => ?_⟩
  by_cases q : j = k
  · subst q
    rw [g2a (by omega)]
    exact hs
  · rw [g2 (20 + j) (by omega) (by omega)]
    have hj2 := e j hj
    unfold RSh at hj2 ⊢
    rw [(h4 j q).1, (h4 j q).2]
    refine ⟨hj2.1, hj2.2.1, fun i hi => ?_⟩
    rw [h9 _ (by omega)]
    exact hj2.2.2 i hi
theorem cl_sheet {N : Nat} {σ : Sg} (h : rlS N σ) (p1 p2 p3 : Int) : CS σ (D_X6_sheet σ p1 p2 p3) (D_X7_sheet (σ 13) p1 p2 p3) := by
  by_cases h1 : 0 ≤ p1 ∧ p1 ≤ 3
  · by_cases h2 : 0 ≤ p2 ∧ p2 ≤ 2
    · by_cases h3 : 40 < p3
      · refine CS_same h (-1) ?_ ?_
        · simp only [D_X6_sheet.eq_1, bnd_e, bd0_e, nosh0 h1, noln0 h2, if_true]
          rw [if_pos h3]
        · simp only [D_X7_sheet.eq_1, bnd_e, bd0_e, issh1 h1 h2, i10]
          rw [if_pos h3]
      · by_cases h4 : p3 < 0
        · refine CS_same h (-14) ?_ ?_
          · simp only [D_X6_sheet.eq_1, bnd_e, bd0_e, nosh0 h1, noln0 h2, if_true]
            rw [if_neg h3, if_pos h4]
          · simp only [D_X7_sheet.eq_1, bnd_e, bd0_e, issh1 h1 h2, i10]
            rw [if_neg h3, if_pos h4]
        · obtain ⟨k, hk, rfl⟩ := nat_of (b := 4) h1.1 (by omega)
          obtain ⟨φ', c1, c2, c3, c4⟩ := D_renew (σ (20 + k)) (lane := p2) (n := p3) ⟨by omega, by omega⟩
          obtain ⟨M', d1, d2, d3, d4⟩ : ∃ M' : Lo, D_X7_sheet_40 k 5000 (wrl (wrl (σ 13) 47 k p2) 48 k p3) 0 = some (1, M') ∧ (∀ r, r ≠ 49 → M' r = wrl (wrl (σ 13) 47 k p2) 48 k p3 r) ∧ (∀ j, (j < 40 * k ∨ 40 * k + 40 ≤ j) → M' 49 j = σ 13 49 j) ∧ (∀ j, j < 40 → M' 49 (40 * k + j) = 0) := by
            generalize hk : (5000 : Nat) = kk
            exact D_mshl kk 0 _ (by omega) (by omega) (fun _ _ => rfl) (fun j _ => by rw [wrl_nr _ _ (by decide), wrl_nr _ _ (by decide)]) (fun j h => absurd h (Nat.not_lt_zero _))
          refine ⟨1, _, _, N, ?_, gset_ne _ _ (show 13 ≠ 20 + k by omega), ?_, rl_sheet h hk (φ' := φ') (M' := M') (fun r a b c => by rw [d2 r c, wrl_nr _ _ b, wrl_nr _ _ a]) (fun j hj => ⟨?_, ?_⟩) d3 ?_⟩
          · simp only [D_X6_sheet.eq_1, bnd_e, bns_e, bd0_e, nosh0 h1, noln0 h2, if_true, tn, c1, bd1_e]
            rw [if_neg h3, if_neg h4]
          · simp only [D_X7_sheet.eq_1, bnd_e, bns_e, bd0_e, issh1 h1 h2, i10, tn]
            rw [if_neg h3, if_neg h4]
            exact d1
          · rw [d2 47 (by decide), wrl_nr _ _ (by decide), wrl_ni _ _ hj]
          · rw [d2 48 (by decide), wrl_ni _ _ hj, wrl_nr _ _ (by decide)]
          · unfold RSh
            rw [c2, c3, d2 47 (by decide), d2 48 (by decide), wrl_nr (r := 48) (r' := 47) _ _ (by decide), wrl_at, wrl_at]
            exact ⟨Or.inr ⟨rfl, h2⟩, ⟨rfl, by omega, by omega⟩, fun i hi => by rw [c4 i hi, d4 i hi]⟩
    · refine CS_same h (-1) ?_ ?_
      · simp only [D_X6_sheet.eq_1, bnd_e, bd0_e, nosh0 h1, noln1 h2, if_true, i10]
      · simp only [D_X7_sheet.eq_1, bnd_e, bd0_e, issh0 (Or.inr h2), if_true]
  · refine CS_same h (-1) ?_ ?_
    · simp only [D_X6_sheet.eq_1, bnd_e, bd0_e, nosh1 h1, i10]
    · simp only [D_X7_sheet.eq_1, bnd_e, bd0_e, issh0 (Or.inl h1), if_true]
/-- what the machine would find: NULL, INDEX, CAST, or nothing -/
theorem D_flt {φ : Lo} {t i : Int} : D_X3_faultAt φ t i = some (if φ 13 1 = -1 then 1 else if φ 13 1 = t then (if 0 ≤ i ∧ i < φ 13 2 then 0 else 2) else 3) := by
  simp only [D_X3_faultAt.eq_1, D_X3_faultAt_36.eq_1, bnd_e]
  by_cases h1 : φ 13 1 = -1
  · rw [if_pos h1, if_pos h1]
  · rw [if_neg h1, if_neg h1]
    by_cases h2 : φ 13 1 = t
    · rw [if_pos h2, if_pos h2]
      by_cases h3 : i < 0
      · rw [if_pos (lcm_lt h3), if_neg (by omega)]
      · rw [if_neg (lcm_ge (by omega))]
        by_cases h4 : i < φ 13 2
        · rw [if_pos (lcm_lt h4), if_pos ⟨by omega, h4⟩]
        · rw [if_neg (lcm_ge (by omega)), if_neg (by omega)]
    · rw [if_neg h2, if_neg h2]
theorem cl_lay {N : Nat} {σ : Sg} (h : rlS N σ) (p1 p2 p3 : Int) : CS σ (D_X6_lay σ p1 p2 p3) (D_X7_lay (σ 13) p1 p2 p3) := by
  by_cases h1 : 0 ≤ p1 ∧ p1 ≤ 3
  · obtain ⟨k, hk, rfl⟩ := nat_of (b := 4) h1.1 (by omega)
    obtain ⟨s1, ⟨s2, s3, s4⟩, s5⟩ := h.2.2.2.2 k hk
    rcases s1 with ⟨l1, l2⟩ | ⟨l1, l2, l3⟩
    · refine CS_same h (-11) ?_ ?_
      · simp only [D_X6_lay.eq_1, bnd_e, bd0_e, nosh0 h1, if_true, tn, D_flt]
        rw [if_pos l1, if_neg (by decide)]; rfl
      · simp only [D_X7_lay.eq_1, bnd_e, bd0_e, issh1 h1 (q := 0) ⟨by decide, by decide⟩, i10, tn]
        rw [if_pos l2]
    · have n1 : ¬ σ (20 + k) 13 1 = -1 := by omega
      have n4 : ¬ σ 13 47 k = -4 := by omega
      by_cases h2 : 0 ≤ p2 ∧ p2 < σ (20 + k) 13 2
      · obtain ⟨i, hi, rfl⟩ := nat_of (b := 40) h2.1 (by omega)
        have fin : ∀ v : Int, D_X3_put (σ (20 + k)) i p3 = some (wrl (σ (20 + k)) 23 i v) → D_X7_lay (σ 13) k i p3 = some (1, wrl (σ 13) 49 (40 * k + i) v) → CS σ (D_X6_lay σ k i p3) (D_X7_lay (σ 13) k i p3) := fun v e1 e2 => by
          refine ⟨1, _, _, N, ?_, gset_ne _ _ (show 13 ≠ 20 + k by omega), e2, rl_sheet h hk (φ' := wrl (σ (20 + k)) 23 i v) (fun r a b c => by rw [wrl_nr _ _ c]) (fun j hj => ⟨by rw [wrl_nr _ _ (by decide)], by rw [wrl_nr _ _ (by decide)]⟩) (fun j hj => by rw [wrl_ni _ _ (by omega)]) ?_⟩
          · simp only [D_X6_lay.eq_1, bnd_e, bns_e, bd0_e, nosh0 h1, if_true, tn, D_flt, e1, bd1_e]
            rw [if_neg n1, if_pos h2, if_pos rfl, chk_e ⟨by omega, by omega⟩]
          · unfold RSh
            rw [wrl_nr _ _ (by decide), wrl_nr _ _ (by decide), wrl_nr _ _ (by decide)]
            refine ⟨Or.inr ⟨l1, l2, l3⟩, ⟨s2, s3, s4⟩, fun j hj => ?_⟩
            rw [wrl_r, wrl_r]
            by_cases q : j = i
            · rw [q, up1_at, up1_at]
            · rw [up1_ne _ _ q, up1_ne _ _ (by omega)]; exact s5 j hj
        have pre : D_X7_lay (σ 13) k i p3 = if σ 13 47 k = 0 then some (1, wrl (σ 13) 49 (40 * k + i) (b_i2b p3)) else if σ 13 47 k = 1 then some (1, wrl (σ 13) 49 (40 * k + i) (b_i2s p3)) else some (1, wrl (σ 13) 49 (40 * k + i) p3) := by
          simp only [D_X7_lay.eq_1, bnd_e, bns_e, bd0_e, issh1 h1 (q := 0) ⟨by decide, by decide⟩, i10, tn]
          rw [if_neg n4, ← s2, D_in1 h2.1 (by omega)]
          simp only [bd0_e, i10]
          rw [show (40 * (k : Int) + (i : Int)).toNat = 40 * k + i by omega]
        have prc : D_X3_put (σ (20 + k)) i p3 = if σ 13 47 k = 0 then some (wrl (σ (20 + k)) 23 i (b_i2b p3)) else if σ 13 47 k = 1 then some (wrl (σ (20 + k)) 23 i (b_i2s p3)) else some (wrl (σ (20 + k)) 23 i p3) := by
          simp only [D_X3_put.eq_1, bnd_e, bns_e, tn]
          rw [l1]
        by_cases q0 : σ 13 47 k = 0
        · rw [if_pos q0] at pre prc; exact fin _ prc pre
        · rw [if_neg q0] at pre prc
          by_cases q1 : σ 13 47 k = 1
          · rw [if_pos q1] at pre prc; exact fin _ prc pre
          · rw [if_neg q1] at pre prc; exact fin _ prc pre
      · refine CS_same h (-12) ?_ ?_
        · simp only [D_X6_lay.eq_1, bnd_e, bd0_e, nosh0 h1, if_true, tn, D_flt]
          rw [if_neg n1, if_neg h2, if_neg (by decide)]; rfl
        · simp only [D_X7_lay.eq_1, bnd_e, bd0_e, issh1 h1 (q := 0) ⟨by decide, by decide⟩, i10, tn]
          rw [if_neg n4, ← s2, D_in0 (by omega)]
          simp only [bd0_e, if_true]
  · refine CS_same h (-1) ?_ ?_
    · simp only [D_X6_lay.eq_1, bnd_e, bd0_e, nosh1 h1, i10]
    · simp only [D_X7_lay.eq_1, bnd_e, bd0_e, issh0 (Or.inl h1), if_true]
