/-! the relation between the class and the reference, at the beginning and end of each call -/
def EE (N : Nat) (φ : Lo) (μ : Nat → Int) : Prop := (∀ w, w < 5 → φ 20 w = μ (25 + w) ∧ 0 ≤ φ 20 w ∧ φ 20 w ≤ 31) ∧ (φ 10 6 = μ 31 ∧ 0 ≤ φ 10 6 ∧ φ 10 6 ≤ 8) ∧ (∀ i : Nat, (i : Int) < φ 10 6 → φ 21 i = μ (32 + i)) ∧ (φ 10 7 = μ 40 ∧ 0 ≤ φ 10 7 ∧ φ 10 7 ≤ 6) ∧ (∀ i : Nat, (i : Int) < φ 10 7 → φ 25 i = μ (41 + 3 * i) ∧ φ 26 i = μ (42 + 3 * i) ∧ φ 22 i = μ (43 + 3 * i) ∧ (0 ≤ φ 25 i ∧ φ 25 i < N) ∧ (0 ≤ φ 26 i ∧ φ 26 i ≤ 8)) ∧ kcn φ ≤ 6
theorem FF_cg {N : Nat} {φ φ' : Lo} {μ μ' : Nat → Int} (h : FF N φ μ) (e8 : φ' 11 8 = φ 11 8) (e9 : φ' 11 9 = φ 11 9) (e : ∀ m, m < N → φ' 51 m = φ 51 m ∧ φ' 52 m = φ 52 m ∧ φ' 53 m = φ 53 m ∧ φ' 54 m = φ 54 m ∧ φ' 27 m = φ 27 m) (hμ : ∀ i, (i < 25 ∨ i = 30) → μ' i = μ i) : FF N φ' μ' := by
  obtain ⟨⟨h8, h5⟩, hq, hd, hr, hi⟩ := h
  refine ⟨⟨by rw [e8]; exact h8, h5⟩, fun m hm => ?_, ?_, fun m hm => ?_, fun a b hab hb => ?_⟩
  · obtain ⟨e1, e2, e3, e4, e5⟩ := e m hm
    rw [e1, e2, e3, e4, e5, hμ _ (by omega), hμ _ (by omega), hμ _ (by omega), hμ _ (by omega), hμ _ (by omega)]
    exact hq m hm
  · rw [e9, hμ 30 (by omega)]; exact hd
  · obtain ⟨e1, e2, e3, e4, e5⟩ := e m hm
    rw [e1, e2, e3, e4, e5]; exact hr m hm
  · rw [(e a (by omega)).2.2.2.2, (e b hb).2.2.2.2]; exact hi a b hab hb
theorem EE_cg {N : Nat} {φ φ' : Lo} {μ μ' : Nat → Int} (h : EE N φ μ) (e20 : ∀ w, w < 5 → φ' 20 w = φ 20 w) (e6 : φ' 10 6 = φ 10 6) (e21 : ∀ i, i < 8 → φ' 21 i = φ 21 i) (e7 : φ' 10 7 = φ 10 7) (e25 : ∀ i, i < 6 → φ' 25 i = φ 25 i ∧ φ' 26 i = φ 26 i ∧ φ' 22 i = φ 22 i) (hμ : ∀ i, 25 ≤ i → i < 59 → i ≠ 30 → μ' i = μ i) : EE N φ' μ' := by
  obtain ⟨h1, h2, h3, h4, h5, h6⟩ := h
  refine ⟨fun w hw => ?_, ?_, fun i hi => ?_, ?_, fun i hi => ?_, ?_⟩
  · rw [e20 w hw, hμ _ (by omega) (by omega) (by omega)]; exact h1 w hw
  · rw [e6, hμ _ (by omega) (by omega) (by omega)]; exact h2
  · rw [e6] at hi
    rw [e21 i (by omega), hμ _ (by omega) (by omega) (by omega)]; exact h3 i hi
  · rw [e7, hμ _ (by omega) (by omega) (by omega)]; exact h4
  · rw [e7] at hi
    obtain ⟨a, b, c⟩ := e25 i (by omega)
    rw [a, b, c, hμ _ (by omega) (by omega) (by omega), hμ _ (by omega) (by omega) (by omega), hμ _ (by omega) (by omega) (by omega)]; exact h5 i hi
  · unfold kcn at h6 ⊢
    rw [e20 0 (by decide), e20 1 (by decide), e20 2 (by decide), e20 3 (by decide), e20 4 (by decide)]
    exact h6
def RFl (N : Nat) (φ M : Lo) : Prop := M 17 3 = N ∧ FF N φ (M 40) ∧ EE N φ (M 40)
def RI1 (N : Nat) (kp : Int) (φ : Lo) (μ : Nat → Int) : Prop := kp = 1 → FF N φ μ ∧ EE N φ μ
def RIm (N : Nat) (φ0 φ3 φ4 M : Lo) : Prop := (φ0 33 0 = M 42 0 ∧ (M 42 0 = 0 ∨ M 42 0 = 1)) ∧ (φ0 33 1 = M 42 1 ∧ (M 42 1 = 0 ∨ M 42 1 = 1)) ∧ RI1 N (M 42 0) φ3 (fun i => M 40 (59 + i)) ∧ RI1 N (M 42 1) φ4 (fun i => M 40 (118 + i))
def RTp (φ M : Lo) : Prop := (φ 14 2 = M 17 10 ∧ 0 ≤ φ 14 2 ∧ φ 14 2 ≤ 160) ∧ ∀ i : Nat, (i : Int) < φ 14 2 → φ 30 i = M 44 i ∧ 0 ≤ φ 30 i ∧ φ 30 i ≤ 127
def RFt (φ0 M : Lo) : Prop := φ0 16 7 = M 17 15 ∧ φ0 16 8 = M 17 24
def RSh (k : Nat) (φ M : Lo) : Prop := ((φ 13 1 = -1 ∧ M 47 k = -4) ∨ (φ 13 1 = M 47 k ∧ 0 ≤ φ 13 1 ∧ φ 13 1 ≤ 2)) ∧ (φ 13 2 = M 48 k ∧ 0 ≤ φ 13 2 ∧ φ 13 2 ≤ 40) ∧ ∀ i, i < 40 → φ 23 i = M 49 (40 * k + i)
def rlS (N : Nat) (σ : Sg) : Prop := RFl N (σ 1) (σ 13) ∧ RIm N (σ 0) (σ 3) (σ 4) (σ 13) ∧ RTp (σ 2) (σ 13) ∧ RFt (σ 0) (σ 13) ∧ ∀ k, k < 4 → RSh k (σ (20 + k)) (σ 13)
def GD (M : Lo) : Prop := ∀ i, i < 177 → gd177 i (M 40 i)
/-- two states of the reference that the relation can't tell apart -/
def sM (M M' : Lo) : Prop := (∀ r, r ≠ 17 → r ≠ 41 → r ≠ 43 → r ≠ 45 → r ≠ 46 → r ≠ 50 → M' r = M r) ∧ (M' 17 3 = M 17 3 ∧ M' 17 10 = M 17 10 ∧ M' 17 15 = M 17 15 ∧ M' 17 24 = M 17 24)
theorem sM_rf (M : Lo) : sM M M := ⟨fun _ _ _ _ _ _ _ => rfl, rfl, rfl, rfl, rfl⟩
theorem sM_tr {M M' M'' : Lo} (h2 : sM M' M'') (h : sM M M') : sM M M'' := ⟨fun r a b c d e f => (h2.1 r a b c d e f).trans (h.1 r a b c d e f), h2.2.1.trans h.2.1, h2.2.2.1.trans h.2.2.1, h2.2.2.2.1.trans h.2.2.2.1, h2.2.2.2.2.trans h.2.2.2.2⟩
theorem sM_kp {M M' : Lo} (h : kpM M M') : sM M M' := ⟨fun r a b c d e f => h.1 r b d, by rw [h.1 17 (by decide) (by decide)], by rw [h.1 17 (by decide) (by decide)], by rw [h.1 17 (by decide) (by decide)], by rw [h.1 17 (by decide) (by decide)]⟩
/-- .. and of the class -/
def sC (σ σ' : Sg) : Prop := (∀ o, o ≠ 0 → o ≠ 1 → ¬ (5 ≤ o ∧ o ≤ 11) → σ' o = σ o) ∧ (∀ r, r = 16 ∨ r = 33 → σ' 0 r = σ 0 r) ∧ (∀ r, r ≠ 55 → r ≠ 28 → r ≠ 29 → σ' 1 r = σ 1 r)
theorem sC_rf (σ : Sg) : sC σ σ := ⟨fun _ _ _ _ => rfl, fun _ _ => rfl, fun _ _ _ _ => rfl⟩
theorem sC_tr {σ σ' σ'' : Sg} (h2 : sC σ' σ'') (h : sC σ σ') : sC σ σ'' := ⟨fun o a b c => (h2.1 o a b c).trans (h.1 o a b c), fun r a => (h2.2.1 r a).trans (h.2.1 r a), fun r a b c => (h2.2.2 r a b c).trans (h.2.2 r a b c)⟩
theorem sC_g {σ : Sg} {o : Nat} {φ : Lo} (ho : 5 ≤ o ∧ o ≤ 11) : sC σ (gset σ o φ) := ⟨fun o' a b c => gset_ne _ _ (by omega), fun r a => by rw [gset_ne _ _ (by omega)], fun r a b c => by rw [gset_ne _ _ (by omega)]⟩
theorem sC_1 {σ : Sg} {φ : Lo} (h : ∀ r, r ≠ 55 → r ≠ 28 → r ≠ 29 → φ r = σ 1 r) : sC σ (gset σ 1 φ) := ⟨fun o' a b c => gset_ne _ _ (by omega), fun r a => by rw [gset_ne _ _ (by omega)], fun r a b c => by rw [gset_at]; exact h r a b c⟩
theorem rlS_s {N : Nat} {σ σ' : Sg} {M' : Lo} (h : rlS N σ) (hC : sC σ σ') (hM : sM (σ 13) M') : rlS N (gset σ' 13 M') := by
  obtain ⟨⟨a1, a2, a3⟩, ⟨b1, b2, b3, b4⟩, ⟨c1, c2⟩, d, e⟩ := h
  obtain ⟨s1, s2, s3⟩ := hC
  obtain ⟨m1, m3, m10, m15, m24⟩ := hM
  have m40 : M' 40 = σ 13 40 := m1 40 (by decide) (by decide) (by decide) (by decide) (by decide) (by decide)
  have m42 : M' 42 = σ 13 42 := m1 42 (by decide) (by decide) (by decide) (by decide) (by decide) (by decide)
  have m44 : M' 44 = σ 13 44 := m1 44 (by decide) (by decide) (by decide) (by decide) (by decide) (by decide)
  have m47 : M' 47 = σ 13 47 := m1 47 (by decide) (by decide) (by decide) (by decide) (by decide) (by decide)
  have m48 : M' 48 = σ 13 48 := m1 48 (by decide) (by decide) (by decide) (by decide) (by decide) (by decide)
  have m49 : M' 49 = σ 13 49 := m1 49 (by decide) (by decide) (by decide) (by decide) (by decide) (by decide)
  have g : ∀ o, o ≠ 13 → gset σ' 13 M' o = σ' o := fun o h => gset_ne _ _ h
  have k1 : ∀ r, r ≠ 55 → r ≠ 28 → r ≠ 29 → gset σ' 13 M' 1 r = σ 1 r := fun r x y z => by rw [g 1 (by decide)]; exact s3 r x y z
  unfold rlS RFl RIm RTp RFt
  rw [gset_at, g 0 (by decide), g 2 (by decide), g 3 (by decide), g 4 (by decide), s1 2 (by decide) (by decide) (by decide), s1 3 (by decide) (by decide) (by decide), s1 4 (by decide) (by decide) (by decide), s2 16 (Or.inl rfl), s2 33 (Or.inr rfl), m40, m42, m44, m3, m10, m15, m24]
  refine ⟨⟨a1, ?_, ?_⟩, ⟨b1, b2, b3, b4⟩, ⟨c1, c2⟩, d, fun k hk => ?_⟩
  · refine FF_cg a2 ?_ ?_ (fun m hm => ⟨?_, ?_, ?_, ?_, ?_⟩) (fun _ _ => rfl) <;> rw [k1 _ (by decide) (by decide) (by decide)]
  · refine EE_cg a3 (fun w hw => ?_) ?_ (fun i hi => ?_) ?_ (fun i hi => ⟨?_, ?_, ?_⟩) (fun _ _ _ _ => rfl) <;> rw [k1 _ (by decide) (by decide) (by decide)]
  · have h1 := e k hk
    unfold RSh at h1 ⊢
    rw [g (20 + k) (by omega), s1 (20 + k) (by omega) (by omega) (by omega), m47, m48, m49]
    exact h1
/-- what a call's two functions give -/
def CS (σ : Sg) (dc : Option (Int × Sg)) (dm : Option (Int × Lo)) : Prop := ∃ (r : Int) (σ1 : Sg) (φ' : Lo) (N' : Nat), dc = some (r, σ1) ∧ σ1 13 = σ 13 ∧ dm = some (r, φ') ∧ rlS N' (gset σ1 13 φ')
theorem CS_same {N : Nat} {σ : Sg} {dc : Option (Int × Sg)} {dm : Option (Int × Lo)} (h : rlS N σ) (r : Int) (h1 : dc = some (r, σ)) (h2 : dm = some (r, σ 13)) : CS σ dc dm := ⟨r, σ, σ 13, N, h1, rfl, h2, by rw [gset_self]; exact h⟩
theorem CS_scr {N : Nat} {σ σ1 : Sg} {M' : Lo} {dc : Option (Int × Sg)} {dm : Option (Int × Lo)} (h : rlS N σ) (r : Int) (h1 : dc = some (r, σ1)) (h2 : dm = some (r, M')) (hC : sC σ σ1) (hM : sM (σ 13) M') : CS σ dc dm := ⟨r, σ1, M', N, h1, hC.1 13 (by decide) (by decide) (by decide), h2, rlS_s h hC hM⟩
/-! the small tests -/
theorem lcm_ge {u v : Int} (h : v ≤ u) : ¬ l_cm u v < 0 := by
  unfold l_cm
  rw [if_neg (by omega)]
  split <;> decide
theorem lcm_lt {u v : Int} (h : u < v) : l_cm u v < 0 := by
  unfold l_cm
  rw [if_pos h]
  decide
theorem lcm_le {u v : Int} (h : u ≤ v) : ¬ 0 < l_cm u v := by
  unfold l_cm
  by_cases q : u < v
  · rw [if_pos q]; decide
  · rw [if_neg q, if_pos (by omega)]; decide
theorem lcm_gt {u v : Int} (h : v < u) : 0 < l_cm u v := by
  unfold l_cm
  rw [if_neg (by omega), if_neg (by omega)]
  decide
theorem D_in1 {v lo hi : Int} (h1 : lo ≤ v) (h2 : v ≤ hi) : D_X7_in v lo hi = some 1 := by
  unfold D_X7_in bnd
  dsimp only
  rw [if_neg (lcm_ge h1), if_neg (lcm_le h2)]
theorem D_in0 {v lo hi : Int} (h : v < lo ∨ hi < v) : D_X7_in v lo hi = some 0 := by
  unfold D_X7_in bnd
  dsimp only
  by_cases h1 : v < lo
  · rw [if_pos (lcm_lt h1)]
  · rw [if_neg (lcm_ge (by omega)), if_pos (lcm_gt (by omega))]
theorem D_one1 {M : Lo} {N : Nat} (hN : M 17 3 = N) {p : Int} (h : 0 ≤ p ∧ p < N) : D_X7_isOne M p = some 1 := by
  unfold D_X7_isOne bnd; dsimp only; rw [hN, D_in1 h.1 (by omega)]; rfl
theorem D_one0 {M : Lo} {N : Nat} (hN : M 17 3 = N) {p : Int} (h : ¬ (0 ≤ p ∧ p < N)) : D_X7_isOne M p = some 0 := by
  unfold D_X7_isOne bnd; dsimp only; rw [hN, D_in0 (by omega)]; rfl
theorem D_nob0 {σ : Sg} {N : Nat} (hN : σ 1 11 8 = N) {p : Int} (h : 0 ≤ p ∧ p < N) : D_X6_isNobody σ p = some 0 := by
  unfold D_X6_isNobody bnd; dsimp only; rw [if_neg (by omega), hN, if_pos h.2]
theorem D_nob1 {σ : Sg} {N : Nat} (hN : σ 1 11 8 = N) {p : Int} (h : ¬ (0 ≤ p ∧ p < N)) : D_X6_isNobody σ p = some 1 := by
  unfold D_X6_isNobody D_X6_isNobody_18 bnd; dsimp only
  by_cases h0 : p < 0
  · rw [if_pos h0]
  · rw [if_neg h0, hN, if_neg (by omega)]
theorem D_cfig1 {p : Int} (h : 0 ≤ p ∧ p ≤ 3) : D_X6_isFigure p = some 1 := by
  unfold D_X6_isFigure bnd; dsimp only; rw [if_neg (by omega), if_pos (by omega)]
theorem D_cfig0 {p : Int} (h : ¬ (0 ≤ p ∧ p ≤ 3)) : D_X6_isFigure p = some 0 := by
  unfold D_X6_isFigure D_X6_isFigure_13 bnd; dsimp only
  by_cases h0 : p < 0
  · rw [if_pos h0]
  · rw [if_neg h0, if_neg (by omega)]
theorem D_mfig1 {p : Int} (h : 0 ≤ p ∧ p ≤ 3) : D_X7_isFigure p = some 1 := by
  unfold D_X7_isFigure bnd; dsimp only; rw [D_in1 h.1 h.2]; rfl
theorem D_mfig0 {p : Int} (h : ¬ (0 ≤ p ∧ p ≤ 3)) : D_X7_isFigure p = some 0 := by
  unfold D_X7_isFigure bnd; dsimp only; rw [D_in0 (by omega)]; rfl
theorem D_prt1 {p : Int} (h : 0 ≤ p ∧ p ≤ 1) : D_X7_isPart p = some 1 := by
  unfold D_X7_isPart bnd; dsimp only; rw [D_in1 h.1 h.2]; rfl
theorem D_prt0 {p : Int} (h : ¬ (0 ≤ p ∧ p ≤ 1)) : D_X7_isPart p = some 0 := by
  unfold D_X7_isPart bnd; dsimp only; rw [D_in0 (by omega)]; rfl
theorem rlS_N {N : Nat} {σ : Sg} (h : rlS N σ) : σ 1 11 8 = N ∧ σ 13 17 3 = N ∧ N ≤ 5 := ⟨h.1.2.1.1.1, h.1.1, h.1.2.1.1.2⟩
/-! a cell of the reference's row is written -/
theorem rlS_w {N : Nat} {σ : Sg} {φ1 M' : Lo} (h : rlS N σ) (hM : (∀ r, r ≠ 40 → M' r = σ 13 r) ∧ (∀ i, 59 ≤ i → M' 40 i = σ 13 40 i)) (hF : FF N φ1 (M' 40)) (hE : EE N φ1 (M' 40)) : rlS N (gset (gset σ 1 φ1) 13 M') := by
  obtain ⟨⟨a1, a2, a3⟩, ⟨b1, b2, b3, b4⟩, ⟨c1, c2⟩, d, e⟩ := h
  obtain ⟨m1, m2⟩ := hM
  have g : ∀ o, o ≠ 13 → o ≠ 1 → gset (gset σ 1 φ1) 13 M' o = σ o := fun o h h1 => by rw [gset_ne _ _ h, gset_ne _ _ h1]
  have g1 : gset (gset σ 1 φ1) 13 M' 1 = φ1 := by rw [gset_ne _ _ (by decide), gset_at]
  unfold rlS RFl RIm RTp RFt
  rw [gset_at, g1, g 0 (by decide) (by decide), g 2 (by decide) (by decide), g 3 (by decide) (by decide), g 4 (by decide) (by decide), m1 17 (by decide), m1 42 (by decide), m1 44 (by decide)]
  refine ⟨⟨a1, hF, hE⟩, ⟨b1, b2, fun q => ?_, fun q => ?_⟩, ⟨c1, c2⟩, d, fun k hk => ?_⟩
  · obtain ⟨x, y⟩ := b3 q
    refine ⟨FF_cg x rfl rfl (fun _ _ => ⟨rfl, rfl, rfl, rfl, rfl⟩) (fun i _ => m2 _ (by omega)), EE_cg y (fun _ _ => rfl) rfl (fun _ _ => rfl) rfl (fun _ _ => ⟨rfl, rfl, rfl⟩) (fun i _ _ _ => m2 _ (by omega))⟩
  · obtain ⟨x, y⟩ := b4 q
    refine ⟨FF_cg x rfl rfl (fun _ _ => ⟨rfl, rfl, rfl, rfl, rfl⟩) (fun i _ => m2 _ (by omega)), EE_cg y (fun _ _ => rfl) rfl (fun _ _ => rfl) rfl (fun _ _ => ⟨rfl, rfl, rfl⟩) (fun i _ _ _ => m2 _ (by omega))⟩
  · have h1 := e k hk
    unfold RSh at h1 ⊢
    rw [g (20 + k) (by omega) (by omega), m1 47 (by decide), m1 48 (by decide), m1 49 (by decide)]
    exact h1
