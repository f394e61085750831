/-! copies of a floor, of an evening -/
def cpd (φ φ' ψ : Lo) (N : Nat) : Prop := (∀ r, r ≠ 11 → r ≠ 51 → r ≠ 52 → r ≠ 53 → r ≠ 54 → r ≠ 27 → φ' r = φ r) ∧ φ' 11 8 = ψ 11 8 ∧ φ' 11 9 = ψ 11 9 ∧ ∀ m, m < N → φ' 51 m = ψ 51 m ∧ φ' 52 m = ψ 52 m ∧ φ' 53 m = ψ 53 m ∧ φ' 54 m = ψ 54 m ∧ φ' 27 m = ψ 27 m
theorem D_cfl {σ0 : Sg} {o a N : Nat} (ho : o ≠ a) (h5 : N ≤ 5) (hN : σ0 a 11 8 = N) : ∀ (k m : Nat) (φ : Lo), N < k + m → m ≤ N → (∀ r, r ≠ 11 → r ≠ 51 → r ≠ 52 → r ≠ 53 → r ≠ 54 → r ≠ 27 → φ r = σ0 o r) → φ 11 8 = N → φ 11 9 = σ0 a 11 9 → (∀ i, i < m → φ 51 i = σ0 a 51 i ∧ φ 52 i = σ0 a 52 i ∧ φ 53 i = σ0 a 53 i ∧ φ 54 i = σ0 a 54 i ∧ φ 27 i = σ0 a 27 i) → ∃ φ' : Lo, D_X1_copyFrom_18 o a k (gset σ0 o φ) m = some (gset σ0 o φ') ∧ cpd (σ0 o) φ' (σ0 a) N := by
  intro k
  induction k with
  | zero => intro m φ h1 h2; omega
  | succ k ih =>
    intro m φ hk hm hr h8 h9 hc
    rw [D_X1_copyFrom_18.eq_2]
    simp only [bnd_e, bns_e, tn, wr_g, gset_at, gset_ne _ _ ho.symm]
    rw [h8, nc1]
    by_cases h : (m : Int) < (N : Int)
    · rw [if_pos h]
      refine ih (m + 1) _ (by omega) (by omega) (fun r a1 a2 a3 a4 a5 a6 => ?_) ?_ ?_ (fun i hi => ?_)
      · rw [wrl_nr _ _ a6, wrl_nr _ _ a5, wrl_nr _ _ a4, wrl_nr _ _ a3, wrl_nr _ _ a2]; exact hr r a1 a2 a3 a4 a5 a6
      · rw [wrl_nr _ _ (by decide), wrl_nr _ _ (by decide), wrl_nr _ _ (by decide), wrl_nr _ _ (by decide), wrl_nr _ _ (by decide)]; exact h8
      · rw [wrl_nr _ _ (by decide), wrl_nr _ _ (by decide), wrl_nr _ _ (by decide), wrl_nr _ _ (by decide), wrl_nr _ _ (by decide)]; exact h9
      · have e51 : wrl (wrl (wrl (wrl (wrl φ 51 m (σ0 a 51 m)) 52 m (σ0 a 52 m)) 53 m (σ0 a 53 m)) 54 m (σ0 a 54 m)) 27 m (σ0 a 27 m) 51 = up1 (φ 51) m (σ0 a 51 m) := by rw [wrl_nr _ _ (by decide), wrl_nr _ _ (by decide), wrl_nr _ _ (by decide), wrl_nr _ _ (by decide), wrl_r]
        have e52 : wrl (wrl (wrl (wrl (wrl φ 51 m (σ0 a 51 m)) 52 m (σ0 a 52 m)) 53 m (σ0 a 53 m)) 54 m (σ0 a 54 m)) 27 m (σ0 a 27 m) 52 = up1 (φ 52) m (σ0 a 52 m) := by rw [wrl_nr _ _ (by decide), wrl_nr _ _ (by decide), wrl_nr _ _ (by decide), wrl_r, wrl_nr _ _ (by decide)]
        have e53 : wrl (wrl (wrl (wrl (wrl φ 51 m (σ0 a 51 m)) 52 m (σ0 a 52 m)) 53 m (σ0 a 53 m)) 54 m (σ0 a 54 m)) 27 m (σ0 a 27 m) 53 = up1 (φ 53) m (σ0 a 53 m) := by rw [wrl_nr _ _ (by decide), wrl_nr _ _ (by decide), wrl_r, wrl_nr _ _ (by decide), wrl_nr _ _ (by decide)]
        have e54 : wrl (wrl (wrl (wrl (wrl φ 51 m (σ0 a 51 m)) 52 m (σ0 a 52 m)) 53 m (σ0 a 53 m)) 54 m (σ0 a 54 m)) 27 m (σ0 a 27 m) 54 = up1 (φ 54) m (σ0 a 54 m) := by rw [wrl_nr _ _ (by decide), wrl_r, wrl_nr _ _ (by decide), wrl_nr _ _ (by decide), wrl_nr _ _ (by decide)]
        have e27 : wrl (wrl (wrl (wrl (wrl φ 51 m (σ0 a 51 m)) 52 m (σ0 a 52 m)) 53 m (σ0 a 53 m)) 54 m (σ0 a 54 m)) 27 m (σ0 a 27 m) 27 = up1 (φ 27) m (σ0 a 27 m) := by rw [wrl_r, wrl_nr _ _ (by decide), wrl_nr _ _ (by decide), wrl_nr _ _ (by decide), wrl_nr _ _ (by decide)]
        rw [e51, e52, e53, e54, e27]
        by_cases q : i = m
        · rw [q, up1_at, up1_at, up1_at, up1_at, up1_at]; exact ⟨rfl, rfl, rfl, rfl, rfl⟩
        · rw [up1_ne _ _ q, up1_ne _ _ q, up1_ne _ _ q, up1_ne _ _ q, up1_ne _ _ q]; exact hc i (by omega)
    · rw [if_neg h]
      have e : m = N := by omega
      subst e
      exact ⟨φ, rfl, hr, by rw [h8, hN], h9, hc⟩
theorem D_cf {σ : Sg} {o a N : Nat} (ho : o ≠ a) (h5 : N ≤ 5) (hN : σ a 11 8 = N) : ∃ φ' : Lo, D_X1_copyFrom o a σ = some (gset σ o φ') ∧ cpd (σ o) φ' (σ a) N := by
  rw [D_X1_copyFrom.eq_1]
  simp only [bnd_e, bns_e]
  rw [wr_0 σ, gset_ne _ _ ho.symm, wr_g]
  generalize hk : (5000 : Nat) = k
  refine D_cfl ho h5 hN k 0 _ (by omega) (Nat.zero_le _) (fun r a1 a2 a3 a4 a5 a6 => by rw [wrl_nr _ _ a1, wrl_nr _ _ a1]) ?_ ?_ (fun i hi => absurd hi (Nat.not_lt_zero _))
  · rw [wrl_ni _ _ (by decide), wrl_at, hN]
  · rw [wrl_at]
theorem FF_cpd {N : Nat} {φ φ' ψ : Lo} {μ : Nat → Int} (h : FF N ψ μ) (hc : cpd φ φ' ψ N) : FF N φ' μ := FF_cg h hc.2.1 hc.2.2.1 hc.2.2.2 (fun _ _ => rfl)
theorem cpl_at (φ ψ : Lo) {q a r b n i : Nat} (h : b ≤ i ∧ i < b + n) : cpl φ ψ q a r b n r i = ψ q (a + (i - b)) := if_pos ⟨rfl, h⟩
/-- an evening is copied whole -/
def cpe (φ' ψ : Lo) (N : Nat) : Prop := φ' 11 8 = ψ 11 8 ∧ φ' 11 9 = ψ 11 9 ∧ (∀ m, m < N → φ' 51 m = ψ 51 m ∧ φ' 52 m = ψ 52 m ∧ φ' 53 m = ψ 53 m ∧ φ' 54 m = ψ 54 m ∧ φ' 27 m = ψ 27 m) ∧ (∀ w, w < 5 → φ' 20 w = ψ 20 w) ∧ φ' 10 6 = ψ 10 6 ∧ (∀ i, i < 8 → φ' 21 i = ψ 21 i) ∧ φ' 10 7 = ψ 10 7 ∧ (∀ i, i < 6 → φ' 25 i = ψ 25 i ∧ φ' 26 i = ψ 26 i ∧ φ' 22 i = ψ 22 i)
theorem D_ce {σ : Sg} {o a N : Nat} (ho : o ≠ a) (h5 : N ≤ 5) (hN : σ a 11 8 = N) : ∃ φ' : Lo, D_X0_copyFrom o a σ = some (gset σ o φ') ∧ cpe φ' (σ a) N := by
  obtain ⟨φ1, h1, h2, h3, h4, h6⟩ := D_cf ho h5 hN
  rw [D_X0_copyFrom.eq_1, h1]
  simp only [bd1_e, bnd_e, bns_e, gset_at, gset_ne _ _ ho.symm, gset_gset, wr_g, show (0 : Int).toNat = 0 from rfl, show (5 : Int).toNat = 5 from rfl, show (8 : Int).toNat = 8 from rfl, show (6 : Int).toNat = 6 from rfl]
  generalize hψ : σ a = ψ
  rw [hψ] at h3 h4 h6
  refine ⟨_, rfl, ?_, ?_, fun m hm => ?_, fun w hw => ?_, ?_, fun i hi => ?_, ?_, fun i hi => ?_⟩
  · rw [wrl_nr _ _ (by decide), wrl_nr _ _ (by decide), cpl_nr _ _ (by decide), cpl_nr _ _ (by decide), cpl_nr _ _ (by decide), cpl_nr _ _ (by decide), cpl_nr _ _ (by decide)]; exact h3
  · rw [wrl_nr _ _ (by decide), wrl_nr _ _ (by decide), cpl_nr _ _ (by decide), cpl_nr _ _ (by decide), cpl_nr _ _ (by decide), cpl_nr _ _ (by decide), cpl_nr _ _ (by decide)]; exact h4
  · have k : ∀ r, (r = 51 ∨ r = 52 ∨ r = 53 ∨ r = 54 ∨ r = 27) → wrl (wrl (cpl (cpl (cpl (cpl (cpl φ1 ψ 20 0 20 0 5) ψ 21 0 21 0 8) ψ 25 0 25 0 6) ψ 26 0 26 0 6) ψ 22 0 22 0 6) 10 6 (ψ 10 6)) 10 7 (ψ 10 7) r = φ1 r := fun r hr => by
      rw [wrl_nr _ _ (by omega), wrl_nr _ _ (by omega), cpl_nr _ _ (by omega), cpl_nr _ _ (by omega), cpl_nr _ _ (by omega), cpl_nr _ _ (by omega), cpl_nr _ _ (by omega)]
    rw [k 51 (by omega), k 52 (by omega), k 53 (by omega), k 54 (by omega), k 27 (by omega)]
    exact h6 m hm
  · rw [wrl_nr _ _ (by decide), wrl_nr _ _ (by decide), cpl_nr _ _ (by decide), cpl_nr _ _ (by decide), cpl_nr _ _ (by decide), cpl_nr _ _ (by decide), cpl_at _ _ ⟨by omega, by omega⟩, show 0 + (w - 0) = w by omega]
  · rw [wrl_ni _ _ (by decide), wrl_at]
  · rw [wrl_nr _ _ (by decide), wrl_nr _ _ (by decide), cpl_nr _ _ (by decide), cpl_nr _ _ (by decide), cpl_nr _ _ (by decide), cpl_at _ _ ⟨by omega, by omega⟩, show 0 + (i - 0) = i by omega]
  · rw [wrl_at]
  · refine ⟨?_, ?_, ?_⟩
    · rw [wrl_nr _ _ (by decide), wrl_nr _ _ (by decide), cpl_nr _ _ (by decide), cpl_nr _ _ (by decide), cpl_at _ _ ⟨by omega, by omega⟩, show 0 + (i - 0) = i by omega]
    · rw [wrl_nr _ _ (by decide), wrl_nr _ _ (by decide), cpl_nr _ _ (by decide), cpl_at _ _ ⟨by omega, by omega⟩, show 0 + (i - 0) = i by omega]
    · rw [wrl_nr _ _ (by decide), wrl_nr _ _ (by decide), cpl_at _ _ ⟨by omega, by omega⟩, show 0 + (i - 0) = i by omega]
theorem cpe_FE {N : Nat} {φ' ψ : Lo} {μ : Nat → Int} (hF : FF N ψ μ) (hE : EE N ψ μ) (h : cpe φ' ψ N) : FF N φ' μ ∧ EE N φ' μ :=
  ⟨FF_cg hF h.1 h.2.1 h.2.2.1 (fun _ _ => rfl), EE_cg hE h.2.2.2.1 h.2.2.2.2.1 h.2.2.2.2.2.1 h.2.2.2.2.2.2.1 h.2.2.2.2.2.2.2 (fun _ _ _ _ => rfl)⟩
/-! the reference's copies -/
theorem D_cpyl {M0 : Lo} {t s : Nat} (hts : t = s ∨ t + 59 ≤ s ∨ s + 59 ≤ t) (hg : ∀ i, i < 59 → gd177 (t + i) (M0 40 (s + i))) : ∀ (k i : Nat) (M : Lo), 59 < k + i → i ≤ 59 → (∀ r, r ≠ 40 → M r = M0 r) → (∀ j, j < i → M 40 (t + j) = M0 40 (s + j)) → (∀ j, (j < t ∨ t + i ≤ j) → M 40 j = M0 40 j) → ∃ M' : Lo, D_X7_copies_2 t s k M i = some M' ∧ (∀ r, r ≠ 40 → M' r = M0 r) ∧ (∀ j, j < 59 → M' 40 (t + j) = M0 40 (s + j)) ∧ (∀ j, (j < t ∨ t + 59 ≤ j) → M' 40 j = M0 40 j) := by
  intro k
  induction k with
  | zero => intro i M h1 h2; omega
  | succ k ih =>
    intro i M hk hi hr h1 h2
    rw [D_X7_copies_2.eq_2]
    simp only [bnd_e, bns_e]
    by_cases h : (i : Int) < 59
    · have es : M 40 (s + i) = M0 40 (s + i) := by
        by_cases c : s = t
        · rw [h2 (s + i) (by omega)]
        · rw [h2 (s + i) (by omega)]
      rw [if_pos h, show ((t : Int) + (i : Int)).toNat = t + i by omega, show ((s : Int) + (i : Int)).toNat = s + i by omega, es, chk_e (hg i (by omega)), nc1]
      refine ih (i + 1) _ (by omega) (by omega) (fun r h => by rw [wrl_nr _ _ h]; exact hr r h) (fun j hj => ?_) (fun j hj => ?_)
      · rw [wrl_r]
        by_cases q : j = i
        · rw [q, up1_at]
        · rw [up1_ne _ _ (by omega)]; exact h1 j (by omega)
      · rw [wrl_ni _ _ (by omega)]; exact h2 j (by omega)
    · rw [if_neg h]
      have e : i = 59 := by omega
      subst e
      exact ⟨M, rfl, hr, h1, h2⟩
theorem D_cpy {M : Lo} {t s : Nat} (hts : t = s ∨ t + 59 ≤ s ∨ s + 59 ≤ t) (hg : ∀ i, i < 59 → gd177 (t + i) (M 40 (s + i))) : ∃ M' : Lo, D_X7_copies M t s = some M' ∧ (∀ r, r ≠ 40 → M' r = M r) ∧ (∀ j, j < 59 → M' 40 (t + j) = M 40 (s + j)) ∧ (∀ j, (j < t ∨ t + 59 ≤ j) → M' 40 j = M 40 j) := by
  rw [D_X7_copies.eq_1]
  simp only [bnd_e]
  generalize hk : (5000 : Nat) = k
  exact D_cpyl hts hg k 0 M (by omega) (by omega) (fun _ _ => rfl) (fun j h => absurd h (Nat.not_lt_zero _)) (fun _ _ => rfl)
theorem gd_seg {i t : Nat} {x : Int} (ht : t = 0 ∨ t = 59 ∨ t = 118) (hi : i < 59) (h : gd59 i x) : gd177 (t + i) x := by
  rcases ht with rfl | rfl | rfl
  · rw [Nat.zero_add]; exact gd177_m hi h
  · exact ⟨fun q => absurd q (by omega), fun _ _ => by rw [show 59 + i - 59 = i by omega]; exact h, fun q => absurd q (by omega)⟩
  · exact ⟨fun q => absurd q (by omega), fun _ q => absurd q (by omega), fun _ => by rw [show 118 + i - 118 = i by omega]; exact h⟩
theorem gd_of {M : Lo} (h : GD M) {i s : Nat} (hs : s = 0 ∨ s = 59 ∨ s = 118) (hi : i < 59) : gd59 i (M 40 (s + i)) := by
  have h1 := h (s + i) (by omega)
  rcases hs with rfl | rfl | rfl
  · rw [Nat.zero_add] at h1 ⊢; exact h1.1 hi
  · have h2 := h1.2.1 (by omega) (by omega)
    rw [show 59 + i - 59 = i by omega] at h2; exact h2
  · have h2 := h1.2.2 (by omega)
    rw [show 118 + i - 118 = i by omega] at h2; exact h2
