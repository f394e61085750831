theorem rk_cg {S T S' T' : Nat → Int} {m : Nat} (hm : S m = S' m ∧ T m = T' m) : ∀ n, (∀ o, o < n → S o = S' o ∧ T o = T' o) → rk S T m n = rk S' T' m n
  | 0, _ => rfl
  | n + 1, h => by
    have ih := rk_cg hm n (fun o ho => h o (by omega))
    have hn := h n (Nat.lt_succ_self _)
    have hb : (n ≠ m ∧ blw S T n m) ↔ (n ≠ m ∧ blw S' T' n m) := by
      unfold blw
      rw [hm.1, hm.2, hn.1, hn.2]
    rcases Classical.em (n ≠ m ∧ blw S T n m) with q | q
    · rw [rk_s1 q, rk_s1 (hb.mp q), ih]
    · rw [rk_s0 q, rk_s0 (fun e => q (hb.mpr e)), ih]
/-! the change of partners -/
theorem D_chgl {φ0 : Lo} {N : Nat} {f : Int} (h5 : N ≤ 5) (hN : φ0 11 8 = N) (h27 : ∀ w, w < N → 0 ≤ φ0 27 w ∧ φ0 27 w < N) (h29 : ∀ j, j < N → 0 ≤ φ0 29 j ∧ φ0 29 j < N) : ∀ (k w : Nat) (φ : Lo), N < k + w → w ≤ N → (∀ r, r ≠ 27 → φ r = φ0 r) → (∀ i, w ≤ i → φ 27 i = φ0 27 i) → (∀ i, i < w → φ 27 i = φ0 28 (nxt N f (φ0 29 (φ0 27 i).toNat)).toNat) → ∃ φ' : Lo, D_X1_change_2 f k φ w = some φ' ∧ (∀ r, r ≠ 27 → φ' r = φ0 r) ∧ (∀ i, i < N → φ' 27 i = φ0 28 (nxt N f (φ0 29 (φ0 27 i).toNat)).toNat) := by
  intro k
  induction k with
  | zero => intro w φ h1 h2; omega
  | succ k ih =>
    intro w φ hk hw hr h1 h2
    rw [D_X1_change_2.eq_2]
    unfold bnd
    dsimp only
    have hN2 : φ 11 8 = N := by rw [hr 11 (by decide)]; exact hN
    rw [hN2]
    by_cases h : (w : Int) < (N : Int)
    · have hw2 : w < N := by omega
      have a1 := h27 w hw2
      have a2 := h29 (φ0 27 w).toNat (by omega)
      rw [if_pos h, tn, h1 w (Nat.le_refl _), hr 29 (by decide), D_next (by omega) (by omega) hN2 a2.1 a2.2]
      unfold bd0 bns
      dsimp only
      rw [nc1, hr 28 (by decide)]
      refine ih (w + 1) _ (by omega) (by omega) (fun r h => by rw [wrl_nr _ _ h]; exact hr r h) (fun i hi => ?_) (fun i hi => ?_)
      · rw [wrl_r, up1_ne _ _ (by omega)]; exact h1 i (by omega)
      · rw [wrl_r]
        by_cases q : i = w
        · rw [q, up1_at]
        · rw [up1_ne _ _ q]; exact h2 i (by omega)
    · rw [if_neg h]
      have e : w = N := by omega
      subst e
      exact ⟨φ, rfl, hr, h2⟩
theorem D_chg {φ : Lo} {N : Nat} (f : Int) (h5 : N ≤ 5) (hN : φ 11 8 = N) (h27 : ∀ w, w < N → 0 ≤ φ 27 w ∧ φ 27 w < N) (h29 : ∀ j, j < N → 0 ≤ φ 29 j ∧ φ 29 j < N) : ∃ φ' : Lo, D_X1_change φ f = some φ' ∧ (∀ r, r ≠ 27 → φ' r = φ r) ∧ (∀ i, i < N → φ' 27 i = φ 28 (nxt N f (φ 29 (φ 27 i).toNat)).toNat) := by
  unfold D_X1_change bnd
  dsimp only
  exact D_chgl h5 hN h27 h29 5000 0 φ (by omega) (Nat.zero_le _) (fun _ _ => rfl) (fun _ _ => rfl) (fun i h => absurd h (Nat.not_lt_zero _))
theorem D_mchl {φ0 : Lo} {N : Nat} {f : Int} (h5 : N ≤ 5) (hN : φ0 17 3 = N) (h20 : ∀ w, w < N → 0 ≤ φ0 41 (20 + w) ∧ φ0 41 (20 + w) < N) : ∀ (k w : Nat) (φ : Lo), N < k + w → w ≤ N → (∀ r, r ≠ 41 → φ r = φ0 r) → (∀ i, (i < 20 ∨ 20 + w ≤ i) → φ 41 i = φ0 41 i) → (∀ i, i < w → φ 41 (20 + i) = φ0 45 (nxt N f (rk (mS (φ0 41)) (mT (φ0 41)) (φ0 41 (20 + i)).toNat N : Int)).toNat) → ∃ φ' : Lo, D_X7_changes_6 f k φ w = some φ' ∧ (∀ r, r ≠ 41 → φ' r = φ0 r) ∧ (∀ i, (i < 20 ∨ 20 + N ≤ i) → φ' 41 i = φ0 41 i) ∧ (∀ i, i < N → φ' 41 (20 + i) = φ0 45 (nxt N f (rk (mS (φ0 41)) (mT (φ0 41)) (φ0 41 (20 + i)).toNat N : Int)).toNat) := by
  intro k
  induction k with
  | zero => intro w φ h1 h2; omega
  | succ k ih =>
    intro w φ hk hw hr h1 h2
    rw [D_X7_changes_6.eq_2]
    unfold bnd
    dsimp only
    have hN2 : φ 17 3 = N := by rw [hr 17 (by decide)]; exact hN
    rw [hN2]
    by_cases h : (w : Int) < (N : Int)
    · have hw2 : w < N := by omega
      have a1 := h20 w hw2
      have e20 : (20 + (w : Int)).toNat = 20 + w := by omega
      obtain ⟨j, hj⟩ : ∃ j : Nat, φ0 41 (20 + w) = j := ⟨(φ0 41 (20 + w)).toNat, by omega⟩
      have hjN : j < N := by omega
      have er : rk (mS (φ 41)) (mT (φ 41)) j N = rk (mS (φ0 41)) (mT (φ0 41)) j N := rk_cg (by unfold mS mT; rw [h1 (4 * j) (by omega), h1 (4 * j + 1) (by omega), h1 (4 * j + 2) (by omega), h1 (4 * j + 3) (by omega)]; exact ⟨rfl, rfl⟩) N (fun o ho => by unfold mS mT; rw [h1 (4 * o) (by omega), h1 (4 * o + 1) (by omega), h1 (4 * o + 2) (by omega), h1 (4 * o + 3) (by omega)]; exact ⟨rfl, rfl⟩)
      have hlt := rk_lt (mS (φ0 41)) (mT (φ0 41)) j N hjN
      rw [if_pos h, e20, h1 (20 + w) (by omega), hj, D_rank h5 hN2 hjN, er]
      unfold bd0
      dsimp only
      rw [D_goes (N := N) (by omega) (by omega) hN2 (by omega) (by omega)]
      unfold bns
      dsimp only
      rw [nc1, hr 45 (by decide)]
      refine ih (w + 1) _ (by omega) (by omega) (fun r h => by rw [wrl_nr _ _ h]; exact hr r h) (fun i hi => ?_) (fun i hi => ?_)
      · rw [wrl_r, up1_ne _ _ (by omega)]; exact h1 i (by omega)
      · rw [wrl_r]
        by_cases q : i = w
        · rw [q, up1_at, hj, tn]
        · rw [up1_ne _ _ (by omega)]; exact h2 i (by omega)
    · rw [if_neg h]
      have e : w = N := by omega
      subst e
      exact ⟨φ, rfl, hr, h1, h2⟩
theorem D_mch {φ : Lo} {N : Nat} (f : Int) (h5 : N ≤ 5) (hN : φ 17 3 = N) (h20 : ∀ w, w < N → 0 ≤ φ 41 (20 + w) ∧ φ 41 (20 + w) < N) : ∃ (φ' : Lo) (β : Nat → Int), D_X7_changes φ f = some φ' ∧ (∀ r, r ≠ 41 → r ≠ 45 → φ' r = φ r) ∧ (∀ i, (i < 20 ∨ 20 + N ≤ i) → φ' 41 i = φ 41 i) ∧ (∀ j, j < N → β (rk (mS (φ 41)) (mT (φ 41)) j N) = j) ∧ (∀ i, i < N → φ' 41 (20 + i) = β (nxt N f (rk (mS (φ 41)) (mT (φ 41)) (φ 41 (20 + i)).toNat N : Int)).toNat) := by
  obtain ⟨φ1, h1, h2, h3⟩ := D_find h5 hN
  unfold D_X7_changes
  rw [h1]
  unfold bd1 bnd
  dsimp only
  have e41 : φ1 41 = φ 41 := h2 41 (by decide)
  obtain ⟨φ', a1, a2, a3, a4⟩ := D_mchl (φ0 := φ1) (f := f) h5 (by rw [h2 17 (by decide)]; exact hN) (fun w hw => by rw [e41]; exact h20 w hw) 5000 0 φ1 (by omega) (Nat.zero_le _) (fun _ _ => rfl) (fun _ _ => rfl) (fun i h => absurd h (Nat.not_lt_zero _))
  rw [e41] at a3 a4
  exact ⟨φ', φ1 45, a1, fun r p q => by rw [a2 r p, h2 r q], a3, h3, a4⟩
/-! wear, warmth -/
def wre (k d e : Int) : Int := if ((k = 1 ∧ d % 2 = 1) ∨ (k ≠ 1 ∧ k ≠ 3)) ∧ 0 < e then e - 1 else e
def wmt (p m t : Int) : Int := if p = m ∧ t < 9 then t + 1 else t
theorem wre_in {k d e : Int} (h0 : 0 ≤ e) (h9 : e ≤ 9) : 0 ≤ wre k d e ∧ wre k d e ≤ 9 := by
  unfold wre
  split <;> omega
theorem wmt_in {p m t : Int} (h0 : 0 ≤ t) (h9 : t ≤ 9) : 0 ≤ wmt p m t ∧ wmt p m t ≤ 9 := by
  unfold wmt
  split <;> omega
theorem D_w55 (r18 : Lo → Int → Option Lo) (m : Nat) (φ : Lo) (t : Int) (h0 : 0 ≤ φ 53 m) (h9 : φ 53 m ≤ 9) : (t ≠ 0 ∧ 0 < φ 53 m → D_X1_wear_55 r18 m φ t = r18 (wrl φ 53 m (φ 53 m - 1)) ((m + 1 : Nat) : Int)) ∧ (¬ (t ≠ 0 ∧ 0 < φ 53 m) → D_X1_wear_55 r18 m φ t = r18 φ ((m + 1 : Nat) : Int)) := by
  unfold D_X1_wear_55 D_X1_wear_79 bnd chk bns
  dsimp only [tn]
  constructor
  · intro h
    rw [if_neg h.1, if_pos h.2, if_pos ⟨by omega, by omega⟩]
    rfl
  · intro h
    by_cases ht : t = 0
    · rw [if_pos ht]; rfl
    · rw [if_neg ht, if_neg (fun q => h ⟨ht, q⟩)]; rfl
theorem D_wearl {φ0 : Lo} {N : Nat} {d t : Int} (h5 : N ≤ 5) (hN : φ0 11 8 = N) (ht : t ≠ 0 ↔ d % 2 = 1) (h53 : ∀ j, j < N → 0 ≤ φ0 53 j ∧ φ0 53 j ≤ 9) : ∀ (k m : Nat) (φ : Lo), N < k + m → m ≤ N → (∀ r, r ≠ 53 → φ r = φ0 r) → (∀ i, m ≤ i → φ 53 i = φ0 53 i) → (∀ i, i < m → φ 53 i = wre (φ0 51 i) d (φ0 53 i)) → ∃ φ' : Lo, D_X1_wear_18 t k φ m = some φ' ∧ (∀ r, r ≠ 53 → φ' r = φ0 r) ∧ (∀ i, i < N → φ' 53 i = wre (φ0 51 i) d (φ0 53 i)) := by
  intro k
  induction k with
  | zero => intro m φ h1 h2; omega
  | succ k ih =>
    intro m φ hk hm hr h1 h2
    rw [D_X1_wear_18.eq_2]
    unfold bnd
    dsimp only
    have hN2 : φ 11 8 = N := by rw [hr 11 (by decide)]; exact hN
    rw [hN2]
    by_cases h : (m : Int) < (N : Int)
    · have hm2 : m < N := by omega
      have b := h53 m hm2
      have e53 := h1 m (Nat.le_refl _)
      rw [if_pos h, tn, hr 51 (by decide)]
      have go : ∀ t' : Int, (t' ≠ 0 ↔ ((φ0 51 m = 1 ∧ d % 2 = 1) ∨ (φ0 51 m ≠ 1 ∧ φ0 51 m ≠ 3))) → ∃ φ' : Lo, D_X1_wear_55 (D_X1_wear_18 t k) m φ t' = some φ' ∧ (∀ r, r ≠ 53 → φ' r = φ0 r) ∧ (∀ i, i < N → φ' 53 i = wre (φ0 51 i) d (φ0 53 i)) := fun t' ht' => by
        obtain ⟨w1, w2⟩ := D_w55 (D_X1_wear_18 t k) m φ t' (by omega) (by omega)
        by_cases q : t' ≠ 0 ∧ 0 < φ 53 m
        · rw [w1 q]
          refine ih (m + 1) _ (by omega) (by omega) (fun r h => by rw [wrl_nr _ _ h]; exact hr r h) (fun i hi => by rw [wrl_r, up1_ne _ _ (by omega)]; exact h1 i (by omega)) (fun i hi => ?_)
          rw [wrl_r]
          by_cases p : i = m
          · rw [p, up1_at, e53]
            unfold wre
            rw [if_pos ⟨ht'.mp q.1, by omega⟩]
          · rw [up1_ne _ _ p]; exact h2 i (by omega)
        · rw [w2 q]
          refine ih (m + 1) _ (by omega) (by omega) hr (fun i hi => h1 i (by omega)) (fun i hi => ?_)
          by_cases p : i = m
          · rw [p, e53]
            unfold wre
            rw [if_neg (fun e => q ⟨ht'.mpr e.1, by omega⟩)]
          · exact h2 i (by omega)
      by_cases k1 : φ0 51 m = 1
      · rw [if_pos k1]
        exact go t (by constructor; intro q; exact Or.inl ⟨k1, ht.mp q⟩; intro q; rcases q with q | q; exact ht.mpr q.2; exact absurd k1 q.1)
      · rw [if_neg k1]
        by_cases k3 : φ0 51 m = 3
        · rw [if_pos k3]
          exact go 0 (by constructor; intro q; exact absurd rfl q; intro q; rcases q with q | q; exact absurd q.1 k1; exact absurd k3 q.2)
        · rw [if_neg k3]
          exact go 1 (by constructor; intro _; exact Or.inr ⟨k1, k3⟩; intro _; decide)
    · rw [if_neg h]
      have e : m = N := by omega
      subst e
      exact ⟨φ, rfl, hr, h2⟩
theorem D_wear {φ : Lo} {N : Nat} (h5 : N ≤ 5) (hN : φ 11 8 = N) (h53 : ∀ j, j < N → 0 ≤ φ 53 j ∧ φ 53 j ≤ 9) : ∃ φ' : Lo, D_X1_wear φ = some φ' ∧ (∀ r, r ≠ 53 → φ' r = φ r) ∧ (∀ i, i < N → φ' 53 i = wre (φ 51 i) (φ 11 9) (φ 53 i)) := by
  unfold D_X1_wear D_X1_wear_15 bnd
  dsimp only
  by_cases h : φ 11 9 % 2 = 1
  · rw [if_pos h]
    exact D_wearl h5 hN (by constructor; intro _; exact h; intro _; decide) h53 5000 0 φ (by omega) (Nat.zero_le _) (fun _ _ => rfl) (fun _ _ => rfl) (fun i h => absurd h (Nat.not_lt_zero _))
  · rw [if_neg h]
    exact D_wearl h5 hN (by constructor; intro q; exact absurd rfl q; intro q; exact absurd q h) h53 5000 0 φ (by omega) (Nat.zero_le _) (fun _ _ => rfl) (fun _ _ => rfl) (fun i h => absurd h (Nat.not_lt_zero _))
theorem D_warml {φ0 : Lo} {N : Nat} (h5 : N ≤ 5) (hN : φ0 11 8 = N) (h54 : ∀ j, j < N → 0 ≤ φ0 54 j ∧ φ0 54 j ≤ 9) : ∀ (k m : Nat) (φ : Lo), N < k + m → m ≤ N → (∀ r, r ≠ 54 → φ r = φ0 r) → (∀ i, m ≤ i → φ 54 i = φ0 54 i) → (∀ i, i < m → φ 54 i = wmt (φ0 27 i) i (φ0 54 i)) → ∃ φ' : Lo, D_X1_warm_2 k φ m = some φ' ∧ (∀ r, r ≠ 54 → φ' r = φ0 r) ∧ (∀ i : Nat, i < N → φ' 54 i = wmt (φ0 27 i) i (φ0 54 i)) := by
  intro k
  induction k with
  | zero => intro m φ h1 h2; omega
  | succ k ih =>
    intro m φ hk hm hr h1 h2
    rw [D_X1_warm_2.eq_2]
    unfold bnd
    dsimp only
    have hN2 : φ 11 8 = N := by rw [hr 11 (by decide)]; exact hN
    rw [hN2]
    by_cases h : (m : Int) < (N : Int)
    · have hm2 : m < N := by omega
      have b := h54 m hm2
      have e54 := h1 m (Nat.le_refl _)
      rw [if_pos h, tn, hr 27 (by decide)]
      unfold D_X1_warm_39 bns bnd
      dsimp only
      rw [nc1]
      by_cases p : φ0 27 m = (m : Int)
      · rw [if_pos p, e54]
        refine ih (m + 1) _ (by omega) (by omega) (fun r h => by rw [wrl_nr _ _ h]; exact hr r h) (fun i hi => by rw [wrl_r, up1_ne _ _ (by omega)]; exact h1 i (by omega)) (fun i hi => ?_)
        rw [wrl_r]
        by_cases q : i = m
        · rw [q, up1_at]
          unfold wmt
          by_cases t9 : φ0 54 m < 9
          · rw [if_pos ⟨p, t9⟩]; omega
          · rw [if_neg (fun e => t9 e.2)]; omega
        · rw [up1_ne _ _ q]; exact h2 i (by omega)
      · rw [if_neg p]
        refine ih (m + 1) _ (by omega) (by omega) hr (fun i hi => h1 i (by omega)) (fun i hi => ?_)
        by_cases q : i = m
        · rw [q, e54]
          unfold wmt
          rw [if_neg (fun e => p e.1)]
        · exact h2 i (by omega)
    · rw [if_neg h]
      have e : m = N := by omega
      subst e
      exact ⟨φ, rfl, hr, h2⟩
theorem D_warm {φ : Lo} {N : Nat} (h5 : N ≤ 5) (hN : φ 11 8 = N) (h54 : ∀ j, j < N → 0 ≤ φ 54 j ∧ φ 54 j ≤ 9) : ∃ φ' : Lo, D_X1_warm φ = some φ' ∧ (∀ r, r ≠ 54 → φ' r = φ r) ∧ (∀ i : Nat, i < N → φ' 54 i = wmt (φ 27 i) i (φ 54 i)) := by
  unfold D_X1_warm bnd
  dsimp only
  exact D_warml h5 hN h54 5000 0 φ (by omega) (Nat.zero_le _) (fun _ _ => rfl) (fun _ _ => rfl) (fun i h => absurd h (Nat.not_lt_zero _))
