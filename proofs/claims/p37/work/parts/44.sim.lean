theorem D_m58 (r7 : Lo → Int → Option Lo) (m : Nat) (φ : Lo) (t : Int) (h0 : 0 ≤ φ 41 (4 * m + 2)) (h9 : φ 41 (4 * m + 2) ≤ 9) : D_X7_danceOn_58 r7 m φ t = r7 (wrl φ 41 (4 * m + 2) (if t ≠ 0 ∧ 0 < φ 41 (4 * m + 2) then φ 41 (4 * m + 2) - 1 else φ 41 (4 * m + 2))) ((m + 1 : Nat) : Int) := by
  unfold D_X7_danceOn_58 D_X7_danceOn_88 D_X7_danceOn_94 bnd chk
  dsimp only
  simp only [D_of2, D_bec2]
  unfold bd0 bd1
  dsimp only
  by_cases ht : t = 0
  · rw [if_pos ht, if_pos ⟨h0, h9⟩, if_neg (fun q => q.1 ht)]; rfl
  · rw [if_neg ht]
    by_cases he : 0 < φ 41 (4 * m + 2)
    · rw [if_pos he, if_pos ⟨by omega, by omega⟩, if_pos ⟨ht, he⟩]; rfl
    · rw [if_neg he, if_pos ⟨h0, h9⟩, if_neg (fun q => he q.2)]; rfl
theorem D_m142 (r : Lo → Int → Option Lo) (m : Nat) (φ : Lo) (t : Int) (ht : t = 0 ∨ t = 1) (h0 : 0 ≤ φ 41 (4 * m + 3)) (h9 : φ 41 (4 * m + 3) + t ≤ 9) : D_X7_danceOn_142 r m φ t = r (wrl φ 41 (4 * m + 3) (φ 41 (4 * m + 3) + t)) ((m + 1 : Nat) : Int) := by
  unfold D_X7_danceOn_142 bnd chk
  dsimp only
  simp only [D_of3, D_bec3]
  have e : D_X7_flag t = some t := by
    rcases ht with rfl | rfl
    · exact D_flag0
    · exact D_flag1 (by decide)
  rw [e]
  unfold bd0 bd1
  dsimp only
  rw [if_pos ⟨by omega, h9⟩]; rfl
theorem D_m7 {φ0 : Lo} {N : Nat} (h5 : N ≤ 5) (hN : φ0 17 3 = N) (hE : ∀ j, j < N → 0 ≤ φ0 41 (4 * j + 2) ∧ φ0 41 (4 * j + 2) ≤ 9) : ∀ (k m : Nat) (φ : Lo), N < k + m → m ≤ N → (∀ r, r ≠ 41 → φ r = φ0 r) → (∀ i, (∀ j, j < m → i ≠ 4 * j + 2) → φ 41 i = φ0 41 i) → (∀ j, j < m → φ 41 (4 * j + 2) = wre (φ0 41 (4 * j)) (φ0 41 30) (φ0 41 (4 * j + 2))) → ∃ φ' : Lo, D_X7_danceOn_7 k φ m = D_X7_danceOn_105 5000 φ' 0 ∧ (∀ r, r ≠ 41 → φ' r = φ0 r) ∧ (∀ i, (∀ j, j < N → i ≠ 4 * j + 2) → φ' 41 i = φ0 41 i) ∧ (∀ j, j < N → φ' 41 (4 * j + 2) = wre (φ0 41 (4 * j)) (φ0 41 30) (φ0 41 (4 * j + 2))) := by
  intro k
  induction k with
  | zero => intro m φ h1 h2; omega
  | succ k ih =>
    intro m φ hk hm hr h1 h2
    rw [D_X7_danceOn_7.eq_2]
    unfold bnd
    dsimp only
    have hN2 : φ 17 3 = N := by rw [hr 17 (by decide)]; exact hN
    rw [hN2]
    by_cases h : (m : Int) < (N : Int)
    · have hm2 : m < N := by omega
      have b := hE m hm2
      have e2 : φ 41 (4 * m + 2) = φ0 41 (4 * m + 2) := h1 _ (fun j hj => by omega)
      have e0 : φ 41 (4 * m) = φ0 41 (4 * m) := h1 _ (fun j hj => by omega)
      have e30 : φ 41 30 = φ0 41 30 := h1 _ (fun j hj => by omega)
      rw [if_pos h, D_of0, e0]
      unfold bd0
      dsimp only
      rw [show (30 : Int).toNat = 30 from rfl, e30]
      have go : ∀ t' : Int, (t' ≠ 0 ↔ ((φ0 41 (4 * m) = 1 ∧ φ0 41 30 % 2 = 1) ∨ (φ0 41 (4 * m) ≠ 1 ∧ φ0 41 (4 * m) ≠ 3))) → ∃ φ' : Lo, D_X7_danceOn_58 (D_X7_danceOn_7 k) m φ t' = D_X7_danceOn_105 5000 φ' 0 ∧ (∀ r, r ≠ 41 → φ' r = φ0 r) ∧ (∀ i, (∀ j, j < N → i ≠ 4 * j + 2) → φ' 41 i = φ0 41 i) ∧ (∀ j, j < N → φ' 41 (4 * j + 2) = wre (φ0 41 (4 * j)) (φ0 41 30) (φ0 41 (4 * j + 2))) := fun t' ht' => by
        rw [D_m58 _ m φ t' (by omega) (by omega)]
        refine ih (m + 1) _ (by omega) (by omega) (fun r h => by rw [wrl_nr _ _ h]; exact hr r h) (fun i hi => ?_) (fun j hj => ?_)
        · rw [wrl_r, up1_ne _ _ (hi m (Nat.lt_succ_self _))]
          exact h1 i (fun j hj => hi j (by omega))
        · rw [wrl_r]
          by_cases q : j = m
          · rw [q, up1_at, e2]
            unfold wre
            by_cases p : t' ≠ 0 ∧ 0 < φ0 41 (4 * m + 2)
            · rw [if_pos p, if_pos ⟨ht'.mp p.1, p.2⟩]
            · rw [if_neg p, if_neg (fun e => p ⟨ht'.mpr e.1, e.2⟩)]
          · rw [up1_ne _ _ (by omega)]; exact h2 j (by omega)
      by_cases k1 : φ0 41 (4 * m) = 1
      · rw [if_pos k1]
        by_cases d2 : φ0 41 30 % 2 = 1
        · rw [if_pos d2]
          exact go 1 (by constructor; intro _; exact Or.inl ⟨k1, d2⟩; intro _; decide)
        · rw [if_neg d2]
          exact go 0 (by constructor; intro q; exact absurd rfl q; intro q; rcases q with q | q; exact absurd q.2 d2; exact absurd k1 q.1)
      · rw [if_neg k1]
        by_cases k3 : φ0 41 (4 * m) = 3
        · rw [if_pos k3]
          exact go 0 (by constructor; intro q; exact absurd rfl q; intro q; rcases q with q | q; exact absurd q.1 k1; exact absurd k3 q.2)
        · rw [if_neg k3]
          exact go 1 (by constructor; intro _; exact Or.inr ⟨k1, k3⟩; intro _; decide)
    · rw [if_neg h]
      have e : m = N := by omega
      subst e
      exact ⟨φ, rfl, hr, h1, h2⟩
def dnx (d : Int) : Int := if d < 999 then d + 1 else d
theorem D_m105 {φ0 : Lo} {N : Nat} (h5 : N ≤ 5) (hN : φ0 17 3 = N) (hT : ∀ j, j < N → 0 ≤ φ0 41 (4 * j + 3) ∧ φ0 41 (4 * j + 3) ≤ 9) (hd : 0 ≤ φ0 41 30 ∧ φ0 41 30 ≤ 999) : ∀ (k m : Nat) (φ : Lo), N < k + m → m ≤ N → (∀ r, r ≠ 41 → φ r = φ0 r) → (∀ i, (∀ j, j < m → i ≠ 4 * j + 3) → φ 41 i = φ0 41 i) → (∀ j, j < m → φ 41 (4 * j + 3) = wmt (φ0 41 (20 + j)) j (φ0 41 (4 * j + 3))) → ∃ φ' : Lo, D_X7_danceOn_105 k φ m = some φ' ∧ (∀ r, r ≠ 41 → φ' r = φ0 r) ∧ (∀ i, (∀ j, j < N → i ≠ 4 * j + 3) → i ≠ 30 → φ' 41 i = φ0 41 i) ∧ (∀ j : Nat, j < N → φ' 41 (4 * j + 3) = wmt (φ0 41 (20 + j)) j (φ0 41 (4 * j + 3))) ∧ φ' 41 30 = dnx (φ0 41 30) := by
  intro k
  induction k with
  | zero => intro m φ h1 h2; omega
  | succ k ih =>
    intro m φ hk hm hr h1 h2
    rw [D_X7_danceOn_105.eq_2]
    unfold bnd
    dsimp only
    have hN2 : φ 17 3 = N := by rw [hr 17 (by decide)]; exact hN
    rw [hN2]
    by_cases h : (m : Int) < (N : Int)
    · have hm2 : m < N := by omega
      have b := hT m hm2
      have e3 : φ 41 (4 * m + 3) = φ0 41 (4 * m + 3) := h1 _ (fun j hj => by omega)
      have e20 : φ 41 (20 + m) = φ0 41 (20 + m) := h1 _ (fun j hj => by omega)
      rw [if_pos h, show (20 + (m : Int)).toNat = 20 + m by omega, e20, D_of3, e3]
      unfold bd0
      dsimp only
      have go : ∀ t' : Int, (t' = 0 ∨ t' = 1) → φ0 41 (4 * m + 3) + t' = wmt (φ0 41 (20 + m)) m (φ0 41 (4 * m + 3)) → ∃ φ' : Lo, D_X7_danceOn_142 (D_X7_danceOn_105 k) m φ t' = some φ' ∧ (∀ r, r ≠ 41 → φ' r = φ0 r) ∧ (∀ i, (∀ j, j < N → i ≠ 4 * j + 3) → i ≠ 30 → φ' 41 i = φ0 41 i) ∧ (∀ j : Nat, j < N → φ' 41 (4 * j + 3) = wmt (φ0 41 (20 + j)) j (φ0 41 (4 * j + 3))) ∧ φ' 41 30 = dnx (φ0 41 30) := fun t' ht' he => by
        have hw := wmt_in (p := φ0 41 (20 + m)) (m := m) b.1 b.2
        rw [D_m142 _ m φ t' ht' (by omega) (by omega), e3, he]
        refine ih (m + 1) _ (by omega) (by omega) (fun r h => by rw [wrl_nr _ _ h]; exact hr r h) (fun i hi => ?_) (fun j hj => ?_)
        · rw [wrl_r, up1_ne _ _ (hi m (Nat.lt_succ_self _))]
          exact h1 i (fun j hj => hi j (by omega))
        · rw [wrl_r]
          by_cases q : j = m
          · rw [q, up1_at]
          · rw [up1_ne _ _ (by omega)]; exact h2 j (by omega)
      have g0 : ¬ (φ0 41 (20 + m) = (m : Int) ∧ φ0 41 (4 * m + 3) < 9) → φ0 41 (4 * m + 3) + 0 = wmt (φ0 41 (20 + m)) m (φ0 41 (4 * m + 3)) := fun q => by
        unfold wmt
        rw [if_neg q, Int.add_zero]
      by_cases p : φ0 41 (20 + m) = (m : Int)
      · rw [if_pos p]
        by_cases t9 : φ0 41 (4 * m + 3) < 9
        · rw [if_pos t9]
          exact go 1 (Or.inr rfl) (by unfold wmt; rw [if_pos ⟨p, t9⟩])
        · rw [if_neg t9]
          exact go 0 (Or.inl rfl) (g0 (fun q => t9 q.2))
      · rw [if_neg p]
        exact go 0 (Or.inl rfl) (g0 (fun q => p q.1))
    · rw [if_neg h]
      have e : m = N := by omega
      subst e
      have e30 : φ 41 30 = φ0 41 30 := h1 _ (fun j hj => by omega)
      rw [show (30 : Int).toNat = 30 from rfl, e30]
      have go : ∀ t' : Int, (t' = 0 ∨ t' = 1) → φ0 41 30 + t' = dnx (φ0 41 30) → ∃ φ' : Lo, D_X7_danceOn_192 30 (φ0 41 30) φ t' = some φ' ∧ (∀ r, r ≠ 41 → φ' r = φ0 r) ∧ (∀ i, (∀ j, j < m → i ≠ 4 * j + 3) → i ≠ 30 → φ' 41 i = φ0 41 i) ∧ (∀ j : Nat, j < m → φ' 41 (4 * j + 3) = wmt (φ0 41 (20 + j)) j (φ0 41 (4 * j + 3))) ∧ φ' 41 30 = dnx (φ0 41 30) := fun t' ht' he => by
        have e : D_X7_flag t' = some t' := by
          rcases ht' with rfl | rfl
          · exact D_flag0
          · exact D_flag1 (by decide)
        have hx : 0 ≤ dnx (φ0 41 30) ∧ dnx (φ0 41 30) ≤ 999 := by unfold dnx; split <;> omega
        unfold D_X7_danceOn_192 bnd
        rw [e]
        unfold bd0 chk bns
        dsimp only
        rw [he, show (30 : Int).toNat = 30 from rfl, if_pos (gd59_m30 rfl hx)]
        refine ⟨_, rfl, fun r h => by rw [wrl_nr _ _ h]; exact hr r h, fun i hi h3 => ?_, fun j hj => ?_, ?_⟩
        · rw [wrl_r, up1_ne _ _ h3]; exact h1 i hi
        · rw [wrl_r, up1_ne _ _ (by omega)]; exact h2 j hj
        · rw [wrl_r, up1_at]
      by_cases t9 : φ0 41 30 < 999
      · rw [if_pos t9]
        exact go 1 (Or.inr rfl) (by unfold dnx; rw [if_pos t9])
      · rw [if_neg t9]
        exact go 0 (Or.inl rfl) (by unfold dnx; rw [if_neg t9, Int.add_zero])
/-- one FIGURE of the reference -/
theorem D_mdance {φ : Lo} {N : Nat} (f : Int) (h5 : N ≤ 5) (hN : φ 17 3 = N) (hE : ∀ j, j < N → 0 ≤ φ 41 (4 * j + 2) ∧ φ 41 (4 * j + 2) ≤ 9) (hT : ∀ j, j < N → 0 ≤ φ 41 (4 * j + 3) ∧ φ 41 (4 * j + 3) ≤ 9) (hd : 0 ≤ φ 41 30 ∧ φ 41 30 ≤ 999) (h20 : ∀ w, w < N → 0 ≤ φ 41 (20 + w) ∧ φ 41 (20 + w) < N) : ∃ (φ' : Lo) (β : Nat → Int), D_X7_danceOn φ f = some φ' ∧ (∀ r, r ≠ 41 → r ≠ 45 → φ' r = φ r) ∧ (∀ j, j < N → β (rk (mS (φ 41)) (mT (φ 41)) j N) = j) ∧ (∀ i, i < N → φ' 41 (20 + i) = β (nxt N f (rk (mS (φ 41)) (mT (φ 41)) (φ 41 (20 + i)).toNat N : Int)).toNat) ∧ (∀ j, j < N → φ' 41 (4 * j) = φ 41 (4 * j) ∧ φ' 41 (4 * j + 1) = φ 41 (4 * j + 1) ∧ φ' 41 (4 * j + 2) = wre (φ 41 (4 * j)) (φ 41 30) (φ 41 (4 * j + 2)) ∧ φ' 41 (4 * j + 3) = wmt (φ' 41 (20 + j)) j (φ 41 (4 * j + 3))) ∧ φ' 41 30 = dnx (φ 41 30) ∧ (∀ i, 25 ≤ i → i ≠ 30 → φ' 41 i = φ 41 i) := by
  obtain ⟨φ1, β, a1, a2, a3, a4, a5⟩ := D_mch f h5 hN h20
  have n1 : φ1 17 3 = N := by rw [a2 17 (by decide) (by decide)]; exact hN
  obtain ⟨φ2, b1, b2, b3, b4⟩ := D_m7 (φ0 := φ1) h5 n1 (fun j hj => by rw [a3 _ (by omega)]; exact hE j hj) 5000 0 φ1 (by omega) (Nat.zero_le _) (fun _ _ => rfl) (fun _ _ => rfl) (fun j h => absurd h (Nat.not_lt_zero _))
  have n2 : φ2 17 3 = N := by rw [b2 17 (by decide)]; exact n1
  have e30 : φ1 41 30 = φ 41 30 := a3 _ (by omega)
  have f30 : φ2 41 30 = φ 41 30 := by rw [b3 30 (fun j hj => by omega)]; exact e30
  have f3 : ∀ j, j < N → φ2 41 (4 * j + 3) = φ 41 (4 * j + 3) := fun j hj => by rw [b3 _ (fun i hi => by omega), a3 _ (by omega)]
  obtain ⟨φ3, c1, c2, c3, c4, c5⟩ := D_m105 (φ0 := φ2) h5 n2 (fun j hj => by rw [f3 j hj]; exact hT j hj) (by rw [f30]; exact hd) 5000 0 φ2 (by omega) (Nat.zero_le _) (fun _ _ => rfl) (fun _ _ => rfl) (fun j h => absurd h (Nat.not_lt_zero _))
  have c1' : D_X7_danceOn_105 5000 φ2 0 = some φ3 := c1
  have b1' : D_X7_danceOn_7 5000 φ1 0 = D_X7_danceOn_105 5000 φ2 0 := b1
  have k20 : ∀ j, j < N → φ3 41 (20 + j) = φ1 41 (20 + j) := fun j hj => by rw [c3 _ (fun i hi => by omega) (by omega), b3 _ (fun i hi => by omega)]
  refine ⟨φ3, β, ?_, fun r p q => by rw [c2 r p, b2 r p, a2 r p q], a4, fun i hi => by rw [k20 i hi]; exact a5 i hi, fun j hj => ⟨?_, ?_, ?_, ?_⟩, by rw [c5, f30], fun i hi hn => ?_⟩
  · unfold D_X7_danceOn
    rw [a1]
    unfold bd1 bnd
    dsimp only
    rw [b1', c1']
  · rw [c3 _ (fun i hi => by omega) (by omega), b3 _ (fun i hi => by omega), a3 _ (by omega)]
  · rw [c3 _ (fun i hi => by omega) (by omega), b3 _ (fun i hi => by omega), a3 _ (by omega)]
  · rw [c3 _ (fun i hi => by omega) (by omega), b4 j hj, a3 (4 * j) (by omega), a3 (4 * j + 2) (by omega), e30]
  · rw [c4 j hj, f3 j hj, k20 j hj, b3 _ (fun i hi => by omega)]
  · rw [c3 _ (fun j hj => by omega) hn, b3 _ (fun j hj => by omega), a3 _ (by omega)]
/-- what the calls rest on: a floor of the class and a row of the reference that tell the same -/
def FF (N : Nat) (φ : Lo) (μ : Nat → Int) : Prop := (φ 11 8 = N ∧ N ≤ 5) ∧ (∀ m, m < N → φ 51 m = μ (4 * m) ∧ φ 52 m = μ (4 * m + 1) ∧ φ 53 m = μ (4 * m + 2) ∧ φ 54 m = μ (4 * m + 3) ∧ φ 27 m = μ (20 + m)) ∧ (φ 11 9 = μ 30 ∧ 0 ≤ φ 11 9 ∧ φ 11 9 ≤ 999) ∧ (∀ m, m < N → (0 ≤ φ 51 m ∧ φ 51 m ≤ 3) ∧ (0 ≤ φ 52 m ∧ φ 52 m ≤ 9) ∧ (0 ≤ φ 53 m ∧ φ 53 m ≤ 9) ∧ (0 ≤ φ 54 m ∧ φ 54 m ≤ 9) ∧ (0 ≤ φ 27 m ∧ φ 27 m < N)) ∧ (∀ a b, a < b → b < N → φ 27 a ≠ φ 27 b)
/-- what a step leaves of the class's group -/
def kpF (φ φ' : Lo) : Prop := (∀ r, r ≠ 55 → r ≠ 28 → r ≠ 29 → r ≠ 27 → r ≠ 53 → r ≠ 54 → r ≠ 11 → φ' r = φ r) ∧ φ' 11 8 = φ 11 8
/-- .. and of the reference's -/
def kpM (φ φ' : Lo) : Prop := (∀ r, r ≠ 41 → r ≠ 45 → φ' r = φ r) ∧ (∀ i, 25 ≤ i → i ≠ 30 → φ' 41 i = φ 41 i)
theorem kpF_rf (φ : Lo) : kpF φ φ := ⟨fun _ _ _ _ _ _ _ _ => rfl, rfl⟩
theorem kpM_rf (φ : Lo) : kpM φ φ := ⟨fun _ _ _ => rfl, fun _ _ _ => rfl⟩
theorem kpF_tr {φ φ' φ'' : Lo} (h2 : kpF φ' φ'') (h : kpF φ φ') : kpF φ φ'' := ⟨fun r a b c d e f g => (h2.1 r a b c d e f g).trans (h.1 r a b c d e f g), h2.2.trans h.2⟩
theorem kpM_tr {φ φ' φ'' : Lo} (h2 : kpM φ' φ'') (h : kpM φ φ') : kpM φ φ'' := ⟨fun r a b => (h2.1 r a b).trans (h.1 r a b), fun i a b => (h2.2 i a b).trans (h.2 i a b)⟩
theorem step_sim {N : Nat} {φ M : Lo} (hF : FF N φ (M 41)) (hM : M 17 3 = N) (f : Int) : ∃ φ' M' : Lo, D_X1_step φ f = some φ' ∧ D_X7_danceOn M f = some M' ∧ FF N φ' (M' 41) ∧ kpF φ φ' ∧ kpM M M' := by
  obtain ⟨⟨h8, h5⟩, hq, ⟨hd, hd0, hd9⟩, hr, hi⟩ := hF
  -- the class
  obtain ⟨φ1, a1, a2, a3⟩ := D_lineUp h5 h8 (S := mS (M 41)) (T := mT (M 41)) (fun j hj => by
    obtain ⟨q1, q2, q3, q4, q5⟩ := hq j hj
    unfold mS; rw [q1, q2, q3]) (fun j hj => (hq j hj).2.2.2.1)
  have p : ∀ r, r ≠ 55 → r ≠ 28 → r ≠ 29 → φ1 r = φ r := a2
  have h29 : ∀ j, j < N → 0 ≤ φ1 29 j ∧ φ1 29 j < N := fun j hj => by
    have := rk_lt (mS (M 41)) (mT (M 41)) j N hj
    rw [(a3 j hj).2]; omega
  obtain ⟨φ2, b1, b2, b3⟩ := D_chg (φ := φ1) f h5 (by rw [p 11 (by decide) (by decide) (by decide)]; exact h8) (fun w hw => by rw [p 27 (by decide) (by decide) (by decide)]; exact (hr w hw).2.2.2.2) h29
  have p2 : ∀ r, r ≠ 55 → r ≠ 28 → r ≠ 29 → r ≠ 27 → φ2 r = φ r := fun r x y u v => by rw [b2 r v, p r x y u]
  obtain ⟨φ3, c1, c2, c3⟩ := D_wear (φ := φ2) h5 (by rw [p2 11 (by decide) (by decide) (by decide) (by decide)]; exact h8) (fun j hj => by rw [p2 53 (by decide) (by decide) (by decide) (by decide)]; exact (hr j hj).2.2.1)
  have p3 : ∀ r, r ≠ 55 → r ≠ 28 → r ≠ 29 → r ≠ 27 → r ≠ 53 → φ3 r = φ r := fun r x y u v w => by rw [c2 r w, p2 r x y u v]
  obtain ⟨φ4, d1, d2, d3⟩ := D_warm (φ := φ3) h5 (by rw [p3 11 (by decide) (by decide) (by decide) (by decide) (by decide)]; exact h8) (fun j hj => by rw [p3 54 (by decide) (by decide) (by decide) (by decide) (by decide)]; exact (hr j hj).2.2.2.1)
  have p4 : ∀ r, r ≠ 55 → r ≠ 28 → r ≠ 29 → r ≠ 27 → r ≠ 53 → r ≠ 54 → φ4 r = φ r := fun r x y u v w z => by rw [d2 r z, p3 r x y u v w]
  -- the reference
  obtain ⟨M', β, m1, m2, m3, m4, m5, m6, m7⟩ := D_mdance (φ := M) f h5 hM (fun j hj => by rw [← (hq j hj).2.2.1]; exact (hr j hj).2.2.1) (fun j hj => by rw [← (hq j hj).2.2.2.1]; exact (hr j hj).2.2.2.1) (by rw [← hd]; exact ⟨hd0, hd9⟩) (fun w hw => by rw [← (hq w hw).2.2.2.2]; exact (hr w hw).2.2.2.2)
  -- who is with whom
  have new : ∀ w, w < N → φ2 27 w = M' 41 (20 + w) ∧ 0 ≤ φ2 27 w ∧ φ2 27 w < N ∧ ∃ j : Nat, j < N ∧ φ2 27 w = j ∧ (rk (mS (M 41)) (mT (M 41)) j N : Int) = nxt N f (rk (mS (M 41)) (mT (M 41)) (φ 27 w).toNat N : Int) := fun w hw => by
    have hw27 := (hr w hw).2.2.2.2
    have e27 : φ1 27 w = φ 27 w := by rw [p 27 (by decide) (by decide) (by decide)]
    have hj := a3 (φ 27 w).toNat (by omega)
    have hk := rk_lt (mS (M 41)) (mT (M 41)) (φ 27 w).toNat N (by omega)
    have hx := nxt_in (N := N) (f := f) (r := (rk (mS (M 41)) (mT (M 41)) (φ 27 w).toNat N : Int)) (by omega) (by omega) (by omega)
    obtain ⟨j, j1, j2⟩ := rk_onto (S := mS (M 41)) (T := mT (M 41)) (M := N) (i := (nxt N f (rk (mS (M 41)) (mT (M 41)) (φ 27 w).toNat N : Int)).toNat) (by omega)
    have v1 : φ2 27 w = j := by rw [b3 w hw, e27, hj.2, ← j2, (a3 j j1).1]
    have v2 : M' 41 (20 + w) = j := by rw [m4 w hw, ← (hq w hw).2.2.2.2, ← j2, m3 j j1]
    exact ⟨by rw [v1, v2], by omega, by omega, j, j1, v1, by omega⟩
  have e27 : φ4 27 = φ2 27 := by rw [d2 27 (by decide), c2 27 (by decide)]
  refine ⟨wrl φ4 11 9 (min (φ4 11 9 + 1) 999), M', ?_, m1, ?_, ?_, ⟨m2, m7⟩⟩
  · unfold D_X1_step
    rw [a1]; unfold bd1; dsimp only
    rw [b1]; dsimp only
    rw [c1]; dsimp only
    rw [d1]; rfl
  · have w8 : wrl φ4 11 9 (min (φ4 11 9 + 1) 999) 11 8 = N := by rw [wrl_ni _ _ (by decide), p4 11 (by decide) (by decide) (by decide) (by decide) (by decide) (by decide)]; exact h8
    have wn : ∀ r, r ≠ 11 → wrl φ4 11 9 (min (φ4 11 9 + 1) 999) r = φ4 r := fun r h => wrl_nr _ _ h
    have w9 : wrl φ4 11 9 (min (φ4 11 9 + 1) 999) 11 9 = dnx (φ 11 9) := by
      rw [wrl_at, p4 11 (by decide) (by decide) (by decide) (by decide) (by decide) (by decide)]
      unfold dnx
      by_cases q : φ 11 9 < 999
      · rw [if_pos q]; omega
      · rw [if_neg q]; omega
    have x53 : ∀ m, m < N → φ4 53 m = wre (φ 51 m) (φ 11 9) (φ 53 m) := fun m hm => by
      rw [d2 53 (by decide), c3 m hm, p2 51 (by decide) (by decide) (by decide) (by decide), p2 11 (by decide) (by decide) (by decide) (by decide), p2 53 (by decide) (by decide) (by decide) (by decide)]
    have x54 : ∀ m, m < N → φ4 54 m = wmt (φ2 27 m) m (φ 54 m) := fun m hm => by
      rw [d3 m hm, c2 27 (by decide), p3 54 (by decide) (by decide) (by decide) (by decide) (by decide)]
    refine ⟨⟨w8, h5⟩, fun m hm => ?_, ?_, fun m hm => ?_, fun a b hab hb => ?_⟩
    · obtain ⟨q1, q2, q3, q4, q5⟩ := hq m hm
      obtain ⟨g1, g2, g3, g4⟩ := m5 m hm
      obtain ⟨n1, n2, n3, n4⟩ := new m hm
      rw [wn 51 (by decide), wn 52 (by decide), wn 53 (by decide), wn 54 (by decide), wn 27 (by decide), e27, x53 m hm, x54 m hm, p4 51 (by decide) (by decide) (by decide) (by decide) (by decide) (by decide), p4 52 (by decide) (by decide) (by decide) (by decide) (by decide) (by decide), g1, g2, g3, g4, q1, q2, q3, q4, hd, n1]
      exact ⟨rfl, rfl, rfl, rfl, rfl⟩
    · rw [w9, m6, hd]
      refine ⟨rfl, ?_⟩
      unfold dnx
      rw [hd] at hd0 hd9
      split <;> omega
    · obtain ⟨r1, r2, r3, r4, r5⟩ := hr m hm
      obtain ⟨n1, n2, n3, n4⟩ := new m hm
      rw [wn 51 (by decide), wn 52 (by decide), wn 53 (by decide), wn 54 (by decide), wn 27 (by decide), e27, x53 m hm, x54 m hm, p4 51 (by decide) (by decide) (by decide) (by decide) (by decide) (by decide), p4 52 (by decide) (by decide) (by decide) (by decide) (by decide) (by decide)]
      exact ⟨r1, r2, wre_in r3.1 r3.2, wmt_in r4.1 r4.2, n2, n3⟩
    · rw [wn 27 (by decide), e27]
      intro e
      obtain ⟨-, -, -, j, j1, j2, j3⟩ := new a (by omega)
      obtain ⟨-, -, -, k, k1, k2, k3⟩ := new b hb
      have hjk : j = k := by omega
      subst hjk
      have ha := (hr a (by omega)).2.2.2.2
      have hb2 := (hr b hb).2.2.2.2
      have ka := rk_lt (mS (M 41)) (mT (M 41)) (φ 27 a).toNat N (by omega)
      have kb := rk_lt (mS (M 41)) (mT (M 41)) (φ 27 b).toNat N (by omega)
      have e2 := nxt_inj (N := N) (f := f) (by omega) (by omega) (by omega) (by omega) (by omega) (by omega) (j3.symm.trans k3)
      have e3 : (φ 27 a).toNat = (φ 27 b).toNat := by
        by_cases q : (φ 27 a).toNat = (φ 27 b).toNat
        · exact q
        · exact absurd (show rk (mS (M 41)) (mT (M 41)) (φ 27 a).toNat N = rk (mS (M 41)) (mT (M 41)) (φ 27 b).toNat N by omega) (rk_inj (by omega) (by omega) q)
      exact hi a b hab hb (by omega)
  · exact ⟨fun r a b c d e g h => by rw [wrl_nr _ _ h, p4 r a b c d e g], by rw [wrl_ni _ _ (by decide), p4 11 (by decide) (by decide) (by decide) (by decide) (by decide) (by decide)]⟩
