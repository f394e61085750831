/-! the reference's ranks -/
theorem D_of0 (φ : Lo) (m : Nat) : D_X7_of φ m 0 = some (φ 41 (4 * m)) := by
  unfold D_X7_of bnd; dsimp only; rw [show (4 * (m : Int) + 0).toNat = 4 * m by omega]
theorem D_of1 (φ : Lo) (m : Nat) : D_X7_of φ m 1 = some (φ 41 (4 * m + 1)) := by
  unfold D_X7_of bnd; dsimp only; rw [show (4 * (m : Int) + 1).toNat = 4 * m + 1 by omega]
theorem D_of2 (φ : Lo) (m : Nat) : D_X7_of φ m 2 = some (φ 41 (4 * m + 2)) := by
  unfold D_X7_of bnd; dsimp only; rw [show (4 * (m : Int) + 2).toNat = 4 * m + 2 by omega]
theorem D_of3 (φ : Lo) (m : Nat) : D_X7_of φ m 3 = some (φ 41 (4 * m + 3)) := by
  unfold D_X7_of bnd; dsimp only; rw [show (4 * (m : Int) + 3).toNat = 4 * m + 3 by omega]
theorem D_bec0 (φ : Lo) (m : Nat) (v : Int) : D_X7_becomesOf φ m 0 v = some (wrl φ 41 (4 * m) v) := by
  unfold D_X7_becomesOf bnd bns; dsimp only; rw [show (4 * (m : Int) + 0).toNat = 4 * m by omega]
theorem D_bec1 (φ : Lo) (m : Nat) (v : Int) : D_X7_becomesOf φ m 1 v = some (wrl φ 41 (4 * m + 1) v) := by
  unfold D_X7_becomesOf bnd bns; dsimp only; rw [show (4 * (m : Int) + 1).toNat = 4 * m + 1 by omega]
theorem D_bec2 (φ : Lo) (m : Nat) (v : Int) : D_X7_becomesOf φ m 2 v = some (wrl φ 41 (4 * m + 2) v) := by
  unfold D_X7_becomesOf bnd bns; dsimp only; rw [show (4 * (m : Int) + 2).toNat = 4 * m + 2 by omega]
theorem D_bec3 (φ : Lo) (m : Nat) (v : Int) : D_X7_becomesOf φ m 3 v = some (wrl φ 41 (4 * m + 3) v) := by
  unfold D_X7_becomesOf bnd bns; dsimp only; rw [show (4 * (m : Int) + 3).toNat = 4 * m + 3 by omega]
def mS (μ : Nat → Int) (j : Nat) : Int := stt (μ (4 * j)) (μ (4 * j + 1)) (μ (4 * j + 2))
def mT (μ : Nat → Int) (j : Nat) : Int := μ (4 * j + 3)
theorem D_mst (φ : Lo) (m : Nat) : D_X7_stature φ m = some (mS (φ 41) m) := by
  unfold D_X7_stature mS stt bnd
  dsimp only
  rw [D_of0, D_of1, D_of2]
  unfold bd0
  dsimp only
  by_cases h2 : φ 41 (4 * m) = 2
  · rw [if_pos h2, if_pos h2]; congr 1
  · rw [if_neg h2, if_neg h2]
    by_cases h3 : φ 41 (4 * m) = 3
    · rw [if_pos h3, if_pos h3]
    · rw [if_neg h3, if_neg h3]; congr 1; omega
theorem D_below1 {φ : Lo} {a b : Nat} (h : blw (mS (φ 41)) (mT (φ 41)) a b) : D_X7_isBelow φ a b = some 1 := by
  unfold D_X7_isBelow D_X7_isBelow_50 D_X7_isBelow_54 bnd
  dsimp only
  rw [D_mst, D_mst, D_of3, D_of3]
  unfold bd0
  dsimp only
  unfold blw mT at h
  by_cases h1 : mS (φ 41) a - mS (φ 41) b < 0
  · rw [if_pos h1]
  · rw [if_neg h1, if_pos (by omega)]
    by_cases h2 : 0 < φ 41 (4 * a + 3) - φ 41 (4 * b + 3)
    · rw [if_pos h2]
    · rw [if_neg h2, if_pos (by omega), if_pos (by omega)]
theorem D_below0 {φ : Lo} {a b : Nat} (h : ¬ blw (mS (φ 41)) (mT (φ 41)) a b) : D_X7_isBelow φ a b = some 0 := by
  unfold D_X7_isBelow D_X7_isBelow_50 D_X7_isBelow_54 bnd
  dsimp only
  rw [D_mst, D_mst, D_of3, D_of3]
  unfold bd0
  dsimp only
  unfold blw mT at h
  rw [if_neg (by omega)]
  by_cases h1 : mS (φ 41) a - mS (φ 41) b = 0
  · rw [if_pos h1, if_neg (by omega)]
    by_cases h2 : φ 41 (4 * a + 3) - φ 41 (4 * b + 3) = 0
    · rw [if_pos h2, if_neg (by omega)]
    · rw [if_neg h2]
  · rw [if_neg h1]
theorem D_flag1 {v : Int} (h : v ≠ 0) : D_X7_flag v = some 1 := by unfold D_X7_flag bnd; rw [if_neg h]
theorem D_flag0 : D_X7_flag 0 = some 0 := by unfold D_X7_flag bnd; rw [if_pos rfl]
theorem D_rankl {φ : Lo} {N m : Nat} (h5 : N ≤ 5) (hN : φ 17 3 = N) (hm : m < N) : ∀ (k o : Nat), N < k + o → o ≤ N → D_X7_rankOf_4 m φ k (rk (mS (φ 41)) (mT (φ 41)) m o : Int) o = some (rk (mS (φ 41)) (mT (φ 41)) m N : Int) := by
  intro k
  induction k with
  | zero => intro o h1 h2; omega
  | succ k ih =>
    intro o hk ho
    have hle := rk_le (mS (φ 41)) (mT (φ 41)) m o
    rw [D_X7_rankOf_4.eq_2]
    unfold bnd
    dsimp only
    rw [hN]
    by_cases h : (o : Int) < (N : Int)
    · rw [if_pos h]
      have i0 : rk (mS (φ 41)) (mT (φ 41)) m (o + 1) = rk (mS (φ 41)) (mT (φ 41)) m o → D_X7_rankOf_31 (D_X7_rankOf_4 m φ k) (rk (mS (φ 41)) (mT (φ 41)) m o : Int) o = some (rk (mS (φ 41)) (mT (φ 41)) m N : Int) := fun e => by
        unfold D_X7_rankOf_31 D_X7_rankOf_32 bnd
        dsimp only
        rw [D_flag0]
        unfold bd0
        dsimp only
        rw [w32_id (by omega) (by omega), Int.add_zero, nc1, ← e]
        exact ih (o + 1) (by omega) (by omega)
      by_cases hom : (o : Int) = (m : Int)
      · rw [if_pos hom]
        exact i0 (rk_s0 (fun q => q.1 (by omega)))
      · rw [if_neg hom]
        rcases Classical.em (blw (mS (φ 41)) (mT (φ 41)) o m) with hb | hb
        · rw [D_below1 hb]
          unfold bd0
          dsimp only
          rw [if_neg (by decide)]
          unfold D_X7_rankOf_32 bnd
          dsimp only
          rw [D_flag1 (by decide)]
          unfold bd0
          dsimp only
          rw [w32_id (by omega) (by omega), nc1, nc1]
          have e := rk_s1 (S := mS (φ 41)) (T := mT (φ 41)) (m := m) (o := o) ⟨by omega, hb⟩
          rw [← e]
          exact ih (o + 1) (by omega) (by omega)
        · rw [D_below0 hb]
          unfold bd0
          dsimp only
          rw [if_pos rfl]
          exact i0 (rk_s0 (fun q => hb q.2))
    · rw [if_neg h]
      have e : o = N := by omega
      subst e
      have := rk_lt (mS (φ 41)) (mT (φ 41)) m o hm
      unfold chk
      rw [if_pos ⟨by omega, by omega⟩]
theorem D_rank {φ : Lo} {N m : Nat} (h5 : N ≤ 5) (hN : φ 17 3 = N) (hm : m < N) : D_X7_rankOf φ m = some (rk (mS (φ 41)) (mT (φ 41)) m N : Int) := by
  unfold D_X7_rankOf bnd
  dsimp only
  exact D_rankl h5 hN hm 5000 0 (by omega) (Nat.zero_le _)
theorem D_findl {φ0 : Lo} {N : Nat} (h5 : N ≤ 5) (hN : φ0 17 3 = N) : ∀ (k m : Nat) (φ : Lo), N < k + m → m ≤ N → (∀ r, r ≠ 45 → φ r = φ0 r) → (∀ j, j < m → φ 45 (rk (mS (φ0 41)) (mT (φ0 41)) j N) = j) → ∃ φ' : Lo, D_X7_findRanks_2 k φ m = some φ' ∧ (∀ r, r ≠ 45 → φ' r = φ0 r) ∧ (∀ j, j < N → φ' 45 (rk (mS (φ0 41)) (mT (φ0 41)) j N) = j) := by
  intro k
  induction k with
  | zero => intro m φ h1 h2; omega
  | succ k ih =>
    intro m φ hk hm hr hj
    rw [D_X7_findRanks_2.eq_2]
    unfold bnd
    dsimp only
    have hN2 : φ 17 3 = N := by rw [hr 17 (by decide)]; exact hN
    rw [hN2]
    by_cases h : (m : Int) < (N : Int)
    · have hm2 : m < N := by omega
      rw [if_pos h, D_rank h5 hN2 hm2, hr 41 (by decide)]
      unfold bd0 bns
      dsimp only [tn]
      rw [nc1]
      refine ih (m + 1) _ (by omega) (by omega) (fun r h => by rw [wrl_nr _ _ h]; exact hr r h) (fun j h => ?_)
      rw [wrl_r]
      by_cases q : j = m
      · rw [q, up1_at]
      · rw [up1_ne _ _ (rk_inj (by omega) hm2 q)]
        exact hj j (by omega)
    · rw [if_neg h]
      have e : m = N := by omega
      subst e
      exact ⟨φ, rfl, hr, hj⟩
theorem D_find {φ : Lo} {N : Nat} (h5 : N ≤ 5) (hN : φ 17 3 = N) : ∃ φ' : Lo, D_X7_findRanks φ = some φ' ∧ (∀ r, r ≠ 45 → φ' r = φ r) ∧ (∀ j, j < N → φ' 45 (rk (mS (φ 41)) (mT (φ 41)) j N) = j) := by
  unfold D_X7_findRanks bnd
  dsimp only
  exact D_findl h5 hN 5000 0 φ (by omega) (Nat.zero_le _) (fun _ _ => rfl) (fun j h => absurd h (Nat.not_lt_zero _))
/-! the change of rank -/
def nxt (N f r : Int) : Int := if f = 0 then (r + 1) % N else if f = 1 then (r + N - 1) % N else if f = 2 then (r + 2) % N else N - 1 - r
theorem nxt_in {N f r : Int} (h1 : 1 ≤ N) (h0 : 0 ≤ r) (h : r < N) : 0 ≤ nxt N f r ∧ nxt N f r < N := by
  unfold nxt
  have hn : N ≠ 0 := by omega
  have hp : 0 < N := by omega
  split
  · exact ⟨Int.emod_nonneg _ hn, Int.emod_lt_of_pos _ hp⟩
  · split
    · exact ⟨Int.emod_nonneg _ hn, Int.emod_lt_of_pos _ hp⟩
    · split
      · exact ⟨Int.emod_nonneg _ hn, Int.emod_lt_of_pos _ hp⟩
      · omega
theorem nxt_inj {N f r s : Int} (h1 : 1 ≤ N) (h5 : N ≤ 5) (h0 : 0 ≤ r) (h : r < N) (g0 : 0 ≤ s) (g : s < N) (e : nxt N f r = nxt N f s) : r = s := by
  have hN : N = 1 ∨ N = 2 ∨ N = 3 ∨ N = 4 ∨ N = 5 := by omega
  unfold nxt at e
  rcases hN with rfl | rfl | rfl | rfl | rfl <;> split at e <;> first | omega | (split at e <;> first | omega | (split at e <;> omega))
theorem D_next {φ : Lo} {N f r : Int} (h1 : 1 ≤ N) (h5 : N ≤ 5) (hN : φ 11 8 = N) (h0 : 0 ≤ r) (h : r < N) : D_X1_nextRank φ f r = some (nxt N f r) := by
  unfold D_X1_nextRank nxt bnd chk
  dsimp only
  rw [hN, if_neg (by omega)]
  by_cases f0 : f = 0
  · rw [if_pos f0, if_pos f0, if_pos h1]
  · rw [if_neg f0, if_neg f0]
    by_cases f1 : f = 1
    · rw [if_pos f1, if_pos f1, if_pos (by omega), if_pos h1]
    · rw [if_neg f1, if_neg f1]
      by_cases f2 : f = 2
      · rw [if_pos f2, if_pos f2, if_pos h1]
      · rw [if_neg f2, if_neg f2, if_pos ⟨by omega, by omega⟩]
theorem D_goes {φ : Lo} {N f r : Int} (h1 : 1 ≤ N) (h5 : N ≤ 5) (hN : φ 17 3 = N) (h0 : 0 ≤ r) (h : r < N) : D_X7_goesTo φ r f = some (nxt N f r) := by
  unfold D_X7_goesTo nxt bnd chk
  dsimp only
  rw [hN]
  by_cases f0 : f = 0
  · rw [if_pos f0, if_pos f0, if_pos h1]
  · rw [if_neg f0, if_neg f0]
    by_cases f1 : f = 1
    · rw [if_pos f1, if_pos f1, if_pos (by omega), if_pos h1]
    · rw [if_neg f1, if_neg f1]
      by_cases f2 : f = 2
      · rw [if_pos f2, if_pos f2, if_pos h1]
      · rw [if_neg f2, if_neg f2, if_pos ⟨by omega, by omega⟩]
