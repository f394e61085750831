/-! ranks: the class's rows -/
theorem tn (m : Nat) : (m : Int).toNat = m := rfl
theorem nc1 (m : Nat) : (m : Int) + 1 = ((m + 1 : Nat) : Int) := rfl
theorem w32_id {v : Int} (h1 : -2147483648 ≤ v) (h2 : v ≤ 2147483647) : w32 v = v := i_ofI h1 h2
theorem blw_nb {S T : Nat → Int} {a b : Nat} (h : a ≠ b) (h2 : ¬ blw S T a b) : blw S T b a := by
  rcases blw_tot (S := S) (T := T) h with q | q
  · exact absurd q h2
  · exact q
/-- a row that is sorted -/
def srt (S T : Nat → Int) (ρ : Nat → Int) (m : Nat) : Prop := (∀ i, i < m → 0 ≤ ρ i ∧ ρ i < m) ∧ ∀ i k, i < k → k < m → blw S T (ρ i).toNat (ρ k).toNat
/-- .. with a hole at r, while m is put in -/
def hol (S T : Nat → Int) (ρ : Nat → Int) (m r : Nat) : Prop := r ≤ m ∧ (∀ i, i ≤ m → i ≠ r → 0 ≤ ρ i ∧ ρ i < m) ∧ (∀ i k, i < k → k ≤ m → i ≠ r → k ≠ r → blw S T (ρ i).toNat (ρ k).toNat) ∧ ∀ k, r < k → k ≤ m → blw S T m (ρ k).toNat
def up1 (ρ : Nat → Int) (i : Nat) (v : Int) : Nat → Int := fun j => if j = i then v else ρ j
theorem up1_at (ρ : Nat → Int) (i : Nat) (v : Int) : up1 ρ i v i = v := if_pos rfl
theorem up1_ne (ρ : Nat → Int) {i j : Nat} (v : Int) (h : j ≠ i) : up1 ρ i v j = ρ j := if_neg h
theorem wrl_r (φ : Lo) (r i : Nat) (v : Int) : wrl φ r i v r = up1 (φ r) i v := by
  funext j
  unfold wrl up1
  by_cases h : j = i
  · rw [if_pos ⟨rfl, h⟩, if_pos h]
  · rw [if_neg (fun q => h q.2), if_neg h]
theorem hol_of {S T : Nat → Int} {ρ : Nat → Int} {m : Nat} (h : srt S T ρ m) : hol S T ρ m m :=
  ⟨Nat.le_refl _, fun i h1 h2 => h.1 i (by omega), fun i k h1 h2 h3 h4 => h.2 i k h1 (by omega), fun k h1 h2 => absurd h1 (by omega)⟩
theorem hol_sh {S T : Nat → Int} {ρ : Nat → Int} {m r : Nat} (h : hol S T ρ m r) (hr : 0 < r) (hb : blw S T m (ρ (r - 1)).toNat) : hol S T (up1 ρ r (ρ (r - 1))) m (r - 1) := by
  obtain ⟨h1, h2, h3, h4⟩ := h
  refine ⟨by omega, fun i a b => ?_, fun i k a b c d => ?_, fun k a b => ?_⟩
  · by_cases q : i = r
    · subst q; rw [up1_at]; exact h2 (i - 1) (by omega) (by omega)
    · rw [up1_ne _ _ q]; exact h2 i a q
  · by_cases q : i = r
    · subst q
      rw [up1_at, up1_ne _ _ (by omega)]
      exact h3 (i - 1) k (by omega) b (by omega) (by omega)
    · by_cases q2 : k = r
      · subst q2
        rw [up1_at, up1_ne _ _ q]
        exact h3 i (k - 1) (by omega) (by omega) q (by omega)
      · rw [up1_ne _ _ q, up1_ne _ _ q2]
        exact h3 i k a b q q2
  · by_cases q : k = r
    · subst q; rw [up1_at]; exact hb
    · rw [up1_ne _ _ q]; exact h4 k (by omega) b
theorem hol_in {S T : Nat → Int} {ρ : Nat → Int} {m r : Nat} (h : hol S T ρ m r) (hb : 0 < r → ¬ blw S T m (ρ (r - 1)).toNat) : srt S T (up1 ρ r m) (m + 1) := by
  obtain ⟨h1, h2, h3, h4⟩ := h
  refine ⟨fun i a => ?_, fun i k a b => ?_⟩
  · by_cases q : i = r
    · subst q; rw [up1_at]; omega
    · rw [up1_ne _ _ q]
      have := h2 i (by omega) q
      omega
  · by_cases q : i = r
    · subst q
      rw [up1_at, up1_ne _ _ (by omega)]
      exact h4 k a (by omega)
    · by_cases q2 : k = r
      · subst q2
        rw [up1_at, up1_ne _ _ q]
        have e := h2 (k - 1) (by omega) (by omega)
        have hx : blw S T (ρ (k - 1)).toNat m := blw_nb (by omega) (hb (by omega))
        by_cases q3 : i = k - 1
        · rw [q3]; exact hx
        · exact blw_tr (h3 i (k - 1) (by omega) (by omega) q (by omega)) hx
      · rw [up1_ne _ _ q, up1_ne _ _ q2]
        exact h3 i k a (by omega) q q2
theorem srt_rk {S T : Nat → Int} {ρ : Nat → Int} {M : Nat} (h : srt S T ρ M) : ∀ i, i < M → rk S T (ρ i).toNat M = i := by
  have inc : ∀ i k, i < k → k < M → rk S T (ρ i).toNat M < rk S T (ρ k).toNat M := fun i k a b => by
    have h1 := rk_mono (h.2 i k a b) M
    have h2 := h.1 i (by omega)
    rw [if_pos (by omega)] at h1
    omega
  have lo : ∀ i, i < M → i ≤ rk S T (ρ i).toNat M := by
    intro i
    induction i with
    | zero => intro _; exact Nat.zero_le _
    | succ i ih =>
      intro hi
      have h1 := ih (by omega)
      have h2 := inc i (i + 1) (Nat.lt_succ_self _) hi
      omega
  have hi : ∀ d i, i + d + 1 = M → rk S T (ρ i).toNat M ≤ i := by
    intro d
    induction d with
    | zero =>
      intro i e
      have h1 := h.1 i (by omega)
      have h2 := rk_lt S T (ρ i).toNat M (by omega)
      omega
    | succ d ih =>
      intro i e
      have h1 := ih (i + 1) (by omega)
      have h2 := inc i (i + 1) (Nat.lt_succ_self _) (by omega)
      omega
  intro i h1
  have h2 := lo i h1
  have h3 := hi (M - 1 - i) i (by omega)
  omega
theorem srt_at {S T : Nat → Int} {ρ : Nat → Int} {M : Nat} (h : srt S T ρ M) {j : Nat} (hj : j < M) : ρ (rk S T j M) = j := by
  have h1 := rk_lt S T j M hj
  have h2 := srt_rk h (rk S T j M) h1
  have h3 := h.1 _ h1
  by_cases q : (ρ (rk S T j M)).toNat = j
  · omega
  · exact absurd h2 (rk_inj (by omega) hj q)
/-! the functions -/
theorem D_stature (φ : Lo) (m : Nat) : D_X1_stature φ m = some (stt (φ 51 m) (φ 52 m) (φ 53 m)) := by
  unfold D_X1_stature stt bnd
  dsimp only [tn]
  by_cases h2 : φ 51 m = 2
  · rw [if_pos h2, if_pos h2]
  · rw [if_neg h2, if_neg h2]
    by_cases h3 : φ 51 m = 3
    · rw [if_pos h3, if_pos h3]
    · rw [if_neg h3, if_neg h3]
theorem D_stands1 {φ : Lo} {a b : Nat} (h : φ 55 a < φ 55 b ∨ (φ 55 a = φ 55 b ∧ φ 54 b < φ 54 a)) : D_X1_standsAhead φ a b = some 1 := by
  unfold D_X1_standsAhead D_X1_standsAhead_37 D_X1_standsAhead_41 bnd
  dsimp only [tn]
  by_cases h1 : φ 55 a - φ 55 b < 0
  · rw [if_pos h1]
  · rw [if_neg h1, if_pos (by omega), if_pos (by omega)]
theorem D_stands0 {φ : Lo} {a b : Nat} (h : ¬ (φ 55 a < φ 55 b ∨ (φ 55 a = φ 55 b ∧ φ 54 b < φ 54 a))) : D_X1_standsAhead φ a b = some 0 := by
  unfold D_X1_standsAhead D_X1_standsAhead_37 D_X1_standsAhead_41 bnd
  dsimp only [tn]
  rw [if_neg (by omega)]
  by_cases h1 : φ 55 a - φ 55 b = 0
  · rw [if_pos h1, if_neg (by omega)]
  · rw [if_neg h1]
/-- all but the rows of ranks is as it was -/
def ofr (φ φ' : Lo) : Prop := ∀ r, r ≠ 55 → r ≠ 28 → r ≠ 29 → φ' r = φ r
theorem ofr_rf (φ : Lo) : ofr φ φ := fun _ _ _ _ => rfl
theorem ofr_tr {φ φ' φ'' : Lo} (h2 : ofr φ' φ'') (h : ofr φ φ') : ofr φ φ'' := fun r a b c => (h2 r a b c).trans (h r a b c)
theorem ofr_w {φ : Lo} {r i : Nat} {v : Int} (hr : r = 55 ∨ r = 28 ∨ r = 29) : ofr φ (wrl φ r i v) := fun r' a b c => wrl_nr _ _ (by omega)
theorem lu_in {S T : Nat → Int} (r2 : Lo → Int → Option Lo) (m : Nat) : ∀ (k r : Nat) (φ : Lo), r < k → hol S T (φ 28) m r → (∀ j, j ≤ m → φ 55 j = S j) → (∀ j, j ≤ m → φ 54 j = T j) → ∃ φ' : Lo, D_X1_lineUp_23 r2 m k φ r = r2 φ' ((m + 1 : Nat) : Int) ∧ srt S T (φ' 28) (m + 1) ∧ (∀ r, r ≠ 28 → φ' r = φ r) := by
  have ex : ∀ (r : Nat) (φ : Lo), hol S T (φ 28) m r → (0 < r → ¬ blw S T m (φ 28 (r - 1)).toNat) → ∃ φ' : Lo, D_X1_lineUp_63 r2 r m φ = r2 φ' ((m + 1 : Nat) : Int) ∧ srt S T (φ' 28) (m + 1) ∧ (∀ r, r ≠ 28 → φ' r = φ r) := by
    intro r φ h hb
    refine ⟨wrl φ 28 r m, rfl, ?_, fun r h => wrl_nr _ _ h⟩
    rw [wrl_r]
    exact hol_in h hb
  intro k
  induction k with
  | zero => intro r φ h; exact absurd h (Nat.not_lt_zero _)
  | succ k ih =>
    intro r φ hk h hS hT
    rw [D_X1_lineUp_23.eq_2]
    by_cases hr : (0 : Int) < (r : Int)
    · rw [if_pos hr]
      unfold bnd
      dsimp only
      have e1 : ((r : Int) - 1).toNat = r - 1 := by omega
      rw [e1]
      have hv := h.2.1 (r - 1) (by have := h.1; omega) (by omega)
      obtain ⟨j, hj⟩ : ∃ j : Nat, φ 28 (r - 1) = j := ⟨(φ 28 (r - 1)).toNat, by omega⟩
      have hjm : j < m := by omega
      have s1 := hS m (Nat.le_refl _)
      have s2 := hS j (by omega)
      have t1 := hT m (Nat.le_refl _)
      have t2 := hT j (by omega)
      have hiff : blw S T m j ↔ (φ 55 m < φ 55 j ∨ (φ 55 m = φ 55 j ∧ φ 54 j < φ 54 m)) := by
        unfold blw
        rw [s1, s2, t1, t2]
        omega
      rw [hj]
      rcases Classical.em (blw S T m j) with hb | hb
      · rw [D_stands1 (hiff.mp hb)]
        unfold bd0
        dsimp only
        rw [if_neg (by decide)]
        have e2 : ((r : Int) + (-1)) = ((r - 1 : Nat) : Int) := by omega
        rw [e2, tn]
        have hh := hol_sh h (by omega) (by rw [hj, tn]; exact hb)
        obtain ⟨φ', q1, q2, q3⟩ := ih (r - 1) (wrl φ 28 r j) (by omega) (by rw [wrl_r, ← hj]; exact hh) (fun j h => by rw [wrl_nr _ _ (by decide)]; exact hS j h) (fun j h => by rw [wrl_nr _ _ (by decide)]; exact hT j h)
        exact ⟨φ', q1, q2, fun r h => by rw [q3 r h, wrl_nr _ _ h]⟩
      · rw [D_stands0 (fun q => hb (hiff.mpr q))]
        unfold bd0
        dsimp only
        rw [if_pos rfl]
        exact ex r φ h (fun _ => by rw [hj, tn]; exact hb)
    · rw [if_neg hr]
      exact ex r φ h (fun q => absurd q (by omega))
theorem lu_last {N : Nat} : ∀ (k r : Nat) (φ : Lo), N < k + r → φ 11 8 = N → r ≤ N → (∀ i, i < N → 0 ≤ φ 28 i) → (∀ i j, i < j → j < N → φ 28 i ≠ φ 28 j) → (∀ i, i < r → φ 29 (φ 28 i).toNat = i) → ∃ φ' : Lo, D_X1_lineUp_78 k φ r = some φ' ∧ (∀ i, i < N → φ' 29 (φ 28 i).toNat = i) ∧ (∀ r, r ≠ 29 → φ' r = φ r) := by
  intro k
  induction k with
  | zero => intro r φ h _ h2; omega
  | succ k ih =>
    intro r φ hk hN hr h0 hi hd
    rw [D_X1_lineUp_78.eq_2]
    unfold bnd
    dsimp only
    rw [hN]
    by_cases h : (r : Int) < (N : Int)
    · rw [if_pos h]
      unfold bns
      dsimp only [tn]
      rw [nc1]
      have hrN : r < N := by omega
      have w28 : ∀ v, wrl φ 29 (φ 28 r).toNat v 28 = φ 28 := fun v => wrl_nr _ _ (by decide)
      obtain ⟨φ', q1, q2, q3⟩ := ih (r + 1) (wrl φ 29 (φ 28 r).toNat r) (by omega) (by rw [wrl_nr _ _ (by decide)]; exact hN) (by omega) (fun i h => by rw [w28]; exact h0 i h) (fun i j a b => by rw [w28]; exact hi i j a b) (fun i h3 => by
        rw [w28, wrl_r]
        by_cases q : i = r
        · rw [q, up1_at]
        · rw [up1_ne _ _ (fun e => by have a := h0 i (by omega); have b := h0 r hrN; have c := hi i r (by omega) hrN; omega)]
          exact hd i (by omega))
      refine ⟨φ', q1, fun i h => ?_, fun r h => by rw [q3 r h, wrl_nr _ _ h]⟩
      have := q2 i h
      rw [w28] at this
      exact this
    · rw [if_neg h]
      have : r = N := by omega
      subst this
      exact ⟨φ, rfl, hd, fun _ _ => rfl⟩
theorem lu_out {S T : Nat → Int} {N : Nat} (h5 : N ≤ 5) : ∀ (k m : Nat) (φ : Lo), N < k + m → φ 11 8 = N → m ≤ N → (∀ j, j < N → stt (φ 51 j) (φ 52 j) (φ 53 j) = S j) → (∀ j, j < N → φ 54 j = T j) → (∀ j, j < m → φ 55 j = S j) → srt S T (φ 28) m → ∃ φ' : Lo, D_X1_lineUp_2 k φ m = some φ' ∧ ofr φ φ' ∧ srt S T (φ' 28) N ∧ (∀ i, i < N → φ' 29 (φ' 28 i).toNat = i) := by
  intro k
  induction k with
  | zero => intro m φ h _ h2; omega
  | succ k ih =>
    intro m φ hk hN hm hS hT h55 hs
    rw [D_X1_lineUp_2.eq_2]
    unfold bnd
    dsimp only
    rw [hN]
    by_cases h : (m : Int) < (N : Int)
    · rw [if_pos h, D_stature, hS m (by omega)]
      unfold bd0 bns
      dsimp only [tn]
      have hmN : m < N := by omega
      obtain ⟨φ1, q1, q2, q3⟩ := lu_in (S := S) (T := T) (D_X1_lineUp_2 k) m 5000 m (wrl φ 55 m (S m)) (by omega) (by rw [wrl_nr _ _ (by decide)]; exact hol_of hs) (fun j hj => by
        rw [wrl_r]
        by_cases q : j = m
        · rw [q, up1_at]
        · rw [up1_ne _ _ q]; exact h55 j (by omega)) (fun j hj => by rw [wrl_nr _ _ (by decide)]; exact hT j (by omega))
      rw [q1]
      have p : ∀ r, r ≠ 55 → r ≠ 28 → φ1 r = φ r := fun r a b => by rw [q3 r b, wrl_nr _ _ a]
      obtain ⟨φ', a1, a2, a3, a4⟩ := ih (m + 1) φ1 (by omega) (by rw [p 11 (by decide) (by decide)]; exact hN) (by omega) (fun j hj => by rw [p 51 (by decide) (by decide), p 52 (by decide) (by decide), p 53 (by decide) (by decide)]; exact hS j hj) (fun j hj => by rw [p 54 (by decide) (by decide)]; exact hT j hj) (fun j hj => by
        rw [q3 55 (by decide), wrl_r]
        by_cases q : j = m
        · rw [q, up1_at]
        · rw [up1_ne _ _ q]; exact h55 j (by omega)) q2
      exact ⟨φ', a1, ofr_tr a2 (fun r a b c => p r a b), a3, a4⟩
    · rw [if_neg h]
      have : m = N := by omega
      subst this
      obtain ⟨φ', q1, q2, q3⟩ := lu_last (N := m) 5000 0 φ (by omega) hN (Nat.zero_le _) (fun i hi => (hs.1 i hi).1) (fun i j a b e => by
        have h7 := hs.2 i j a b
        rw [e] at h7
        exact blw_ir h7) (fun i hi => absurd hi (Nat.not_lt_zero _))
      refine ⟨φ', q1, fun r a b c => q3 r c, ?_, fun i hi => ?_⟩
      · rw [q3 28 (by decide)]; exact hs
      · rw [q3 28 (by decide)]; exact q2 i hi
/-- lineUp: each MAN stands at his rank -/
theorem D_lineUp {φ : Lo} {N : Nat} (h5 : N ≤ 5) (hN : φ 11 8 = N) {S T : Nat → Int} (hS : ∀ j, j < N → stt (φ 51 j) (φ 52 j) (φ 53 j) = S j) (hT : ∀ j, j < N → φ 54 j = T j) : ∃ φ' : Lo, D_X1_lineUp φ = some φ' ∧ ofr φ φ' ∧ ∀ j, j < N → φ' 28 (rk S T j N) = j ∧ φ' 29 j = (rk S T j N : Int) := by
  obtain ⟨φ', h1, h2, h3, h4⟩ := lu_out (S := S) (T := T) h5 5000 0 φ (by omega) hN (Nat.zero_le _) hS hT (fun j hj => absurd hj (Nat.not_lt_zero _)) ⟨fun i h => absurd h (Nat.not_lt_zero _), fun i k _ h => absurd h (Nat.not_lt_zero _)⟩
  refine ⟨φ', h1, h2, fun j hj => ?_⟩
  have e := srt_at h3 hj
  refine ⟨e, ?_⟩
  have h6 := h4 _ (rk_lt S T j N hj)
  rw [e, tn] at h6
  exact h6
