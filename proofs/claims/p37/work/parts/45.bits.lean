/-! the words of the functions, by explicit steps (no check by unfolding) -/
theorem bnd_e {α : Type} (v : Int) (k : Int → Option α) : bnd v k = k v := by
  have h : ∀ o, k v = o → bnd v k = o := fun o e => e
  exact h _ rfl
theorem bns_e {S α : Type} (v : S) (k : S → Option α) : bns v k = k v := by
  have h : ∀ o, k v = o → bns v k = o := fun o e => e
  exact h _ rfl
theorem bd0_e {α : Type} (v : Int) (k : Int → Option α) : bd0 (some v) k = k v := by
  have h : ∀ o, k v = o → bd0 (some v) k = o := fun o e => e
  exact h _ rfl
theorem bd1_e {S α : Type} (v : S) (k : S → Option α) : bd1 (some v) k = k v := by
  have h : ∀ o, k v = o → bd1 (some v) k = o := fun o e => e
  exact h _ rfl
theorem bd2_e {S α : Type} (v : Int) (s : S) (k : Int → S → Option α) : bd2 (some (v, s)) k = k v s := by
  have h : ∀ o, k v s = o → bd2 (some (v, s)) k = o := fun o e => e
  exact h _ rfl
theorem chk_e {α : Type} {p : Prop} {i : Decidable p} (h : p) (k : Option α) : @chk α p i k = k := if_pos h
/-! bits -/
def pc (x : Int) : Int := x % 2 + x / 2 % 2 + x / 4 % 2 + x / 8 % 2 + x / 16 % 2
theorem pc_in (x : Int) : 0 ≤ pc x ∧ pc x ≤ 5 := by unfold pc; omega
theorem D_bcn : ∀ n : Nat, n < 32 → D_bitCount (n : Int) = some (pc n) := by decide +kernel
theorem D_bon : ∀ n : Nat, n < 32 → D_X7_bitsOf (n : Int) = some (pc n) := by decide +kernel
theorem kinb : ∀ x : Nat, x < 32 → ∀ m : Nat, m < 5 → (b_and (b_shr x m) 1 = 0 ∧ b_xor x (b_shl 1 m) = b_or x (b_shl 1 m) ∧ 0 ≤ b_or x (b_shl 1 m) ∧ b_or x (b_shl 1 m) ≤ 31 ∧ pc (b_or x (b_shl 1 m)) = pc x + 1 ∧ b_and x (b_xor (b_shl 1 m) (-1)) = x) ∨ (b_and (b_shr x m) 1 = 1 ∧ b_xor x (b_shl 1 m) = b_and x (b_xor (b_shl 1 m) (-1)) ∧ 0 ≤ b_and x (b_xor (b_shl 1 m) (-1)) ∧ b_and x (b_xor (b_shl 1 m) (-1)) ≤ 31 ∧ pc (b_and x (b_xor (b_shl 1 m) (-1))) + 1 = pc x ∧ b_or x (b_shl 1 m) = x) := by decide +kernel
theorem rbb : ∀ w : Nat, w < 5 → ∀ x : Nat, x < 2 ^ w → 0 ≤ b_or x (b_shl 1 w) ∧ b_or x (b_shl 1 w) < 2 ^ (w + 1) := by decide +kernel
theorem orz : ∀ x : Nat, x < 32 → ∀ w : Nat, w < 5 → b_or x (b_shl 0 w) = x := by decide +kernel
theorem nat_of {x : Int} {b : Nat} (h0 : 0 ≤ x) (h1 : x < b) : ∃ n : Nat, n < b ∧ x = n := ⟨x.toNat, by omega, by omega⟩
theorem D_bc {x : Int} (h0 : 0 ≤ x) (h1 : x ≤ 31) : D_bitCount x = some (pc x) := by
  obtain ⟨n, hn, rfl⟩ := nat_of (b := 32) h0 (by omega)
  exact D_bcn n hn
theorem D_bo {x : Int} (h0 : 0 ≤ x) (h1 : x ≤ 31) : D_X7_bitsOf x = some (pc x) := by
  obtain ⟨n, hn, rfl⟩ := nat_of (b := 32) h0 (by omega)
  exact D_bon n hn
/-- who is ROUND: of the first w WOMEN -/
def rb (P : Nat → Int) : Nat → Int
  | 0 => 0
  | w + 1 => if P w = w then b_or (rb P w) (b_shl 1 w) else rb P w
theorem c0 : ((0 : Nat) : Int) = 0 := rfl
theorem rb_0 (P : Nat → Int) : rb P 0 = 0 := rfl
theorem rb_s1 {P : Nat → Int} {w : Nat} (h : P w = w) : rb P (w + 1) = b_or (rb P w) (b_shl 1 w) := if_pos h
theorem rb_s0 {P : Nat → Int} {w : Nat} (h : ¬ P w = w) : rb P (w + 1) = rb P w := if_neg h
theorem rb_in (P : Nat → Int) : ∀ w, w ≤ 5 → 0 ≤ rb P w ∧ rb P w < 2 ^ w
  | 0, _ => by unfold rb; decide
  | w + 1, h => by
    have ih := rb_in P w (by omega)
    unfold rb
    by_cases q : P w = w
    · rw [if_pos q]
      obtain ⟨n, hn, e⟩ := nat_of (x := rb P w) (b := 2 ^ w) ih.1 (by have := ih.2; rw [Int.natCast_pow]; exact this)
      rw [e]
      exact rbb w (by omega) n hn
    · rw [if_neg q]
      refine ⟨ih.1, Int.lt_of_lt_of_le ih.2 ?_⟩
      rw [Int.pow_succ]
      have : (0 : Int) < 2 ^ w := Int.pow_pos (by decide)
      omega
theorem rb_31 (P : Nat → Int) {w : Nat} (h : w ≤ 5) : 0 ≤ rb P w ∧ rb P w ≤ 31 := by
  have h1 := rb_in P w h
  have h2 : (2 : Int) ^ w ≤ 32 := by
    rcases (show w = 0 ∨ w = 1 ∨ w = 2 ∨ w = 3 ∨ w = 4 ∨ w = 5 by omega) with rfl | rfl | rfl | rfl | rfl | rfl <;> decide
  omega
theorem rb_cg {P Q : Nat → Int} : ∀ w, (∀ i, i < w → P i = Q i) → rb P w = rb Q w
  | 0, _ => rfl
  | w + 1, h => by
    unfold rb
    rw [rb_cg w (fun i hi => h i (by omega)), h w (Nat.lt_succ_self _)]
theorem D_rbs {φ : Lo} {N : Nat} (hN : φ 11 8 = N) (k w : Nat) (a : Int) (h : (w : Int) < N) : D_X1_roundBits_4 φ (k + 1) a w = D_X1_roundBits_4 φ k (if φ 27 w = w then b_or a (b_shl 1 w) else a) ((w + 1 : Nat) : Int) := by
  rw [D_X1_roundBits_4.eq_2]
  simp only [bnd_e, D_X1_roundBits_28.eq_1]
  rw [hN, if_pos h, tn, nc1]
  by_cases q : φ 27 w = (w : Int)
  · rw [if_pos q, if_pos q]
  · rw [if_neg q, if_neg q]
theorem D_rbe {φ : Lo} {N : Nat} (hN : φ 11 8 = N) (k w : Nat) (a : Int) (h : ¬ (w : Int) < N) : D_X1_roundBits_4 φ (k + 1) a w = some a := by
  rw [D_X1_roundBits_4.eq_2]
  simp only [bnd_e]
  rw [hN, if_neg h]
theorem D_rbl {φ : Lo} {N : Nat} (h5 : N ≤ 5) (hN : φ 11 8 = N) : ∀ (k w : Nat), N < k + w → w ≤ N → D_X1_roundBits_4 φ k (rb (φ 27) w) w = some (rb (φ 27) N) := by
  intro k
  induction k with
  | zero => intro w h1 h2; omega
  | succ k ih =>
    intro w hk hw
    by_cases h : (w : Int) < (N : Int)
    · rw [D_rbs hN k w _ h]
      exact ih (w + 1) (by omega) (by omega)
    · rw [D_rbe hN k w _ h]
      have e : w = N := by omega
      rw [e]
theorem D_rb {φ : Lo} {N : Nat} (h5 : N ≤ 5) (hN : φ 11 8 = N) : D_X1_roundBits φ = some (rb (φ 27) N) := by
  unfold D_X1_roundBits bnd
  generalize hk : (5000 : Nat) = k
  have h := D_rbl h5 hN k 0 (by omega) (Nat.zero_le _)
  rw [rb_0, c0] at h
  exact h
theorem D_mrl {M : Lo} {N : Nat} (h5 : N ≤ 5) (hN : M 17 3 = N) : ∀ (k w : Nat), N < k + w → w ≤ N → D_X7_round_4 M k (rb (fun i => M 41 (20 + i)) w) w = some (rb (fun i => M 41 (20 + i)) N) := by
  intro k
  induction k with
  | zero => intro w h1 h2; omega
  | succ k ih =>
    intro w hk hw
    rw [D_X7_round_4.eq_2]
    unfold bnd D_X7_round_31 bnd
    dsimp only
    rw [hN, show (20 + (w : Int)).toNat = 20 + w by omega]
    by_cases h : (w : Int) < (N : Int)
    · rw [if_pos h]
      have e : rb (fun i => M 41 (20 + i)) (w + 1) = if M 41 (20 + w) = w then b_or (rb (fun i => M 41 (20 + i)) w) (b_shl 1 w) else rb (fun i => M 41 (20 + i)) w := rfl
      have hb := rb_31 (fun i => M 41 (20 + i)) (w := w) (by omega)
      by_cases q : M 41 (20 + w) = (w : Int)
      · rw [if_pos q, D_flag1 (by decide)]
        unfold bd0
        dsimp only
        rw [if_pos q] at e
        rw [← e, nc1]
        exact ih (w + 1) (by omega) (by omega)
      · rw [if_neg q, D_flag0]
        unfold bd0
        dsimp only
        rw [if_neg q] at e
        obtain ⟨n, hn, e2⟩ := nat_of (b := 32) hb.1 (by omega)
        rw [e2, orz n hn w (by omega), ← e2, ← e, nc1]
        exact ih (w + 1) (by omega) (by omega)
    · rw [if_neg h]
      have e : w = N := by omega
      subst e
      rfl
theorem D_mr {M : Lo} {N : Nat} (h5 : N ≤ 5) (hN : M 17 3 = N) : D_X7_round M = some (rb (fun i => M 41 (20 + i)) N) := by
  unfold D_X7_round bnd
  generalize hk : (5000 : Nat) = k
  have h := D_mrl h5 hN k 0 (by omega) (Nat.zero_le _)
  rw [rb_0, c0] at h
  exact h
/-! COUSINS, all of them -/
def kcn (φ : Lo) : Int := pc (φ 20 0) + pc (φ 20 1) + pc (φ 20 2) + pc (φ 20 3) + pc (φ 20 4)
def kc1 (f : Nat → Int) : Nat → Int
  | 0 => 0
  | w + 1 => kc1 f w + pc (f w)
theorem kc1_0 (f : Nat → Int) : kc1 f 0 = 0 := rfl
theorem kc1_in (f : Nat → Int) : ∀ w, 0 ≤ kc1 f w ∧ kc1 f w ≤ 5 * w
  | 0 => by unfold kc1; decide
  | w + 1 => by
    have ih := kc1_in f w
    have := pc_in (f w)
    unfold kc1
    omega
theorem kcn_1 (φ : Lo) : kc1 (φ 20) 5 = kcn φ := by
  unfold kcn kc1 kc1 kc1 kc1 kc1 kc1
  omega
theorem D_akl {φ : Lo} (hk5 : ∀ w, w < 5 → 0 ≤ φ 20 w ∧ φ 20 w ≤ 31) : ∀ (k w : Nat), 5 < k + w → w ≤ 5 → D_X0_allKin_4 φ k (kc1 (φ 20) w) w = some (kc1 (φ 20) 5) := by
  intro k
  induction k with
  | zero => intro w h1 h2; omega
  | succ k ih =>
    intro w hk hw
    rw [D_X0_allKin_4.eq_2]
    unfold bnd
    dsimp only
    rw [tn]
    by_cases h : (w : Int) < 5
    · have hb := hk5 w (by omega)
      have h1 := kc1_in (φ 20) w
      have h2 := pc_in (φ 20 w)
      rw [if_pos h, D_bc hb.1 hb.2]
      unfold bd0
      dsimp only
      rw [w32_id (by omega) (by omega), nc1]
      exact ih (w + 1) (by omega) (by omega)
    · rw [if_neg h]
      have e : w = 5 := by omega
      subst e
      rfl
theorem D_ak {φ : Lo} (hk5 : ∀ w, w < 5 → 0 ≤ φ 20 w ∧ φ 20 w ≤ 31) : D_X0_allKin φ = some (kcn φ) := by
  unfold D_X0_allKin bnd
  generalize hk : (5000 : Nat) = k
  have h := D_akl hk5 k 0 (by omega) (Nat.zero_le _)
  rw [kc1_0, c0, kcn_1] at h
  exact h
theorem D_mkl {φ M : Lo} (hk5 : ∀ w, w < 5 → φ 20 w = M 40 (25 + w) ∧ 0 ≤ φ 20 w ∧ φ 20 w ≤ 31) : ∀ (k w : Nat), 5 < k + w → w ≤ 5 → D_X7_kinMany_4 M k (kc1 (φ 20) w) w = some (kc1 (φ 20) 5) := by
  intro k
  induction k with
  | zero => intro w h1 h2; omega
  | succ k ih =>
    intro w hk hw
    rw [D_X7_kinMany_4.eq_2]
    unfold bnd
    dsimp only
    rw [show (25 + (w : Int)).toNat = 25 + w by omega]
    by_cases h : (w : Int) < 5
    · obtain ⟨e, hb⟩ := hk5 w (by omega)
      have h1 := kc1_in (φ 20) w
      have h2 := pc_in (φ 20 w)
      rw [if_pos h, ← e, D_bo hb.1 hb.2]
      unfold bd0
      dsimp only
      rw [w32_id (by omega) (by omega), nc1]
      exact ih (w + 1) (by omega) (by omega)
    · rw [if_neg h]
      have e : w = 5 := by omega
      subst e
      rfl
theorem D_mk0 {φ M : Lo} (hk5 : ∀ w, w < 5 → φ 20 w = M 40 (25 + w) ∧ 0 ≤ φ 20 w ∧ φ 20 w ≤ 31) (k : Nat) (hk : 5 < k) : D_X7_kinMany_4 M k (kc1 (φ 20) 0) ((0 : Nat) : Int) = some (kc1 (φ 20) 5) := D_mkl hk5 k 0 hk (Nat.zero_le _)
theorem D_mk1 {φ M : Lo} (hk5 : ∀ w, w < 5 → φ 20 w = M 40 (25 + w) ∧ 0 ≤ φ 20 w ∧ φ 20 w ≤ 31) (k : Nat) (hk : 5 < k) : D_X7_kinMany_4 M k 0 0 = some (kcn φ) := by
  have h := D_mk0 hk5 k hk
  rw [kcn_1] at h
  exact h
theorem D_mk {φ M : Lo} (hk5 : ∀ w, w < 5 → φ 20 w = M 40 (25 + w) ∧ 0 ≤ φ 20 w ∧ φ 20 w ≤ 31) : D_X7_kinMany M = some (kcn φ) := by
  have h : ∀ k, 5 < k → (bnd 0 fun x0 => bnd 0 fun x2 => D_X7_kinMany_4 M k x0 x2) = some (kcn φ) := fun k hk => D_mk1 hk5 k hk
  exact h 5000 (by decide)
/-! the reference's rows: copied cell by cell -/
theorem D_stl : ∀ (k i : Nat) (M0 M : Lo), 59 < k + i → i ≤ 59 → (∀ r, r ≠ 41 → M r = M0 r) → (∀ j, j < i → M 41 j = M0 40 j) → ∃ M' : Lo, D_X7_starts_2 k M i = some M' ∧ (∀ r, r ≠ 41 → M' r = M0 r) ∧ (∀ j, j < 59 → M' 41 j = M0 40 j) := by
  intro k
  induction k with
  | zero => intro i M0 M h1 h2; omega
  | succ k ih =>
    intro i M0 M hk hi hr hj
    rw [D_X7_starts_2.eq_2]
    unfold bnd bns
    dsimp only
    rw [tn, nc1]
    by_cases h : (i : Int) < 59
    · rw [if_pos h]
      refine ih (i + 1) M0 _ (by omega) (by omega) (fun r h => by rw [wrl_nr _ _ h]; exact hr r h) (fun j hj2 => ?_)
      rw [wrl_r]
      by_cases q : j = i
      · rw [q, up1_at, hr 40 (by decide)]
      · rw [up1_ne _ _ q]; exact hj j (by omega)
    · rw [if_neg h]
      have e : i = 59 := by omega
      subst e
      exact ⟨M, rfl, hr, hj⟩
theorem D_st (M : Lo) : ∃ M' : Lo, D_X7_starts M = some M' ∧ (∀ r, r ≠ 41 → M' r = M r) ∧ (∀ j, j < 59 → M' 41 j = M 40 j) := by
  unfold D_X7_starts bnd
  dsimp only
  generalize hk : (5000 : Nat) = k
  exact D_stl k 0 M M (by omega) (by omega) (fun _ _ => rfl) (fun j h => absurd h (Nat.not_lt_zero _))
theorem D_sel : ∀ (k i : Nat) (M0 M : Lo), 59 < k + i → i ≤ 59 → (∀ r, r ≠ 40 → M r = M0 r) → (∀ j, j < i → M 40 j = M0 41 j) → (∀ j, i ≤ j → M 40 j = M0 40 j) → ∃ M' : Lo, D_X7_settles_2 k M i = some M' ∧ (∀ r, r ≠ 40 → M' r = M0 r) ∧ (∀ j, j < 59 → M' 40 j = M0 41 j) ∧ (∀ j, 59 ≤ j → M' 40 j = M0 40 j) := by
  intro k
  induction k with
  | zero => intro i M0 M h1 h2; omega
  | succ k ih =>
    intro i M0 M hk hi hr hj hu
    rw [D_X7_settles_2.eq_2]
    unfold bnd bns
    dsimp only
    rw [tn, nc1]
    by_cases h : (i : Int) < 59
    · rw [if_pos h]
      refine ih (i + 1) M0 _ (by omega) (by omega) (fun r h => by rw [wrl_nr _ _ h]; exact hr r h) (fun j hj2 => ?_) (fun j hj2 => ?_)
      · rw [wrl_r]
        by_cases q : j = i
        · rw [q, up1_at, hr 41 (by decide)]
        · rw [up1_ne _ _ q]; exact hj j (by omega)
      · rw [wrl_r, up1_ne _ _ (by omega)]; exact hu j (by omega)
    · rw [if_neg h]
      have e : i = 59 := by omega
      subst e
      exact ⟨M, rfl, hr, hj, hu⟩
theorem D_se (M : Lo) : ∃ M' : Lo, D_X7_settles M = some M' ∧ (∀ r, r ≠ 40 → M' r = M r) ∧ (∀ j, j < 59 → M' 40 j = M 41 j) ∧ (∀ j, 59 ≤ j → M' 40 j = M 40 j) := by
  unfold D_X7_settles bnd
  dsimp only
  generalize hk : (5000 : Nat) = k
  exact D_sel k 0 M M (by omega) (by omega) (fun _ _ => rfl) (fun j h => absurd h (Nat.not_lt_zero _)) (fun _ _ => rfl)
