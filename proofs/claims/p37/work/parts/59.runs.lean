theorem nvb : ∀ n : Nat, n < 6 → ∀ s : Nat, s < 32 → ∀ p : Nat, p < 5 → b_and (b_and (b_shl 1 n - 1) (b_xor s (-1))) (b_xor (b_shl 1 p) (-1)) = b_and (b_shl 1 n - 1) (b_xor (b_or s (b_shl 1 p)) (-1)) := by decide +kernel
theorem sh1b : ∀ p : Nat, p < 5 → 0 ≤ b_shl 1 p ∧ b_shl 1 p ≤ 31 := by decide +kernel
theorem orb {s : Int} {p : Nat} (h0 : 0 ≤ s) (h1 : s ≤ 31) (hp : p < 5) : 0 ≤ b_or s (b_shl 1 p) ∧ b_or s (b_shl 1 p) ≤ 31 := by
  obtain ⟨x, hx, rfl⟩ := nat_of (b := 32) h0 (by omega)
  rcases kinb x hx p hp with ⟨-, -, a, b, -⟩ | ⟨-, -, -, -, -, e⟩
  · exact ⟨a, b⟩
  · rw [e]; omega
theorem tr_part {N : Nat} {φ M : Lo} (hF : FF N φ (M 41)) (hM : M 17 3 = N) (g : Nat → Int) (k : Nat) {w : Nat} (hw : w < N) : ∃ p : Nat, p < 5 ∧ trM g M k 41 (20 + w) = p := by
  obtain ⟨⟨ψ, h1⟩, -, -, -⟩ := trM_ok hF hM g k
  have a := (h1.2.2.2.1 w hw).2.2.2.2
  have b := (h1.2.1 w hw).2.2.2.2
  have n5 := h1.1.2
  exact ⟨(ψ 27 w).toNat, by omega, by omega⟩
theorem cl_never {N : Nat} {σ : Sg} (h : rlS N σ) (p : Int) : CS σ (D_X6_never σ p) (D_X7_never (σ 13) p) := by
  obtain ⟨n1, n2, n5⟩ := rlS_N h
  by_cases hp : 0 ≤ p ∧ p < N
  · obtain ⟨w, hw, rfl⟩ := nat_of hp.1 hp.2
    obtain ⟨M1, F, φ5, s1, s2, n3, hF, f1, f8, fc, s3, c1, c2⟩ := walk_start h
    generalize hgd : (fun i => M1 41 (32 + i)) = g at c2
    -- the reference's loop
    have keyM : ∀ (n k : Nat) (s : Int), F < n + k → k ≤ F → 0 ≤ s → s ≤ 31 → ∃ r, D_X7_never_28 w n (trM g M1 k) s k = some (r, trM g M1 F) ∧ ∀ n', F + 1 < n' + (k + 1) → D_X6_never_31 w n' (gset σ 5 φ5) (b_and (b_shl 1 N - 1) (b_xor s (-1))) ((k + 1 : Nat) : Int) = some (r, gset σ 5 φ5) := by
      intro n
      induction n with
      | zero => intro k s a b; omega
      | succ n ih =>
        intro k s hn hk hs0 hs1
        obtain ⟨-, a2, a3, a4⟩ := trM_ok hF n3 g k
        rw [D_X7_never_28.eq_2]
        simp only [bnd_e, show (31 : Int).toNat = 31 from rfl]
        rw [a2.2 31 (by decide) (by decide), f1, show (20 + (w : Int)).toNat = 20 + w by omega, show (32 + (k : Int)).toNat = 32 + k by omega, a2.2 (32 + k) (by omega) (by omega), show M1 41 (32 + k) = g k by rw [← hgd], a4, a3]
        simp only [bd1_e]
        by_cases c : (k : Int) < (F : Int)
        · obtain ⟨q, hq, eq⟩ := tr_part hF n3 g (k + 1) hw
          have ho := orb hs0 hs1 hq
          rw [if_pos c, eq, nc1]
          obtain ⟨r, r1, r2⟩ := ih (k + 1) (b_or s (b_shl 1 q)) (by omega) (by omega) ho.1 ho.2
          refine ⟨r, r1, fun n' hn' => ?_⟩
          cases n' with
          | zero => omega
          | succ n' =>
            rw [D_X6_never_31.eq_2]
            simp only [bnd_e, gset_at]
            rw [c2.1, if_neg (by omega), D_pb c2 hw, show min (k + 1) F = k + 1 by omega, eq]
            simp only [bd0_e]
            obtain ⟨x, hx, ex⟩ := nat_of (b := 32) hs0 (by omega)
            rw [ex, nvb N (by omega) x hx q hq, ← ex, nc1]
            exact r2 n' (by omega)
        · rw [if_neg c]
          have e : k = F := by omega
          subst e
          refine ⟨_, rfl, fun n' hn' => ?_⟩
          cases n' with
          | zero => omega
          | succ n' =>
            rw [D_X6_never_31.eq_2]
            simp only [bnd_e, gset_at]
            rw [c2.1, if_pos (by omega)]
    obtain ⟨q, hq, eq⟩ := tr_part hF n3 g 0 hw
    have eq : M1 41 (20 + w) = q := eq
    have hb := sh1b q hq
    obtain ⟨r, e1, e2⟩ : ∃ r, D_X7_never_28 w 5000 M1 (b_shl 1 q) 0 = some (r, trM g M1 F) ∧ D_X6_never_31 w 5000 (gset σ 5 φ5) (b_shl 1 N - 1) 0 = some (r, gset σ 5 φ5) := by
      generalize hk : (5000 : Nat) = n
      obtain ⟨r, r1, r2⟩ := keyM n 0 (b_shl 1 q) (by omega) (Nat.zero_le _) hb.1 hb.2
      refine ⟨r, r1, ?_⟩
      obtain ⟨m, rfl⟩ : ∃ m, n = m + 1 := ⟨n - 1, by omega⟩
      have e0 : D_X6_never_31 w (m + 1) (gset σ 5 φ5) (b_shl 1 N - 1) 0 = D_X6_never_31 w m (gset σ 5 φ5) (b_and (b_shl 1 N - 1) (b_xor (b_shl 1 q) (-1))) ((0 + 1 : Nat) : Int) := by
        rw [D_X6_never_31.eq_2]
        simp only [bnd_e, gset_at]
        have hpb := D_pb (k := 0) c2 hw
        rw [show min 0 F = 0 by omega, show trM g M1 0 41 (20 + w) = q from eq] at hpb
        rw [c2.1, if_neg (by omega), show D_X5_partnerBehind φ5 (w : Int) 0 = some (q : Int) from hpb]
        simp only [bd0_e]
        rfl
      rw [e0]
      exact r2 m (by omega)
    refine CS_scr h r ?_ ?_ (sC_g (o := 5) (φ := φ5) (by decide)) (sM_tr2 (k := F) (g := g) s2 hF n3)
    · simp only [D_X6_never.eq_1, D_nob0 n1 hp, bd0_e, if_true, bnd_e, c1, bd1_e]
      rw [gset_ne _ _ (by decide), n1]
      exact e2
    · simp only [D_X7_never.eq_1, D_one1 n2 hp, bd0_e, i10, bnd_e, s1, bd1_e]
      rw [show (20 + (w : Int)).toNat = 20 + w by omega, eq]
      exact e1
  · refine CS_same h (-1) ?_ ?_
    · simp only [D_X6_never.eq_1, D_nob1 n1 hp, bd0_e, i10, bnd_e]
    · simp only [D_X7_never.eq_1, D_one0 n2 hp, bd0_e, if_true, bnd_e]
/-! MEETINGS -/
def mt (K P : Nat → Int) : Nat → Int
  | 0 => 0
  | w + 1 => mt K P w + b_and (b_shr (K w) (P w)) 1
theorem kb01 {x : Int} {p : Nat} (h0 : 0 ≤ x) (h1 : x ≤ 31) (hp : p < 5) : b_and (b_shr x p) 1 = 0 ∨ b_and (b_shr x p) 1 = 1 := by
  obtain ⟨n, hn, rfl⟩ := nat_of (b := 32) h0 (by omega)
  rcases kinb n hn p hp with ⟨a, -⟩ | ⟨a, -⟩
  · exact Or.inl a
  · exact Or.inr a
theorem mt_in {K P : Nat → Int} : ∀ n, (∀ w, w < n → (0 ≤ K w ∧ K w ≤ 31) ∧ ∃ p : Nat, p < 5 ∧ P w = p) → 0 ≤ mt K P n ∧ mt K P n ≤ n
  | 0, _ => by unfold mt; decide
  | n + 1, h => by
    have ih := mt_in n (fun w hw => h w (by omega))
    obtain ⟨a, p, hp, e⟩ := h n (Nat.lt_succ_self _)
    unfold mt
    rw [e]
    rcases kb01 a.1 a.2 hp with q | q <;> rw [q] <;> omega
theorem mt_cg {K P K' P' : Nat → Int} : ∀ n, (∀ w, w < n → K w = K' w ∧ P w = P' w) → mt K P n = mt K' P' n
  | 0, _ => rfl
  | n + 1, h => by
    unfold mt
    rw [mt_cg n (fun w hw => h w (by omega)), (h n (Nat.lt_succ_self _)).1, (h n (Nat.lt_succ_self _)).2]
theorem D_mb {N F k : Nat} {σ : Sg} {g : Nat → Int} {M φ0 : Lo} (n5 : N ≤ 5) (n1 : σ 1 11 8 = N) (hk : ∀ w, w < 5 → 0 ≤ σ 1 20 w ∧ σ 1 20 w ≤ 31) (hF : FF N φ0 (M 41)) (hM : M 17 3 = N) (hW : WK N g M (σ 5) F) : D_X6_meetingsBehind σ k = some (mt (σ 1 20) (fun w => trM g M (min k F) 41 (20 + w)) N) := by
  have key : ∀ (n w : Nat), N < n + w → w ≤ N → D_X6_meetingsBehind_4 k σ n (mt (σ 1 20) (fun w => trM g M (min k F) 41 (20 + w)) w) w = some (mt (σ 1 20) (fun w => trM g M (min k F) 41 (20 + w)) N) := by
    intro n
    induction n with
    | zero => intro w a b; omega
    | succ n ih =>
      intro w hn hw
      rw [D_X6_meetingsBehind_4.eq_2]
      simp only [bnd_e, D_X6_meetingsBehind_41.eq_1]
      rw [n1]
      by_cases c : (w : Int) < (N : Int)
      · obtain ⟨p, hp, e⟩ := tr_part hF hM g (min k F) (w := w) (by omega)
        have hin := mt_in (K := σ 1 20) (P := fun w => trM g M (min k F) 41 (20 + w)) w (fun u hu => ⟨hk u (by omega), tr_part hF hM g (min k F) (by omega)⟩)
        have hs : mt (σ 1 20) (fun w => trM g M (min k F) 41 (20 + w)) (w + 1) = mt (σ 1 20) (fun w => trM g M (min k F) 41 (20 + w)) w + b_and (b_shr (σ 1 20 w) p) 1 := by
          show _ + b_and (b_shr (σ 1 20 w) (trM g M (min k F) 41 (20 + w))) 1 = _
          rw [e]
        have hbw := hk w (by omega)
        rw [if_pos c, D_pb hW (by omega), e]
        simp only [bd0_e, D_X0_areKin.eq_1, bnd_e, tn]
        have ih' := ih (w + 1) (by omega) (by omega)
        rcases kb01 hbw.1 hbw.2 hp with q | q
        · rw [q, Int.add_zero] at hs
          rw [q, if_neg (by decide)]
          simp only [bd0_e, if_true]
          rw [nc1, ← hs]
          exact ih'
        · rw [q] at hs
          rw [q, if_pos rfl]
          simp only [bd0_e, i10]
          rw [w32_id (by omega) (by omega), nc1, ← hs]
          exact ih'
      · rw [if_neg c, show w = N by omega]
  rw [D_X6_meetingsBehind.eq_1]
  simp only [bnd_e]
  generalize hk : (5000 : Nat) = n
  exact key n 0 (by omega) (Nat.zero_le _)
theorem D_mm {N : Nat} {M : Lo} (n5 : N ≤ 5) (hM : M 17 3 = N) (hK : ∀ w, w < N → (0 ≤ M 41 (25 + w) ∧ M 41 (25 + w) ≤ 31) ∧ ∃ p : Nat, p < 5 ∧ M 41 (20 + w) = p) : D_X7_meetings M = some (mt (fun w => M 41 (25 + w)) (fun w => M 41 (20 + w)) N) := by
  have key : ∀ (n w : Nat), N < n + w → w ≤ N → D_X7_meetings_4 M n (mt (fun w => M 41 (25 + w)) (fun w => M 41 (20 + w)) w) w = some (mt (fun w => M 41 (25 + w)) (fun w => M 41 (20 + w)) N) := by
    intro n
    induction n with
    | zero => intro w a b; omega
    | succ n ih =>
      intro w hn hw
      rw [D_X7_meetings_4.eq_2]
      simp only [bnd_e]
      rw [hM, show (25 + (w : Int)).toNat = 25 + w by omega, show (20 + (w : Int)).toNat = 20 + w by omega]
      by_cases c : (w : Int) < (N : Int)
      · obtain ⟨a, p, hp, e⟩ := hK w (by omega)
        have hin := mt_in (K := fun w => M 41 (25 + w)) (P := fun w => M 41 (20 + w)) w (fun u hu => hK u (by omega))
        have hb := kb01 a.1 a.2 hp
        rw [← e] at hb
        rw [if_pos c, w32_id (by omega) (by omega), nc1]
        exact ih (w + 1) (by omega) (by omega)
      · rw [if_neg c, show w = N by omega]
  rw [D_X7_meetings.eq_1]
  simp only [bnd_e]
  generalize hk : (5000 : Nat) = n
  exact key n 0 (by omega) (Nat.zero_le _)
/-- all MEETINGS behind 1 .. k FIGURES; behind how many the first one is -/
def am (f : Nat → Int) : Nat → Int
  | 0 => 0
  | k + 1 => am f k + f (k + 1)
def fm (f : Nat → Int) : Nat → Int
  | 0 => -4
  | k + 1 => if 0 < f (k + 1) ∧ fm f k = -4 then ((k + 1 : Nat) : Int) else fm f k
theorem am_in {f : Nat → Int} (h : ∀ k, 0 ≤ f k ∧ f k ≤ 5) : ∀ k, 0 ≤ am f k ∧ am f k ≤ 5 * k
  | 0 => by unfold am; decide
  | k + 1 => by
    have ih := am_in h k
    have := h (k + 1)
    unfold am
    omega
theorem fm_st {f : Nat → Int} {i : Nat} (h : fm f i ≠ -4) : ∀ d, fm f (i + d) = fm f i
  | 0 => rfl
  | d + 1 => by
    have ih := fm_st h d
    show (if 0 < f (i + d + 1) ∧ fm f (i + d) = -4 then ((i + d + 1 : Nat) : Int) else fm f (i + d)) = fm f i
    rw [if_neg (fun q => h (ih.symm.trans q.2)), ih]
