/-! the greatest common divisor -/
theorem lcm0 {b : Nat} (h : b ≠ 0) : ¬ l_cm (b : Int) 0 = 0 := by
  unfold l_cm
  rw [if_neg (by omega), if_neg (by omega)]
  decide
theorem lcm00 : l_cm 0 0 = 0 := rfl
theorem gcd_st (a b : Nat) : Nat.gcd a b = Nat.gcd b (a % b) := by rw [Nat.gcd_comm a b, Nat.gcd_rec b a, Nat.gcd_comm]
theorem mod_h {b c : Nat} (hc : 0 < c) (hb : c < b) : 2 * (b % c) < b := by
  have h1 := Nat.mod_lt b hc
  have h2 := Nat.div_add_mod b c
  have h3 : 1 ≤ b / c := (Nat.one_le_div_iff hc).2 (by omega)
  have h4 : c * 1 ≤ c * (b / c) := Nat.mul_le_mul_left c h3
  omega
theorem gcC1 {n a b i : Nat} (hb : b ≠ 0) (hi : i < 100) : D_X6_greatestCommon_9 (n + 1) a b i = D_X6_greatestCommon_9 n b ((a % b : Nat) : Int) ((i + 1 : Nat) : Int) := by
  rw [D_X6_greatestCommon_9.eq_2]
  simp only [bnd_e]
  rw [if_pos (by omega), if_neg (lcm0 hb), chk_e (by omega), ← Int.ofNat_tmod, nc1]
theorem gcC0 {n a i : Nat} (hi : i < 100) : D_X6_greatestCommon_9 (n + 1) a ((0 : Nat) : Int) i = some (a : Int) := by
  rw [D_X6_greatestCommon_9.eq_2]
  simp only [bnd_e]
  rw [if_pos (by omega), c0, if_pos lcm00]
theorem gcM1 {n a b : Nat} (hb : b ≠ 0) : D_X7_common_6 (n + 1) a b = D_X7_common_6 n b ((a % b : Nat) : Int) := by
  rw [D_X7_common_6.eq_2]
  simp only [bnd_e]
  rw [if_neg (lcm0 hb), chk_e (by omega), ← Int.ofNat_tmod]
theorem gcM0 {n a : Nat} : D_X7_common_6 (n + 1) a ((0 : Nat) : Int) = some (a : Int) := by
  rw [D_X7_common_6.eq_2]
  simp only [bnd_e]
  rw [c0, if_pos lcm00]
theorem gcC : ∀ (t n i a b : Nat), b < 2 ^ t → 2 * t + 1 ≤ n → i + 2 * t + 1 ≤ 100 → D_X6_greatestCommon_9 n a b i = some ((Nat.gcd a b : Nat) : Int) := by
  intro t
  induction t with
  | zero =>
    intro n i a b hb hn hi
    obtain ⟨m, rfl⟩ : ∃ m, n = m + 1 := ⟨n - 1, by omega⟩
    have : b = 0 := by omega
    subst this
    rw [gcC0 (by omega), Nat.gcd_zero_right]
  | succ t ih =>
    intro n i a b hb hn hi
    obtain ⟨m, rfl⟩ : ∃ m, n = m + 1 + 1 := ⟨n - 2, by omega⟩
    by_cases h0 : b = 0
    · subst h0
      rw [gcC0 (by omega), Nat.gcd_zero_right]
    · rw [gcC1 h0 (by omega), gcd_st a b]
      by_cases h1 : a % b = 0
      · rw [h1, gcC0 (by omega), Nat.gcd_zero_right]
      · rw [gcC1 h1 (by omega), gcd_st b (a % b)]
        have q := mod_h (b := b) (c := a % b) (by omega) (Nat.mod_lt _ (by omega))
        exact ih m (i + 1 + 1) (a % b) (b % (a % b)) (by rw [Nat.pow_succ] at hb; omega) (by omega) (by omega)
theorem gcM : ∀ (t n a b : Nat), b < 2 ^ t → 2 * t + 1 ≤ n → D_X7_common_6 n a b = some ((Nat.gcd a b : Nat) : Int) := by
  intro t
  induction t with
  | zero =>
    intro n a b hb hn
    obtain ⟨m, rfl⟩ : ∃ m, n = m + 1 := ⟨n - 1, by omega⟩
    have : b = 0 := by omega
    subst this
    rw [gcM0, Nat.gcd_zero_right]
  | succ t ih =>
    intro n a b hb hn
    obtain ⟨m, rfl⟩ : ∃ m, n = m + 1 + 1 := ⟨n - 2, by omega⟩
    by_cases h0 : b = 0
    · subst h0
      rw [gcM0, Nat.gcd_zero_right]
    · rw [gcM1 h0, gcd_st a b]
      by_cases h1 : a % b = 0
      · rw [h1, gcM0, Nat.gcd_zero_right]
      · rw [gcM1 h1, gcd_st b (a % b)]
        have q := mod_h (b := b) (c := a % b) (by omega) (Nat.mod_lt _ (by omega))
        exact ih m (a % b) (b % (a % b)) (by rw [Nat.pow_succ] at hb; omega) (by omega)
theorem frac_eq {y T : Nat} (hy : y < 2 ^ 24) (hT0 : 0 < T) (hT : T < 2 ^ 24) (p : Int) : ∃ r, D_X6_fraction y T p = some r ∧ D_X7_told y T p = some r := by
  have e1 : D_X6_greatestCommon y T = some ((Nat.gcd y T : Nat) : Int) := by
    rw [D_X6_greatestCommon.eq_1]
    simp only [bnd_e]
    generalize hk : (5000 : Nat) = n
    exact gcC 24 n 0 y T hT (by omega) (by omega)
  have e2 : D_X7_common T y = some ((Nat.gcd y T : Nat) : Int) := by
    rw [D_X7_common.eq_1, Nat.gcd_comm]
    generalize hk : (5000 : Nat) = n
    exact gcM 24 n T y hy (by omega)
  have hg : Nat.gcd y T ≠ 0 := Nat.pos_iff_ne_zero.1 (Nat.gcd_pos_of_pos_right y hT0)
  rw [D_X6_fraction.eq_1, D_X7_told.eq_1, e1, e2]
  simp only [bd0_e, bnd_e]
  rw [if_neg (lcm0 hg)]
  by_cases d : p = 0
  · rw [if_pos d, chk_e (by omega)]
    exact ⟨_, rfl, rfl⟩
  · rw [if_neg d, chk_e (by omega)]
    exact ⟨_, rfl, rfl⟩
theorem pw10 : ∀ N : Nat, N < 6 → D_X6_power 10 N = some ((10 ^ N : Nat) : Int) ∧ D_X7_power 10 N = some ((10 ^ N : Nat) : Int) ∧ 0 < 10 ^ N ∧ 10 ^ N < 2 ^ 24 := by decide +kernel
theorem pww : ∀ N : Nat, N < 6 → ∀ s : Nat, s < 2 ^ N → ∀ a : Nat, a < 11 → bd0 (D_X6_power (a : Int) (pc s)) (fun x => bd0 (D_X6_power (w32 (10 - (a : Int))) ((N : Int) - pc s)) (fun y => some (w64 (x * y)))) = some (wgt a s N) := by decide +kernel
theorem mul_5 {W q : Int} (h0 : 0 ≤ W) (h1 : W ≤ 100000) (q0 : 0 ≤ q) (q1 : q ≤ 5) : 0 ≤ W * q ∧ W * q ≤ 500000 := ⟨Int.mul_nonneg h0 q0, by
  have := Int.mul_le_mul h1 q1 q0 (by decide : (0 : Int) ≤ 100000)
  omega⟩
theorem weigh {N : Nat} {σ : Sg} (h : rlS N σ) {A : Nat} (hA : A < 11) (p mask : Int) {c : Nat} (hc : ∀ (v t W : Int) (M M' : Lo), 0 ≤ v → v < 2 ^ N → 0 ≤ W → W ≤ 100000 → (b_and (b_shr v p) 1 = 1 ∧ t = W ∨ b_and (b_shr v p) 1 ≠ 1 ∧ t = 0) → M' 17 19 = w64 (M 17 19 + t) → M' 17 20 = w64 (M 17 20 + w64 (W * pc v)) → M' 17 c = w64 (M 17 c + W * pc (b_and v mask)) ∧ (0 ≤ b_and v mask ∧ b_and v mask ≤ 31)) : ∀ (n s : Nat) (φ M : Lo), 2 ^ N < n + s → s ≤ 2 ^ N → sM (σ 13) M → (0 ≤ M 17 c ∧ M 17 c ≤ 500000 * s) → ∃ (φ' M' : Lo), D_X6_weighed_17 A mask N n (gset σ 5 φ) (M 17 c) s = some (M' 17 c, gset σ 5 φ') ∧ D_X7_findOdds_12 A p n M s = some M' ∧ sM (σ 13) M' ∧ (0 ≤ M' 17 c ∧ M' 17 c ≤ 16000000) := by
  obtain ⟨n1, n2, n5⟩ := rlS_N h
  obtain ⟨sN, sN2⟩ := shN N (by omega)
  intro n
  induction n with
  | zero => intro s φ M x y; omega
  | succ n ih =>
    intro s φ M hn hs hS hy
    have m3 : M 17 3 = N := by rw [hS.2.1]; exact n2
    rw [D_X6_weighed_17.eq_2]
    simp only [bnd_e, D_X6_weighed_79.eq_1]
    rw [sN]
    by_cases d : s < 2 ^ N
    · obtain ⟨v, t, φ1, M1, q1, q2, q3, q4, q5, q6, q7⟩ := odd1 h d (a := A) (by omega) (by omega) p n φ hS
      have hW := wgt_5 (a := A) (by omega) (by omega) s n5
      obtain ⟨x, x1, x2⟩ := bd0_s (pww N (by omega) s d A hA)
      obtain ⟨y, y1, y2⟩ := bd0_s x2
      have y3 : w64 (x * y) = wgt A s N := Option.some.inj y2
      obtain ⟨hc1, hc2, hc3⟩ := hc v t (wgt A s N) M M1 q3.1 q3.2 hW.1 hW.2 q5 q6 q7
      have pv := pc_in (b_and v mask)
      have mb := mul_5 hW.1 hW.2 pv.1 pv.2
      have y0 : M1 17 c = M 17 c + wgt A s N * pc (b_and v mask) := by rw [hc1, w64_id (by omega) (by omega)]
      rw [if_pos (by omega), D_bc (x := s) (by omega) (by omega)]
      simp only [bd0_e]
      rw [x1]
      simp only [bd0_e]
      rw [y1]
      simp only [bd0_e]
      rw [y3, q2, nc1]
      by_cases e : wgt A s N = 0
      · rw [e, if_pos lcm00]
        rw [e, Int.zero_mul, Int.add_zero] at y0
        rw [← y0]
        exact ih (s + 1) φ M1 (by omega) (by omega) q4 (by rw [y0]; omega)
      · have e' : ¬ l_cm (wgt A s N) 0 = 0 := by
          unfold l_cm
          rw [if_neg (by omega), if_neg e]
          decide
        rw [if_neg e', q1]
        simp only [bd2_e]
        rw [D_bc hc2 hc3]
        simp only [bd0_e]
        rw [w64_id (v := wgt A s N * pc (b_and v mask)) (by omega) (by omega), w64_id (v := M 17 c + wgt A s N * pc (b_and v mask)) (by omega) (by omega), ← y0]
        exact ih (s + 1) φ1 M1 (by omega) (by omega) q4 (by rw [y0]; omega)
    · rw [if_neg (by omega)]
      refine ⟨φ, M, rfl, ?_, hS, hy.1, by omega⟩
      rw [D_X7_findOdds_12.eq_2]
      simp only [bnd_e]
      rw [m3, sN, if_neg (by omega)]
theorem odds {N : Nat} {σ : Sg} (h : rlS N σ) {A : Nat} (hA : A < 11) (p mask q : Int) {c : Nat} (hcc : c = 19 ∨ c = 20) (hc : ∀ (v t W : Int) (M M' : Lo), 0 ≤ v → v < 2 ^ N → 0 ≤ W → W ≤ 100000 → (b_and (b_shr v p) 1 = 1 ∧ t = W ∨ b_and (b_shr v p) 1 ≠ 1 ∧ t = 0) → M' 17 19 = w64 (M 17 19 + t) → M' 17 20 = w64 (M 17 20 + w64 (W * pc v)) → M' 17 c = w64 (M 17 c + W * pc (b_and v mask)) ∧ (0 ≤ b_and v mask ∧ b_and v mask ≤ 31)) : ∃ (r y T : Int) (φ' M' : Lo), D_X6_weighed σ A mask = some (y, gset σ 5 φ') ∧ D_X7_findOdds (σ 13) A p = some M' ∧ sM (σ 13) M' ∧ M' 17 c = y ∧ D_X6_power 10 N = some T ∧ D_X7_power 10 N = some T ∧ D_X6_fraction y T q = some r ∧ D_X7_told y T q = some r := by
  obtain ⟨n1, n2, n5⟩ := rlS_N h
  obtain ⟨sN, sN2⟩ := shN N (by omega)
  obtain ⟨p1, p2, p3, p4⟩ := pw10 N (by omega)
  have hS0 : sM (σ 13) (wrl (wrl (σ 13) 17 19 0) 17 20 0) := by
    have z : ∀ i, i ≠ 19 → i ≠ 20 → wrl (wrl (σ 13) 17 19 0) 17 20 0 17 i = σ 13 17 i := fun i u w => by rw [wrl_ni _ _ w, wrl_ni _ _ u]
    refine ⟨fun r r1 r2 r3 r4 r5 r6 => ?_, z 3 (by decide) (by decide), z 10 (by decide) (by decide), z 15 (by decide) (by decide), z 24 (by decide) (by decide)⟩
    rw [wrl_nr _ _ r1, wrl_nr _ _ r1]
  have z0 : wrl (wrl (σ 13) 17 19 0) 17 20 0 17 c = 0 := by
    rcases hcc with rfl | rfl
    · rw [wrl_ni _ _ (by decide), wrl_at]
    · rw [wrl_at]
  obtain ⟨φ', M', q1, q2, q3, q4⟩ : ∃ (φ' M' : Lo), D_X6_weighed_17 A mask N 5000 (gset σ 5 (σ 5)) 0 0 = some (M' 17 c, gset σ 5 φ') ∧ D_X7_findOdds_12 A p 5000 (wrl (wrl (σ 13) 17 19 0) 17 20 0) 0 = some M' ∧ sM (σ 13) M' ∧ (0 ≤ M' 17 c ∧ M' 17 c ≤ 16000000) := by
    generalize hk : (5000 : Nat) = n
    have w := weigh h hA p mask hc n 0 (σ 5) (wrl (wrl (σ 13) 17 19 0) 17 20 0) (by omega) (Nat.zero_le _) hS0 (by rw [z0]; decide)
    rw [z0] at w
    exact w
  rw [gset_self] at q1
  obtain ⟨Y, hY, ey⟩ := nat_of (x := M' 17 c) (b := 2 ^ 24) q4.1 (by omega)
  obtain ⟨r, r1, r2⟩ := frac_eq hY p3 p4 q
  rw [← ey] at r1 r2
  refine ⟨r, M' 17 c, _, φ', M', ?_, ?_, q3, rfl, p1, p2, r1, r2⟩
  · rw [D_X6_weighed.eq_1]
    simp only [bnd_e]
    rw [n1]
    exact q1
  · rw [D_X7_findOdds.eq_1]
    simp only [bnd_e, bns_e]
    exact q2
theorem lub : ∀ v : Nat, v < 32 → ∀ p : Nat, p < 5 → (b_and (b_shr v p) 1 = 1 ∧ pc (b_and v (b_shl 1 p)) = 1 ∨ b_and (b_shr v p) 1 ≠ 1 ∧ pc (b_and v (b_shl 1 p)) = 0) ∧ 0 ≤ b_and v (b_shl 1 p) ∧ b_and v (b_shl 1 p) ≤ 31 := by decide +kernel
theorem meb : ∀ N : Nat, N < 6 → ∀ v : Nat, v < 2 ^ N → b_and v (b_shl 1 N - 1) = v := by decide +kernel
theorem cl_luck {N : Nat} {σ : Sg} (h : rlS N σ) (a p q : Int) : CS σ (D_X6_luck σ a p q) (D_X7_luck (σ 13) a p q) := by
  obtain ⟨n1, n2, n5⟩ := rlS_N h
  obtain ⟨sN, sN2⟩ := shN N (by omega)
  by_cases ha : 0 ≤ a ∧ a ≤ 10
  · by_cases hp : 0 ≤ p ∧ p < N
    · by_cases hq : 0 ≤ q ∧ q ≤ 1
      · obtain ⟨A, hA, rfl⟩ := nat_of (x := a) (b := 11) ha.1 (by omega)
        obtain ⟨P, hP, rfl⟩ := nat_of (x := p) (b := N) hp.1 hp.2
        obtain ⟨r, y, T, φ', M', q1, q2, q3, q4, q5, q6, q7, q8⟩ := odds h hA P (b_shl 1 P) q (c := 19) (Or.inl rfl) (fun v t W M M' v0 v1 w0 w1 ht e1 e2 => by
          have v2 : (2 : Int) ^ N ≤ 32 := by
            have := sN2
            rw [show (2 : Int) ^ N = ((2 ^ N : Nat) : Int) by rw [Int.natCast_pow]; rfl]
            omega
          obtain ⟨V, hV, rfl⟩ := nat_of (x := v) (b := 32) v0 (by omega)
          obtain ⟨l1, l2⟩ := lub V hV P (by omega)
          refine ⟨?_, l2⟩
          rw [e1]
          rcases l1 with ⟨x1, x2⟩ | ⟨x1, x2⟩
          · rcases ht with ⟨y1, y2⟩ | ⟨y1, y2⟩
            · rw [x2, y2, Int.mul_one]
            · exact absurd x1 y1
          · rcases ht with ⟨y1, y2⟩ | ⟨y1, y2⟩
            · exact absurd y1 x1
            · rw [x2, y2, Int.mul_zero])
        refine CS_scr h r ?_ ?_ (sC_g (o := 5) (φ := φ') (by decide)) q3
        · simp only [D_X6_luck.eq_1, bnd_e, D_nob0 n1 hp, bd0_e, if_true]
          rw [if_neg (by omega), if_neg (by omega), if_neg (by omega), if_neg (by omega), q1]
          simp only [bd2_e]
          rw [gset_ne _ _ (by decide), n1, q5]
          simp only [bd0_e]
          rw [q7]
          simp only [bd0_e]
        · simp only [D_X7_luck.eq_1, bnd_e]
          rw [D_in1 ha.1 ha.2, D_one1 n2 hp, D_prt1 hq]
          simp only [bd0_e, i10]
          rw [q2]
          simp only [bd1_e]
          rw [q3.2.1, n2, q6]
          simp only [bd0_e]
          rw [q4, q8]
          simp only [bd0_e]
      · refine CS_same h (-1) ?_ ?_
        · simp only [D_X6_luck.eq_1, bnd_e, D_nob0 n1 hp, bd0_e, if_true]
          rw [if_neg (by omega), if_neg (by omega)]
          by_cases c : q < 0
          · rw [if_pos c]
          · rw [if_neg c, if_pos (by omega)]
        · simp only [D_X7_luck.eq_1, bnd_e]
          rw [D_in1 ha.1 ha.2, D_one1 n2 hp, D_prt0 hq]
          simp only [bd0_e, i10, if_true]
    · refine CS_same h (-1) ?_ ?_
      · simp only [D_X6_luck.eq_1, bnd_e, D_nob1 n1 hp, bd0_e, i10]
        rw [if_neg (by omega), if_neg (by omega)]
      · simp only [D_X7_luck.eq_1, bnd_e]
        rw [D_in1 ha.1 ha.2, D_one0 n2 hp]
        simp only [bd0_e, i10, if_true]
  · refine CS_same h (-1) ?_ ?_
    · simp only [D_X6_luck.eq_1, bnd_e]
      by_cases c : a < 0
      · rw [if_pos c]
      · rw [if_neg c, if_pos (by omega)]
    · simp only [D_X7_luck.eq_1, bnd_e]
      rw [D_in0 (by omega)]
      simp only [bd0_e, if_true]
theorem cl_mean {N : Nat} {σ : Sg} (h : rlS N σ) (a q : Int) : CS σ (D_X6_mean σ a q) (D_X7_mean (σ 13) a q) := by
  obtain ⟨n1, n2, n5⟩ := rlS_N h
  obtain ⟨sN, sN2⟩ := shN N (by omega)
  by_cases ha : 0 ≤ a ∧ a ≤ 10
  · by_cases hq : 0 ≤ q ∧ q ≤ 1
    · obtain ⟨A, hA, rfl⟩ := nat_of (x := a) (b := 11) ha.1 (by omega)
      obtain ⟨r, y, T, φ', M', q1, q2, q3, q4, q5, q6, q7, q8⟩ := odds h hA 0 (b_shl 1 N - 1) q (c := 20) (Or.inr rfl) (fun v t W M M' v0 v1 w0 w1 ht e1 e2 => by
        have v3 : (2 : Int) ^ N = ((2 ^ N : Nat) : Int) := by rw [Int.natCast_pow]; rfl
        obtain ⟨V, hV, rfl⟩ := nat_of (x := v) (b := 2 ^ N) v0 (by rw [← v3]; exact v1)
        rw [meb N (by omega) V hV]
        have pv := pc_in V
        have mb := mul_5 w0 w1 pv.1 pv.2
        refine ⟨?_, by omega, by omega⟩
        rw [e2, w64_id (v := W * pc V) (by omega) (by omega)])
      refine CS_scr h r ?_ ?_ (sC_g (o := 5) (φ := φ') (by decide)) q3
      · simp only [D_X6_mean.eq_1, bnd_e]
        rw [if_neg (by omega), if_neg (by omega), if_neg (by omega), if_neg (by omega), n1, q1]
        simp only [bd2_e]
        rw [gset_ne _ _ (by decide), n1, q5]
        simp only [bd0_e]
        rw [q7]
        simp only [bd0_e]
      · simp only [D_X7_mean.eq_1, bnd_e]
        rw [D_in1 ha.1 ha.2, D_prt1 hq]
        simp only [bd0_e, i10]
        rw [q2]
        simp only [bd1_e]
        rw [q3.2.1, n2, q6]
        simp only [bd0_e]
        rw [q4, q8]
        simp only [bd0_e]
    · refine CS_same h (-1) ?_ ?_
      · simp only [D_X6_mean.eq_1, bnd_e]
        rw [if_neg (by omega), if_neg (by omega)]
        by_cases c : q < 0
        · rw [if_pos c]
        · rw [if_neg c, if_pos (by omega)]
      · simp only [D_X7_mean.eq_1, bnd_e]
        rw [D_in1 ha.1 ha.2, D_prt0 hq]
        simp only [bd0_e, i10, if_true]
  · refine CS_same h (-1) ?_ ?_
    · simp only [D_X6_mean.eq_1, bnd_e]
      by_cases c : a < 0
      · rw [if_pos c]
      · rw [if_neg c, if_pos (by omega)]
    · simp only [D_X7_mean.eq_1, bnd_e]
      rw [D_in0 (by omega)]
      simp only [bd0_e, if_true]
