/-! odds: LUCK and MEAN -/
theorem w64_id {v : Int} (h1 : -1000000000000 ≤ v) (h2 : v ≤ 1000000000000) : w64 v = v := Int64.toInt_ofInt_of_le (by omega) (by omega)
def wgt (a : Int) (s : Nat) : Nat → Int
  | 0 => 1
  | m + 1 => wgt a s m * (if b_and (b_shr s m) 1 = 1 then a else 10 - a)
theorem wgt_in {a : Int} (h0 : 0 ≤ a) (h1 : a ≤ 10) (s : Nat) : ∀ m, 0 ≤ wgt a s m ∧ wgt a s m ≤ 10 ^ m
  | 0 => by unfold wgt; decide
  | m + 1 => by
    obtain ⟨x, y⟩ := wgt_in h0 h1 s m
    have k : ∀ z : Int, 0 ≤ z → z ≤ 10 → 0 ≤ wgt a s m * z ∧ wgt a s m * z ≤ 10 ^ (m + 1) := fun z p q => ⟨Int.mul_nonneg x p, by rw [Int.pow_succ]; exact Int.mul_le_mul y q p (Int.le_of_lt (Int.pow_pos (by decide)))⟩
    unfold wgt
    split
    · exact k a h0 h1
    · exact k (10 - a) (by omega) (by omega)
theorem wgt_5 {a : Int} (h0 : 0 ≤ a) (h1 : a ≤ 10) (s : Nat) {m : Nat} (h : m ≤ 5) : 0 ≤ wgt a s m ∧ wgt a s m ≤ 100000 := by
  have k := wgt_in h0 h1 s m
  rcases (show m = 0 ∨ m = 1 ∨ m = 2 ∨ m = 3 ∨ m = 4 ∨ m = 5 by omega) with rfl | rfl | rfl | rfl | rfl | rfl <;> exact ⟨k.1, Int.le_trans k.2 (by decide)⟩
theorem wrl_id (φ : Lo) (r i : Nat) : wrl φ r i (φ r i) = φ := by
  funext r' i'
  unfold wrl
  by_cases c : r' = r ∧ i' = i
  · rw [if_pos c, c.1, c.2]
  · rw [if_neg c]
theorem D_pg {N F : Nat} {φ M : Lo} (hF : FF N φ (M 41)) (hM : M 17 3 = N) (h31 : M 41 31 = F) (hF8 : F ≤ 8) : D_X7_programGoes M = some (trM (fun i => M 41 (32 + i)) M F) := by
  generalize hg : (fun i => M 41 (32 + i)) = g
  have hgi : ∀ i, g i = M 41 (32 + i) := fun i => by rw [← hg]
  have key : ∀ n k, F < n + k → k ≤ F → D_X7_programGoes_2 n (trM g M k) k = some (trM g M F) := by
    intro n
    induction n with
    | zero => intro k a b; omega
    | succ n ih =>
      intro k hn hk
      obtain ⟨-, t2, t3, t4⟩ := trM_ok hF hM g k
      rw [D_X7_programGoes_2.eq_2]
      simp only [bnd_e]
      rw [show (31 : Int).toNat = 31 from rfl, t2.2 31 (by decide) (by decide), h31]
      by_cases c : (k : Int) < (F : Int)
      · rw [if_pos c, show (32 + (k : Int)).toNat = 32 + k by omega, t2.2 (32 + k) (by omega) (by omega), ← hgi, t4]
        simp only [bd1_e]
        rw [nc1]
        exact ih (k + 1) (by omega) (by omega)
      · rw [if_neg c, show k = F by omega]
  rw [D_X7_programGoes.eq_1]
  simp only [bnd_e]
  generalize hk : (5000 : Nat) = n
  exact key n 0 (by omega) (Nat.zero_le _)
theorem brk {N : Nat} {σ : Sg} (h : rlS N σ) (s : Nat) (r12 : Lo → Int → Option Lo) {a : Int} (a0 : 0 ≤ a) (a1 : a ≤ 10) (p : Int) : ∀ (n m : Nat) (φ M : Lo), N < n + m → m ≤ N → FF N φ (M 41) → M 17 3 = N → (∀ j, 25 ≤ j → j < 59 → j ≠ 30 → M 41 j = σ 13 40 j) → ∃ (v : Int) (φ' M' : Lo), D_X6_roundWithBroken_19 s n (gset σ 5 φ) m = some (v, gset σ 5 φ') ∧ D_X7_findOdds_32 r12 a p s n M (wgt a s m) m = (if b_and (b_shr v p) 1 = 1 then D_X7_findOdds_134 r12 (M' 17 19) s (wgt a s N) M' (wgt a s N) else D_X7_findOdds_134 r12 (M' 17 19) s (wgt a s N) M' 0) ∧ v = rb (fun i => M' 41 (20 + i)) N ∧ (∀ r, r ≠ 41 → r ≠ 45 → M' r = M r) := by
  obtain ⟨n1, n2, n5⟩ := rlS_N h
  obtain ⟨k1, ⟨f1, f2, f3⟩, f4, f5, f6, f7⟩ := h.1.2.2
  obtain ⟨F, hF9, hf⟩ := nat_of (b := 9) f2 (by omega)
  intro n
  induction n with
  | zero => intro m φ M x y; omega
  | succ n ih =>
    intro m φ M hn hm hF hM hj
    have g1 : gset σ 5 φ 1 = σ 1 := gset_ne _ _ (by decide)
    rw [D_X6_roundWithBroken_19.eq_2, D_X7_findOdds_32.eq_2]
    simp only [bnd_e, bns_e, D_X6_roundWithBroken_55.eq_1, D_X7_findOdds_56.eq_1, D_X7_findOdds_75.eq_1, D_X7_findOdds_98.eq_1, if_true, i10]
    rw [g1, n1, hM]
    by_cases c : (m : Int) < (N : Int)
    · have hW : ∀ z, (if b_and (b_shr s m) 1 = 1 then a else 10 - a) = z → w64 (wgt a s m * z) = wgt a s (m + 1) := fun z hz => by
        rw [← hz]
        have k := wgt_5 a0 a1 s (m := m + 1) (by omega)
        exact w64_id (v := wgt a s (m + 1)) (by omega) (by omega)
      rw [if_pos c, if_pos c, nc1]
      by_cases d : b_and (b_shr s m) 1 = 1
      · have b0 := D_bec M m 2 0
        rw [show ((2 : Nat) : Int) = 2 from rfl] at b0
        rw [if_pos d, if_pos d, hW a (if_pos d), b0]
        simp only [bd1_e]
        rw [tn, wr_g]
        obtain ⟨v, φ', M', q1, q2, q3, q4⟩ := ih (m + 1) (wrl φ 53 m 0) (wrl M 41 (4 * m + 2) 0) (by omega) (by omega) (by rw [wrl_r]; exact FF_up hF (by omega) (Or.inr (Or.inr (Or.inl ⟨rfl, rfl, by decide, by decide⟩)))) (by rw [wrl_nr _ _ (by decide)]; exact hM) (fun j x y z => by rw [wrl_ni _ _ (by omega), hj j x y z])
        exact ⟨v, φ', M', q1, q2, q3, fun r x y => by rw [q4 r x y, wrl_nr _ _ x]⟩
      · have b0 := D_bec M m 2 (M 41 (4 * m + 2))
        have b1 := D_ofm M m 2
        rw [show ((2 : Nat) : Int) = 2 from rfl] at b0 b1
        rw [wrl_id] at b0
        rw [if_neg d, if_neg d, w32_id (by omega) (by omega), hW (10 - a) (if_neg d), b1]
        simp only [bd0_e]
        rw [b0]
        simp only [bd1_e]
        exact ih (m + 1) φ M (by omega) (by omega) hF hM hj
    · have em : m = N := by omega
      obtain ⟨φ', d1, d2⟩ := D_fol (σ := gset σ 5 φ) (g := fun i => M 41 (32 + i)) (F := F) (a := 1) (by rw [gset_at]; exact hF) hM (by decide) (by rw [g1]; exact hf) (by omega) (fun i hi => by rw [g1, f4 i (by omega), hj _ (by omega) (by omega) (by omega)])
      rw [gset_gset] at d1
      obtain ⟨-, t2, t3, -⟩ := trM_ok hF hM (fun i => M 41 (32 + i)) F
      rw [if_neg c, if_neg c, d1, D_pg hF hM (by rw [hj 31 (by decide) (by decide) (by decide), ← f1]; exact hf) (by omega)]
      simp only [bd1_e, gset_at]
      rw [D_rb n5 d2.2.1.1.1, D_mr n5 t3, rb_cg (Q := fun i => trM (fun i => M 41 (32 + i)) M F 41 (20 + i)) (P := φ' 27) N (fun i hi => (d2.2.1.2.1 i hi).2.2.2.2)]
      simp only [bd0_e]
      rw [em]
      exact ⟨_, φ', _, rfl, rfl, rfl, fun r x y => t2.1 r x y⟩
theorem odd134 {N : Nat} {M : Lo} (n5 : N ≤ 5) (hM : M 17 3 = N) (r12 : Lo → Int → Option Lo) (s : Nat) (W t : Int) : D_X7_findOdds_134 r12 (M 17 19) s W M t = r12 (wrl (wrl M 17 19 (w64 (M 17 19 + t))) 17 20 (w64 (M 17 20 + w64 (W * pc (rb (fun i => M 41 (20 + i)) N))))) ((s + 1 : Nat) : Int) := by
  have r5 := rb_31 (fun i => M 41 (20 + i)) n5
  have e : D_X7_round (wrl M 17 19 (w64 (M 17 19 + t))) = some (rb (fun i => M 41 (20 + i)) N) := by
    rw [D_mr n5 (by rw [wrl_ni _ _ (by decide)]; exact hM), wrl_nr _ _ (show (41 : Nat) ≠ 17 by decide)]
  rw [D_X7_findOdds_134.eq_1]
  simp only [bnd_e, bns_e]
  rw [e]
  simp only [bd0_e]
  rw [D_bo r5.1 r5.2]
  simp only [bd0_e]
  rw [wrl_ni M _ (show (20 : Nat) ≠ 19 by decide), nc1]
/-- one set of broken shoes -/
theorem odd1 {N : Nat} {σ : Sg} (h : rlS N σ) {s : Nat} (hs : s < 2 ^ N) {a : Int} (a0 : 0 ≤ a) (a1 : a ≤ 10) (p : Int) (n : Nat) (φ : Lo) {M : Lo} (hS : sM (σ 13) M) : ∃ (v t : Int) (φ' M' : Lo), D_X6_roundWithBroken (gset σ 5 φ) s = some (v, gset σ 5 φ') ∧ D_X7_findOdds_12 a p (n + 1) M s = D_X7_findOdds_12 a p n M' ((s + 1 : Nat) : Int) ∧ (0 ≤ v ∧ v < 2 ^ N) ∧ sM (σ 13) M' ∧ (b_and (b_shr v p) 1 = 1 ∧ t = wgt a s N ∨ b_and (b_shr v p) 1 ≠ 1 ∧ t = 0) ∧ M' 17 19 = w64 (M 17 19 + t) ∧ M' 17 20 = w64 (M 17 20 + w64 (wgt a s N * pc v)) := by
  obtain ⟨n1, n2, n5⟩ := rlS_N h
  have m3 : M 17 3 = N := by rw [hS.2.1]; exact n2
  obtain ⟨sN, sN2⟩ := shN N (by omega)
  have m40 : M 40 = σ 13 40 := hS.1 40 (by decide) (by decide) (by decide) (by decide) (by decide) (by decide)
  obtain ⟨M1, s1, s2, s3⟩ := D_st M
  have n3 : M1 17 3 = N := by rw [s2 17 (by decide)]; exact m3
  have e41 : ∀ j, j < 59 → M1 41 j = σ 13 40 j := fun j hj => by rw [s3 j hj, m40]
  have hF1 : FF N (σ 1) (M1 41) := FF_st h.1.2.1 e41
  obtain ⟨φ0, c1, c2⟩ := D_cf (σ := gset σ 5 φ) (o := 5) (a := 1) (N := N) (by decide) n5 (by rw [gset_ne _ _ (by decide)]; exact n1)
  rw [gset_gset] at c1
  rw [gset_ne σ φ (show (1 : Nat) ≠ 5 by decide)] at c2
  obtain ⟨v, φ', M2, q1, q2, q3, q4⟩ : ∃ (v : Int) (φ' M' : Lo), D_X6_roundWithBroken_19 s 5000 (gset σ 5 φ0) 0 = some (v, gset σ 5 φ') ∧ D_X7_findOdds_32 (D_X7_findOdds_12 a p n) a p s 5000 M1 1 0 = (if b_and (b_shr v p) 1 = 1 then D_X7_findOdds_134 (D_X7_findOdds_12 a p n) (M' 17 19) s (wgt a s N) M' (wgt a s N) else D_X7_findOdds_134 (D_X7_findOdds_12 a p n) (M' 17 19) s (wgt a s N) M' 0) ∧ v = rb (fun i => M' 41 (20 + i)) N ∧ (∀ r, r ≠ 41 → r ≠ 45 → M' r = M1 r) := by
    generalize hk : (5000 : Nat) = m
    exact brk h s (D_X7_findOdds_12 a p n) a0 a1 p m 0 φ0 M1 (by omega) (Nat.zero_le _) (FF_cpd hF1 c2) n3 (fun j _ y _ => e41 j y)
  have m17 : M2 17 = M 17 := by rw [q4 17 (by decide) (by decide), s2 17 (by decide)]
  have m3' : M2 17 3 = N := by rw [m17]; exact m3
  have hS2 : ∀ x y : Int, sM (σ 13) (wrl (wrl M2 17 19 x) 17 20 y) := fun x y => by
    have z : ∀ i, i ≠ 19 → i ≠ 20 → wrl (wrl M2 17 19 x) 17 20 y 17 i = M 17 i := fun i u w => by rw [wrl_ni _ _ w, wrl_ni _ _ u, m17]
    refine sM_tr ⟨fun r r1 r2 r3 r4 r5 r6 => ?_, z 3 (by decide) (by decide), z 10 (by decide) (by decide), z 15 (by decide) (by decide), z 24 (by decide) (by decide)⟩ hS
    rw [wrl_nr _ _ r1, wrl_nr _ _ r1, q4 r r2 r4, s2 r r2]
  have hv := rb_in (fun i => M2 41 (20 + i)) N n5
  rw [← q3] at hv
  have k1 : D_X6_roundWithBroken (gset σ 5 φ) s = some (v, gset σ 5 φ') := by
    rw [D_X6_roundWithBroken.eq_1, c1]
    simp only [bd1_e, bnd_e]
    exact q1
  have k2 : D_X7_findOdds_12 a p (n + 1) M s = (if b_and (b_shr v p) 1 = 1 then D_X7_findOdds_134 (D_X7_findOdds_12 a p n) (M2 17 19) s (wgt a s N) M2 (wgt a s N) else D_X7_findOdds_134 (D_X7_findOdds_12 a p n) (M2 17 19) s (wgt a s N) M2 0) := by
    rw [D_X7_findOdds_12.eq_2]
    simp only [bnd_e]
    rw [m3, sN, if_pos (by omega), s1]
    simp only [bd1_e]
    exact q2
  by_cases d : b_and (b_shr v p) 1 = 1
  · rw [if_pos d, odd134 n5 m3', ← q3] at k2
    refine ⟨v, wgt a s N, φ', _, k1, k2, hv, hS2 _ _, Or.inl ⟨d, rfl⟩, ?_, ?_⟩
    · rw [wrl_ni _ _ (by decide), wrl_at, m17]
    · rw [wrl_at, m17]
  · rw [if_neg d, odd134 n5 m3', ← q3] at k2
    refine ⟨v, 0, φ', _, k1, k2, hv, hS2 _ _, Or.inr ⟨d, rfl⟩, ?_, ?_⟩
    · rw [wrl_ni _ _ (by decide), wrl_at, m17]
    · rw [wrl_at, m17]
