/-! COINS -/
theorem shN : ∀ n : Nat, n < 6 → b_shl 1 n = ((2 ^ n : Nat) : Int) ∧ 2 ^ n ≤ 32 := by decide +kernel
theorem cob : ∀ v : Nat, v < 32 → ∀ p : Nat, p < 32 → (b_and (v : Int) (p : Int) = p ↔ b_and (p : Int) (b_xor (v : Int) (-1)) = 0) := by decide +kernel
theorem cl_coins {N : Nat} {σ : Sg} (h : rlS N σ) (p : Int) : CS σ (D_X6_coins σ p) (D_X7_coins (σ 13) p) := by
  obtain ⟨n1, n2, n5⟩ := rlS_N h
  obtain ⟨k1, ⟨f1, f2, f3⟩, f4, f5, f6, f7⟩ := h.1.2.2
  obtain ⟨F, hF9, hf⟩ := nat_of (b := 9) f2 (by omega)
  obtain ⟨sN, sN2⟩ := shN N (by omega)
  by_cases hp : 0 ≤ p ∧ p < ((2 ^ N : Nat) : Int)
  · obtain ⟨P, hP, rfl⟩ := nat_of (x := p) (b := 32) hp.1 (by omega)
    by_cases h5 : F ≤ 5
    · obtain ⟨sF, sF2⟩ := shN F (by omega)
      generalize 2 ^ F = T at sF sF2
      have key : ∀ (n k : Nat) (φ M : Lo) (few few' : Int), T < n + k → k ≤ T → sM (σ 13) M → (few = -4 ∧ few' = 1000000 ∨ few' = few ∧ 0 ≤ few ∧ few ≤ 5) → ∃ (r : Int) (φ' M' : Lo), D_X6_coins_41 P n (gset σ 5 φ) few k = some (r, gset σ 5 φ') ∧ (∀ n', T < n' + k → D_X7_coins_39 P n' M few' k = some (r, M')) ∧ sM (σ 13) M' := by
        intro n
        induction n with
        | zero => intro k φ M a b c d; omega
        | succ n ih =>
          intro k φ M few few' hn hk hS hfw
          have m40 : M 40 = σ 13 40 := hS.1 40 (by decide) (by decide) (by decide) (by decide) (by decide) (by decide)
          rw [D_X6_coins_41.eq_2]
          simp only [bnd_e, D_X6_coins_72.eq_1, D_X6_coins_77.eq_1, D_X6_coins_98.eq_1]
          rw [gset_ne _ _ (by decide), hf, sF]
          by_cases c : (k : Int) < (T : Int)
          · obtain ⟨v, φ', M2, r1, r2, r3, r4, r5, -⟩ := rr h φ M hS k
            obtain ⟨V, hV, rfl⟩ := nat_of (x := v) (b := 32) r5.1 (by omega)
            have pk := pc_in k
            rw [if_pos c, D_bc (x := k) (by omega) (by omega)]
            simp only [bd0_e, if_true, i10]
            have ms : ∀ m, D_X7_coins_39 P (m + 1) M few' k = D_X7_coins_39 P m M2 (if b_and (V : Int) (P : Int) = P ∧ pc k < few' then pc k else few') ((k + 1 : Nat) : Int) := fun m => by
              rw [D_X7_coins_39.eq_2]
              simp only [bnd_e, D_X7_coins_80.eq_1, D_X7_coins_81.eq_1, D_X7_coins_96.eq_1]
              rw [show (31 : Int).toNat = 31 from rfl, m40, ← f1, hf, sF, if_pos c, r2]
              simp only [bd1_e, r4, bd0_e, if_true, i10]
              rw [D_bo (x := k) (by omega) (by omega)]
              simp only [bd0_e]
              rw [nc1]
              by_cases d : b_and (V : Int) (P : Int) = P
              · rw [if_pos ((cob V hV P hP).1 d)]
                by_cases e : pc k < few'
                · rw [if_pos e, if_pos ⟨d, e⟩]
                · rw [if_neg e, if_neg (fun q => e q.2)]
              · rw [if_neg (fun q => d ((cob V hV P hP).2 q)), if_neg (fun q => d q.1)]
            have cs : (if few = -4 then bd2 (D_X6_roundRepeating (gset σ 5 φ) k) (fun r86 σ => if b_and r86 P = P then D_X6_coins_41 P n σ (pc k) ((k : Int) + 1) else D_X6_coins_41 P n σ few ((k : Int) + 1)) else if pc k < few then bd2 (D_X6_roundRepeating (gset σ 5 φ) k) (fun r86 σ => if b_and r86 P = P then D_X6_coins_41 P n σ (pc k) ((k : Int) + 1) else D_X6_coins_41 P n σ few ((k : Int) + 1)) else D_X6_coins_41 P n (gset σ 5 φ) few ((k : Int) + 1)) = (if pc k < few' then D_X6_coins_41 P n (gset σ 5 φ') (if b_and (V : Int) (P : Int) = P then pc k else few) ((k + 1 : Nat) : Int) else D_X6_coins_41 P n (gset σ 5 φ) few ((k + 1 : Nat) : Int)) := by
              rw [r1]
              simp only [bd2_e]
              rw [nc1]
              rcases hfw with ⟨e1, e2⟩ | ⟨e1, e2, e3⟩
              · rw [if_pos e1, if_pos (show pc k < few' by omega)]
                by_cases d : b_and (V : Int) (P : Int) = P
                · rw [if_pos d, if_pos d]
                · rw [if_neg d, if_neg d]
              · rw [if_neg (show ¬ few = -4 by omega), e1]
                by_cases g : pc k < few
                · rw [if_pos g, if_pos g]
                  by_cases d : b_and (V : Int) (P : Int) = P
                  · rw [if_pos d, if_pos d]
                  · rw [if_neg d, if_neg d]
                · rw [if_neg g, if_neg g]
            refine Exists.elim (?_ : ∃ (r : Int) (φ1 M' : Lo), (if pc k < few' then D_X6_coins_41 P n (gset σ 5 φ') (if b_and (V : Int) (P : Int) = P then pc k else few) ((k + 1 : Nat) : Int) else D_X6_coins_41 P n (gset σ 5 φ) few ((k + 1 : Nat) : Int)) = some (r, gset σ 5 φ1) ∧ (∀ m, T < m + (k + 1) → D_X7_coins_39 P m M2 (if b_and (V : Int) (P : Int) = P ∧ pc k < few' then pc k else few') ((k + 1 : Nat) : Int) = some (r, M')) ∧ sM (σ 13) M') ?_
            · by_cases g : pc k < few'
              · rw [if_pos g]
                by_cases d : b_and (V : Int) (P : Int) = P
                · rw [if_pos d, if_pos ⟨d, g⟩]
                  exact ih (k + 1) φ' M2 (pc k) (pc k) (by omega) (by omega) r3 (Or.inr ⟨rfl, pk.1, pk.2⟩)
                · rw [if_neg d, if_neg (fun q => d q.1)]
                  exact ih (k + 1) φ' M2 few few' (by omega) (by omega) r3 hfw
              · rw [if_neg g, if_neg (fun q => g q.2)]
                exact ih (k + 1) φ M2 few few' (by omega) (by omega) r3 hfw
            · rintro r ⟨φ1, M', q1, q2, q3⟩
              refine ⟨r, φ1, M', ?_, fun n' hn' => ?_, q3⟩
              · exact cs.trans q1
              · obtain ⟨m, rfl⟩ : ∃ m, n' = m + 1 := ⟨n' - 1, by omega⟩
                rw [ms m]
                exact q2 m (by omega)
          · rw [if_neg c]
            refine ⟨few, φ, M, rfl, fun n' hn' => ?_, hS⟩
            obtain ⟨m, rfl⟩ : ∃ m, n' = m + 1 := ⟨n' - 1, by omega⟩
            rw [D_X7_coins_39.eq_2]
            simp only [bnd_e]
            rw [show (31 : Int).toNat = 31 from rfl, m40, ← f1, hf, sF, if_neg c]
            rcases hfw with ⟨e1, e2⟩ | ⟨e1, e2, e3⟩
            · rw [if_pos e2, e1]
            · rw [if_neg (show ¬ few' = 1000000 by omega), e1]
      obtain ⟨r, φ2, M3, q1, q2, q3⟩ : ∃ (r : Int) (φ2 M3 : Lo), D_X6_coins_41 P 5000 (gset σ 5 (σ 5)) (-4) 0 = some (r, gset σ 5 φ2) ∧ D_X7_coins_39 P 5000 (σ 13) 1000000 0 = some (r, M3) ∧ sM (σ 13) M3 := by
        generalize hk : (5000 : Nat) = n
        obtain ⟨r, φ2, M3, q1, q2, q3⟩ := key n 0 (σ 5) (σ 13) (-4) 1000000 (by omega) (Nat.zero_le _) (sM_rf _) (Or.inl ⟨rfl, rfl⟩)
        exact ⟨r, φ2, M3, q1, q2 n (by omega), q3⟩
      rw [gset_self] at q1
      refine CS_scr h r ?_ ?_ (sC_g (o := 5) (φ := φ2) (by decide)) q3
      · simp only [D_X6_coins.eq_1, bnd_e]
        rw [if_neg (by omega), n1, sN, if_pos hp.2, hf, if_neg (by omega)]
        exact q1
      · simp only [D_X7_coins.eq_1, bnd_e]
        rw [n2, sN, D_in1 (by omega) (by omega)]
        simp only [bd0_e, i10]
        rw [show (31 : Int).toNat = 31 from rfl, ← f1, hf, if_neg (by omega)]
        exact q2
    · refine CS_same h (-2) ?_ ?_
      · simp only [D_X6_coins.eq_1, bnd_e]
        rw [if_neg (by omega), n1, sN, if_pos hp.2, hf, if_pos (by omega)]
      · simp only [D_X7_coins.eq_1, bnd_e]
        rw [n2, sN, D_in1 (by omega) (by omega)]
        simp only [bd0_e, i10]
        rw [show (31 : Int).toNat = 31 from rfl, ← f1, hf, if_pos (by omega)]
  · refine CS_same h (-1) ?_ ?_
    · simp only [D_X6_coins.eq_1, bnd_e]
      by_cases c : p < 0
      · rw [if_pos c]
      · rw [if_neg c, n1, sN, if_neg (by omega)]
    · simp only [D_X7_coins.eq_1, bnd_e]
      rw [n2, sN, D_in0 (by omega)]
      simp only [bd0_e, if_true]
