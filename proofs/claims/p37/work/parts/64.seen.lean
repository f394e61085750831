/-! as SEEN -/
theorem so_eq {N : Nat} {σ : Sg} (h : rlS N σ) {φ Mm : Lo} (hF : FF N φ (Mm 41)) (hM : Mm 17 3 = N) (hm : ∀ j, 25 ≤ j → j < 59 → j ≠ 30 → Mm 41 j = σ 13 40 j) : ∃ (r : Int) (φ' M' : Lo), D_X6_walkIsAsSeen (gset σ 5 φ) = some (r, gset σ 5 φ') ∧ D_X7_isSo Mm = some (r, M') ∧ kpM Mm M' ∧ (r = 0 ∨ r = 1) := by
  obtain ⟨n1, n2, n5⟩ := rlS_N h
  obtain ⟨k1, ⟨f1, f2, f3⟩, f4, ⟨f5a, f5b, f5c⟩, f6, f7⟩ := h.1.2.2
  obtain ⟨F, hF9, hf⟩ := nat_of (b := 9) f2 (by omega)
  obtain ⟨S, hS7, hs⟩ := nat_of (b := 7) f5b (by omega)
  have g15 : gset σ 5 φ 1 = σ 1 := gset_ne _ _ (by decide)
  generalize hg : (fun i => Mm 41 (32 + i)) = g
  have hgi : ∀ i, g i = Mm 41 (32 + i) := fun i => by rw [← hg]
  obtain ⟨φ', d1, d2⟩ := D_fol (σ := gset σ 5 φ) (g := g) (F := F) (a := 1) (by rw [gset_at]; exact hF) hM (by decide) (by rw [g15]; exact hf) (by omega) (fun i hi => by rw [g15, f4 i (by omega), hgi, hm _ (by omega) (by omega) (by omega)])
  rw [gset_gset] at d1
  generalize hP : (fun j : Nat => trM g Mm (min (σ 1 26 j).toNat F) 41 (20 + (σ 1 25 j).toNat) = σ 1 22 j) = P
  have hPi : ∀ j, P j ↔ trM g Mm (min (σ 1 26 j).toNat F) 41 (20 + (σ 1 25 j).toNat) = σ 1 22 j := fun j => by rw [← hP]
  have g1 : gset σ 5 φ' 1 = σ 1 := gset_ne _ _ (by decide)
  have kc : ∀ (n i : Nat), S < n + i → i ≤ S → (∀ j, j < i → P j) → ∃ r : Int, D_X6_walkIsAsSeen_13 n (gset σ 5 φ') i = some (r, gset σ 5 φ') ∧ (r = 1 ∧ (∀ j, j < S → P j) ∨ r = 0 ∧ ¬ (∀ j, j < S → P j)) := by
    intro n
    induction n with
    | zero => intro i a b; omega
    | succ n ih =>
      intro i hn hi hA
      rw [D_X6_walkIsAsSeen_13.eq_2]
      simp only [bnd_e, tn, g1, gset_at]
      rw [hs]
      by_cases c : (i : Int) < (S : Int)
      · obtain ⟨e1, e2, e3, e4, e5⟩ := f6 i (by omega)
        obtain ⟨w, hw, ew⟩ := nat_of (x := σ 1 25 i) (b := N) e4.1 e4.2
        obtain ⟨k, hk, ek⟩ := nat_of (x := σ 1 26 i) (b := 9) e5.1 (by omega)
        rw [if_pos c, ew, ek, D_pb d2 hw]
        simp only [bd0_e]
        have q : P i ↔ trM g Mm (min k F) 41 (20 + w) = σ 1 22 i := by rw [hPi, ew, ek, tn, tn]
        by_cases d : trM g Mm (min k F) 41 (20 + w) = σ 1 22 i
        · rw [if_pos d, nc1]
          refine ih (i + 1) (by omega) (by omega) (fun j hj => ?_)
          by_cases e : j = i
          · rw [e]; exact q.2 d
          · exact hA j (by omega)
        · rw [if_neg d]
          exact ⟨0, rfl, Or.inr ⟨rfl, fun z => d (q.1 (z i (by omega)))⟩⟩
      · rw [if_neg c]
        exact ⟨1, rfl, Or.inl ⟨rfl, fun j hj => hA j (by omega)⟩⟩
  have ki : ∀ (r4 : Lo → Int → Int → Option (Int × Lo)) (k : Nat), k ≤ 8 → ∀ (n i : Nat) (so : Int), S < n + i → i ≤ S → (so = 1 ∧ ((∀ j, j < S → (σ 1 26 j < k) → P j) ∧ (∀ j, j < i → σ 1 26 j = k → P j)) ∨ so = 0 ∧ ¬ ((∀ j, j < S → (σ 1 26 j < k) → P j) ∧ (∀ j, j < i → σ 1 26 j = k → P j))) → ∃ so' : Int, D_X7_isSo_12 r4 k n (trM g Mm (min k F)) so i = r4 (trM g Mm (min (k + 1) F)) so' ((k + 1 : Nat) : Int) ∧ (so' = 1 ∧ (∀ j, j < S → (σ 1 26 j < ((k + 1 : Nat) : Int)) → P j) ∨ so' = 0 ∧ ¬ (∀ j, j < S → (σ 1 26 j < ((k + 1 : Nat) : Int)) → P j)) := by
    intro r4 k hk8
    obtain ⟨t1, t2, t3, t4⟩ := trM_ok hF hM g (min k F)
    have t5 : ∀ j, 25 ≤ j → j < 59 → j ≠ 30 → trM g Mm (min k F) 41 j = σ 13 40 j := fun j a b c => by rw [t2.2 j a c, hm j a b c]
    intro n
    induction n with
    | zero => intro i so a b; omega
    | succ n ih =>
      intro i so hn hi hA
      rw [D_X7_isSo_12.eq_2]
      simp only [bnd_e, D_X7_isSo_79.eq_1, D_X7_isSo_80.eq_1, D_X7_isSo_75.eq_1, D_X7_isSo_111.eq_1]
      rw [show (40 : Int).toNat = 40 from rfl, show (31 : Int).toNat = 31 from rfl, t5 40 (by decide) (by decide) (by decide), t5 31 (by decide) (by decide) (by decide), ← f5a, ← f1, hs, hf]
      by_cases c : (i : Int) < (S : Int)
      · obtain ⟨e1, e2, e3, e4, e5⟩ := f6 i (by omega)
        obtain ⟨w, hw, ew⟩ := nat_of (x := σ 1 25 i) (b := N) e4.1 e4.2
        obtain ⟨k', hk', ek⟩ := nat_of (x := σ 1 26 i) (b := 9) e5.1 (by omega)
        rw [if_pos c, show (41 + 3 * (i : Int)).toNat = 41 + 3 * i by omega, show (41 + 3 * (i : Int) + 1).toNat = 42 + 3 * i by omega, show (41 + 3 * (i : Int) + 2).toNat = 43 + 3 * i by omega, t5 (41 + 3 * i) (by omega) (by omega) (by omega), t5 (42 + 3 * i) (by omega) (by omega) (by omega), t5 (43 + 3 * i) (by omega) (by omega) (by omega), ← e1, ← e2, ← e3, ew, ek, w32_id (by omega) (by omega), chk_e (by omega), show (20 + (w : Int)).toNat = 20 + w by omega, nc1]
        have q : P i ↔ trM g Mm (min k' F) 41 (20 + w) = σ 1 22 i := by rw [hPi, ew, ek, tn, tn]
        rcases hA with ⟨a1, a2, a3⟩ | ⟨a1, a2⟩
        · rw [if_neg (by omega)]
          by_cases d : (k' : Int) = (k : Int)
          · rw [if_pos d]
            have d' : k' = k := by omega
            subst d'
            by_cases e : trM g Mm (min k' F) 41 (20 + w) = σ 1 22 i
            · rw [if_pos e]
              refine ih (i + 1) 1 (by omega) (by omega) (Or.inl ⟨rfl, a2, fun j hj hjk => ?_⟩)
              by_cases z : j = i
              · rw [z]; exact q.2 e
              · exact a3 j (by omega) hjk
            · rw [if_neg e]
              exact ih (i + 1) 0 (by omega) (by omega) (Or.inr ⟨rfl, fun z => e (q.1 (z.2 i (by omega) ek))⟩)
          · rw [if_neg d]
            refine ih (i + 1) 1 (by omega) (by omega) (Or.inl ⟨rfl, a2, fun j hj hjk => ?_⟩)
            by_cases z : j = i
            · rw [z] at hjk; omega
            · exact a3 j (by omega) hjk
        · rw [if_pos a1]
          exact ih (i + 1) 0 (by omega) (by omega) (Or.inr ⟨rfl, fun z => a2 ⟨z.1, fun j hj => z.2 j (by omega)⟩⟩)
      · have ei : i = S := by omega
        rw [if_neg c]
        refine ⟨so, ?_, ?_⟩
        · by_cases d : (k : Int) < (F : Int)
          · have em : min k F = k := by omega
            have em1 : min (k + 1) F = k + 1 := by omega
            rw [if_pos d, show (32 + (k : Int)).toNat = 32 + k by omega, t5 _ (by omega) (by omega) (by omega), ← hm _ (by omega) (by omega) (by omega), ← hgi]
            rw [em] at t4 ⊢
            rw [t4, em1, nc1]
            simp only [bd1_e]
          · rw [if_neg d, show min (k + 1) F = min k F by omega, nc1]
        · rw [ei] at hA
          have qq : ((∀ j, j < S → (σ 1 26 j < k) → P j) ∧ (∀ j, j < S → σ 1 26 j = k → P j)) ↔ (∀ j, j < S → (σ 1 26 j < ((k + 1 : Nat) : Int)) → P j) := by
            constructor
            · intro z j hj hk
              by_cases y : σ 1 26 j = k
              · exact z.2 j hj y
              · exact z.1 j hj (by omega)
            · intro z
              exact ⟨fun j hj hk => z j hj (by omega), fun j hj hk => z j hj (by omega)⟩
          rw [qq] at hA
          exact hA
  have ko : ∀ (n k : Nat) (so : Int), 9 < n + k → k ≤ 9 → (so = 1 ∧ (∀ j, j < S → (σ 1 26 j < (k : Int)) → P j) ∨ so = 0 ∧ ¬ (∀ j, j < S → (σ 1 26 j < (k : Int)) → P j)) → ∃ (r : Int) (M' : Lo), D_X7_isSo_4 n (trM g Mm (min k F)) so k = some (r, M') ∧ kpM Mm M' ∧ (r = 1 ∧ (∀ j, j < S → P j) ∨ r = 0 ∧ ¬ (∀ j, j < S → P j)) := by
    intro n
    induction n with
    | zero => intro k so a b; omega
    | succ n ih =>
      intro k so hn hk hB
      rw [D_X7_isSo_4.eq_2]
      simp only [bnd_e]
      by_cases c : (8 : Int) < (k : Int)
      · rw [if_pos c]
        refine ⟨so, _, rfl, (trM_ok hF hM g (min k F)).2.1, ?_⟩
        have qq : (∀ j, j < S → (σ 1 26 j < (k : Int)) → P j) ↔ (∀ j, j < S → P j) := ⟨fun z j hj => z j hj (by have := (f6 j (by omega)).2.2.2.2; omega), fun z j hj _ => z j hj⟩
        rw [qq] at hB
        exact hB
      · rw [if_neg c]
        obtain ⟨so', e1, e2⟩ : ∃ so' : Int, D_X7_isSo_12 (D_X7_isSo_4 n) k 5000 (trM g Mm (min k F)) so 0 = (D_X7_isSo_4 n) (trM g Mm (min (k + 1) F)) so' ((k + 1 : Nat) : Int) ∧ (so' = 1 ∧ (∀ j, j < S → (σ 1 26 j < ((k + 1 : Nat) : Int)) → P j) ∨ so' = 0 ∧ ¬ (∀ j, j < S → (σ 1 26 j < ((k + 1 : Nat) : Int)) → P j)) := by
          generalize hk : (5000 : Nat) = m
          refine ki (D_X7_isSo_4 n) k (by omega) m 0 so (by omega) (Nat.zero_le _) ?_
          have qq : ((∀ j, j < S → (σ 1 26 j < k) → P j) ∧ (∀ j, j < 0 → σ 1 26 j = k → P j)) ↔ (∀ j, j < S → (σ 1 26 j < (k : Int)) → P j) := ⟨fun z => z.1, fun z => ⟨z, fun j hj => absurd hj (Nat.not_lt_zero _)⟩⟩
          rw [qq]
          exact hB
        rw [e1]
        exact ih (k + 1) so' (by omega) (by omega) e2
  obtain ⟨r, a1, a2⟩ : ∃ r : Int, D_X6_walkIsAsSeen_13 5000 (gset σ 5 φ') 0 = some (r, gset σ 5 φ') ∧ (r = 1 ∧ (∀ j, j < S → P j) ∨ r = 0 ∧ ¬ (∀ j, j < S → P j)) := by
    generalize hk : (5000 : Nat) = m
    exact kc m 0 (by omega) (Nat.zero_le _) (fun j hj => absurd hj (Nat.not_lt_zero _))
  obtain ⟨r', M', b1, b2, b3⟩ : ∃ (r : Int) (M' : Lo), D_X7_isSo_4 5000 (trM g Mm (min 0 F)) 1 0 = some (r, M') ∧ kpM Mm M' ∧ (r = 1 ∧ (∀ j, j < S → P j) ∨ r = 0 ∧ ¬ (∀ j, j < S → P j)) := by
    generalize hk : (5000 : Nat) = m
    exact ko m 0 1 (by omega) (Nat.zero_le _) (Or.inl ⟨rfl, fun j hj hk => absurd hk (by have := (f6 j (by omega)).2.2.2.2.1; omega)⟩)
  have er : r' = r := by
    rcases a2 with ⟨x, y⟩ | ⟨x, y⟩ <;> rcases b3 with ⟨x', y'⟩ | ⟨x', y'⟩
    · rw [x, x']
    · exact absurd y y'
    · exact absurd y' y
    · rw [x, x']
  subst er
  refine ⟨r', φ', M', ?_, ?_, b2, ?_⟩
  · rw [D_X6_walkIsAsSeen.eq_1, d1]
    simp only [bd1_e, bnd_e]
    exact a1
  · rw [D_X7_isSo.eq_1]
    simp only [bnd_e]
    rw [show min 0 F = 0 by omega] at b1
    exact b1
  · rcases a2 with ⟨x, -⟩ | ⟨x, -⟩
    · exact Or.inr x
    · exact Or.inl x
