def dvl (B : Nat → Int) (q k : Nat) : Int := if k = 0 then 0 else if k = 1 then B q - 48 else 10 * (B q - 48) + (B (q + 1) - 48)
theorem ww (M : Lo) (v p v' p' : Int) : wrl (wrl (wrl (wrl M 17 14 v) 17 11 p) 17 14 v') 17 11 p' = wrl (wrl M 17 14 v') 17 11 p' := by
  funext r i
  unfold wrl
  by_cases c : r = 17 ∧ i = 11
  · rw [if_pos c, if_pos c]
  · simp only [if_neg c]
    by_cases d : r = 17 ∧ i = 14
    · simp only [if_pos d]
    · simp only [if_neg d]
theorem TP_m {L : Nat} {φ M M' : Lo} (h : TP L φ M) (e10 : M' 17 10 = M 17 10) (e44 : M' 44 = M 44) : TP L φ M' := ⟨h.1, by rw [e10]; exact h.2.1, h.2.2.1, by rw [e44]; exact h.2.2.2⟩
theorem TP_c {L : Nat} {φ φ' M : Lo} (h : TP L φ M) (e2 : φ' 14 2 = φ 14 2) (e30 : φ' 30 = φ 30) : TP L φ' M := ⟨by rw [e2]; exact h.1, h.2.1, h.2.2.1, by rw [e30]; exact h.2.2.2⟩
/-- figures of a NUMBER -/
theorem lex_nu {L q : Nat} : ∀ (n p : Nat) (φ M : Lo), TP L φ M → L < n + p → q ≤ p → p ≤ L → φ 14 5 = p → M 17 11 = p → M 17 12 = q → φ 14 6 = 2 → M 17 14 = dvl (φ 30) q (p - q) → (∀ j, q ≤ j → j < p → 48 ≤ φ 30 j ∧ φ 30 j ≤ 57) → ∃ e, p ≤ e ∧ e ≤ L ∧ (∀ j, q ≤ j → j < e → 48 ≤ φ 30 j ∧ φ 30 j ≤ 57) ∧ ¬ (e < L ∧ 48 ≤ φ 30 e ∧ φ 30 e ≤ 57) ∧ D_X4_advance_115 1 n φ = D_X4_advance_158 (wrl φ 14 5 e) ∧ (∀ n', L < n' + p → D_X7_next_140 n' M = D_X7_next_236 (wrl (wrl M 17 14 (dvl (φ 30) q (e - q))) 17 11 e) (if 2 < e - q then 0 else 1)) := by
  intro n
  induction n with
  | zero => intro p φ M h a b; omega
  | succ n ih =>
    intro p φ M h hn hq hp e1 e2 e12 e6 e14 hd
    have L160 := h.2.2.1
    rw [D_X4_advance_115.eq_2]
    simp only [bnd_e, bns_e, i10]
    rw [e1, h.1, e6, D_tok h]
    simp only [bd0_e]
    by_cases c : p < L ∧ 48 ≤ φ 30 p ∧ φ 30 p ≤ 57
    · have k : kd (φ 30 p) = 2 := by
        unfold kd
        rw [if_neg (by omega), if_pos c.2]
      have vb : 0 ≤ dvl (φ 30) q (p + 1 - q) ∧ dvl (φ 30) q (p + 1 - q) ≤ 999 := by
        have x1 := hd q (Nat.le_refl _)
        have x2 := hd (q + 1) (by omega)
        unfold dvl
        rcases (show p = q ∨ p = q + 1 ∨ q + 1 < p by omega) with rfl | rfl | hh
        · rw [if_neg (by omega), if_pos (by omega)]; omega
        · rw [if_neg (by omega), if_neg (by omega)]; have := x1 (by omega); omega
        · rw [if_neg (by omega), if_neg (by omega)]; have := x1 (by omega); have := x2 (by omega); omega
      obtain ⟨e, q1, q2, q3, q4, q5, q6⟩ := ih (p + 1) (wrl φ 14 5 ((p + 1 : Nat) : Int)) (wrl (wrl M 17 14 (dvl (φ 30) q (p + 1 - q))) 17 11 ((p + 1 : Nat) : Int)) (TP_c (TP_m h (by rw [wrl_ni _ _ (by decide), wrl_ni _ _ (by decide)]) (by rw [wrl_nr _ _ (by decide), wrl_nr _ _ (by decide)])) (wrl_ni _ _ (by decide)) (wrl_nr _ _ (by decide))) (by omega) (by omega) (by omega) (wrl_at _ _ _ _) (wrl_at _ _ _ _) (by rw [wrl_ni _ _ (by decide), wrl_ni _ _ (by decide)]; exact e12) (by rw [wrl_ni _ _ (by decide)]; exact e6) (by rw [wrl_ni _ _ (by decide), wrl_at, wrl_nr _ _ (by decide)]) (fun j x y => by
          rw [wrl_nr _ _ (by decide)]
          by_cases z : j = p
          · rw [z]; exact c.2
          · exact hd j x (by omega))
      rw [wrl_wrl] at q5
      rw [wrl_nr _ _ (show (30 : Nat) ≠ 14 by decide)] at q3 q4 q6
      simp only [ww] at q6
      refine ⟨e, by omega, q2, q3, q4, ?_, ?_⟩
      · rw [if_pos (by omega), if_pos c.1, k, if_pos rfl, chk_e (by omega), nc1]
        exact q5
      · intro n' hn'
        obtain ⟨m, rfl⟩ : ∃ m, n' = m + 1 := ⟨n' - 1, by omega⟩
        rw [D_X7_next_140.eq_2]
        simp only [bnd_e, bns_e, D_X7_next_201.eq_1]
        rw [e2, e12, D_byt h]
        simp only [bd0_e]
        rw [if_pos c.1, D_in1 c.2.1 c.2.2]
        simp only [bd0_e, i10]
        rw [← q6 m (by omega), e14]
        have w11 : ∀ v : Int, wrl M 17 14 v 17 11 = p := fun v => by rw [wrl_ni _ _ (by decide)]; exact e2
        by_cases d : (p : Int) - (q : Int) < 2
        · have ev : 10 * dvl (φ 30) q (p - q) + φ 30 p - 48 = dvl (φ 30) q (p + 1 - q) := by
            unfold dvl
            rcases (show p = q ∨ p = q + 1 by omega) with rfl | rfl
            · rw [if_pos (by omega), if_neg (by omega), if_pos (by omega)]; omega
            · rw [if_neg (by omega), if_pos (by omega), if_neg (by omega), if_neg (by omega)]; omega
          rw [if_pos d, ev, chk_e vb, w11, chk_e (by omega), nc1]
        · have ev : dvl (φ 30) q (p - q) = dvl (φ 30) q (p + 1 - q) := by
            unfold dvl
            rw [if_neg (by omega), if_neg (by omega), if_neg (by omega), if_neg (by omega)]
          rw [if_neg d, ev, chk_e vb, w11, chk_e (by omega), nc1]
    · refine ⟨p, Nat.le_refl _, hp, hd, c, ?_, ?_⟩
      · rw [wrl_eq e1]
        by_cases d : p < L
        · have k : ¬ kd (φ 30 p) = 2 := by
            unfold kd
            by_cases f : 97 ≤ φ 30 p ∧ φ 30 p ≤ 122
            · rw [if_pos f]; decide
            · rw [if_neg f, if_neg (fun z => c ⟨d, z⟩)]
              split
              all_goals decide
          rw [if_pos (by omega), if_pos d, if_neg k]
        · rw [if_neg (by omega)]
      · intro n' hn'
        obtain ⟨m, rfl⟩ : ∃ m, n' = m + 1 := ⟨n' - 1, by omega⟩
        rw [D_X7_next_140.eq_2]
        simp only [bnd_e, bns_e, D_X7_next_201.eq_1]
        rw [e2, e12, D_byt h]
        simp only [bd0_e]
        rw [wrl_eq e14, wrl_eq e2]
        have z : D_X7_in (if p < L then φ 30 p else -1) 48 57 = some 0 := by
          by_cases d : p < L
          · rw [if_pos d, D_in0 (by omega)]
          · rw [if_neg d, D_in0 (by omega)]
        rw [z]
        simp only [bd0_e, if_true]
        by_cases d : 2 < p - q
        · rw [if_pos (by omega), if_pos d]
        · rw [if_neg (by omega), if_neg d]
