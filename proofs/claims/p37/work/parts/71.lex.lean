/-! the text's TOKENS -/
theorem wrl_wrl (φ : Lo) (r i : Nat) (a b : Int) : wrl (wrl φ r i a) r i b = wrl φ r i b := by
  funext r' i'
  unfold wrl
  by_cases c : r' = r ∧ i' = i
  · rw [if_pos c, if_pos c]
  · rw [if_neg c, if_neg c, if_neg c]
theorem wrl_eq {φ : Lo} {r i : Nat} {a : Int} (h : φ r i = a) : wrl φ r i a = φ := by rw [← h, wrl_id]
/-- the two tapes alike -/
def TP (L : Nat) (φ M : Lo) : Prop := φ 14 2 = L ∧ M 17 10 = L ∧ L ≤ 160 ∧ ∀ i, i < L → M 44 i = φ 30 i ∧ 0 ≤ φ 30 i ∧ φ 30 i ≤ 127
theorem TP_w {L : Nat} {φ M : Lo} (h : TP L φ M) {i j : Nat} (hi : i ≠ 2) (hj : j ≠ 10) (a b : Int) : TP L (wrl φ 14 i a) (wrl M 17 j b) := by
  obtain ⟨h1, h2, h3, h4⟩ := h
  refine ⟨by rw [wrl_ni _ _ (fun q => hi q.symm)]; exact h1, by rw [wrl_ni _ _ (fun q => hj q.symm)]; exact h2, h3, fun k hk => ?_⟩
  rw [wrl_nr _ _ (by decide), wrl_nr _ _ (by decide)]
  exact h4 k hk
def kd (b : Int) : Int := if 97 ≤ b ∧ b ≤ 122 then 1 else if 48 ≤ b ∧ b ≤ 57 then 2 else if b = 59 then 3 else 4
theorem D_tok {L : Nat} {φ M : Lo} (h : TP L φ M) (i : Nat) : D_X4_tokenAt φ i = some (if i < L then kd (φ 30 i) else 0) := by
  rw [D_X4_tokenAt.eq_1]
  simp only [bnd_e, D_X4_tokenAt_31.eq_1, D_X4_tokenAt_45.eq_1]
  rw [h.1, tn]
  by_cases c : i < L
  · rw [if_pos (by omega), if_pos c]
    unfold kd
    by_cases d : 97 ≤ φ 30 i ∧ φ 30 i ≤ 122
    · rw [if_neg (by omega), if_neg (by omega), if_pos d]
    · rw [if_neg d]
      by_cases e : 48 ≤ φ 30 i ∧ φ 30 i ≤ 57
      · rw [if_pos (by omega), if_neg (by omega), if_neg (by omega), if_pos e]
      · rw [if_neg e]
        have z : (if φ 30 i < 48 then (if φ 30 i = 59 then some (3 : Int) else some 4) else (if 57 < φ 30 i then (if φ 30 i = 59 then some 3 else some 4) else some 2)) = some (if φ 30 i = 59 then 3 else 4) := by
          by_cases f : φ 30 i = 59
          · rw [if_pos f, if_neg (by omega), if_pos (by omega), if_pos f]
          · rw [if_neg f, if_neg f]
            by_cases g : φ 30 i < 48
            · rw [if_pos g]
            · rw [if_neg g, if_pos (by omega)]
        rw [z]
        by_cases g : φ 30 i < 97
        · rw [if_pos g]
        · rw [if_neg g, if_pos (by omega)]
  · rw [if_neg (by omega), if_neg c]
theorem D_byt {L : Nat} {φ M : Lo} (h : TP L φ M) (i : Nat) : D_X7_byteAt M i = some (if i < L then φ 30 i else -1) := by
  rw [D_X7_byteAt.eq_1]
  simp only [bnd_e]
  rw [h.2.1, tn]
  by_cases c : i < L
  · rw [if_pos (by omega), if_pos c, (h.2.2.2 i c).1]
  · rw [if_neg (by omega), if_neg c]
/-- blanks -/
theorem lex_bl {L : Nat} : ∀ (n p : Nat) (φ M : Lo), TP L φ M → L < n + p → p ≤ L → φ 14 5 = p → M 17 11 = p → ∃ q, p ≤ q ∧ q ≤ L ∧ (q < L → φ 30 q ≠ 32) ∧ D_X4_advance_0 n φ = D_X4_advance_38 (wrl φ 14 5 q) ∧ D_X7_next_8 n M = D_X7_next_8 1 (wrl M 17 11 q) := by
  intro n
  induction n with
  | zero => intro p φ M h a b; omega
  | succ n ih =>
    intro p φ M h hn hp e1 e2
    by_cases c : p < L ∧ φ 30 p = 32
    · obtain ⟨q, q1, q2, q3, q4, q5⟩ := ih (p + 1) (wrl φ 14 5 ((p + 1 : Nat) : Int)) (wrl M 17 11 ((p + 1 : Nat) : Int)) (TP_w h (by decide) (by decide) _ _) (by omega) (by omega) (wrl_at _ _ _ _) (wrl_at _ _ _ _)
      rw [wrl_wrl] at q4 q5
      rw [wrl_nr _ _ (by decide)] at q3
      refine ⟨q, by omega, q2, q3, ?_, ?_⟩
      · rw [← q4, D_X4_advance_0.eq_2]
        simp only [bnd_e, bns_e]
        have L160 := h.2.2.1
        rw [e1, h.1, if_pos (by omega), chk_e (by omega), tn, if_pos c.2, chk_e (by omega), nc1]
      · rw [← q5, D_X7_next_8.eq_2]
        simp only [bnd_e, bns_e]
        have L160 := h.2.2.1
        rw [e2, D_byt h, if_pos c.1]
        simp only [bd0_e]
        rw [if_pos c.2, chk_e (by omega), nc1]
    · refine ⟨p, Nat.le_refl _, hp, fun x y => c ⟨x, y⟩, ?_, ?_⟩
      · rw [wrl_eq e1, D_X4_advance_0.eq_2]
        simp only [bnd_e, bns_e]
        have L160 := h.2.2.1
        rw [e1, h.1, tn]
        by_cases d : p < L
        · rw [if_pos (by omega), chk_e (by omega), if_neg (fun q => c ⟨d, q⟩)]
        · rw [if_neg (by omega)]
      · rw [wrl_eq e2, D_X7_next_8.eq_2, D_X7_next_8.eq_2]
        simp only [bnd_e, bns_e]
        rw [e2, D_byt h]
        simp only [bd0_e]
        have z : ¬ (if p < L then φ 30 p else -1) = 32 := by
          by_cases d : p < L
          · rw [if_pos d]; exact fun q => c ⟨d, q⟩
          · rw [if_neg d]; decide
        rw [if_neg z, if_neg z]
/-- letters -/
theorem lex_na {L : Nat} : ∀ (n p : Nat) (φ M : Lo), TP L φ M → L < n + p → p ≤ L → φ 14 5 = p → M 17 11 = p → φ 14 6 = 1 → ∃ e, p ≤ e ∧ e ≤ L ∧ D_X4_advance_115 1 n φ = D_X4_advance_158 (wrl φ 14 5 e) ∧ (∀ n', L < n' + p → D_X7_next_82 n' M = some (wrl M 17 11 e)) := by
  intro n
  induction n with
  | zero => intro p φ M h a b; omega
  | succ n ih =>
    intro p φ M h hn hp e1 e2 e6
    have L160 := h.2.2.1
    rw [D_X4_advance_115.eq_2]
    simp only [bnd_e, bns_e, i10]
    rw [e1, h.1, e6, D_tok h]
    simp only [bd0_e]
    by_cases c : p < L ∧ 97 ≤ φ 30 p ∧ φ 30 p ≤ 122
    · obtain ⟨e, q1, q2, q3, q4⟩ := ih (p + 1) (wrl φ 14 5 ((p + 1 : Nat) : Int)) (wrl M 17 11 ((p + 1 : Nat) : Int)) (TP_w h (by decide) (by decide) _ _) (by omega) (by omega) (wrl_at _ _ _ _) (wrl_at _ _ _ _) (by rw [wrl_ni _ _ (by decide)]; exact e6)
      rw [wrl_wrl] at q3
      simp only [wrl_wrl] at q4
      have k : kd (φ 30 p) = 1 := if_pos c.2
      refine ⟨e, by omega, q2, ?_, ?_⟩
      · rw [if_pos (by omega), if_pos c.1, k, if_pos rfl, chk_e (by omega), nc1]
        exact q3
      · intro n' hn'
        obtain ⟨m, rfl⟩ : ∃ m, n' = m + 1 := ⟨n' - 1, by omega⟩
        rw [D_X7_next_82.eq_2]
        simp only [bnd_e, bns_e]
        rw [e2, D_byt h]
        simp only [bd0_e]
        rw [if_pos c.1, D_in1 c.2.1 c.2.2]
        simp only [bd0_e, i10]
        rw [chk_e (by omega), nc1]
        exact q4 m (by omega)
    · refine ⟨p, Nat.le_refl _, hp, ?_, ?_⟩
      · rw [wrl_eq e1]
        by_cases d : p < L
        · have k : ¬ kd (φ 30 p) = 1 := by
            unfold kd
            rw [if_neg (fun q => c ⟨d, q⟩)]
            repeat' split
            all_goals decide
          rw [if_pos (by omega), if_pos d, if_neg k]
        · rw [if_neg (by omega)]
      · intro n' hn'
        obtain ⟨m, rfl⟩ : ∃ m, n' = m + 1 := ⟨n' - 1, by omega⟩
        rw [D_X7_next_82.eq_2]
        simp only [bnd_e, bns_e]
        rw [e2, D_byt h]
        simp only [bd0_e]
        rw [wrl_eq e2]
        by_cases d : p < L
        · rw [if_pos d, D_in0 (by omega)]
          simp only [bd0_e, if_true]
        · rw [if_neg d, D_in0 (by omega)]
          simp only [bd0_e, if_true]
