theorem D_endr {L q : Nat} {φ M : Lo} (h : TP L φ M) (h12 : M 17 12 = q) (p1 p2 p3 p4 p5 : Int) : ((if q + 2 < L then φ 30 (q + 2) else -1) = p1 ∧ (p2 = 0 ∨ (if q + 3 < L then φ 30 (q + 3) else -1) = p2) ∧ (p3 = 0 ∨ (if q + 4 < L then φ 30 (q + 4) else -1) = p3) ∧ (p4 = 0 ∨ (if q + 5 < L then φ 30 (q + 5) else -1) = p4) ∧ (p5 = 0 ∨ (if q + 6 < L then φ 30 (q + 6) else -1) = p5) → D_X7_ends M p1 p2 p3 p4 p5 = some 1) ∧ (¬ ((if q + 2 < L then φ 30 (q + 2) else -1) = p1 ∧ (p2 = 0 ∨ (if q + 3 < L then φ 30 (q + 3) else -1) = p2) ∧ (p3 = 0 ∨ (if q + 4 < L then φ 30 (q + 4) else -1) = p3) ∧ (p4 = 0 ∨ (if q + 5 < L then φ 30 (q + 5) else -1) = p4) ∧ (p5 = 0 ∨ (if q + 6 < L then φ 30 (q + 6) else -1) = p5)) → D_X7_ends M p1 p2 p3 p4 p5 = some 0) := by
  have e2 : (q : Int) + 2 = ((q + 2 : Nat) : Int) := rfl
  have e3 : (q : Int) + 3 = ((q + 3 : Nat) : Int) := rfl
  have e4 : (q : Int) + 4 = ((q + 4 : Nat) : Int) := rfl
  have e5 : (q : Int) + 5 = ((q + 5 : Nat) : Int) := rfl
  have e6 : (q : Int) + 6 = ((q + 6 : Nat) : Int) := rfl
  simp only [D_X7_ends.eq_1, D_X7_ends_32.eq_1, D_X7_ends_50.eq_1, D_X7_ends_70.eq_1, D_X7_ends_91.eq_1, D_X7_ends_95.eq_1, bnd_e, h12, e2, e3, e4, e5, e6, D_byt h, bd0_e]
  generalize (if q + 2 < L then φ 30 (q + 2) else -1) = b2
  generalize (if q + 3 < L then φ 30 (q + 3) else -1) = b3
  generalize (if q + 4 < L then φ 30 (q + 4) else -1) = b4
  generalize (if q + 5 < L then φ 30 (q + 5) else -1) = b5
  generalize (if q + 6 < L then φ 30 (q + 6) else -1) = b6
  constructor
  · rintro ⟨x1, x2, x3, x4, x5⟩
    rw [if_pos x1]
    rcases x2 with x2 | x2 <;> rcases x3 with x3 | x3 <;> rcases x4 with x4 | x4 <;> rcases x5 with x5 | x5 <;> simp only [x2, x3, x4, x5, if_true] <;> repeat' split
    all_goals rfl
  · intro z
    by_cases x1 : b2 = p1
    · rw [if_pos x1]
      repeat' split
      all_goals first
        | rfl
        | (exfalso; apply z; omega)
    · rw [if_neg x1]
