/-! the words -/
def WD (φ : Lo) (q e wd : Nat) : Prop := e = q + wdN wd ∧ ∀ i, i < wdN wd → φ 30 (q + i) = wdC wd i
theorem wdN7 : ∀ w, w < 10 → 2 ≤ wdN w ∧ wdN w ≤ 7 := by decide +kernel
theorem D_isw {L q e : Nat} {φ M : Lo} (h : TP L φ M) (h5 : φ 14 5 = e) (h7 : φ 14 7 = q) (hq : q ≤ e) (he : e ≤ L) {wd : Nat} (hw : wd < 10) : (WD φ q e wd → D_X4_isWord φ wd = some 1) ∧ (¬ WD φ q e wd → D_X4_isWord φ wd = some 0) := by
  have L160 := h.2.2.1
  have w7 := wdN7 wd hw
  have key : e = q + wdN wd → ∀ (n k : Nat), wdN wd < n + k → k ≤ wdN wd → (∀ i, i < k → φ 30 (q + i) = wdC wd i) → ∃ r, D_X4_isWord_20 wd φ n k = some r ∧ (r = 1 ∧ (∀ i, i < wdN wd → φ 30 (q + i) = wdC wd i) ∨ r = 0 ∧ ¬ (∀ i, i < wdN wd → φ 30 (q + i) = wdC wd i)) := by
    intro ee n
    induction n with
    | zero => intro k a b; omega
    | succ n ih =>
      intro k hn hk hB
      rw [D_X4_isWord_20.eq_2]
      simp only [bnd_e]
      by_cases c : (k : Int) < (wdN wd : Int)
      · rw [if_pos c, chk_e ⟨by omega, c⟩, h7, chk_e (by omega), tn, show ((q : Int) + (k : Int)).toNat = q + k by omega]
        by_cases d : wdC wd k = φ 30 (q + k)
        · rw [if_pos d, nc1]
          refine ih (k + 1) (by omega) (by omega) (fun i hi => ?_)
          by_cases z : i = k
          · rw [z]; exact d.symm
          · exact hB i (by omega)
        · rw [if_neg d]
          exact ⟨0, rfl, Or.inr ⟨rfl, fun z => d (z k (by omega)).symm⟩⟩
      · rw [if_neg c]
        exact ⟨1, rfl, Or.inl ⟨rfl, fun i hi => hB i (by omega)⟩⟩
  have go : e = q + wdN wd → ∃ r, D_X4_isWord φ wd = some r ∧ (r = 1 ∧ (∀ i, i < wdN wd → φ 30 (q + i) = wdC wd i) ∨ r = 0 ∧ ¬ (∀ i, i < wdN wd → φ 30 (q + i) = wdC wd i)) := fun ee => by
    rw [D_X4_isWord.eq_1]
    simp only [bnd_e]
    rw [h5, h7, if_pos (by omega)]
    generalize hk : (5000 : Nat) = n
    exact key ee n 0 (by omega) (Nat.zero_le _) (fun i hi => absurd hi (Nat.not_lt_zero _))
  constructor
  · intro hW
    obtain ⟨r, r1, r2⟩ := go hW.1
    rcases r2 with ⟨x, -⟩ | ⟨-, y⟩
    · rw [r1, x]
    · exact absurd hW.2 y
  · intro hW
    by_cases ee : e = q + wdN wd
    · obtain ⟨r, r1, r2⟩ := go ee
      rcases r2 with ⟨-, y⟩ | ⟨x, -⟩
      · exact absurd ⟨ee, y⟩ hW
      · rw [r1, x]
    · rw [D_X4_isWord.eq_1]
      simp only [bnd_e]
      rw [h5, h7, if_neg (by omega)]
/-- the reference: a word by its length and letters -/
theorem D_isr {L q e : Nat} {φ M : Lo} (h : TP L φ M) (h11 : M 17 11 = e) (h12 : M 17 12 = q) (hq : q ≤ e) (he : e ≤ L) {n : Nat} (hn : 2 ≤ n) (a b : Int) : (e = q + n ∧ φ 30 q = a ∧ φ 30 (q + 1) = b → D_X7_is M n a b = some 1) ∧ (¬ (e = q + n ∧ φ 30 q = a ∧ φ 30 (q + 1) = b) → D_X7_is M n a b = some 0) := by
  have e1 : (q : Int) + 1 = ((q + 1 : Nat) : Int) := rfl
  constructor
  · intro z
    rw [D_X7_is.eq_1]
    simp only [bnd_e]
    rw [h11, h12, if_pos (by omega), e1, D_byt h q, D_byt h (q + 1), if_pos (by omega), if_pos (by omega)]
    simp only [bd0_e]
    rw [if_pos z.2.1, if_pos z.2.2]
  · intro z
    rw [D_X7_is.eq_1]
    simp only [bnd_e, D_X7_is_43.eq_1]
    rw [h11, h12, e1, D_byt h q, D_byt h (q + 1)]
    simp only [bd0_e]
    by_cases c : (e : Int) - (q : Int) = (n : Int)
    · rw [if_pos c, if_pos (show q < L by omega), if_pos (show q + 1 < L by omega)]
      by_cases d : φ 30 q = a
      · rw [if_pos d]
        by_cases f : φ 30 (q + 1) = b
        · exact absurd ⟨by omega, d, f⟩ z
        · rw [if_neg f]
      · rw [if_neg d]
    · rw [if_neg c]
