theorem wt_0 {L q e : Nat} {φ M : Lo} (h : TP L φ M) (h11 : M 17 11 = e) (h12 : M 17 12 = q) (hq : q ≤ e) (he : e ≤ L) (X : Option Int) (k : Int) : (WD φ q e 0 → bd0 (D_X7_is M 5 112 108) (fun r => if r = 0 then X else bd0 (D_X7_ends M 97 105 110 0 0) (fun r => if r = 0 then X else some k)) = some k) ∧ (¬ WD φ q e 0 → bd0 (D_X7_is M 5 112 108) (fun r => if r = 0 then X else bd0 (D_X7_ends M 97 105 110 0 0) (fun r => if r = 0 then X else some k)) = X) := by
  obtain ⟨i1, i0⟩ := D_isr h h11 h12 hq he (n := 5) (by decide) 112 108
  obtain ⟨j1, j0⟩ := D_endr h h12 97 105 110 0 0
  rw [show ((5 : Nat) : Int) = 5 from rfl] at i1 i0
  constructor
  · rintro ⟨a, b⟩
    have a' : e = q + 5 := a
    rw [i1 ⟨a, b 0 (by decide), b 1 (by decide)⟩, j1 ⟨by rw [if_pos (by omega)]; exact b 2 (by decide), Or.inr (by rw [if_pos (by omega)]; exact b 3 (by decide)), Or.inr (by rw [if_pos (by omega)]; exact b 4 (by decide)), Or.inl rfl, Or.inl rfl⟩]
    simp only [bd0_e, i10]
  · intro z
    by_cases y : e = q + 5 ∧ φ 30 q = 112 ∧ φ 30 (q + 1) = 108
    · have a' := y.1
      rw [i1 y, j0 (fun ⟨y2, y3, y4, y5, y6⟩ => z ⟨y.1, fun i hi => by
        have hi' : i < 5 := hi
        rcases (show i = 0 ∨ i = 1 ∨ i = 2 ∨ i = 3 ∨ i = 4 by omega) with rfl | rfl | rfl | rfl | rfl
        · exact y.2.1
        · exact y.2.2
        · rw [if_pos (by omega)] at y2; exact y2
        · rcases y3 with y | y
          · exact absurd y (by decide)
          · rw [if_pos (by omega)] at y; exact y
        · rcases y4 with y | y
          · exact absurd y (by decide)
          · rw [if_pos (by omega)] at y; exact y⟩)]
      simp only [bd0_e, i10, if_true]
    · rw [i0 y]
      simp only [bd0_e, if_true]
theorem wt_1 {L q e : Nat} {φ M : Lo} (h : TP L φ M) (h11 : M 17 11 = e) (h12 : M 17 12 = q) (hq : q ≤ e) (he : e ≤ L) (X : Option Int) (k : Int) : (WD φ q e 1 → bd0 (D_X7_is M 6 98 111) (fun r => if r = 0 then X else bd0 (D_X7_ends M 111 116 101 100 0) (fun r => if r = 0 then X else some k)) = some k) ∧ (¬ WD φ q e 1 → bd0 (D_X7_is M 6 98 111) (fun r => if r = 0 then X else bd0 (D_X7_ends M 111 116 101 100 0) (fun r => if r = 0 then X else some k)) = X) := by
  obtain ⟨i1, i0⟩ := D_isr h h11 h12 hq he (n := 6) (by decide) 98 111
  obtain ⟨j1, j0⟩ := D_endr h h12 111 116 101 100 0
  rw [show ((6 : Nat) : Int) = 6 from rfl] at i1 i0
  constructor
  · rintro ⟨a, b⟩
    have a' : e = q + 6 := a
    rw [i1 ⟨a, b 0 (by decide), b 1 (by decide)⟩, j1 ⟨by rw [if_pos (by omega)]; exact b 2 (by decide), Or.inr (by rw [if_pos (by omega)]; exact b 3 (by decide)), Or.inr (by rw [if_pos (by omega)]; exact b 4 (by decide)), Or.inr (by rw [if_pos (by omega)]; exact b 5 (by decide)), Or.inl rfl⟩]
    simp only [bd0_e, i10]
  · intro z
    by_cases y : e = q + 6 ∧ φ 30 q = 98 ∧ φ 30 (q + 1) = 111
    · have a' := y.1
      rw [i1 y, j0 (fun ⟨y2, y3, y4, y5, y6⟩ => z ⟨y.1, fun i hi => by
        have hi' : i < 6 := hi
        rcases (show i = 0 ∨ i = 1 ∨ i = 2 ∨ i = 3 ∨ i = 4 ∨ i = 5 by omega) with rfl | rfl | rfl | rfl | rfl | rfl
        · exact y.2.1
        · exact y.2.2
        · rw [if_pos (by omega)] at y2; exact y2
        · rcases y3 with y | y
          · exact absurd y (by decide)
          · rw [if_pos (by omega)] at y; exact y
        · rcases y4 with y | y
          · exact absurd y (by decide)
          · rw [if_pos (by omega)] at y; exact y
        · rcases y5 with y | y
          · exact absurd y (by decide)
          · rw [if_pos (by omega)] at y; exact y⟩)]
      simp only [bd0_e, i10, if_true]
    · rw [i0 y]
      simp only [bd0_e, if_true]
theorem wt_2 {L q e : Nat} {φ M : Lo} (h : TP L φ M) (h11 : M 17 11 = e) (h12 : M 17 12 = q) (hq : q ≤ e) (he : e ≤ L) (X : Option Int) (k : Int) : (WD φ q e 2 → bd0 (D_X7_is M 4 98 101) (fun r => if r = 0 then X else bd0 (D_X7_ends M 110 116 0 0 0) (fun r => if r = 0 then X else some k)) = some k) ∧ (¬ WD φ q e 2 → bd0 (D_X7_is M 4 98 101) (fun r => if r = 0 then X else bd0 (D_X7_ends M 110 116 0 0 0) (fun r => if r = 0 then X else some k)) = X) := by
  obtain ⟨i1, i0⟩ := D_isr h h11 h12 hq he (n := 4) (by decide) 98 101
  obtain ⟨j1, j0⟩ := D_endr h h12 110 116 0 0 0
  rw [show ((4 : Nat) : Int) = 4 from rfl] at i1 i0
  constructor
  · rintro ⟨a, b⟩
    have a' : e = q + 4 := a
    rw [i1 ⟨a, b 0 (by decide), b 1 (by decide)⟩, j1 ⟨by rw [if_pos (by omega)]; exact b 2 (by decide), Or.inr (by rw [if_pos (by omega)]; exact b 3 (by decide)), Or.inl rfl, Or.inl rfl, Or.inl rfl⟩]
    simp only [bd0_e, i10]
  · intro z
    by_cases y : e = q + 4 ∧ φ 30 q = 98 ∧ φ 30 (q + 1) = 101
    · have a' := y.1
      rw [i1 y, j0 (fun ⟨y2, y3, y4, y5, y6⟩ => z ⟨y.1, fun i hi => by
        have hi' : i < 4 := hi
        rcases (show i = 0 ∨ i = 1 ∨ i = 2 ∨ i = 3 by omega) with rfl | rfl | rfl | rfl
        · exact y.2.1
        · exact y.2.2
        · rw [if_pos (by omega)] at y2; exact y2
        · rcases y3 with y | y
          · exact absurd y (by decide)
          · rw [if_pos (by omega)] at y; exact y⟩)]
      simp only [bd0_e, i10, if_true]
    · rw [i0 y]
      simp only [bd0_e, if_true]
theorem wt_3 {L q e : Nat} {φ M : Lo} (h : TP L φ M) (h11 : M 17 11 = e) (h12 : M 17 12 = q) (hq : q ≤ e) (he : e ≤ L) (X : Option Int) (k : Int) : (WD φ q e 3 → bd0 (D_X7_is M 6 104 101) (fun r => if r = 0 then X else bd0 (D_X7_ends M 97 114 116 104 0) (fun r => if r = 0 then X else some k)) = some k) ∧ (¬ WD φ q e 3 → bd0 (D_X7_is M 6 104 101) (fun r => if r = 0 then X else bd0 (D_X7_ends M 97 114 116 104 0) (fun r => if r = 0 then X else some k)) = X) := by
  obtain ⟨i1, i0⟩ := D_isr h h11 h12 hq he (n := 6) (by decide) 104 101
  obtain ⟨j1, j0⟩ := D_endr h h12 97 114 116 104 0
  rw [show ((6 : Nat) : Int) = 6 from rfl] at i1 i0
  constructor
  · rintro ⟨a, b⟩
    have a' : e = q + 6 := a
    rw [i1 ⟨a, b 0 (by decide), b 1 (by decide)⟩, j1 ⟨by rw [if_pos (by omega)]; exact b 2 (by decide), Or.inr (by rw [if_pos (by omega)]; exact b 3 (by decide)), Or.inr (by rw [if_pos (by omega)]; exact b 4 (by decide)), Or.inr (by rw [if_pos (by omega)]; exact b 5 (by decide)), Or.inl rfl⟩]
    simp only [bd0_e, i10]
  · intro z
    by_cases y : e = q + 6 ∧ φ 30 q = 104 ∧ φ 30 (q + 1) = 101
    · have a' := y.1
      rw [i1 y, j0 (fun ⟨y2, y3, y4, y5, y6⟩ => z ⟨y.1, fun i hi => by
        have hi' : i < 6 := hi
        rcases (show i = 0 ∨ i = 1 ∨ i = 2 ∨ i = 3 ∨ i = 4 ∨ i = 5 by omega) with rfl | rfl | rfl | rfl | rfl | rfl
        · exact y.2.1
        · exact y.2.2
        · rw [if_pos (by omega)] at y2; exact y2
        · rcases y3 with y | y
          · exact absurd y (by decide)
          · rw [if_pos (by omega)] at y; exact y
        · rcases y4 with y | y
          · exact absurd y (by decide)
          · rw [if_pos (by omega)] at y; exact y
        · rcases y5 with y | y
          · exact absurd y (by decide)
          · rw [if_pos (by omega)] at y; exact y⟩)]
      simp only [bd0_e, i10, if_true]
    · rw [i0 y]
      simp only [bd0_e, if_true]
theorem wt_4 {L q e : Nat} {φ M : Lo} (h : TP L φ M) (h11 : M 17 11 = e) (h12 : M 17 12 = q) (hq : q ≤ e) (he : e ≤ L) (X : Option Int) (k : Int) : (WD φ q e 4 → bd0 (D_X7_is M 7 99 111) (fun r => if r = 0 then X else bd0 (D_X7_ends M 117 115 105 110 115) (fun r => if r = 0 then X else some k)) = some k) ∧ (¬ WD φ q e 4 → bd0 (D_X7_is M 7 99 111) (fun r => if r = 0 then X else bd0 (D_X7_ends M 117 115 105 110 115) (fun r => if r = 0 then X else some k)) = X) := by
  obtain ⟨i1, i0⟩ := D_isr h h11 h12 hq he (n := 7) (by decide) 99 111
  obtain ⟨j1, j0⟩ := D_endr h h12 117 115 105 110 115
  rw [show ((7 : Nat) : Int) = 7 from rfl] at i1 i0
  constructor
  · rintro ⟨a, b⟩
    have a' : e = q + 7 := a
    rw [i1 ⟨a, b 0 (by decide), b 1 (by decide)⟩, j1 ⟨by rw [if_pos (by omega)]; exact b 2 (by decide), Or.inr (by rw [if_pos (by omega)]; exact b 3 (by decide)), Or.inr (by rw [if_pos (by omega)]; exact b 4 (by decide)), Or.inr (by rw [if_pos (by omega)]; exact b 5 (by decide)), Or.inr (by rw [if_pos (by omega)]; exact b 6 (by decide))⟩]
    simp only [bd0_e, i10]
  · intro z
    by_cases y : e = q + 7 ∧ φ 30 q = 99 ∧ φ 30 (q + 1) = 111
    · have a' := y.1
      rw [i1 y, j0 (fun ⟨y2, y3, y4, y5, y6⟩ => z ⟨y.1, fun i hi => by
        have hi' : i < 7 := hi
        rcases (show i = 0 ∨ i = 1 ∨ i = 2 ∨ i = 3 ∨ i = 4 ∨ i = 5 ∨ i = 6 by omega) with rfl | rfl | rfl | rfl | rfl | rfl | rfl
        · exact y.2.1
        · exact y.2.2
        · rw [if_pos (by omega)] at y2; exact y2
        · rcases y3 with y | y
          · exact absurd y (by decide)
          · rw [if_pos (by omega)] at y; exact y
        · rcases y4 with y | y
          · exact absurd y (by decide)
          · rw [if_pos (by omega)] at y; exact y
        · rcases y5 with y | y
          · exact absurd y (by decide)
          · rw [if_pos (by omega)] at y; exact y
        · rcases y6 with y | y
          · exact absurd y (by decide)
          · rw [if_pos (by omega)] at y; exact y⟩)]
      simp only [bd0_e, i10, if_true]
    · rw [i0 y]
      simp only [bd0_e, if_true]
theorem wt_5 {L q e : Nat} {φ M : Lo} (h : TP L φ M) (h11 : M 17 11 = e) (h12 : M 17 12 = q) (hq : q ≤ e) (he : e ≤ L) (X : Option Int) (k : Int) : (WD φ q e 5 → bd0 (D_X7_is M 7 112 114) (fun r => if r = 0 then X else bd0 (D_X7_ends M 111 103 114 97 109) (fun r => if r = 0 then X else some k)) = some k) ∧ (¬ WD φ q e 5 → bd0 (D_X7_is M 7 112 114) (fun r => if r = 0 then X else bd0 (D_X7_ends M 111 103 114 97 109) (fun r => if r = 0 then X else some k)) = X) := by
  obtain ⟨i1, i0⟩ := D_isr h h11 h12 hq he (n := 7) (by decide) 112 114
  obtain ⟨j1, j0⟩ := D_endr h h12 111 103 114 97 109
  rw [show ((7 : Nat) : Int) = 7 from rfl] at i1 i0
  constructor
  · rintro ⟨a, b⟩
    have a' : e = q + 7 := a
    rw [i1 ⟨a, b 0 (by decide), b 1 (by decide)⟩, j1 ⟨by rw [if_pos (by omega)]; exact b 2 (by decide), Or.inr (by rw [if_pos (by omega)]; exact b 3 (by decide)), Or.inr (by rw [if_pos (by omega)]; exact b 4 (by decide)), Or.inr (by rw [if_pos (by omega)]; exact b 5 (by decide)), Or.inr (by rw [if_pos (by omega)]; exact b 6 (by decide))⟩]
    simp only [bd0_e, i10]
  · intro z
    by_cases y : e = q + 7 ∧ φ 30 q = 112 ∧ φ 30 (q + 1) = 114
    · have a' := y.1
      rw [i1 y, j0 (fun ⟨y2, y3, y4, y5, y6⟩ => z ⟨y.1, fun i hi => by
        have hi' : i < 7 := hi
        rcases (show i = 0 ∨ i = 1 ∨ i = 2 ∨ i = 3 ∨ i = 4 ∨ i = 5 ∨ i = 6 by omega) with rfl | rfl | rfl | rfl | rfl | rfl | rfl
        · exact y.2.1
        · exact y.2.2
        · rw [if_pos (by omega)] at y2; exact y2
        · rcases y3 with y | y
          · exact absurd y (by decide)
          · rw [if_pos (by omega)] at y; exact y
        · rcases y4 with y | y
          · exact absurd y (by decide)
          · rw [if_pos (by omega)] at y; exact y
        · rcases y5 with y | y
          · exact absurd y (by decide)
          · rw [if_pos (by omega)] at y; exact y
        · rcases y6 with y | y
          · exact absurd y (by decide)
          · rw [if_pos (by omega)] at y; exact y⟩)]
      simp only [bd0_e, i10, if_true]
    · rw [i0 y]
      simp only [bd0_e, if_true]
theorem wt_6 {L q e : Nat} {φ M : Lo} (h : TP L φ M) (h11 : M 17 11 = e) (h12 : M 17 12 = q) (hq : q ≤ e) (he : e ≤ L) (X : Option Int) (k : Int) : (WD φ q e 6 → bd0 (D_X7_is M 2 117 112) (fun r => if r = 0 then X else some k) = some k) ∧ (¬ WD φ q e 6 → bd0 (D_X7_is M 2 117 112) (fun r => if r = 0 then X else some k) = X) := by
  obtain ⟨i1, i0⟩ := D_isr h h11 h12 hq he (n := 2) (by decide) 117 112
  rw [show ((2 : Nat) : Int) = 2 from rfl] at i1 i0
  constructor
  · rintro ⟨a, b⟩
    rw [i1 ⟨a, b 0 (by decide), b 1 (by decide)⟩]
    simp only [bd0_e, i10]
  · intro z
    rw [i0 (fun y => z ⟨y.1, fun i hi => by
      have hi' : i < 2 := hi
      rcases (show i = 0 ∨ i = 1 by omega) with rfl | rfl
      · exact y.2.1
      · exact y.2.2⟩)]
    simp only [bd0_e, if_true]
theorem wt_7 {L q e : Nat} {φ M : Lo} (h : TP L φ M) (h11 : M 17 11 = e) (h12 : M 17 12 = q) (hq : q ≤ e) (he : e ≤ L) (X : Option Int) (k : Int) : (WD φ q e 7 → bd0 (D_X7_is M 4 100 111) (fun r => if r = 0 then X else bd0 (D_X7_ends M 119 110 0 0 0) (fun r => if r = 0 then X else some k)) = some k) ∧ (¬ WD φ q e 7 → bd0 (D_X7_is M 4 100 111) (fun r => if r = 0 then X else bd0 (D_X7_ends M 119 110 0 0 0) (fun r => if r = 0 then X else some k)) = X) := by
  obtain ⟨i1, i0⟩ := D_isr h h11 h12 hq he (n := 4) (by decide) 100 111
  obtain ⟨j1, j0⟩ := D_endr h h12 119 110 0 0 0
  rw [show ((4 : Nat) : Int) = 4 from rfl] at i1 i0
  constructor
  · rintro ⟨a, b⟩
    have a' : e = q + 4 := a
    rw [i1 ⟨a, b 0 (by decide), b 1 (by decide)⟩, j1 ⟨by rw [if_pos (by omega)]; exact b 2 (by decide), Or.inr (by rw [if_pos (by omega)]; exact b 3 (by decide)), Or.inl rfl, Or.inl rfl, Or.inl rfl⟩]
    simp only [bd0_e, i10]
  · intro z
    by_cases y : e = q + 4 ∧ φ 30 q = 100 ∧ φ 30 (q + 1) = 111
    · have a' := y.1
      rw [i1 y, j0 (fun ⟨y2, y3, y4, y5, y6⟩ => z ⟨y.1, fun i hi => by
        have hi' : i < 4 := hi
        rcases (show i = 0 ∨ i = 1 ∨ i = 2 ∨ i = 3 by omega) with rfl | rfl | rfl | rfl
        · exact y.2.1
        · exact y.2.2
        · rw [if_pos (by omega)] at y2; exact y2
        · rcases y3 with y | y
          · exact absurd y (by decide)
          · rw [if_pos (by omega)] at y; exact y⟩)]
      simp only [bd0_e, i10, if_true]
    · rw [i0 y]
      simp only [bd0_e, if_true]
theorem wt_8 {L q e : Nat} {φ M : Lo} (h : TP L φ M) (h11 : M 17 11 = e) (h12 : M 17 12 = q) (hq : q ≤ e) (he : e ≤ L) (X : Option Int) (k : Int) : (WD φ q e 8 → bd0 (D_X7_is M 5 119 97) (fun r => if r = 0 then X else bd0 (D_X7_ends M 108 116 122 0 0) (fun r => if r = 0 then X else some k)) = some k) ∧ (¬ WD φ q e 8 → bd0 (D_X7_is M 5 119 97) (fun r => if r = 0 then X else bd0 (D_X7_ends M 108 116 122 0 0) (fun r => if r = 0 then X else some k)) = X) := by
  obtain ⟨i1, i0⟩ := D_isr h h11 h12 hq he (n := 5) (by decide) 119 97
  obtain ⟨j1, j0⟩ := D_endr h h12 108 116 122 0 0
  rw [show ((5 : Nat) : Int) = 5 from rfl] at i1 i0
  constructor
  · rintro ⟨a, b⟩
    have a' : e = q + 5 := a
    rw [i1 ⟨a, b 0 (by decide), b 1 (by decide)⟩, j1 ⟨by rw [if_pos (by omega)]; exact b 2 (by decide), Or.inr (by rw [if_pos (by omega)]; exact b 3 (by decide)), Or.inr (by rw [if_pos (by omega)]; exact b 4 (by decide)), Or.inl rfl, Or.inl rfl⟩]
    simp only [bd0_e, i10]
  · intro z
    by_cases y : e = q + 5 ∧ φ 30 q = 119 ∧ φ 30 (q + 1) = 97
    · have a' := y.1
      rw [i1 y, j0 (fun ⟨y2, y3, y4, y5, y6⟩ => z ⟨y.1, fun i hi => by
        have hi' : i < 5 := hi
        rcases (show i = 0 ∨ i = 1 ∨ i = 2 ∨ i = 3 ∨ i = 4 by omega) with rfl | rfl | rfl | rfl | rfl
        · exact y.2.1
        · exact y.2.2
        · rw [if_pos (by omega)] at y2; exact y2
        · rcases y3 with y | y
          · exact absurd y (by decide)
          · rw [if_pos (by omega)] at y; exact y
        · rcases y4 with y | y
          · exact absurd y (by decide)
          · rw [if_pos (by omega)] at y; exact y⟩)]
      simp only [bd0_e, i10, if_true]
    · rw [i0 y]
      simp only [bd0_e, if_true]
theorem wt_9 {L q e : Nat} {φ M : Lo} (h : TP L φ M) (h11 : M 17 11 = e) (h12 : M 17 12 = q) (hq : q ≤ e) (he : e ≤ L) (X : Option Int) (k : Int) : (WD φ q e 9 → bd0 (D_X7_is M 6 109 105) (fun r => if r = 0 then X else bd0 (D_X7_ends M 114 114 111 114 0) (fun r => if r = 0 then X else some k)) = some k) ∧ (¬ WD φ q e 9 → bd0 (D_X7_is M 6 109 105) (fun r => if r = 0 then X else bd0 (D_X7_ends M 114 114 111 114 0) (fun r => if r = 0 then X else some k)) = X) := by
  obtain ⟨i1, i0⟩ := D_isr h h11 h12 hq he (n := 6) (by decide) 109 105
  obtain ⟨j1, j0⟩ := D_endr h h12 114 114 111 114 0
  rw [show ((6 : Nat) : Int) = 6 from rfl] at i1 i0
  constructor
  · rintro ⟨a, b⟩
    have a' : e = q + 6 := a
    rw [i1 ⟨a, b 0 (by decide), b 1 (by decide)⟩, j1 ⟨by rw [if_pos (by omega)]; exact b 2 (by decide), Or.inr (by rw [if_pos (by omega)]; exact b 3 (by decide)), Or.inr (by rw [if_pos (by omega)]; exact b 4 (by decide)), Or.inr (by rw [if_pos (by omega)]; exact b 5 (by decide)), Or.inl rfl⟩]
    simp only [bd0_e, i10]
  · intro z
    by_cases y : e = q + 6 ∧ φ 30 q = 109 ∧ φ 30 (q + 1) = 105
    · have a' := y.1
      rw [i1 y, j0 (fun ⟨y2, y3, y4, y5, y6⟩ => z ⟨y.1, fun i hi => by
        have hi' : i < 6 := hi
        rcases (show i = 0 ∨ i = 1 ∨ i = 2 ∨ i = 3 ∨ i = 4 ∨ i = 5 by omega) with rfl | rfl | rfl | rfl | rfl | rfl
        · exact y.2.1
        · exact y.2.2
        · rw [if_pos (by omega)] at y2; exact y2
        · rcases y3 with y | y
          · exact absurd y (by decide)
          · rw [if_pos (by omega)] at y; exact y
        · rcases y4 with y | y
          · exact absurd y (by decide)
          · rw [if_pos (by omega)] at y; exact y
        · rcases y5 with y | y
          · exact absurd y (by decide)
          · rw [if_pos (by omega)] at y; exact y⟩)]
      simp only [bd0_e, i10, if_true]
    · rw [i0 y]
      simp only [bd0_e, if_true]
theorem lw_eq {L q e : Nat} {φ M : Lo} (h : TP L φ M) (h5 : φ 14 5 = e) (h7 : φ 14 7 = q) (h11 : M 17 11 = e) (h12 : M 17 12 = q) (hq : q ≤ e) (he : e ≤ L) : ∃ r : Int, D_X4_lineWord φ = some r ∧ D_X7_lineNow M = some r ∧ (r = -4 ∨ (0 ≤ r ∧ r ≤ 5)) := by
  have iw := fun (wd : Nat) (hw : wd < 10) => D_isw h h5 h7 hq he hw
  have st : ∀ (n k : Nat), k < 6 → (WD φ q e k → D_X4_lineWord_2 φ (n + 1) k = some (k : Int)) ∧ (¬ WD φ q e k → D_X4_lineWord_2 φ (n + 1) k = D_X4_lineWord_2 φ n ((k + 1 : Nat) : Int)) := fun n k hk => by
    have wo : D_X4_wordOfLine k = some (k : Int) := by
      rcases (show k = 0 ∨ k = 1 ∨ k = 2 ∨ k = 3 ∨ k = 4 ∨ k = 5 by omega) with rfl | rfl | rfl | rfl | rfl | rfl <;> rfl
    constructor
    · intro w
      rw [D_X4_lineWord_2.eq_2]
      simp only [bnd_e]
      rw [if_pos (by omega), wo]
      simp only [bd0_e]
      rw [tn, (iw k (by omega)).1 w]
      simp only [bd0_e, i10]
    · intro w
      rw [D_X4_lineWord_2.eq_2]
      simp only [bnd_e]
      rw [if_pos (by omega), wo]
      simp only [bd0_e]
      rw [tn, (iw k (by omega)).2 w]
      simp only [bd0_e, if_true]
      rw [nc1]
  rw [D_X4_lineWord.eq_1]
  simp only [bnd_e, D_X7_lineNow.eq_1, D_X7_lineNow_29.eq_1, D_X7_lineNow_60.eq_1, D_X7_lineNow_88.eq_1, D_X7_lineNow_119.eq_1, D_X7_lineNow_153.eq_1, D_X7_lineNow_187.eq_1]
  obtain ⟨n, hn⟩ : ∃ n, (5000 : Nat) = n + 1 + 1 + 1 + 1 + 1 + 1 + 1 := ⟨4993, rfl⟩
  rw [hn]
  by_cases w0 : WD φ q e 0
  · exact ⟨0, (st _ 0 (by decide)).1 w0, (wt_0 h h11 h12 hq he _ 0).1 w0, Or.inr ⟨by decide, by decide⟩⟩
  · have s0 := (st (n + 1 + 1 + 1 + 1 + 1 + 1) 0 (by decide)).2 w0
    rw [show ((0 : Nat) : Int) = 0 from rfl, show ((0 + 1 : Nat) : Int) = 1 from rfl] at s0
    rw [s0, (wt_0 h h11 h12 hq he _ 0).2 w0]
    by_cases w1 : WD φ q e 1
    · exact ⟨1, (st _ 1 (by decide)).1 w1, (wt_1 h h11 h12 hq he _ 1).1 w1, Or.inr ⟨by decide, by decide⟩⟩
    · have s1 := (st (n + 1 + 1 + 1 + 1 + 1) 1 (by decide)).2 w1
      rw [show ((1 : Nat) : Int) = 1 from rfl, show ((1 + 1 : Nat) : Int) = 2 from rfl] at s1
      rw [s1, (wt_1 h h11 h12 hq he _ 1).2 w1]
      by_cases w2 : WD φ q e 2
      · exact ⟨2, (st _ 2 (by decide)).1 w2, (wt_2 h h11 h12 hq he _ 2).1 w2, Or.inr ⟨by decide, by decide⟩⟩
      · have s2 := (st (n + 1 + 1 + 1 + 1) 2 (by decide)).2 w2
        rw [show ((2 : Nat) : Int) = 2 from rfl, show ((2 + 1 : Nat) : Int) = 3 from rfl] at s2
        rw [s2, (wt_2 h h11 h12 hq he _ 2).2 w2]
        by_cases w3 : WD φ q e 3
        · exact ⟨3, (st _ 3 (by decide)).1 w3, (wt_3 h h11 h12 hq he _ 3).1 w3, Or.inr ⟨by decide, by decide⟩⟩
        · have s3 := (st (n + 1 + 1 + 1) 3 (by decide)).2 w3
          rw [show ((3 : Nat) : Int) = 3 from rfl, show ((3 + 1 : Nat) : Int) = 4 from rfl] at s3
          rw [s3, (wt_3 h h11 h12 hq he _ 3).2 w3]
          by_cases w4 : WD φ q e 4
          · exact ⟨4, (st _ 4 (by decide)).1 w4, (wt_4 h h11 h12 hq he _ 4).1 w4, Or.inr ⟨by decide, by decide⟩⟩
          · have s4 := (st (n + 1 + 1) 4 (by decide)).2 w4
            rw [show ((4 : Nat) : Int) = 4 from rfl, show ((4 + 1 : Nat) : Int) = 5 from rfl] at s4
            rw [s4, (wt_4 h h11 h12 hq he _ 4).2 w4]
            by_cases w5 : WD φ q e 5
            · exact ⟨5, (st _ 5 (by decide)).1 w5, (wt_5 h h11 h12 hq he _ 5).1 w5, Or.inr ⟨by decide, by decide⟩⟩
            · have s5 := (st (n + 1) 5 (by decide)).2 w5
              rw [show ((5 : Nat) : Int) = 5 from rfl, show ((5 + 1 : Nat) : Int) = 6 from rfl] at s5
              rw [s5, (wt_5 h h11 h12 hq he _ 5).2 w5]
              rw [D_X4_lineWord_2.eq_2]
              simp only [bnd_e]
              rw [if_neg (by decide)]
              exact ⟨-4, rfl, rfl, Or.inl rfl⟩
theorem fw_eq {L q e : Nat} {φ M : Lo} (h : TP L φ M) (h5 : φ 14 5 = e) (h7 : φ 14 7 = q) (h11 : M 17 11 = e) (h12 : M 17 12 = q) (hq : q ≤ e) (he : e ≤ L) : ∃ r : Int, D_X4_figureWord φ = some r ∧ D_X7_figureNow M = some r ∧ (r = -4 ∨ (0 ≤ r ∧ r ≤ 3)) := by
  have iw := fun (wd : Nat) (hw : wd < 10) => D_isw h h5 h7 hq he hw
  have st : ∀ (n k : Nat), k < 4 → (WD φ q e (6 + k) → D_X4_figureWord_2 φ (n + 1) k = some (k : Int)) ∧ (¬ WD φ q e (6 + k) → D_X4_figureWord_2 φ (n + 1) k = D_X4_figureWord_2 φ n ((k + 1 : Nat) : Int)) := fun n k hk => by
    have wo : D_X4_wordOfFigure k = some ((6 + k : Nat) : Int) := by
      rcases (show k = 0 ∨ k = 1 ∨ k = 2 ∨ k = 3 by omega) with rfl | rfl | rfl | rfl <;> rfl
    constructor
    · intro w
      rw [D_X4_figureWord_2.eq_2]
      simp only [bnd_e]
      rw [if_pos (by omega), wo]
      simp only [bd0_e]
      rw [tn, (iw (6 + k) (by omega)).1 w]
      simp only [bd0_e, i10]
    · intro w
      rw [D_X4_figureWord_2.eq_2]
      simp only [bnd_e]
      rw [if_pos (by omega), wo]
      simp only [bd0_e]
      rw [tn, (iw (6 + k) (by omega)).2 w]
      simp only [bd0_e, if_true]
      rw [nc1]
  rw [D_X4_figureWord.eq_1]
  simp only [bnd_e, D_X7_figureNow.eq_1, D_X7_figureNow_42.eq_1, D_X7_figureNow_73.eq_1, D_X7_figureNow_106.eq_1]
  obtain ⟨n, hn⟩ : ∃ n, (5000 : Nat) = n + 1 + 1 + 1 + 1 + 1 := ⟨4995, rfl⟩
  rw [hn]
  by_cases w0 : WD φ q e (6 + 0)
  · exact ⟨0, (st _ 0 (by decide)).1 w0, (wt_6 h h11 h12 hq he _ 0).1 w0, Or.inr ⟨by decide, by decide⟩⟩
  · have s0 := (st (n + 1 + 1 + 1 + 1) 0 (by decide)).2 w0
    rw [show ((0 : Nat) : Int) = 0 from rfl, show ((0 + 1 : Nat) : Int) = 1 from rfl] at s0
    rw [s0, (wt_6 h h11 h12 hq he _ 0).2 w0]
    by_cases w1 : WD φ q e (6 + 1)
    · exact ⟨1, (st _ 1 (by decide)).1 w1, (wt_7 h h11 h12 hq he _ 1).1 w1, Or.inr ⟨by decide, by decide⟩⟩
    · have s1 := (st (n + 1 + 1 + 1) 1 (by decide)).2 w1
      rw [show ((1 : Nat) : Int) = 1 from rfl, show ((1 + 1 : Nat) : Int) = 2 from rfl] at s1
      rw [s1, (wt_7 h h11 h12 hq he _ 1).2 w1]
      by_cases w2 : WD φ q e (6 + 2)
      · exact ⟨2, (st _ 2 (by decide)).1 w2, (wt_8 h h11 h12 hq he _ 2).1 w2, Or.inr ⟨by decide, by decide⟩⟩
      · have s2 := (st (n + 1 + 1) 2 (by decide)).2 w2
        rw [show ((2 : Nat) : Int) = 2 from rfl, show ((2 + 1 : Nat) : Int) = 3 from rfl] at s2
        rw [s2, (wt_8 h h11 h12 hq he _ 2).2 w2]
        by_cases w3 : WD φ q e (6 + 3)
        · exact ⟨3, (st _ 3 (by decide)).1 w3, (wt_9 h h11 h12 hq he _ 3).1 w3, Or.inr ⟨by decide, by decide⟩⟩
        · have s3 := (st (n + 1) 3 (by decide)).2 w3
          rw [show ((3 : Nat) : Int) = 3 from rfl, show ((3 + 1 : Nat) : Int) = 4 from rfl] at s3
          rw [s3, (wt_9 h h11 h12 hq he _ 3).2 w3]
          rw [D_X4_figureWord_2.eq_2]
          simp only [bnd_e]
          rw [if_neg (by decide)]
          exact ⟨-4, rfl, rfl, Or.inl rfl⟩
