/-! the order of the MEN, counted -/
def stt (k h e : Int) : Int := if k = 2 then h + e - 2 else if k = 3 then h + e + 3 else h + e
def blw (S T : Nat → Int) (m o : Nat) : Prop := S m < S o ∨ (S m = S o ∧ (T o < T m ∨ (T m = T o ∧ m < o)))
theorem blw_dec (S T : Nat → Int) (m o : Nat) : blw S T m o ∨ ¬ blw S T m o := Classical.em _
theorem blw_tr {S T : Nat → Int} {a b c : Nat} (h : blw S T a b) (h2 : blw S T b c) : blw S T a c := by
  unfold blw at *
  omega
theorem blw_ir {S T : Nat → Int} {a : Nat} : ¬ blw S T a a := by
  unfold blw
  omega
theorem blw_tot {S T : Nat → Int} {a b : Nat} (h : a ≠ b) : blw S T a b ∨ blw S T b a := by
  unfold blw
  omega
noncomputable def rk (S T : Nat → Int) (m : Nat) : Nat → Nat
  | 0 => 0
  | o + 1 => rk S T m o + @ite Nat (o ≠ m ∧ blw S T o m) (Classical.propDecidable _) 1 0
theorem rk_s1 {S T : Nat → Int} {m o : Nat} (h : o ≠ m ∧ blw S T o m) : rk S T m (o + 1) = rk S T m o + 1 := by
  unfold rk
  rw [if_pos h]
  cases o <;> rfl
theorem rk_s0 {S T : Nat → Int} {m o : Nat} (h : ¬ (o ≠ m ∧ blw S T o m)) : rk S T m (o + 1) = rk S T m o := by
  show rk S T m o + @ite Nat (o ≠ m ∧ blw S T o m) (Classical.propDecidable _) 1 0 = rk S T m o
  rw [if_neg h]; rfl
theorem rk_le (S T : Nat → Int) (m : Nat) : ∀ o, rk S T m o ≤ o
  | 0 => Nat.le_refl 0
  | o + 1 => by
    have ih := rk_le S T m o
    rcases Classical.em (o ≠ m ∧ blw S T o m) with h | h
    · rw [rk_s1 h]; omega
    · rw [rk_s0 h]; omega
theorem rk_lt (S T : Nat → Int) (m : Nat) : ∀ o, m < o → rk S T m o < o
  | 0, h => absurd h (Nat.not_lt_zero _)
  | o + 1, hm => by
    rcases Classical.em (o = m) with h | h
    · rw [rk_s0 (fun q => q.1 h)]
      have := rk_le S T m o
      omega
    · have ih := rk_lt S T m o (by omega)
      rcases Classical.em (o ≠ m ∧ blw S T o m) with h | h
      · rw [rk_s1 h]; omega
      · rw [rk_s0 h]; omega
theorem rk_mono {S T : Nat → Int} {a b : Nat} (h : blw S T a b) : ∀ o, rk S T a o + (if a < o then 1 else 0) ≤ rk S T b o
  | 0 => by simp [rk]
  | o + 1 => by
    have ih := rk_mono h o
    have hab : a ≠ b := fun q => by rw [q] at h; exact blw_ir h
    by_cases ho : o = a
    · subst ho
      rw [rk_s0 (S := S) (T := T) (m := o) (fun q => q.1 rfl), rk_s1 (S := S) (T := T) (m := b) (o := o) ⟨hab, h⟩]
      rw [if_pos (Nat.lt_succ_self _)]
      rw [if_neg (Nat.lt_irrefl _)] at ih
      omega
    · have hi : (if a < o + 1 then 1 else 0) = (if a < o then (1 : Nat) else 0) := by
        by_cases q : a < o
        · rw [if_pos q, if_pos (by omega)]
        · rw [if_neg q, if_neg (by omega)]
      rw [hi]
      rcases Classical.em (o ≠ a ∧ blw S T o a) with q | q
      · have q2 : o ≠ b ∧ blw S T o b := ⟨fun e => by rw [e] at q; exact blw_ir (blw_tr q.2 h), blw_tr q.2 h⟩
        rw [rk_s1 q, rk_s1 q2]; omega
      · rw [rk_s0 q]
        rcases Classical.em (o ≠ b ∧ blw S T o b) with q2 | q2
        · rw [rk_s1 q2]; omega
        · rw [rk_s0 q2]; omega
theorem rk_inj {S T : Nat → Int} {a b M : Nat} (ha : a < M) (hb : b < M) (h : a ≠ b) : rk S T a M ≠ rk S T b M := by
  rcases blw_tot (S := S) (T := T) h with q | q
  · have := rk_mono q M
    rw [if_pos ha] at this
    omega
  · have := rk_mono q M
    rw [if_pos hb] at this
    omega
theorem fb_holes9 : ∀ (m n : Nat) (f : Nat → Nat), (∀ i, i < n → f i < m) → (∀ i j, i < j → j < n → f i ≠ f j) → n ≤ m
  | 0, n, f, h, _ => by
    cases n with
    | zero => exact Nat.le_refl 0
    | succ n => exact absurd (h 0 (Nat.succ_pos n)) (Nat.not_lt_zero _)
  | m + 1, n, f, h, h2 => by
    cases n with
    | zero => exact Nat.zero_le _
    | succ n =>
      -- the last value is taken out: values above it move down
      have hg := fb_holes9 m n (fun i => if f i < f n then f i else f i - 1) (fun i hi => by
        have h3 := h i (by omega)
        have h4 := h n (by omega)
        have h5 := h2 i n hi (by omega)
        show (if f i < f n then f i else f i - 1) < m
        by_cases q : f i < f n
        · rw [if_pos q]; omega
        · rw [if_neg q]; omega) (fun i j hij hj => by
        have h5 := h2 i n (by omega) (by omega)
        have h6 := h2 j n hj (by omega)
        have h7 := h2 i j hij (by omega)
        show (if f i < f n then f i else f i - 1) ≠ (if f j < f n then f j else f j - 1)
        by_cases q : f i < f n
        · by_cases r : f j < f n
          · rw [if_pos q, if_pos r]; exact h7
          · rw [if_pos q, if_neg r]; omega
        · by_cases r : f j < f n
          · rw [if_neg q, if_pos r]; omega
          · rw [if_neg q, if_neg r]; omega)
      omega
theorem rk_onto {S T : Nat → Int} {M i : Nat} (hi : i < M) : ∃ j, j < M ∧ rk S T j M = i := by
  rcases Classical.em (∃ j, j < M ∧ rk S T j M = i) with h | h
  · exact h
  · exfalso
    -- M values, none of them i: they fit into M - 1 places
    have := fb_holes9 (M - 1) M (fun j => if rk S T j M < i then rk S T j M else rk S T j M - 1) (fun j hj => by
      have h3 := rk_lt S T j M hj
      have h4 : rk S T j M ≠ i := fun q => h ⟨j, hj, q⟩
      show (if rk S T j M < i then rk S T j M else rk S T j M - 1) < M - 1
      by_cases q : rk S T j M < i
      · rw [if_pos q]; omega
      · rw [if_neg q]; omega) (fun a b hab hb => by
      have h3 := rk_inj (S := S) (T := T) (a := a) (b := b) (M := M) (by omega) hb (by omega)
      have h4 : rk S T a M ≠ i := fun q => h ⟨a, by omega, q⟩
      have h5 : rk S T b M ≠ i := fun q => h ⟨b, hb, q⟩
      show (if rk S T a M < i then rk S T a M else rk S T a M - 1) ≠ (if rk S T b M < i then rk S T b M else rk S T b M - 1)
      by_cases q : rk S T a M < i
      · by_cases r : rk S T b M < i
        · rw [if_pos q, if_pos r]; exact h3
        · rw [if_pos q, if_neg r]; omega
      · by_cases r : rk S T b M < i
        · rw [if_neg q, if_pos r]; omega
        · rw [if_neg q, if_neg r]; omega)
    omega
