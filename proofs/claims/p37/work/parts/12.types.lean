theorem bo_01 {x : Int32} (h1 : 0 ≤ x.toInt) (h2 : x.toInt ≤ 1) : x = 0 ∨ x = 1 := by
  have h : x.toInt = 0 ∨ x.toInt = 1 := by omega
  rcases h with h | h
  · exact Or.inl (Int32.toInt_inj.mp (by rw [h]; rfl))
  · exact Or.inr (Int32.toInt_inj.mp (by rw [h]; rfl))
theorem bo_n {x : Int32} (h1 : 0 ≤ x.toInt) (h2 : x.toInt ≤ 1) : narrow .boolean (.int x) = .int x := by
  rcases bo_01 h1 h2 with rfl | rfl <;> rfl
theorem bo_f {x : Int32} (h1 : 0 ≤ x.toInt) (h2 : x.toInt ≤ 1) : fits .boolean (.int x) = true := by
  rcases bo_01 h1 h2 with rfl | rfl <;> rfl
theorem bo_v {x : Int32} (h1 : 0 ≤ x.toInt) (h2 : x.toInt ≤ 1) : vp_nar .boolean x = x := by
  rcases bo_01 h1 h2 with rfl | rfl <;> rfl
abbrev Ga : Type := Nat → Nat × Nat
abbrev Zt : Type := va_G × (ClassId × ClassId × ClassId × ClassId × ClassId) × List Nat × Ga × (Nat → Nat)
abbrev zD (z : Zt) : va_G := z.1
abbrev zI (z : Zt) : ClassId := z.2.1.1
abbrev zZ (z : Zt) : ClassId := z.2.1.2.1
abbrev zE (z : Zt) : ClassId := z.2.1.2.2.1
abbrev zF (z : Zt) : ClassId := z.2.1.2.2.2.1
abbrev zS (z : Zt) : ClassId := z.2.1.2.2.2.2
abbrev zL (z : Zt) : List Nat := z.2.2.1
abbrev zG (z : Zt) : Ga := z.2.2.2.1
abbrev zK (z : Zt) : Nat → Nat := z.2.2.2.2
def zA (z : Zt) : Nat → Prop := fun q => q ∈ zL z
abbrev zT (z : Zt) : List (ClassId × FieldType) := [(zI z, .int), (zZ z, .boolean), (zE z, .object "HeelDance$Evening"), (zF z, .object "HeelDance$Floor"), (zS z, .object "HeelDance$Sheet")]
def zu (z : Zt) : Prop := ∀ a b, (zG z a).1 ≠ 0 → zG z a = zG z b → a = b
def eEvening (z : Zt) (ga : Nat → Int) (o : Nat) (e : va_E) : Prop := ∃ (q0 : Nat) (q1 : Nat) (q2 : Nat) (q3 : Nat) (q4 : Nat) (q5 : Nat) (x6 : Int32) (x7 : Int32), e = .inr (0, [.ref q0, .ref q1, .ref q2, .ref q3, .ref q4, .ref q5, .int x6, .int x7]) ∧ zG z q0 = (11, o) ∧ zG z q1 = (20, o) ∧ zG z q2 = (21, o) ∧ zG z q3 = (25, o) ∧ zG z q4 = (26, o) ∧ zG z q5 = (22, o) ∧ (x6.toInt = ga 6 ∧ 0 ≤ x6.toInt ∧ x6.toInt ≤ 8) ∧ (x7.toInt = ga 7 ∧ 0 ≤ x7.toInt ∧ x7.toInt ≤ 6)
def eFloor (z : Zt) (ga : Nat → Int) (o : Nat) (e : va_E) : Prop := ∃ (q0 : Nat) (q1 : Nat) (q2 : Nat) (q3 : Nat) (q4 : Nat) (q5 : Nat) (q6 : Nat) (q7 : Nat) (x8 : Int32) (x9 : Int32), e = .inr (1, [.ref q0, .ref q1, .ref q2, .ref q3, .ref q4, .ref q5, .ref q6, .ref q7, .int x8, .int x9]) ∧ zG z q0 = (51, o) ∧ zG z q1 = (52, o) ∧ zG z q2 = (53, o) ∧ zG z q3 = (54, o) ∧ zG z q4 = (27, o) ∧ zG z q5 = (55, o) ∧ zG z q6 = (28, o) ∧ zG z q7 = (29, o) ∧ (x8.toInt = ga 8 ∧ 0 ≤ x8.toInt ∧ x8.toInt ≤ 5) ∧ (x9.toInt = ga 9 ∧ 0 ≤ x9.toInt ∧ x9.toInt ≤ 999)
def eSearch (z : Zt) (ga : Nat → Int) (o : Nat) (e : va_E) : Prop := ∃ (q0 : Nat) (q1 : Nat) (q2 : Nat) (q3 : Nat) (x4 : Int32) (x5 : Int32) (x6 : Int32) (x7 : Int32), e = .inr (2, [.ref q0, .ref q1, .ref q2, .ref q3, .int x4, .int x5, .int x6, .int x7]) ∧ zG z q0 = (35, o) ∧ zG z q1 = (56, o) ∧ zG z q2 = (57, o) ∧ zG z q3 = (58, o) ∧ (x4.toInt = ga 4 ∧ 0 ≤ x4.toInt ∧ x4.toInt ≤ 1) ∧ (x5.toInt = ga 5 ∧ 0 ≤ x5.toInt ∧ x5.toInt ≤ 5) ∧ (x6.toInt = ga 6 ∧ -2147483648 ≤ x6.toInt ∧ x6.toInt ≤ 2147483647) ∧ (x7.toInt = ga 7 ∧ -2147483648 ≤ x7.toInt ∧ x7.toInt ≤ 2147483647)
def eSheet (z : Zt) (ga : Nat → Int) (o : Nat) (e : va_E) : Prop := ∃ (q0 : Nat) (x1 : Int32) (x2 : Int32), e = .inr (3, [.ref q0, .int x1, .int x2]) ∧ zG z q0 = (23, o) ∧ (x1.toInt = ga 1 ∧ -1 ≤ x1.toInt ∧ x1.toInt ≤ 2) ∧ (x2.toInt = ga 2 ∧ 0 ≤ x2.toInt ∧ x2.toInt ≤ 40)
def eTape (z : Zt) (ga : Nat → Int) (o : Nat) (e : va_E) : Prop := ∃ (q0 : Nat) (q1 : Nat) (x2 : Int32) (x3 : Int32) (x4 : Int32) (x5 : Int32) (x6 : Int32) (x7 : Int32) (x8 : Int32) (x9 : Int32), e = .inr (4, [.ref q0, .ref q1, .int x2, .int x3, .int x4, .int x5, .int x6, .int x7, .int x8, .int x9]) ∧ zG z q0 = (30, o) ∧ zG z q1 = (10, o) ∧ (x2.toInt = ga 2 ∧ 0 ≤ x2.toInt ∧ x2.toInt ≤ 160) ∧ (x3.toInt = ga 3 ∧ 0 ≤ x3.toInt ∧ x3.toInt ≤ 6) ∧ (x4.toInt = ga 4 ∧ 0 ≤ x4.toInt ∧ x4.toInt ≤ 160) ∧ (x5.toInt = ga 5 ∧ 0 ≤ x5.toInt ∧ x5.toInt ≤ 160) ∧ (x6.toInt = ga 6 ∧ 0 ≤ x6.toInt ∧ x6.toInt ≤ 4) ∧ (x7.toInt = ga 7 ∧ 0 ≤ x7.toInt ∧ x7.toInt ≤ 160) ∧ (x8.toInt = ga 8 ∧ 0 ≤ x8.toInt ∧ x8.toInt ≤ 999) ∧ (x9.toInt = ga 9 ∧ 0 ≤ x9.toInt ∧ x9.toInt ≤ 1)
def eWalk (z : Zt) (ga : Nat → Int) (o : Nat) (e : va_E) : Prop := ∃ (q0 : Nat) (q1 : Nat) (x2 : Int32), e = .inr (5, [.ref q0, .ref q1, .int x2]) ∧ zG z q0 = (11, o) ∧ zG z q1 = (24, o) ∧ (x2.toInt = ga 2 ∧ 0 ≤ x2.toInt ∧ x2.toInt ≤ 8)
def eHeelDance (z : Zt) (ga : Nat → Int) (o : Nat) (e : va_E) : Prop := ∃ (q0 : Nat) (q1 : Nat) (q2 : Nat) (q3 : Nat) (q4 : Nat) (q5 : Nat) (q6 : Nat) (x7 : Int32) (x8 : Int32), e = .inr (6, [.ref q0, .ref q1, .ref q2, .ref q3, .ref q4, .ref q5, .ref q6, .int x7, .int x8]) ∧ zG z q0 = (14, 2) ∧ zG z q1 = (10, 1) ∧ zG z q2 = (36, o) ∧ zG z q3 = (33, o) ∧ zG z q4 = (15, 5) ∧ zG z q5 = (12, 0) ∧ zG z q6 = (37, o) ∧ (x7.toInt = ga 7 ∧ 0 ≤ x7.toInt ∧ x7.toInt ≤ 6) ∧ (x8.toInt = ga 8 ∧ 0 ≤ x8.toInt ∧ x8.toInt ≤ 3)
def eModel (z : Zt) (ga : Nat → Int) (o : Nat) (e : va_E) : Prop := ∃ (q0 : Nat) (q1 : Nat) (q2 : Nat) (x3 : Int32) (q4 : Nat) (x5 : Int32) (x6 : Int32) (x7 : Int32) (x8 : Int32) (q9 : Nat) (x10 : Int32) (x11 : Int32) (x12 : Int32) (x13 : Int32) (x14 : Int32) (x15 : Int32) (x16 : Int32) (q17 : Nat) (q18 : Nat) (x19 : Int64) (x20 : Int64) (q21 : Nat) (q22 : Nat) (q23 : Nat) (x24 : Int32) (q25 : Nat), e = .inr (7, [.ref q0, .ref q1, .ref q2, .int x3, .ref q4, .int x5, .int x6, .int x7, .int x8, .ref q9, .int x10, .int x11, .int x12, .int x13, .int x14, .int x15, .int x16, .ref q17, .ref q18, .long x19, .long x20, .ref q21, .ref q22, .ref q23, .int x24, .ref q25]) ∧ zG z q0 = (40, o) ∧ zG z q1 = (41, o) ∧ zG z q2 = (42, o) ∧ (x3.toInt = ga 3 ∧ 0 ≤ x3.toInt ∧ x3.toInt ≤ 5) ∧ zG z q4 = (43, o) ∧ (x5.toInt = ga 5 ∧ 0 ≤ x5.toInt ∧ x5.toInt ≤ 5) ∧ (x6.toInt = ga 6 ∧ 0 ≤ x6.toInt ∧ x6.toInt ≤ 6) ∧ (x7.toInt = ga 7 ∧ 0 ≤ x7.toInt ∧ x7.toInt ≤ 1) ∧ (x8.toInt = ga 8 ∧ -4 ≤ x8.toInt ∧ x8.toInt ≤ 4) ∧ zG z q9 = (44, o) ∧ (x10.toInt = ga 10 ∧ 0 ≤ x10.toInt ∧ x10.toInt ≤ 160) ∧ (x11.toInt = ga 11 ∧ 0 ≤ x11.toInt ∧ x11.toInt ≤ 160) ∧ (x12.toInt = ga 12 ∧ 0 ≤ x12.toInt ∧ x12.toInt ≤ 160) ∧ (x13.toInt = ga 13 ∧ 0 ≤ x13.toInt ∧ x13.toInt ≤ 3) ∧ (x14.toInt = ga 14 ∧ 0 ≤ x14.toInt ∧ x14.toInt ≤ 999) ∧ (x15.toInt = ga 15 ∧ 0 ≤ x15.toInt ∧ x15.toInt ≤ 6) ∧ (x16.toInt = ga 16 ∧ 0 ≤ x16.toInt ∧ x16.toInt ≤ 160) ∧ zG z q17 = (45, o) ∧ zG z q18 = (46, o) ∧ x19.toInt = ga 19 ∧ x20.toInt = ga 20 ∧ zG z q21 = (47, o) ∧ zG z q22 = (48, o) ∧ zG z q23 = (49, o) ∧ (x24.toInt = ga 24 ∧ 0 ≤ x24.toInt ∧ x24.toInt ≤ 3) ∧ zG z q25 = (50, o)
def a20 (z : Zt) (ga : Nat → Int) (e : va_E) : Prop := ∃ f : Nat → Int32, e = .inl (zI z, 5, .inl f) ∧ ∀ i : Nat, i < 5 → (f i).toInt = ga i ∧ True
def a21 (z : Zt) (ga : Nat → Int) (e : va_E) : Prop := ∃ f : Nat → Int32, e = .inl (zI z, 8, .inl f) ∧ ∀ i : Nat, i < 8 → (f i).toInt = ga i ∧ True
def a22 (z : Zt) (ga : Nat → Int) (e : va_E) : Prop := ∃ f : Nat → Int32, e = .inl (zI z, 6, .inl f) ∧ ∀ i : Nat, i < 6 → (f i).toInt = ga i ∧ True
def a23 (z : Zt) (ga : Nat → Int) (e : va_E) : Prop := ∃ f : Nat → Int32, e = .inl (zI z, 40, .inl f) ∧ ∀ i : Nat, i < 40 → (f i).toInt = ga i ∧ True
def a24 (z : Zt) (ga : Nat → Int) (e : va_E) : Prop := ∃ f : Nat → Int32, e = .inl (zI z, 45, .inl f) ∧ ∀ i : Nat, i < 45 → (f i).toInt = ga i ∧ (0 ≤ (f i).toInt ∧ (f i).toInt ≤ 4)
def a25 (z : Zt) (ga : Nat → Int) (e : va_E) : Prop := ∃ f : Nat → Int32, e = .inl (zI z, 6, .inl f) ∧ ∀ i : Nat, i < 6 → (f i).toInt = ga i ∧ (0 ≤ (f i).toInt ∧ (f i).toInt ≤ 4)
def a26 (z : Zt) (ga : Nat → Int) (e : va_E) : Prop := ∃ f : Nat → Int32, e = .inl (zI z, 6, .inl f) ∧ ∀ i : Nat, i < 6 → (f i).toInt = ga i ∧ (0 ≤ (f i).toInt ∧ (f i).toInt ≤ 8)
def a27 (z : Zt) (ga : Nat → Int) (e : va_E) : Prop := ∃ f : Nat → Int32, e = .inl (zI z, 5, .inl f) ∧ ∀ i : Nat, i < 5 → (f i).toInt = ga i ∧ (0 ≤ (f i).toInt ∧ (f i).toInt ≤ 4)
def a28 (z : Zt) (ga : Nat → Int) (e : va_E) : Prop := ∃ f : Nat → Int32, e = .inl (zI z, 5, .inl f) ∧ ∀ i : Nat, i < 5 → (f i).toInt = ga i ∧ (0 ≤ (f i).toInt ∧ (f i).toInt ≤ 4)
def a29 (z : Zt) (ga : Nat → Int) (e : va_E) : Prop := ∃ f : Nat → Int32, e = .inl (zI z, 5, .inl f) ∧ ∀ i : Nat, i < 5 → (f i).toInt = ga i ∧ (0 ≤ (f i).toInt ∧ (f i).toInt ≤ 4)
def a30 (z : Zt) (ga : Nat → Int) (e : va_E) : Prop := ∃ f : Nat → Int32, e = .inl (zI z, 160, .inl f) ∧ ∀ i : Nat, i < 160 → (f i).toInt = ga i ∧ (0 ≤ (f i).toInt ∧ (f i).toInt ≤ 127)
def a33 (z : Zt) (ga : Nat → Int) (e : va_E) : Prop := ∃ f : Nat → Int32, e = .inl (zZ z, 2, .inl f) ∧ ∀ i : Nat, i < 2 → (f i).toInt = ga i ∧ (0 ≤ (f i).toInt ∧ (f i).toInt ≤ 1)
def a51 (z : Zt) (ga : Nat → Int) (e : va_E) : Prop := ∃ f : Nat → Int32, e = .inl (zI z, 5, .inl f) ∧ ∀ i : Nat, i < 5 → (f i).toInt = ga i ∧ True
def a52 (z : Zt) (ga : Nat → Int) (e : va_E) : Prop := ∃ f : Nat → Int32, e = .inl (zI z, 5, .inl f) ∧ ∀ i : Nat, i < 5 → (f i).toInt = ga i ∧ (0 ≤ (f i).toInt ∧ (f i).toInt ≤ 9)
def a53 (z : Zt) (ga : Nat → Int) (e : va_E) : Prop := ∃ f : Nat → Int32, e = .inl (zI z, 5, .inl f) ∧ ∀ i : Nat, i < 5 → (f i).toInt = ga i ∧ (0 ≤ (f i).toInt ∧ (f i).toInt ≤ 9)
def a54 (z : Zt) (ga : Nat → Int) (e : va_E) : Prop := ∃ f : Nat → Int32, e = .inl (zI z, 5, .inl f) ∧ ∀ i : Nat, i < 5 → (f i).toInt = ga i ∧ (0 ≤ (f i).toInt ∧ (f i).toInt ≤ 9)
def a55 (z : Zt) (ga : Nat → Int) (e : va_E) : Prop := ∃ f : Nat → Int32, e = .inl (zI z, 5, .inl f) ∧ ∀ i : Nat, i < 5 → (f i).toInt = ga i ∧ (-2 ≤ (f i).toInt ∧ (f i).toInt ≤ 21)
def a56 (z : Zt) (ga : Nat → Int) (e : va_E) : Prop := ∃ f : Nat → Int32, e = .inl (zI z, 5, .inl f) ∧ ∀ i : Nat, i < 5 → (f i).toInt = ga i ∧ True
def a57 (z : Zt) (ga : Nat → Int) (e : va_E) : Prop := ∃ f : Nat → Int32, e = .inl (zI z, 5, .inl f) ∧ ∀ i : Nat, i < 5 → (f i).toInt = ga i ∧ True
def a58 (z : Zt) (ga : Nat → Int) (e : va_E) : Prop := ∃ f : Nat → Int32, e = .inl (zI z, 5, .inl f) ∧ ∀ i : Nat, i < 5 → (f i).toInt = ga i ∧ True
def a40 (z : Zt) (ga : Nat → Int) (e : va_E) : Prop := ∃ f : Nat → Int32, e = .inl (zI z, 177, .inl f) ∧ ∀ i : Nat, i < 177 → (f i).toInt = ga i ∧ gd177 i (f i).toInt
def a41 (z : Zt) (ga : Nat → Int) (e : va_E) : Prop := ∃ f : Nat → Int32, e = .inl (zI z, 59, .inl f) ∧ ∀ i : Nat, i < 59 → (f i).toInt = ga i ∧ gd59 i (f i).toInt
def a42 (z : Zt) (ga : Nat → Int) (e : va_E) : Prop := ∃ f : Nat → Int32, e = .inl (zZ z, 2, .inl f) ∧ ∀ i : Nat, i < 2 → (f i).toInt = ga i ∧ (0 ≤ (f i).toInt ∧ (f i).toInt ≤ 1)
def a43 (z : Zt) (ga : Nat → Int) (e : va_E) : Prop := ∃ f : Nat → Int32, e = .inl (zI z, 59, .inl f) ∧ ∀ i : Nat, i < 59 → (f i).toInt = ga i ∧ gd59 i (f i).toInt
def a44 (z : Zt) (ga : Nat → Int) (e : va_E) : Prop := ∃ f : Nat → Int32, e = .inl (zI z, 160, .inl f) ∧ ∀ i : Nat, i < 160 → (f i).toInt = ga i ∧ (0 ≤ (f i).toInt ∧ (f i).toInt ≤ 127)
def a45 (z : Zt) (ga : Nat → Int) (e : va_E) : Prop := ∃ f : Nat → Int32, e = .inl (zI z, 5, .inl f) ∧ ∀ i : Nat, i < 5 → (f i).toInt = ga i ∧ (0 ≤ (f i).toInt ∧ (f i).toInt ≤ 4)
def a46 (z : Zt) (ga : Nat → Int) (e : va_E) : Prop := ∃ f : Nat → Int32, e = .inl (zI z, 5, .inl f) ∧ ∀ i : Nat, i < 5 → (f i).toInt = ga i ∧ (0 ≤ (f i).toInt ∧ (f i).toInt ≤ 4)
def a47 (z : Zt) (ga : Nat → Int) (e : va_E) : Prop := ∃ f : Nat → Int32, e = .inl (zI z, 4, .inl f) ∧ ∀ i : Nat, i < 4 → (f i).toInt = ga i ∧ (-4 ≤ (f i).toInt ∧ (f i).toInt ≤ 2)
def a48 (z : Zt) (ga : Nat → Int) (e : va_E) : Prop := ∃ f : Nat → Int32, e = .inl (zI z, 4, .inl f) ∧ ∀ i : Nat, i < 4 → (f i).toInt = ga i ∧ (0 ≤ (f i).toInt ∧ (f i).toInt ≤ 40)
def a49 (z : Zt) (ga : Nat → Int) (e : va_E) : Prop := ∃ f : Nat → Int32, e = .inl (zI z, 160, .inl f) ∧ ∀ i : Nat, i < 160 → (f i).toInt = ga i ∧ True
def a50 (z : Zt) (ga : Nat → Int) (e : va_E) : Prop := ∃ f : Nat → Int32, e = .inl (zI z, 59, .inl f) ∧ ∀ i : Nat, i < 59 → (f i).toInt = ga i ∧ gd59 i (f i).toInt
def a35 (z : Zt) (e : va_E) : Prop := ∃ f : Nat → Option Nat, e = .inl (zF z, 6, .inr (.inr (.inr (.inr f)))) ∧ ∀ i : Nat, i < 6 → ∃ q : Nat, f i = some q ∧ zG z q = (11, 6 + i)
def a36 (z : Zt) (e : va_E) : Prop := ∃ f : Nat → Option Nat, e = .inl (zE z, 2, .inr (.inr (.inr (.inr f)))) ∧ ∀ i : Nat, i < 2 → ∃ q : Nat, f i = some q ∧ zG z q = (10, 3 + i)
def a37 (z : Zt) (e : va_E) : Prop := ∃ f : Nat → Option Nat, e = .inl (zS z, 4, .inr (.inr (.inr (.inr f)))) ∧ ∀ i : Nat, i < 4 → ∃ q : Nat, f i = some q ∧ zG z q = (13, 20 + i)
def eOK (z : Zt) (ga : Nat → Int) (r : Nat × Nat) (e : va_E) : Prop := match r.1 with
  | 10 => eEvening z ga r.2 e
  | 11 => eFloor z ga r.2 e
  | 12 => eSearch z ga r.2 e
  | 13 => eSheet z ga r.2 e
  | 14 => eTape z ga r.2 e
  | 15 => eWalk z ga r.2 e
  | 16 => eHeelDance z ga r.2 e
  | 17 => eModel z ga r.2 e
  | 20 => a20 z ga e
  | 21 => a21 z ga e
  | 22 => a22 z ga e
  | 23 => a23 z ga e
  | 24 => a24 z ga e
  | 25 => a25 z ga e
  | 26 => a26 z ga e
  | 27 => a27 z ga e
  | 28 => a28 z ga e
  | 29 => a29 z ga e
  | 30 => a30 z ga e
  | 33 => a33 z ga e
  | 51 => a51 z ga e
  | 52 => a52 z ga e
  | 53 => a53 z ga e
  | 54 => a54 z ga e
  | 55 => a55 z ga e
  | 56 => a56 z ga e
  | 57 => a57 z ga e
  | 58 => a58 z ga e
  | 40 => a40 z ga e
  | 41 => a41 z ga e
  | 42 => a42 z ga e
  | 43 => a43 z ga e
  | 44 => a44 z ga e
  | 45 => a45 z ga e
  | 46 => a46 z ga e
  | 47 => a47 z ga e
  | 48 => a48 z ga e
  | 49 => a49 z ga e
  | 50 => a50 z ga e
  | 35 => a35 z e
  | 36 => a36 z e
  | 37 => a37 z e
  | _ => False
def TY (z : Zt) (A : Nat → Prop) (σ : Sg) (H : Heap) : Prop := ∃ E : Nat → va_E, va_P (zD z) vwCl ([] ++ va_pl (zL z) E) H ∧ va_D A ([] ++ va_pl (zL z) E) ∧ (∀ a, (zG z a).1 ≠ 0 → a ∈ zL z) ∧ zu z ∧ ∀ a, a ∈ zL z → eOK z (σ (zG z a).2 (zG z a).1) (zG z a) (E a)
theorem ty_up {z : Zt} {A : Nat → Prop} {σ σ' : Sg} {E : Nat → va_E} {k a : Nat} {e' : va_E} {H1 : Heap} (hP' : va_P (zD z) vwCl (([] ++ va_pl (zL z) E).set k (a, e')) H1) (hD' : va_D A (([] ++ va_pl (zL z) E).set k (a, e'))) (hD : va_D A ([] ++ va_pl (zL z) E)) (hm : ∀ a, (zG z a).1 ≠ 0 → a ∈ zL z) (hz : zu z) (hE : ∀ a, a ∈ zL z → eOK z (σ (zG z a).2 (zG z a).1) (zG z a) (E a)) (hL : a ∈ zL z) (hk : ([] ++ va_pl (zL z) E)[k]? = some (a, E a))
    (hok : eOK z (σ' (zG z a).2 (zG z a).1) (zG z a) e') (hmo : ∀ b, b ∈ zL z → b ≠ a → σ' (zG z b).2 (zG z b).1 = σ (zG z b).2 (zG z b).1) : TY z A σ' H1 := by
  rw [va_pl_set hD hL hk] at hP' hD'
  refine ⟨va_up E a e', hP', hD', hm, hz, fun b hb => ?_⟩
  by_cases h : b = a
  · subst h
    simp only [va_up, if_true]
    exact hok
  · simp only [va_up, if_neg h]
    rw [hmo b hb h]
    exact hE b hb
theorem eOK_0 {z : Zt} {ga : Nat → Int} {r : Nat × Nat} {e : va_E} (h : eOK z ga r e) : r.1 ≠ 0 := by
  intro q
  unfold eOK at h
  rw [q] at h
  exact h
theorem up_mo {z : Zt} {σ : Sg} {E : Nat → va_E} {a o r : Nat} {φ : Lo} (hz : zu z) (hE : ∀ a, a ∈ zL z → eOK z (σ (zG z a).2 (zG z a).1) (zG z a) (E a)) (ha : zG z a = (r, o)) (hφ : ∀ r', r' ≠ r → φ r' = σ o r') : ∀ b, b ∈ zL z → b ≠ a → gset σ o φ (zG z b).2 (zG z b).1 = σ (zG z b).2 (zG z b).1 := by
  intro b hb hn
  by_cases h : (zG z b).2 = o
  · rw [h, gset_at]
    refine hφ _ (fun q => hn (hz b a (eOK_0 (hE b hb)) ?_))
    rw [ha, ← q, ← h]
  · rw [gset_ne _ _ h]
/-! an object's fields, one by one -/
def fk (z : Zt) (ga : Nat → Int) (o j : Nat) (t : Nat × Nat × Int × Int) (v : Value) : Prop := match t.1 with
  | 0 => ∃ q : Nat, v = .ref q ∧ zG z q = (t.2.1, o)
  | 1 => ∃ x : Int32, v = .int x ∧ x.toInt = ga j ∧ t.2.2.1 ≤ x.toInt ∧ x.toInt ≤ t.2.2.2
  | 2 => ∃ x : Int64, v = .long x ∧ x.toInt = ga j
  | n => ∃ q : Nat, v = .ref q ∧ zG z q = (t.2.1, n - 3)
def fL (z : Zt) (ga : Nat → Int) (o : Nat) : Nat → List (Nat × Nat × Int × Int) → List Value → Prop
  | _, [], vs => vs = []
  | j, t :: ts, vs => ∃ v r, vs = v :: r ∧ fk z ga o j t v ∧ fL z ga o (j + 1) ts r
theorem fL_len {z : Zt} {ga : Nat → Int} {o : Nat} {ts : List (Nat × Nat × Int × Int)} : ∀ {j : Nat} {vs : List Value}, fL z ga o j ts vs → vs.length = ts.length := by
  induction ts with
  | nil =>
    intro j vs h
    rw [show vs = [] from h]
    rfl
  | cons t0 ts ih =>
    intro j vs h
    obtain ⟨v, r, rfl, hk, hr⟩ := h
    rw [List.length_cons, List.length_cons, ih hr]
theorem fL_get {z : Zt} {ga : Nat → Int} {o : Nat} {t : Nat × Nat × Int × Int} {ts : List (Nat × Nat × Int × Int)} : ∀ (i : Nat) {j : Nat} {vs : List Value}, fL z ga o j ts vs → ts[i]? = some t → ∃ v, vs[i]? = some v ∧ fk z ga o (j + i) t v := by
  induction ts with
  | nil =>
    intro i j vs h h2
    simp at h2
  | cons t0 ts ih =>
    intro i j vs h h2
    obtain ⟨v, r, rfl, hk, hr⟩ := h
    cases i with
    | zero =>
      have e : t0 = t := by simpa using h2
      subst e
      exact ⟨v, rfl, hk⟩
    | succ i =>
      obtain ⟨x, h1, h3⟩ := ih i hr (by simpa using h2)
      exact ⟨x, by simpa using h1, by rw [show j + (i + 1) = j + 1 + i by omega]; exact h3⟩
theorem fk_cg {z : Zt} {ga ga' : Nat → Int} {o j : Nat} {t : Nat × Nat × Int × Int} {v : Value} (h : fk z ga o j t v) (e : ga' j = ga j) : fk z ga' o j t v := by
  unfold fk at h ⊢
  rw [e]
  exact h
theorem fL_cg {z : Zt} {ga ga' : Nat → Int} {o : Nat} {ts : List (Nat × Nat × Int × Int)} : ∀ {j : Nat} {vs : List Value}, fL z ga o j ts vs → (∀ k, j ≤ k → ga' k = ga k) → fL z ga' o j ts vs := by
  induction ts with
  | nil =>
    intro j vs h hg
    exact h
  | cons t0 ts ih =>
    intro j vs h hg
    obtain ⟨v, r, rfl, hk, hr⟩ := h
    exact ⟨v, r, rfl, fk_cg hk (hg j (Nat.le_refl _)), ih hr (fun k h => hg k (by omega))⟩
theorem fL_set {z : Zt} {ga ga' : Nat → Int} {o : Nat} {t : Nat × Nat × Int × Int} {x : Value} {ts : List (Nat × Nat × Int × Int)} : ∀ (i : Nat) {j : Nat} {vs : List Value}, fL z ga o j ts vs → ts[i]? = some t → (∀ k, k ≠ j + i → ga' k = ga k) → fk z ga' o (j + i) t x → fL z ga' o j ts (vs.set i x) := by
  induction ts with
  | nil =>
    intro i j vs h h2
    simp at h2
  | cons t0 ts ih =>
    intro i j vs h h2 hg hx
    obtain ⟨v, r, rfl, hk, hr⟩ := h
    cases i with
    | zero =>
      have e : t0 = t := by simpa using h2
      subst e
      exact ⟨x, r, rfl, hx, fL_cg hr (fun k h => hg k (by omega))⟩
    | succ i =>
      refine ⟨v, r.set i x, rfl, fk_cg hk (hg j (by omega)), ih i hr (by simpa using h2) (fun k h => hg k (by omega)) ?_⟩
      rw [show j + 1 + i = j + (i + 1) by omega]
      exact hx
def tsEvening : List (Nat × Nat × Int × Int) := [(0, 11, 0, 0), (0, 20, 0, 0), (0, 21, 0, 0), (0, 25, 0, 0), (0, 26, 0, 0), (0, 22, 0, 0), (1, 0, 0, 8), (1, 0, 0, 6)]
theorem to_Evening {z : Zt} {ga : Nat → Int} {o : Nat} {e : va_E} (h : eEvening z ga o e) : ∃ fs, e = .inr (0, fs) ∧ fL z ga o 0 tsEvening fs := by
  obtain ⟨q0, q1, q2, q3, q4, q5, x6, x7, h9, f0, f1, f2, f3, f4, f5, f6, f7⟩ := h
  exact ⟨_, h9, ⟨_, _, rfl, ⟨q0, rfl, f0⟩, ⟨_, _, rfl, ⟨q1, rfl, f1⟩, ⟨_, _, rfl, ⟨q2, rfl, f2⟩, ⟨_, _, rfl, ⟨q3, rfl, f3⟩, ⟨_, _, rfl, ⟨q4, rfl, f4⟩, ⟨_, _, rfl, ⟨q5, rfl, f5⟩, ⟨_, _, rfl, ⟨x6, rfl, f6⟩, ⟨_, _, rfl, ⟨x7, rfl, f7⟩, rfl⟩⟩⟩⟩⟩⟩⟩⟩⟩
theorem of_Evening {z : Zt} {ga : Nat → Int} {o : Nat} {fs : List Value} (h : fL z ga o 0 tsEvening fs) : eEvening z ga o (.inr (0, fs)) := by
  obtain ⟨_, _, rfl, ⟨q0, rfl, f0⟩, h⟩ := h
  obtain ⟨_, _, rfl, ⟨q1, rfl, f1⟩, h⟩ := h
  obtain ⟨_, _, rfl, ⟨q2, rfl, f2⟩, h⟩ := h
  obtain ⟨_, _, rfl, ⟨q3, rfl, f3⟩, h⟩ := h
  obtain ⟨_, _, rfl, ⟨q4, rfl, f4⟩, h⟩ := h
  obtain ⟨_, _, rfl, ⟨q5, rfl, f5⟩, h⟩ := h
  obtain ⟨_, _, rfl, ⟨x6, rfl, f6⟩, h⟩ := h
  obtain ⟨_, _, rfl, ⟨x7, rfl, f7⟩, h⟩ := h
  obtain rfl := h
  exact ⟨q0, q1, q2, q3, q4, q5, x6, x7, rfl, f0, f1, f2, f3, f4, f5, f6, f7⟩
def tsFloor : List (Nat × Nat × Int × Int) := [(0, 51, 0, 0), (0, 52, 0, 0), (0, 53, 0, 0), (0, 54, 0, 0), (0, 27, 0, 0), (0, 55, 0, 0), (0, 28, 0, 0), (0, 29, 0, 0), (1, 0, 0, 5), (1, 0, 0, 999)]
theorem to_Floor {z : Zt} {ga : Nat → Int} {o : Nat} {e : va_E} (h : eFloor z ga o e) : ∃ fs, e = .inr (1, fs) ∧ fL z ga o 0 tsFloor fs := by
  obtain ⟨q0, q1, q2, q3, q4, q5, q6, q7, x8, x9, h9, f0, f1, f2, f3, f4, f5, f6, f7, f8, f9⟩ := h
  exact ⟨_, h9, ⟨_, _, rfl, ⟨q0, rfl, f0⟩, ⟨_, _, rfl, ⟨q1, rfl, f1⟩, ⟨_, _, rfl, ⟨q2, rfl, f2⟩, ⟨_, _, rfl, ⟨q3, rfl, f3⟩, ⟨_, _, rfl, ⟨q4, rfl, f4⟩, ⟨_, _, rfl, ⟨q5, rfl, f5⟩, ⟨_, _, rfl, ⟨q6, rfl, f6⟩, ⟨_, _, rfl, ⟨q7, rfl, f7⟩, ⟨_, _, rfl, ⟨x8, rfl, f8⟩, ⟨_, _, rfl, ⟨x9, rfl, f9⟩, rfl⟩⟩⟩⟩⟩⟩⟩⟩⟩⟩⟩
theorem of_Floor {z : Zt} {ga : Nat → Int} {o : Nat} {fs : List Value} (h : fL z ga o 0 tsFloor fs) : eFloor z ga o (.inr (1, fs)) := by
  obtain ⟨_, _, rfl, ⟨q0, rfl, f0⟩, h⟩ := h
  obtain ⟨_, _, rfl, ⟨q1, rfl, f1⟩, h⟩ := h
  obtain ⟨_, _, rfl, ⟨q2, rfl, f2⟩, h⟩ := h
  obtain ⟨_, _, rfl, ⟨q3, rfl, f3⟩, h⟩ := h
  obtain ⟨_, _, rfl, ⟨q4, rfl, f4⟩, h⟩ := h
  obtain ⟨_, _, rfl, ⟨q5, rfl, f5⟩, h⟩ := h
  obtain ⟨_, _, rfl, ⟨q6, rfl, f6⟩, h⟩ := h
  obtain ⟨_, _, rfl, ⟨q7, rfl, f7⟩, h⟩ := h
  obtain ⟨_, _, rfl, ⟨x8, rfl, f8⟩, h⟩ := h
  obtain ⟨_, _, rfl, ⟨x9, rfl, f9⟩, h⟩ := h
  obtain rfl := h
  exact ⟨q0, q1, q2, q3, q4, q5, q6, q7, x8, x9, rfl, f0, f1, f2, f3, f4, f5, f6, f7, f8, f9⟩
def tsSearch : List (Nat × Nat × Int × Int) := [(0, 35, 0, 0), (0, 56, 0, 0), (0, 57, 0, 0), (0, 58, 0, 0), (1, 0, 0, 1), (1, 0, 0, 5), (1, 0, -2147483648, 2147483647), (1, 0, -2147483648, 2147483647)]
theorem to_Search {z : Zt} {ga : Nat → Int} {o : Nat} {e : va_E} (h : eSearch z ga o e) : ∃ fs, e = .inr (2, fs) ∧ fL z ga o 0 tsSearch fs := by
  obtain ⟨q0, q1, q2, q3, x4, x5, x6, x7, h9, f0, f1, f2, f3, f4, f5, f6, f7⟩ := h
  exact ⟨_, h9, ⟨_, _, rfl, ⟨q0, rfl, f0⟩, ⟨_, _, rfl, ⟨q1, rfl, f1⟩, ⟨_, _, rfl, ⟨q2, rfl, f2⟩, ⟨_, _, rfl, ⟨q3, rfl, f3⟩, ⟨_, _, rfl, ⟨x4, rfl, f4⟩, ⟨_, _, rfl, ⟨x5, rfl, f5⟩, ⟨_, _, rfl, ⟨x6, rfl, f6⟩, ⟨_, _, rfl, ⟨x7, rfl, f7⟩, rfl⟩⟩⟩⟩⟩⟩⟩⟩⟩
theorem of_Search {z : Zt} {ga : Nat → Int} {o : Nat} {fs : List Value} (h : fL z ga o 0 tsSearch fs) : eSearch z ga o (.inr (2, fs)) := by
  obtain ⟨_, _, rfl, ⟨q0, rfl, f0⟩, h⟩ := h
  obtain ⟨_, _, rfl, ⟨q1, rfl, f1⟩, h⟩ := h
  obtain ⟨_, _, rfl, ⟨q2, rfl, f2⟩, h⟩ := h
  obtain ⟨_, _, rfl, ⟨q3, rfl, f3⟩, h⟩ := h
  obtain ⟨_, _, rfl, ⟨x4, rfl, f4⟩, h⟩ := h
  obtain ⟨_, _, rfl, ⟨x5, rfl, f5⟩, h⟩ := h
  obtain ⟨_, _, rfl, ⟨x6, rfl, f6⟩, h⟩ := h
  obtain ⟨_, _, rfl, ⟨x7, rfl, f7⟩, h⟩ := h
  obtain rfl := h
  exact ⟨q0, q1, q2, q3, x4, x5, x6, x7, rfl, f0, f1, f2, f3, f4, f5, f6, f7⟩
def tsSheet : List (Nat × Nat × Int × Int) := [(0, 23, 0, 0), (1, 0, -1, 2), (1, 0, 0, 40)]
theorem to_Sheet {z : Zt} {ga : Nat → Int} {o : Nat} {e : va_E} (h : eSheet z ga o e) : ∃ fs, e = .inr (3, fs) ∧ fL z ga o 0 tsSheet fs := by
  obtain ⟨q0, x1, x2, h9, f0, f1, f2⟩ := h
  exact ⟨_, h9, ⟨_, _, rfl, ⟨q0, rfl, f0⟩, ⟨_, _, rfl, ⟨x1, rfl, f1⟩, ⟨_, _, rfl, ⟨x2, rfl, f2⟩, rfl⟩⟩⟩⟩
theorem of_Sheet {z : Zt} {ga : Nat → Int} {o : Nat} {fs : List Value} (h : fL z ga o 0 tsSheet fs) : eSheet z ga o (.inr (3, fs)) := by
  obtain ⟨_, _, rfl, ⟨q0, rfl, f0⟩, h⟩ := h
  obtain ⟨_, _, rfl, ⟨x1, rfl, f1⟩, h⟩ := h
  obtain ⟨_, _, rfl, ⟨x2, rfl, f2⟩, h⟩ := h
  obtain rfl := h
  exact ⟨q0, x1, x2, rfl, f0, f1, f2⟩
def tsTape : List (Nat × Nat × Int × Int) := [(0, 30, 0, 0), (0, 10, 0, 0), (1, 0, 0, 160), (1, 0, 0, 6), (1, 0, 0, 160), (1, 0, 0, 160), (1, 0, 0, 4), (1, 0, 0, 160), (1, 0, 0, 999), (1, 0, 0, 1)]
theorem to_Tape {z : Zt} {ga : Nat → Int} {o : Nat} {e : va_E} (h : eTape z ga o e) : ∃ fs, e = .inr (4, fs) ∧ fL z ga o 0 tsTape fs := by
  obtain ⟨q0, q1, x2, x3, x4, x5, x6, x7, x8, x9, h9, f0, f1, f2, f3, f4, f5, f6, f7, f8, f9⟩ := h
  exact ⟨_, h9, ⟨_, _, rfl, ⟨q0, rfl, f0⟩, ⟨_, _, rfl, ⟨q1, rfl, f1⟩, ⟨_, _, rfl, ⟨x2, rfl, f2⟩, ⟨_, _, rfl, ⟨x3, rfl, f3⟩, ⟨_, _, rfl, ⟨x4, rfl, f4⟩, ⟨_, _, rfl, ⟨x5, rfl, f5⟩, ⟨_, _, rfl, ⟨x6, rfl, f6⟩, ⟨_, _, rfl, ⟨x7, rfl, f7⟩, ⟨_, _, rfl, ⟨x8, rfl, f8⟩, ⟨_, _, rfl, ⟨x9, rfl, f9⟩, rfl⟩⟩⟩⟩⟩⟩⟩⟩⟩⟩⟩
theorem of_Tape {z : Zt} {ga : Nat → Int} {o : Nat} {fs : List Value} (h : fL z ga o 0 tsTape fs) : eTape z ga o (.inr (4, fs)) := by
  obtain ⟨_, _, rfl, ⟨q0, rfl, f0⟩, h⟩ := h
  obtain ⟨_, _, rfl, ⟨q1, rfl, f1⟩, h⟩ := h
  obtain ⟨_, _, rfl, ⟨x2, rfl, f2⟩, h⟩ := h
  obtain ⟨_, _, rfl, ⟨x3, rfl, f3⟩, h⟩ := h
  obtain ⟨_, _, rfl, ⟨x4, rfl, f4⟩, h⟩ := h
  obtain ⟨_, _, rfl, ⟨x5, rfl, f5⟩, h⟩ := h
  obtain ⟨_, _, rfl, ⟨x6, rfl, f6⟩, h⟩ := h
  obtain ⟨_, _, rfl, ⟨x7, rfl, f7⟩, h⟩ := h
  obtain ⟨_, _, rfl, ⟨x8, rfl, f8⟩, h⟩ := h
  obtain ⟨_, _, rfl, ⟨x9, rfl, f9⟩, h⟩ := h
  obtain rfl := h
  exact ⟨q0, q1, x2, x3, x4, x5, x6, x7, x8, x9, rfl, f0, f1, f2, f3, f4, f5, f6, f7, f8, f9⟩
def tsWalk : List (Nat × Nat × Int × Int) := [(0, 11, 0, 0), (0, 24, 0, 0), (1, 0, 0, 8)]
theorem to_Walk {z : Zt} {ga : Nat → Int} {o : Nat} {e : va_E} (h : eWalk z ga o e) : ∃ fs, e = .inr (5, fs) ∧ fL z ga o 0 tsWalk fs := by
  obtain ⟨q0, q1, x2, h9, f0, f1, f2⟩ := h
  exact ⟨_, h9, ⟨_, _, rfl, ⟨q0, rfl, f0⟩, ⟨_, _, rfl, ⟨q1, rfl, f1⟩, ⟨_, _, rfl, ⟨x2, rfl, f2⟩, rfl⟩⟩⟩⟩
theorem of_Walk {z : Zt} {ga : Nat → Int} {o : Nat} {fs : List Value} (h : fL z ga o 0 tsWalk fs) : eWalk z ga o (.inr (5, fs)) := by
  obtain ⟨_, _, rfl, ⟨q0, rfl, f0⟩, h⟩ := h
  obtain ⟨_, _, rfl, ⟨q1, rfl, f1⟩, h⟩ := h
  obtain ⟨_, _, rfl, ⟨x2, rfl, f2⟩, h⟩ := h
  obtain rfl := h
  exact ⟨q0, q1, x2, rfl, f0, f1, f2⟩
def tsHeelDance : List (Nat × Nat × Int × Int) := [(5, 14, 0, 0), (4, 10, 0, 0), (0, 36, 0, 0), (0, 33, 0, 0), (8, 15, 0, 0), (3, 12, 0, 0), (0, 37, 0, 0), (1, 0, 0, 6), (1, 0, 0, 3)]
theorem to_HeelDance {z : Zt} {ga : Nat → Int} {o : Nat} {e : va_E} (h : eHeelDance z ga o e) : ∃ fs, e = .inr (6, fs) ∧ fL z ga o 0 tsHeelDance fs := by
  obtain ⟨q0, q1, q2, q3, q4, q5, q6, x7, x8, h9, f0, f1, f2, f3, f4, f5, f6, f7, f8⟩ := h
  exact ⟨_, h9, ⟨_, _, rfl, ⟨q0, rfl, f0⟩, ⟨_, _, rfl, ⟨q1, rfl, f1⟩, ⟨_, _, rfl, ⟨q2, rfl, f2⟩, ⟨_, _, rfl, ⟨q3, rfl, f3⟩, ⟨_, _, rfl, ⟨q4, rfl, f4⟩, ⟨_, _, rfl, ⟨q5, rfl, f5⟩, ⟨_, _, rfl, ⟨q6, rfl, f6⟩, ⟨_, _, rfl, ⟨x7, rfl, f7⟩, ⟨_, _, rfl, ⟨x8, rfl, f8⟩, rfl⟩⟩⟩⟩⟩⟩⟩⟩⟩⟩
theorem of_HeelDance {z : Zt} {ga : Nat → Int} {o : Nat} {fs : List Value} (h : fL z ga o 0 tsHeelDance fs) : eHeelDance z ga o (.inr (6, fs)) := by
  obtain ⟨_, _, rfl, ⟨q0, rfl, f0⟩, h⟩ := h
  obtain ⟨_, _, rfl, ⟨q1, rfl, f1⟩, h⟩ := h
  obtain ⟨_, _, rfl, ⟨q2, rfl, f2⟩, h⟩ := h
  obtain ⟨_, _, rfl, ⟨q3, rfl, f3⟩, h⟩ := h
  obtain ⟨_, _, rfl, ⟨q4, rfl, f4⟩, h⟩ := h
  obtain ⟨_, _, rfl, ⟨q5, rfl, f5⟩, h⟩ := h
  obtain ⟨_, _, rfl, ⟨q6, rfl, f6⟩, h⟩ := h
  obtain ⟨_, _, rfl, ⟨x7, rfl, f7⟩, h⟩ := h
  obtain ⟨_, _, rfl, ⟨x8, rfl, f8⟩, h⟩ := h
  obtain rfl := h
  exact ⟨q0, q1, q2, q3, q4, q5, q6, x7, x8, rfl, f0, f1, f2, f3, f4, f5, f6, f7, f8⟩
def tsModel : List (Nat × Nat × Int × Int) := [(0, 40, 0, 0), (0, 41, 0, 0), (0, 42, 0, 0), (1, 0, 0, 5), (0, 43, 0, 0), (1, 0, 0, 5), (1, 0, 0, 6), (1, 0, 0, 1), (1, 0, -4, 4), (0, 44, 0, 0), (1, 0, 0, 160), (1, 0, 0, 160), (1, 0, 0, 160), (1, 0, 0, 3), (1, 0, 0, 999), (1, 0, 0, 6), (1, 0, 0, 160), (0, 45, 0, 0), (0, 46, 0, 0), (2, 0, 0, 0), (2, 0, 0, 0), (0, 47, 0, 0), (0, 48, 0, 0), (0, 49, 0, 0), (1, 0, 0, 3), (0, 50, 0, 0)]
theorem to_Model {z : Zt} {ga : Nat → Int} {o : Nat} {e : va_E} (h : eModel z ga o e) : ∃ fs, e = .inr (7, fs) ∧ fL z ga o 0 tsModel fs := by
  obtain ⟨q0, q1, q2, x3, q4, x5, x6, x7, x8, q9, x10, x11, x12, x13, x14, x15, x16, q17, q18, x19, x20, q21, q22, q23, x24, q25, h9, f0, f1, f2, f3, f4, f5, f6, f7, f8, f9, f10, f11, f12, f13, f14, f15, f16, f17, f18, f19, f20, f21, f22, f23, f24, f25⟩ := h
  exact ⟨_, h9, ⟨_, _, rfl, ⟨q0, rfl, f0⟩, ⟨_, _, rfl, ⟨q1, rfl, f1⟩, ⟨_, _, rfl, ⟨q2, rfl, f2⟩, ⟨_, _, rfl, ⟨x3, rfl, f3⟩, ⟨_, _, rfl, ⟨q4, rfl, f4⟩, ⟨_, _, rfl, ⟨x5, rfl, f5⟩, ⟨_, _, rfl, ⟨x6, rfl, f6⟩, ⟨_, _, rfl, ⟨x7, rfl, f7⟩, ⟨_, _, rfl, ⟨x8, rfl, f8⟩, ⟨_, _, rfl, ⟨q9, rfl, f9⟩, ⟨_, _, rfl, ⟨x10, rfl, f10⟩, ⟨_, _, rfl, ⟨x11, rfl, f11⟩, ⟨_, _, rfl, ⟨x12, rfl, f12⟩, ⟨_, _, rfl, ⟨x13, rfl, f13⟩, ⟨_, _, rfl, ⟨x14, rfl, f14⟩, ⟨_, _, rfl, ⟨x15, rfl, f15⟩, ⟨_, _, rfl, ⟨x16, rfl, f16⟩, ⟨_, _, rfl, ⟨q17, rfl, f17⟩, ⟨_, _, rfl, ⟨q18, rfl, f18⟩, ⟨_, _, rfl, ⟨x19, rfl, f19⟩, ⟨_, _, rfl, ⟨x20, rfl, f20⟩, ⟨_, _, rfl, ⟨q21, rfl, f21⟩, ⟨_, _, rfl, ⟨q22, rfl, f22⟩, ⟨_, _, rfl, ⟨q23, rfl, f23⟩, ⟨_, _, rfl, ⟨x24, rfl, f24⟩, ⟨_, _, rfl, ⟨q25, rfl, f25⟩, rfl⟩⟩⟩⟩⟩⟩⟩⟩⟩⟩⟩⟩⟩⟩⟩⟩⟩⟩⟩⟩⟩⟩⟩⟩⟩⟩⟩
theorem of_Model {z : Zt} {ga : Nat → Int} {o : Nat} {fs : List Value} (h : fL z ga o 0 tsModel fs) : eModel z ga o (.inr (7, fs)) := by
  obtain ⟨_, _, rfl, ⟨q0, rfl, f0⟩, h⟩ := h
  obtain ⟨_, _, rfl, ⟨q1, rfl, f1⟩, h⟩ := h
  obtain ⟨_, _, rfl, ⟨q2, rfl, f2⟩, h⟩ := h
  obtain ⟨_, _, rfl, ⟨x3, rfl, f3⟩, h⟩ := h
  obtain ⟨_, _, rfl, ⟨q4, rfl, f4⟩, h⟩ := h
  obtain ⟨_, _, rfl, ⟨x5, rfl, f5⟩, h⟩ := h
  obtain ⟨_, _, rfl, ⟨x6, rfl, f6⟩, h⟩ := h
  obtain ⟨_, _, rfl, ⟨x7, rfl, f7⟩, h⟩ := h
  obtain ⟨_, _, rfl, ⟨x8, rfl, f8⟩, h⟩ := h
  obtain ⟨_, _, rfl, ⟨q9, rfl, f9⟩, h⟩ := h
  obtain ⟨_, _, rfl, ⟨x10, rfl, f10⟩, h⟩ := h
  obtain ⟨_, _, rfl, ⟨x11, rfl, f11⟩, h⟩ := h
  obtain ⟨_, _, rfl, ⟨x12, rfl, f12⟩, h⟩ := h
  obtain ⟨_, _, rfl, ⟨x13, rfl, f13⟩, h⟩ := h
  obtain ⟨_, _, rfl, ⟨x14, rfl, f14⟩, h⟩ := h
  obtain ⟨_, _, rfl, ⟨x15, rfl, f15⟩, h⟩ := h
  obtain ⟨_, _, rfl, ⟨x16, rfl, f16⟩, h⟩ := h
  obtain ⟨_, _, rfl, ⟨q17, rfl, f17⟩, h⟩ := h
  obtain ⟨_, _, rfl, ⟨q18, rfl, f18⟩, h⟩ := h
  obtain ⟨_, _, rfl, ⟨x19, rfl, f19⟩, h⟩ := h
  obtain ⟨_, _, rfl, ⟨x20, rfl, f20⟩, h⟩ := h
  obtain ⟨_, _, rfl, ⟨q21, rfl, f21⟩, h⟩ := h
  obtain ⟨_, _, rfl, ⟨q22, rfl, f22⟩, h⟩ := h
  obtain ⟨_, _, rfl, ⟨q23, rfl, f23⟩, h⟩ := h
  obtain ⟨_, _, rfl, ⟨x24, rfl, f24⟩, h⟩ := h
  obtain ⟨_, _, rfl, ⟨q25, rfl, f25⟩, h⟩ := h
  obtain rfl := h
  exact ⟨q0, q1, q2, x3, q4, x5, x6, x7, x8, q9, x10, x11, x12, x13, x14, x15, x16, q17, q18, x19, x20, q21, q22, q23, x24, q25, rfl, f0, f1, f2, f3, f4, f5, f6, f7, f8, f9, f10, f11, f12, f13, f14, f15, f16, f17, f18, f19, f20, f21, f22, f23, f24, f25⟩
section TYR
variable {p : Program} {l : Launch} {e : Env} {R : Room} {s : State} {m : MethodId} {args : Array Value} {below : List Frame} {meth : Method} {c : Code} {H H0 : Heap} {locs : List Loc} {cells slots : Nat} {Q : State → Prop}
variable {cc : ByteArray} {pc : Nat} {ls : Array Slot} {rest : List Value} {z : Zt} {A : Nat → Prop} {a o index : Nat} {σ : Sg} {Ts : List Cond} {own : String}
theorem rv_Evening (hK : va_K (zD z) vwCl (zT z) s) (hT : TY z A σ H) (ha : zG z a = (10, o)) : ∃ cell : Cell, H[a]? = some cell ∧ cell.vm.isStatics = false ∧ s.vm.findClass RX0 = some cell.cls := by
  obtain ⟨E, hP, hD, hm, hz, hE⟩ := hT
  have hL : a ∈ zL z := hm a (by rw [ha]; exact Nat.succ_ne_zero _)
  obtain ⟨k, hk0⟩ := va_pl_get (X := []) (f := E) hL
  have he := hE a hL
  rw [ha] at he
  obtain ⟨fs, h9, hf⟩ := to_Evening (show eEvening z (σ o 10) o (E a) from he)
  have hk := hk0
  rw [h9] at hk
  exact va_recv hK hP (ci := 0) (q := (RX0, TX0, 8)) rfl hk
theorem gt_Evening_floor (hx : p.tables.exec = Jvm.exec) (hb : c.code = cc) (hts : ∀ w ∈ Ts, w.before args s = true) (hin : ∀ w ∈ u_ws RX0 TX0 8, w ∈ Ts) (hown : s.vm.findClass own = some m.cls) (hK : va_K (zD z) vwCl (zT z) s) (hT : TY z A σ H) (ha : zG z a = (10, o)) (hlink : (Cond.fieldLink own index (TX0 0).1 (TX0 0).2.1 (TX0 0).2.2.1).before args s = true) (hdg : decode cc pc = .ok (.getfield index, 3)) (kk : ∀ q : Nat, zG z q = (11, o) → W p l e R s m args below meth c H locs cells slots Q (F0 m (pc + 3) ls (.ref q :: rest))) : W p l e R s m args below meth c H locs cells slots Q (F0 m pc ls (.ref a :: rest)) := by
  obtain ⟨E, hP, hD, hm, hz, hE⟩ := hT
  have hL : a ∈ zL z := hm a (by rw [ha]; exact Nat.succ_ne_zero _)
  obtain ⟨k, hk0⟩ := va_pl_get (X := []) (f := E) hL
  have he := hE a hL
  rw [ha] at he
  obtain ⟨fs, h9, hf⟩ := to_Evening (show eEvening z (σ o 10) o (E a) from he)
  have hk := hk0
  rw [h9] at hk
  obtain ⟨_, hv, y, rfl, f⟩ := fL_get 0 hf rfl
  exact va_get (D := zD z) (ci := 0) (C := RX0) (T := TX0) (N := 8) hx hb hts hin hown hK hP k hk rfl 0 (by decide) hlink (fun _ h9 => h9) hv hdg (kk y f)
theorem gt_Evening_kin (hx : p.tables.exec = Jvm.exec) (hb : c.code = cc) (hts : ∀ w ∈ Ts, w.before args s = true) (hin : ∀ w ∈ u_ws RX0 TX0 8, w ∈ Ts) (hown : s.vm.findClass own = some m.cls) (hK : va_K (zD z) vwCl (zT z) s) (hT : TY z A σ H) (ha : zG z a = (10, o)) (hlink : (Cond.fieldLink own index (TX0 1).1 (TX0 1).2.1 (TX0 1).2.2.1).before args s = true) (hdg : decode cc pc = .ok (.getfield index, 3)) (kk : ∀ q : Nat, zG z q = (20, o) → W p l e R s m args below meth c H locs cells slots Q (F0 m (pc + 3) ls (.ref q :: rest))) : W p l e R s m args below meth c H locs cells slots Q (F0 m pc ls (.ref a :: rest)) := by
  obtain ⟨E, hP, hD, hm, hz, hE⟩ := hT
  have hL : a ∈ zL z := hm a (by rw [ha]; exact Nat.succ_ne_zero _)
  obtain ⟨k, hk0⟩ := va_pl_get (X := []) (f := E) hL
  have he := hE a hL
  rw [ha] at he
  obtain ⟨fs, h9, hf⟩ := to_Evening (show eEvening z (σ o 10) o (E a) from he)
  have hk := hk0
  rw [h9] at hk
  obtain ⟨_, hv, y, rfl, f⟩ := fL_get 1 hf rfl
  exact va_get (D := zD z) (ci := 0) (C := RX0) (T := TX0) (N := 8) hx hb hts hin hown hK hP k hk rfl 1 (by decide) hlink (fun _ h9 => h9) hv hdg (kk y f)
theorem gt_Evening_program (hx : p.tables.exec = Jvm.exec) (hb : c.code = cc) (hts : ∀ w ∈ Ts, w.before args s = true) (hin : ∀ w ∈ u_ws RX0 TX0 8, w ∈ Ts) (hown : s.vm.findClass own = some m.cls) (hK : va_K (zD z) vwCl (zT z) s) (hT : TY z A σ H) (ha : zG z a = (10, o)) (hlink : (Cond.fieldLink own index (TX0 2).1 (TX0 2).2.1 (TX0 2).2.2.1).before args s = true) (hdg : decode cc pc = .ok (.getfield index, 3)) (kk : ∀ q : Nat, zG z q = (21, o) → W p l e R s m args below meth c H locs cells slots Q (F0 m (pc + 3) ls (.ref q :: rest))) : W p l e R s m args below meth c H locs cells slots Q (F0 m pc ls (.ref a :: rest)) := by
  obtain ⟨E, hP, hD, hm, hz, hE⟩ := hT
  have hL : a ∈ zL z := hm a (by rw [ha]; exact Nat.succ_ne_zero _)
  obtain ⟨k, hk0⟩ := va_pl_get (X := []) (f := E) hL
  have he := hE a hL
  rw [ha] at he
  obtain ⟨fs, h9, hf⟩ := to_Evening (show eEvening z (σ o 10) o (E a) from he)
  have hk := hk0
  rw [h9] at hk
  obtain ⟨_, hv, y, rfl, f⟩ := fL_get 2 hf rfl
  exact va_get (D := zD z) (ci := 0) (C := RX0) (T := TX0) (N := 8) hx hb hts hin hown hK hP k hk rfl 2 (by decide) hlink (fun _ h9 => h9) hv hdg (kk y f)
theorem gt_Evening_seenWoman (hx : p.tables.exec = Jvm.exec) (hb : c.code = cc) (hts : ∀ w ∈ Ts, w.before args s = true) (hin : ∀ w ∈ u_ws RX0 TX0 8, w ∈ Ts) (hown : s.vm.findClass own = some m.cls) (hK : va_K (zD z) vwCl (zT z) s) (hT : TY z A σ H) (ha : zG z a = (10, o)) (hlink : (Cond.fieldLink own index (TX0 3).1 (TX0 3).2.1 (TX0 3).2.2.1).before args s = true) (hdg : decode cc pc = .ok (.getfield index, 3)) (kk : ∀ q : Nat, zG z q = (25, o) → W p l e R s m args below meth c H locs cells slots Q (F0 m (pc + 3) ls (.ref q :: rest))) : W p l e R s m args below meth c H locs cells slots Q (F0 m pc ls (.ref a :: rest)) := by
  obtain ⟨E, hP, hD, hm, hz, hE⟩ := hT
  have hL : a ∈ zL z := hm a (by rw [ha]; exact Nat.succ_ne_zero _)
  obtain ⟨k, hk0⟩ := va_pl_get (X := []) (f := E) hL
  have he := hE a hL
  rw [ha] at he
  obtain ⟨fs, h9, hf⟩ := to_Evening (show eEvening z (σ o 10) o (E a) from he)
  have hk := hk0
  rw [h9] at hk
  obtain ⟨_, hv, y, rfl, f⟩ := fL_get 3 hf rfl
  exact va_get (D := zD z) (ci := 0) (C := RX0) (T := TX0) (N := 8) hx hb hts hin hown hK hP k hk rfl 3 (by decide) hlink (fun _ h9 => h9) hv hdg (kk y f)
theorem gt_Evening_seenBehind (hx : p.tables.exec = Jvm.exec) (hb : c.code = cc) (hts : ∀ w ∈ Ts, w.before args s = true) (hin : ∀ w ∈ u_ws RX0 TX0 8, w ∈ Ts) (hown : s.vm.findClass own = some m.cls) (hK : va_K (zD z) vwCl (zT z) s) (hT : TY z A σ H) (ha : zG z a = (10, o)) (hlink : (Cond.fieldLink own index (TX0 4).1 (TX0 4).2.1 (TX0 4).2.2.1).before args s = true) (hdg : decode cc pc = .ok (.getfield index, 3)) (kk : ∀ q : Nat, zG z q = (26, o) → W p l e R s m args below meth c H locs cells slots Q (F0 m (pc + 3) ls (.ref q :: rest))) : W p l e R s m args below meth c H locs cells slots Q (F0 m pc ls (.ref a :: rest)) := by
  obtain ⟨E, hP, hD, hm, hz, hE⟩ := hT
  have hL : a ∈ zL z := hm a (by rw [ha]; exact Nat.succ_ne_zero _)
  obtain ⟨k, hk0⟩ := va_pl_get (X := []) (f := E) hL
  have he := hE a hL
  rw [ha] at he
  obtain ⟨fs, h9, hf⟩ := to_Evening (show eEvening z (σ o 10) o (E a) from he)
  have hk := hk0
  rw [h9] at hk
  obtain ⟨_, hv, y, rfl, f⟩ := fL_get 4 hf rfl
  exact va_get (D := zD z) (ci := 0) (C := RX0) (T := TX0) (N := 8) hx hb hts hin hown hK hP k hk rfl 4 (by decide) hlink (fun _ h9 => h9) hv hdg (kk y f)
theorem gt_Evening_seenMan (hx : p.tables.exec = Jvm.exec) (hb : c.code = cc) (hts : ∀ w ∈ Ts, w.before args s = true) (hin : ∀ w ∈ u_ws RX0 TX0 8, w ∈ Ts) (hown : s.vm.findClass own = some m.cls) (hK : va_K (zD z) vwCl (zT z) s) (hT : TY z A σ H) (ha : zG z a = (10, o)) (hlink : (Cond.fieldLink own index (TX0 5).1 (TX0 5).2.1 (TX0 5).2.2.1).before args s = true) (hdg : decode cc pc = .ok (.getfield index, 3)) (kk : ∀ q : Nat, zG z q = (22, o) → W p l e R s m args below meth c H locs cells slots Q (F0 m (pc + 3) ls (.ref q :: rest))) : W p l e R s m args below meth c H locs cells slots Q (F0 m pc ls (.ref a :: rest)) := by
  obtain ⟨E, hP, hD, hm, hz, hE⟩ := hT
  have hL : a ∈ zL z := hm a (by rw [ha]; exact Nat.succ_ne_zero _)
  obtain ⟨k, hk0⟩ := va_pl_get (X := []) (f := E) hL
  have he := hE a hL
  rw [ha] at he
  obtain ⟨fs, h9, hf⟩ := to_Evening (show eEvening z (σ o 10) o (E a) from he)
  have hk := hk0
  rw [h9] at hk
  obtain ⟨_, hv, y, rfl, f⟩ := fL_get 5 hf rfl
  exact va_get (D := zD z) (ci := 0) (C := RX0) (T := TX0) (N := 8) hx hb hts hin hown hK hP k hk rfl 5 (by decide) hlink (fun _ h9 => h9) hv hdg (kk y f)
theorem gt_Evening_figures (hx : p.tables.exec = Jvm.exec) (hb : c.code = cc) (hts : ∀ w ∈ Ts, w.before args s = true) (hin : ∀ w ∈ u_ws RX0 TX0 8, w ∈ Ts) (hown : s.vm.findClass own = some m.cls) (hK : va_K (zD z) vwCl (zT z) s) (hT : TY z A σ H) (ha : zG z a = (10, o)) (hlink : (Cond.fieldLink own index (TX0 6).1 (TX0 6).2.1 (TX0 6).2.2.1).before args s = true) (hdg : decode cc pc = .ok (.getfield index, 3)) (kk : ∀ x : Int32, x.toInt = σ o 10 6 → 0 ≤ x.toInt → x.toInt ≤ 8 → W p l e R s m args below meth c H locs cells slots Q (F0 m (pc + 3) ls (.int x :: rest))) : W p l e R s m args below meth c H locs cells slots Q (F0 m pc ls (.ref a :: rest)) := by
  obtain ⟨E, hP, hD, hm, hz, hE⟩ := hT
  have hL : a ∈ zL z := hm a (by rw [ha]; exact Nat.succ_ne_zero _)
  obtain ⟨k, hk0⟩ := va_pl_get (X := []) (f := E) hL
  have he := hE a hL
  rw [ha] at he
  obtain ⟨fs, h9, hf⟩ := to_Evening (show eEvening z (σ o 10) o (E a) from he)
  have hk := hk0
  rw [h9] at hk
  obtain ⟨_, hv, y, rfl, f⟩ := fL_get 6 hf rfl
  exact va_get (D := zD z) (ci := 0) (C := RX0) (T := TX0) (N := 8) hx hb hts hin hown hK hP k hk rfl 6 (by decide) hlink (fun _ h9 => h9) hv hdg (kk y f.1 f.2.1 f.2.2)
theorem pt_Evening_figures {x : Int32} (hx : p.tables.exec = Jvm.exec) (hb : c.code = cc) (hts : ∀ w ∈ Ts, w.before args s = true) (hin : ∀ w ∈ u_ws RX0 TX0 8, w ∈ Ts) (hown : s.vm.findClass own = some m.cls) (hK : va_K (zD z) vwCl (zT z) s) (hT : TY z A σ H) (hS : va_S A H0 H locs) (ha : zG z a = (10, o)) (hlink : (Cond.fieldLink own index (TX0 6).1 (TX0 6).2.1 (TX0 6).2.2.1).before args s = true) (h1 : 0 ≤ x.toInt) (h2 : x.toInt ≤ 8) (hdg : decode cc pc = .ok (.putfield index, 3)) (kk : ∀ (H1 : Heap) (locs1 : List Loc), TY z A (wr σ o 10 6 x.toInt) H1 → va_S A H0 H1 locs1 → W p l e R s m args below meth c H1 locs1 cells slots Q (F0 m (pc + 3) ls (rest))) : W p l e R s m args below meth c H locs cells slots Q (F0 m pc ls (.int x :: .ref a :: rest)) := by
  obtain ⟨E, hP, hD, hm, hz, hE⟩ := hT
  have hL : a ∈ zL z := hm a (by rw [ha]; exact Nat.succ_ne_zero _)
  obtain ⟨k, hk0⟩ := va_pl_get (X := []) (f := E) hL
  have he := hE a hL
  rw [ha] at he
  obtain ⟨fs, h9, hf⟩ := to_Evening (show eEvening z (σ o 10) o (E a) from he)
  have hk := hk0
  rw [h9] at hk
  refine va_put (D := zD z) (ci := 0) (v := .int x) (ty := .int) (C := RX0) (T := TX0) (N := 8) hx hb hts hin tyX0 tyX0_ok nmX0 hown hK hP hD hS k hk rfl 6 (by decide) hlink (fun _ h9 => h9) rfl (by decide +kernel) rfl rfl (by rw [fL_len hf]; decide) hdg (fun H1 locs1 hP1 hD1 hS1 => ?_)
  refine kk H1 locs1 (ty_up hP1 hD1 hD hm hz hE hL hk0 ?_ (up_mo hz hE ha (fun r' hr' => wrl_nr _ _ hr'))) hS1
  rw [ha]
  show eOK z (gset σ o (wrl (σ o) 10 6 x.toInt) o 10) (10, o) _
  rw [gset_at]
  exact of_Evening (fL_set 6 hf rfl (fun j hj => wrl_ni _ _ (fun q => hj (by omega))) ⟨x, rfl, (wrl_at _ _ _ _).symm, h1, h2⟩)
theorem gt_Evening_seen (hx : p.tables.exec = Jvm.exec) (hb : c.code = cc) (hts : ∀ w ∈ Ts, w.before args s = true) (hin : ∀ w ∈ u_ws RX0 TX0 8, w ∈ Ts) (hown : s.vm.findClass own = some m.cls) (hK : va_K (zD z) vwCl (zT z) s) (hT : TY z A σ H) (ha : zG z a = (10, o)) (hlink : (Cond.fieldLink own index (TX0 7).1 (TX0 7).2.1 (TX0 7).2.2.1).before args s = true) (hdg : decode cc pc = .ok (.getfield index, 3)) (kk : ∀ x : Int32, x.toInt = σ o 10 7 → 0 ≤ x.toInt → x.toInt ≤ 6 → W p l e R s m args below meth c H locs cells slots Q (F0 m (pc + 3) ls (.int x :: rest))) : W p l e R s m args below meth c H locs cells slots Q (F0 m pc ls (.ref a :: rest)) := by
  obtain ⟨E, hP, hD, hm, hz, hE⟩ := hT
  have hL : a ∈ zL z := hm a (by rw [ha]; exact Nat.succ_ne_zero _)
  obtain ⟨k, hk0⟩ := va_pl_get (X := []) (f := E) hL
  have he := hE a hL
  rw [ha] at he
  obtain ⟨fs, h9, hf⟩ := to_Evening (show eEvening z (σ o 10) o (E a) from he)
  have hk := hk0
  rw [h9] at hk
  obtain ⟨_, hv, y, rfl, f⟩ := fL_get 7 hf rfl
  exact va_get (D := zD z) (ci := 0) (C := RX0) (T := TX0) (N := 8) hx hb hts hin hown hK hP k hk rfl 7 (by decide) hlink (fun _ h9 => h9) hv hdg (kk y f.1 f.2.1 f.2.2)
theorem pt_Evening_seen {x : Int32} (hx : p.tables.exec = Jvm.exec) (hb : c.code = cc) (hts : ∀ w ∈ Ts, w.before args s = true) (hin : ∀ w ∈ u_ws RX0 TX0 8, w ∈ Ts) (hown : s.vm.findClass own = some m.cls) (hK : va_K (zD z) vwCl (zT z) s) (hT : TY z A σ H) (hS : va_S A H0 H locs) (ha : zG z a = (10, o)) (hlink : (Cond.fieldLink own index (TX0 7).1 (TX0 7).2.1 (TX0 7).2.2.1).before args s = true) (h1 : 0 ≤ x.toInt) (h2 : x.toInt ≤ 6) (hdg : decode cc pc = .ok (.putfield index, 3)) (kk : ∀ (H1 : Heap) (locs1 : List Loc), TY z A (wr σ o 10 7 x.toInt) H1 → va_S A H0 H1 locs1 → W p l e R s m args below meth c H1 locs1 cells slots Q (F0 m (pc + 3) ls (rest))) : W p l e R s m args below meth c H locs cells slots Q (F0 m pc ls (.int x :: .ref a :: rest)) := by
  obtain ⟨E, hP, hD, hm, hz, hE⟩ := hT
  have hL : a ∈ zL z := hm a (by rw [ha]; exact Nat.succ_ne_zero _)
  obtain ⟨k, hk0⟩ := va_pl_get (X := []) (f := E) hL
  have he := hE a hL
  rw [ha] at he
  obtain ⟨fs, h9, hf⟩ := to_Evening (show eEvening z (σ o 10) o (E a) from he)
  have hk := hk0
  rw [h9] at hk
  refine va_put (D := zD z) (ci := 0) (v := .int x) (ty := .int) (C := RX0) (T := TX0) (N := 8) hx hb hts hin tyX0 tyX0_ok nmX0 hown hK hP hD hS k hk rfl 7 (by decide) hlink (fun _ h9 => h9) rfl (by decide +kernel) rfl rfl (by rw [fL_len hf]; decide) hdg (fun H1 locs1 hP1 hD1 hS1 => ?_)
  refine kk H1 locs1 (ty_up hP1 hD1 hD hm hz hE hL hk0 ?_ (up_mo hz hE ha (fun r' hr' => wrl_nr _ _ hr'))) hS1
  rw [ha]
  show eOK z (gset σ o (wrl (σ o) 10 7 x.toInt) o 10) (10, o) _
  rw [gset_at]
  exact of_Evening (fL_set 7 hf rfl (fun j hj => wrl_ni _ _ (fun q => hj (by omega))) ⟨x, rfl, (wrl_at _ _ _ _).symm, h1, h2⟩)
theorem rv_Floor (hK : va_K (zD z) vwCl (zT z) s) (hT : TY z A σ H) (ha : zG z a = (11, o)) : ∃ cell : Cell, H[a]? = some cell ∧ cell.vm.isStatics = false ∧ s.vm.findClass RX1 = some cell.cls := by
  obtain ⟨E, hP, hD, hm, hz, hE⟩ := hT
  have hL : a ∈ zL z := hm a (by rw [ha]; exact Nat.succ_ne_zero _)
  obtain ⟨k, hk0⟩ := va_pl_get (X := []) (f := E) hL
  have he := hE a hL
  rw [ha] at he
  obtain ⟨fs, h9, hf⟩ := to_Floor (show eFloor z (σ o 11) o (E a) from he)
  have hk := hk0
  rw [h9] at hk
  exact va_recv hK hP (ci := 1) (q := (RX1, TX1, 10)) rfl hk
theorem gt_Floor_kind (hx : p.tables.exec = Jvm.exec) (hb : c.code = cc) (hts : ∀ w ∈ Ts, w.before args s = true) (hin : ∀ w ∈ u_ws RX1 TX1 10, w ∈ Ts) (hown : s.vm.findClass own = some m.cls) (hK : va_K (zD z) vwCl (zT z) s) (hT : TY z A σ H) (ha : zG z a = (11, o)) (hlink : (Cond.fieldLink own index (TX1 0).1 (TX1 0).2.1 (TX1 0).2.2.1).before args s = true) (hdg : decode cc pc = .ok (.getfield index, 3)) (kk : ∀ q : Nat, zG z q = (51, o) → W p l e R s m args below meth c H locs cells slots Q (F0 m (pc + 3) ls (.ref q :: rest))) : W p l e R s m args below meth c H locs cells slots Q (F0 m pc ls (.ref a :: rest)) := by
  obtain ⟨E, hP, hD, hm, hz, hE⟩ := hT
  have hL : a ∈ zL z := hm a (by rw [ha]; exact Nat.succ_ne_zero _)
  obtain ⟨k, hk0⟩ := va_pl_get (X := []) (f := E) hL
  have he := hE a hL
  rw [ha] at he
  obtain ⟨fs, h9, hf⟩ := to_Floor (show eFloor z (σ o 11) o (E a) from he)
  have hk := hk0
  rw [h9] at hk
  obtain ⟨_, hv, y, rfl, f⟩ := fL_get 0 hf rfl
  exact va_get (D := zD z) (ci := 1) (C := RX1) (T := TX1) (N := 10) hx hb hts hin hown hK hP k hk rfl 0 (by decide) hlink (fun _ h9 => h9) hv hdg (kk y f)
theorem gt_Floor_height (hx : p.tables.exec = Jvm.exec) (hb : c.code = cc) (hts : ∀ w ∈ Ts, w.before args s = true) (hin : ∀ w ∈ u_ws RX1 TX1 10, w ∈ Ts) (hown : s.vm.findClass own = some m.cls) (hK : va_K (zD z) vwCl (zT z) s) (hT : TY z A σ H) (ha : zG z a = (11, o)) (hlink : (Cond.fieldLink own index (TX1 1).1 (TX1 1).2.1 (TX1 1).2.2.1).before args s = true) (hdg : decode cc pc = .ok (.getfield index, 3)) (kk : ∀ q : Nat, zG z q = (52, o) → W p l e R s m args below meth c H locs cells slots Q (F0 m (pc + 3) ls (.ref q :: rest))) : W p l e R s m args below meth c H locs cells slots Q (F0 m pc ls (.ref a :: rest)) := by
  obtain ⟨E, hP, hD, hm, hz, hE⟩ := hT
  have hL : a ∈ zL z := hm a (by rw [ha]; exact Nat.succ_ne_zero _)
  obtain ⟨k, hk0⟩ := va_pl_get (X := []) (f := E) hL
  have he := hE a hL
  rw [ha] at he
  obtain ⟨fs, h9, hf⟩ := to_Floor (show eFloor z (σ o 11) o (E a) from he)
  have hk := hk0
  rw [h9] at hk
  obtain ⟨_, hv, y, rfl, f⟩ := fL_get 1 hf rfl
  exact va_get (D := zD z) (ci := 1) (C := RX1) (T := TX1) (N := 10) hx hb hts hin hown hK hP k hk rfl 1 (by decide) hlink (fun _ h9 => h9) hv hdg (kk y f)
theorem gt_Floor_heels (hx : p.tables.exec = Jvm.exec) (hb : c.code = cc) (hts : ∀ w ∈ Ts, w.before args s = true) (hin : ∀ w ∈ u_ws RX1 TX1 10, w ∈ Ts) (hown : s.vm.findClass own = some m.cls) (hK : va_K (zD z) vwCl (zT z) s) (hT : TY z A σ H) (ha : zG z a = (11, o)) (hlink : (Cond.fieldLink own index (TX1 2).1 (TX1 2).2.1 (TX1 2).2.2.1).before args s = true) (hdg : decode cc pc = .ok (.getfield index, 3)) (kk : ∀ q : Nat, zG z q = (53, o) → W p l e R s m args below meth c H locs cells slots Q (F0 m (pc + 3) ls (.ref q :: rest))) : W p l e R s m args below meth c H locs cells slots Q (F0 m pc ls (.ref a :: rest)) := by
  obtain ⟨E, hP, hD, hm, hz, hE⟩ := hT
  have hL : a ∈ zL z := hm a (by rw [ha]; exact Nat.succ_ne_zero _)
  obtain ⟨k, hk0⟩ := va_pl_get (X := []) (f := E) hL
  have he := hE a hL
  rw [ha] at he
  obtain ⟨fs, h9, hf⟩ := to_Floor (show eFloor z (σ o 11) o (E a) from he)
  have hk := hk0
  rw [h9] at hk
  obtain ⟨_, hv, y, rfl, f⟩ := fL_get 2 hf rfl
  exact va_get (D := zD z) (ci := 1) (C := RX1) (T := TX1) (N := 10) hx hb hts hin hown hK hP k hk rfl 2 (by decide) hlink (fun _ h9 => h9) hv hdg (kk y f)
theorem gt_Floor_heat (hx : p.tables.exec = Jvm.exec) (hb : c.code = cc) (hts : ∀ w ∈ Ts, w.before args s = true) (hin : ∀ w ∈ u_ws RX1 TX1 10, w ∈ Ts) (hown : s.vm.findClass own = some m.cls) (hK : va_K (zD z) vwCl (zT z) s) (hT : TY z A σ H) (ha : zG z a = (11, o)) (hlink : (Cond.fieldLink own index (TX1 3).1 (TX1 3).2.1 (TX1 3).2.2.1).before args s = true) (hdg : decode cc pc = .ok (.getfield index, 3)) (kk : ∀ q : Nat, zG z q = (54, o) → W p l e R s m args below meth c H locs cells slots Q (F0 m (pc + 3) ls (.ref q :: rest))) : W p l e R s m args below meth c H locs cells slots Q (F0 m pc ls (.ref a :: rest)) := by
  obtain ⟨E, hP, hD, hm, hz, hE⟩ := hT
  have hL : a ∈ zL z := hm a (by rw [ha]; exact Nat.succ_ne_zero _)
  obtain ⟨k, hk0⟩ := va_pl_get (X := []) (f := E) hL
  have he := hE a hL
  rw [ha] at he
  obtain ⟨fs, h9, hf⟩ := to_Floor (show eFloor z (σ o 11) o (E a) from he)
  have hk := hk0
  rw [h9] at hk
  obtain ⟨_, hv, y, rfl, f⟩ := fL_get 3 hf rfl
  exact va_get (D := zD z) (ci := 1) (C := RX1) (T := TX1) (N := 10) hx hb hts hin hown hK hP k hk rfl 3 (by decide) hlink (fun _ h9 => h9) hv hdg (kk y f)
theorem gt_Floor_partner (hx : p.tables.exec = Jvm.exec) (hb : c.code = cc) (hts : ∀ w ∈ Ts, w.before args s = true) (hin : ∀ w ∈ u_ws RX1 TX1 10, w ∈ Ts) (hown : s.vm.findClass own = some m.cls) (hK : va_K (zD z) vwCl (zT z) s) (hT : TY z A σ H) (ha : zG z a = (11, o)) (hlink : (Cond.fieldLink own index (TX1 4).1 (TX1 4).2.1 (TX1 4).2.2.1).before args s = true) (hdg : decode cc pc = .ok (.getfield index, 3)) (kk : ∀ q : Nat, zG z q = (27, o) → W p l e R s m args below meth c H locs cells slots Q (F0 m (pc + 3) ls (.ref q :: rest))) : W p l e R s m args below meth c H locs cells slots Q (F0 m pc ls (.ref a :: rest)) := by
  obtain ⟨E, hP, hD, hm, hz, hE⟩ := hT
  have hL : a ∈ zL z := hm a (by rw [ha]; exact Nat.succ_ne_zero _)
  obtain ⟨k, hk0⟩ := va_pl_get (X := []) (f := E) hL
  have he := hE a hL
  rw [ha] at he
  obtain ⟨fs, h9, hf⟩ := to_Floor (show eFloor z (σ o 11) o (E a) from he)
  have hk := hk0
  rw [h9] at hk
  obtain ⟨_, hv, y, rfl, f⟩ := fL_get 4 hf rfl
  exact va_get (D := zD z) (ci := 1) (C := RX1) (T := TX1) (N := 10) hx hb hts hin hown hK hP k hk rfl 4 (by decide) hlink (fun _ h9 => h9) hv hdg (kk y f)
theorem gt_Floor_statures (hx : p.tables.exec = Jvm.exec) (hb : c.code = cc) (hts : ∀ w ∈ Ts, w.before args s = true) (hin : ∀ w ∈ u_ws RX1 TX1 10, w ∈ Ts) (hown : s.vm.findClass own = some m.cls) (hK : va_K (zD z) vwCl (zT z) s) (hT : TY z A σ H) (ha : zG z a = (11, o)) (hlink : (Cond.fieldLink own index (TX1 5).1 (TX1 5).2.1 (TX1 5).2.2.1).before args s = true) (hdg : decode cc pc = .ok (.getfield index, 3)) (kk : ∀ q : Nat, zG z q = (55, o) → W p l e R s m args below meth c H locs cells slots Q (F0 m (pc + 3) ls (.ref q :: rest))) : W p l e R s m args below meth c H locs cells slots Q (F0 m pc ls (.ref a :: rest)) := by
  obtain ⟨E, hP, hD, hm, hz, hE⟩ := hT
  have hL : a ∈ zL z := hm a (by rw [ha]; exact Nat.succ_ne_zero _)
  obtain ⟨k, hk0⟩ := va_pl_get (X := []) (f := E) hL
  have he := hE a hL
  rw [ha] at he
  obtain ⟨fs, h9, hf⟩ := to_Floor (show eFloor z (σ o 11) o (E a) from he)
  have hk := hk0
  rw [h9] at hk
  obtain ⟨_, hv, y, rfl, f⟩ := fL_get 5 hf rfl
  exact va_get (D := zD z) (ci := 1) (C := RX1) (T := TX1) (N := 10) hx hb hts hin hown hK hP k hk rfl 5 (by decide) hlink (fun _ h9 => h9) hv hdg (kk y f)
theorem gt_Floor_byRank (hx : p.tables.exec = Jvm.exec) (hb : c.code = cc) (hts : ∀ w ∈ Ts, w.before args s = true) (hin : ∀ w ∈ u_ws RX1 TX1 10, w ∈ Ts) (hown : s.vm.findClass own = some m.cls) (hK : va_K (zD z) vwCl (zT z) s) (hT : TY z A σ H) (ha : zG z a = (11, o)) (hlink : (Cond.fieldLink own index (TX1 6).1 (TX1 6).2.1 (TX1 6).2.2.1).before args s = true) (hdg : decode cc pc = .ok (.getfield index, 3)) (kk : ∀ q : Nat, zG z q = (28, o) → W p l e R s m args below meth c H locs cells slots Q (F0 m (pc + 3) ls (.ref q :: rest))) : W p l e R s m args below meth c H locs cells slots Q (F0 m pc ls (.ref a :: rest)) := by
  obtain ⟨E, hP, hD, hm, hz, hE⟩ := hT
  have hL : a ∈ zL z := hm a (by rw [ha]; exact Nat.succ_ne_zero _)
  obtain ⟨k, hk0⟩ := va_pl_get (X := []) (f := E) hL
  have he := hE a hL
  rw [ha] at he
  obtain ⟨fs, h9, hf⟩ := to_Floor (show eFloor z (σ o 11) o (E a) from he)
  have hk := hk0
  rw [h9] at hk
  obtain ⟨_, hv, y, rfl, f⟩ := fL_get 6 hf rfl
  exact va_get (D := zD z) (ci := 1) (C := RX1) (T := TX1) (N := 10) hx hb hts hin hown hK hP k hk rfl 6 (by decide) hlink (fun _ h9 => h9) hv hdg (kk y f)
theorem gt_Floor_rankOf (hx : p.tables.exec = Jvm.exec) (hb : c.code = cc) (hts : ∀ w ∈ Ts, w.before args s = true) (hin : ∀ w ∈ u_ws RX1 TX1 10, w ∈ Ts) (hown : s.vm.findClass own = some m.cls) (hK : va_K (zD z) vwCl (zT z) s) (hT : TY z A σ H) (ha : zG z a = (11, o)) (hlink : (Cond.fieldLink own index (TX1 7).1 (TX1 7).2.1 (TX1 7).2.2.1).before args s = true) (hdg : decode cc pc = .ok (.getfield index, 3)) (kk : ∀ q : Nat, zG z q = (29, o) → W p l e R s m args below meth c H locs cells slots Q (F0 m (pc + 3) ls (.ref q :: rest))) : W p l e R s m args below meth c H locs cells slots Q (F0 m pc ls (.ref a :: rest)) := by
  obtain ⟨E, hP, hD, hm, hz, hE⟩ := hT
  have hL : a ∈ zL z := hm a (by rw [ha]; exact Nat.succ_ne_zero _)
  obtain ⟨k, hk0⟩ := va_pl_get (X := []) (f := E) hL
  have he := hE a hL
  rw [ha] at he
  obtain ⟨fs, h9, hf⟩ := to_Floor (show eFloor z (σ o 11) o (E a) from he)
  have hk := hk0
  rw [h9] at hk
  obtain ⟨_, hv, y, rfl, f⟩ := fL_get 7 hf rfl
  exact va_get (D := zD z) (ci := 1) (C := RX1) (T := TX1) (N := 10) hx hb hts hin hown hK hP k hk rfl 7 (by decide) hlink (fun _ h9 => h9) hv hdg (kk y f)
theorem gt_Floor_men (hx : p.tables.exec = Jvm.exec) (hb : c.code = cc) (hts : ∀ w ∈ Ts, w.before args s = true) (hin : ∀ w ∈ u_ws RX1 TX1 10, w ∈ Ts) (hown : s.vm.findClass own = some m.cls) (hK : va_K (zD z) vwCl (zT z) s) (hT : TY z A σ H) (ha : zG z a = (11, o)) (hlink : (Cond.fieldLink own index (TX1 8).1 (TX1 8).2.1 (TX1 8).2.2.1).before args s = true) (hdg : decode cc pc = .ok (.getfield index, 3)) (kk : ∀ x : Int32, x.toInt = σ o 11 8 → 0 ≤ x.toInt → x.toInt ≤ 5 → W p l e R s m args below meth c H locs cells slots Q (F0 m (pc + 3) ls (.int x :: rest))) : W p l e R s m args below meth c H locs cells slots Q (F0 m pc ls (.ref a :: rest)) := by
  obtain ⟨E, hP, hD, hm, hz, hE⟩ := hT
  have hL : a ∈ zL z := hm a (by rw [ha]; exact Nat.succ_ne_zero _)
  obtain ⟨k, hk0⟩ := va_pl_get (X := []) (f := E) hL
  have he := hE a hL
  rw [ha] at he
  obtain ⟨fs, h9, hf⟩ := to_Floor (show eFloor z (σ o 11) o (E a) from he)
  have hk := hk0
  rw [h9] at hk
  obtain ⟨_, hv, y, rfl, f⟩ := fL_get 8 hf rfl
  exact va_get (D := zD z) (ci := 1) (C := RX1) (T := TX1) (N := 10) hx hb hts hin hown hK hP k hk rfl 8 (by decide) hlink (fun _ h9 => h9) hv hdg (kk y f.1 f.2.1 f.2.2)
theorem pt_Floor_men {x : Int32} (hx : p.tables.exec = Jvm.exec) (hb : c.code = cc) (hts : ∀ w ∈ Ts, w.before args s = true) (hin : ∀ w ∈ u_ws RX1 TX1 10, w ∈ Ts) (hown : s.vm.findClass own = some m.cls) (hK : va_K (zD z) vwCl (zT z) s) (hT : TY z A σ H) (hS : va_S A H0 H locs) (ha : zG z a = (11, o)) (hlink : (Cond.fieldLink own index (TX1 8).1 (TX1 8).2.1 (TX1 8).2.2.1).before args s = true) (h1 : 0 ≤ x.toInt) (h2 : x.toInt ≤ 5) (hdg : decode cc pc = .ok (.putfield index, 3)) (kk : ∀ (H1 : Heap) (locs1 : List Loc), TY z A (wr σ o 11 8 x.toInt) H1 → va_S A H0 H1 locs1 → W p l e R s m args below meth c H1 locs1 cells slots Q (F0 m (pc + 3) ls (rest))) : W p l e R s m args below meth c H locs cells slots Q (F0 m pc ls (.int x :: .ref a :: rest)) := by
  obtain ⟨E, hP, hD, hm, hz, hE⟩ := hT
  have hL : a ∈ zL z := hm a (by rw [ha]; exact Nat.succ_ne_zero _)
  obtain ⟨k, hk0⟩ := va_pl_get (X := []) (f := E) hL
  have he := hE a hL
  rw [ha] at he
  obtain ⟨fs, h9, hf⟩ := to_Floor (show eFloor z (σ o 11) o (E a) from he)
  have hk := hk0
  rw [h9] at hk
  refine va_put (D := zD z) (ci := 1) (v := .int x) (ty := .int) (C := RX1) (T := TX1) (N := 10) hx hb hts hin tyX1 tyX1_ok nmX1 hown hK hP hD hS k hk rfl 8 (by decide) hlink (fun _ h9 => h9) rfl (by decide +kernel) rfl rfl (by rw [fL_len hf]; decide) hdg (fun H1 locs1 hP1 hD1 hS1 => ?_)
  refine kk H1 locs1 (ty_up hP1 hD1 hD hm hz hE hL hk0 ?_ (up_mo hz hE ha (fun r' hr' => wrl_nr _ _ hr'))) hS1
  rw [ha]
  show eOK z (gset σ o (wrl (σ o) 11 8 x.toInt) o 11) (11, o) _
  rw [gset_at]
  exact of_Floor (fL_set 8 hf rfl (fun j hj => wrl_ni _ _ (fun q => hj (by omega))) ⟨x, rfl, (wrl_at _ _ _ _).symm, h1, h2⟩)
theorem gt_Floor_danced (hx : p.tables.exec = Jvm.exec) (hb : c.code = cc) (hts : ∀ w ∈ Ts, w.before args s = true) (hin : ∀ w ∈ u_ws RX1 TX1 10, w ∈ Ts) (hown : s.vm.findClass own = some m.cls) (hK : va_K (zD z) vwCl (zT z) s) (hT : TY z A σ H) (ha : zG z a = (11, o)) (hlink : (Cond.fieldLink own index (TX1 9).1 (TX1 9).2.1 (TX1 9).2.2.1).before args s = true) (hdg : decode cc pc = .ok (.getfield index, 3)) (kk : ∀ x : Int32, x.toInt = σ o 11 9 → 0 ≤ x.toInt → x.toInt ≤ 999 → W p l e R s m args below meth c H locs cells slots Q (F0 m (pc + 3) ls (.int x :: rest))) : W p l e R s m args below meth c H locs cells slots Q (F0 m pc ls (.ref a :: rest)) := by
  obtain ⟨E, hP, hD, hm, hz, hE⟩ := hT
  have hL : a ∈ zL z := hm a (by rw [ha]; exact Nat.succ_ne_zero _)
  obtain ⟨k, hk0⟩ := va_pl_get (X := []) (f := E) hL
  have he := hE a hL
  rw [ha] at he
  obtain ⟨fs, h9, hf⟩ := to_Floor (show eFloor z (σ o 11) o (E a) from he)
  have hk := hk0
  rw [h9] at hk
  obtain ⟨_, hv, y, rfl, f⟩ := fL_get 9 hf rfl
  exact va_get (D := zD z) (ci := 1) (C := RX1) (T := TX1) (N := 10) hx hb hts hin hown hK hP k hk rfl 9 (by decide) hlink (fun _ h9 => h9) hv hdg (kk y f.1 f.2.1 f.2.2)
theorem pt_Floor_danced {x : Int32} (hx : p.tables.exec = Jvm.exec) (hb : c.code = cc) (hts : ∀ w ∈ Ts, w.before args s = true) (hin : ∀ w ∈ u_ws RX1 TX1 10, w ∈ Ts) (hown : s.vm.findClass own = some m.cls) (hK : va_K (zD z) vwCl (zT z) s) (hT : TY z A σ H) (hS : va_S A H0 H locs) (ha : zG z a = (11, o)) (hlink : (Cond.fieldLink own index (TX1 9).1 (TX1 9).2.1 (TX1 9).2.2.1).before args s = true) (h1 : 0 ≤ x.toInt) (h2 : x.toInt ≤ 999) (hdg : decode cc pc = .ok (.putfield index, 3)) (kk : ∀ (H1 : Heap) (locs1 : List Loc), TY z A (wr σ o 11 9 x.toInt) H1 → va_S A H0 H1 locs1 → W p l e R s m args below meth c H1 locs1 cells slots Q (F0 m (pc + 3) ls (rest))) : W p l e R s m args below meth c H locs cells slots Q (F0 m pc ls (.int x :: .ref a :: rest)) := by
  obtain ⟨E, hP, hD, hm, hz, hE⟩ := hT
  have hL : a ∈ zL z := hm a (by rw [ha]; exact Nat.succ_ne_zero _)
  obtain ⟨k, hk0⟩ := va_pl_get (X := []) (f := E) hL
  have he := hE a hL
  rw [ha] at he
  obtain ⟨fs, h9, hf⟩ := to_Floor (show eFloor z (σ o 11) o (E a) from he)
  have hk := hk0
  rw [h9] at hk
  refine va_put (D := zD z) (ci := 1) (v := .int x) (ty := .int) (C := RX1) (T := TX1) (N := 10) hx hb hts hin tyX1 tyX1_ok nmX1 hown hK hP hD hS k hk rfl 9 (by decide) hlink (fun _ h9 => h9) rfl (by decide +kernel) rfl rfl (by rw [fL_len hf]; decide) hdg (fun H1 locs1 hP1 hD1 hS1 => ?_)
  refine kk H1 locs1 (ty_up hP1 hD1 hD hm hz hE hL hk0 ?_ (up_mo hz hE ha (fun r' hr' => wrl_nr _ _ hr'))) hS1
  rw [ha]
  show eOK z (gset σ o (wrl (σ o) 11 9 x.toInt) o 11) (11, o) _
  rw [gset_at]
  exact of_Floor (fL_set 9 hf rfl (fun j hj => wrl_ni _ _ (fun q => hj (by omega))) ⟨x, rfl, (wrl_at _ _ _ _).symm, h1, h2⟩)
theorem rv_Search (hK : va_K (zD z) vwCl (zT z) s) (hT : TY z A σ H) (ha : zG z a = (12, o)) : ∃ cell : Cell, H[a]? = some cell ∧ cell.vm.isStatics = false ∧ s.vm.findClass RX2 = some cell.cls := by
  obtain ⟨E, hP, hD, hm, hz, hE⟩ := hT
  have hL : a ∈ zL z := hm a (by rw [ha]; exact Nat.succ_ne_zero _)
  obtain ⟨k, hk0⟩ := va_pl_get (X := []) (f := E) hL
  have he := hE a hL
  rw [ha] at he
  obtain ⟨fs, h9, hf⟩ := to_Search (show eSearch z (σ o 12) o (E a) from he)
  have hk := hk0
  rw [h9] at hk
  exact va_recv hK hP (ci := 2) (q := (RX2, TX2, 8)) rfl hk
theorem gt_Search_behind (hx : p.tables.exec = Jvm.exec) (hb : c.code = cc) (hts : ∀ w ∈ Ts, w.before args s = true) (hin : ∀ w ∈ u_ws RX2 TX2 8, w ∈ Ts) (hown : s.vm.findClass own = some m.cls) (hK : va_K (zD z) vwCl (zT z) s) (hT : TY z A σ H) (ha : zG z a = (12, o)) (hlink : (Cond.fieldLink own index (TX2 0).1 (TX2 0).2.1 (TX2 0).2.2.1).before args s = true) (hdg : decode cc pc = .ok (.getfield index, 3)) (kk : ∀ q : Nat, zG z q = (35, o) → W p l e R s m args below meth c H locs cells slots Q (F0 m (pc + 3) ls (.ref q :: rest))) : W p l e R s m args below meth c H locs cells slots Q (F0 m pc ls (.ref a :: rest)) := by
  obtain ⟨E, hP, hD, hm, hz, hE⟩ := hT
  have hL : a ∈ zL z := hm a (by rw [ha]; exact Nat.succ_ne_zero _)
  obtain ⟨k, hk0⟩ := va_pl_get (X := []) (f := E) hL
  have he := hE a hL
  rw [ha] at he
  obtain ⟨fs, h9, hf⟩ := to_Search (show eSearch z (σ o 12) o (E a) from he)
  have hk := hk0
  rw [h9] at hk
  obtain ⟨_, hv, y, rfl, f⟩ := fL_get 0 hf rfl
  exact va_get (D := zD z) (ci := 2) (C := RX2) (T := TX2) (N := 8) hx hb hts hin hown hK hP k hk rfl 0 (by decide) hlink (fun _ h9 => h9) hv hdg (kk y f)
theorem gt_Search_row (hx : p.tables.exec = Jvm.exec) (hb : c.code = cc) (hts : ∀ w ∈ Ts, w.before args s = true) (hin : ∀ w ∈ u_ws RX2 TX2 8, w ∈ Ts) (hown : s.vm.findClass own = some m.cls) (hK : va_K (zD z) vwCl (zT z) s) (hT : TY z A σ H) (ha : zG z a = (12, o)) (hlink : (Cond.fieldLink own index (TX2 1).1 (TX2 1).2.1 (TX2 1).2.2.1).before args s = true) (hdg : decode cc pc = .ok (.getfield index, 3)) (kk : ∀ q : Nat, zG z q = (56, o) → W p l e R s m args below meth c H locs cells slots Q (F0 m (pc + 3) ls (.ref q :: rest))) : W p l e R s m args below meth c H locs cells slots Q (F0 m pc ls (.ref a :: rest)) := by
  obtain ⟨E, hP, hD, hm, hz, hE⟩ := hT
  have hL : a ∈ zL z := hm a (by rw [ha]; exact Nat.succ_ne_zero _)
  obtain ⟨k, hk0⟩ := va_pl_get (X := []) (f := E) hL
  have he := hE a hL
  rw [ha] at he
  obtain ⟨fs, h9, hf⟩ := to_Search (show eSearch z (σ o 12) o (E a) from he)
  have hk := hk0
  rw [h9] at hk
  obtain ⟨_, hv, y, rfl, f⟩ := fL_get 1 hf rfl
  exact va_get (D := zD z) (ci := 2) (C := RX2) (T := TX2) (N := 8) hx hb hts hin hown hK hP k hk rfl 1 (by decide) hlink (fun _ h9 => h9) hv hdg (kk y f)
theorem gt_Search_firstRow (hx : p.tables.exec = Jvm.exec) (hb : c.code = cc) (hts : ∀ w ∈ Ts, w.before args s = true) (hin : ∀ w ∈ u_ws RX2 TX2 8, w ∈ Ts) (hown : s.vm.findClass own = some m.cls) (hK : va_K (zD z) vwCl (zT z) s) (hT : TY z A σ H) (ha : zG z a = (12, o)) (hlink : (Cond.fieldLink own index (TX2 2).1 (TX2 2).2.1 (TX2 2).2.2.1).before args s = true) (hdg : decode cc pc = .ok (.getfield index, 3)) (kk : ∀ q : Nat, zG z q = (57, o) → W p l e R s m args below meth c H locs cells slots Q (F0 m (pc + 3) ls (.ref q :: rest))) : W p l e R s m args below meth c H locs cells slots Q (F0 m pc ls (.ref a :: rest)) := by
  obtain ⟨E, hP, hD, hm, hz, hE⟩ := hT
  have hL : a ∈ zL z := hm a (by rw [ha]; exact Nat.succ_ne_zero _)
  obtain ⟨k, hk0⟩ := va_pl_get (X := []) (f := E) hL
  have he := hE a hL
  rw [ha] at he
  obtain ⟨fs, h9, hf⟩ := to_Search (show eSearch z (σ o 12) o (E a) from he)
  have hk := hk0
  rw [h9] at hk
  obtain ⟨_, hv, y, rfl, f⟩ := fL_get 2 hf rfl
  exact va_get (D := zD z) (ci := 2) (C := RX2) (T := TX2) (N := 8) hx hb hts hin hown hK hP k hk rfl 2 (by decide) hlink (fun _ h9 => h9) hv hdg (kk y f)
theorem gt_Search_bestRow (hx : p.tables.exec = Jvm.exec) (hb : c.code = cc) (hts : ∀ w ∈ Ts, w.before args s = true) (hin : ∀ w ∈ u_ws RX2 TX2 8, w ∈ Ts) (hown : s.vm.findClass own = some m.cls) (hK : va_K (zD z) vwCl (zT z) s) (hT : TY z A σ H) (ha : zG z a = (12, o)) (hlink : (Cond.fieldLink own index (TX2 3).1 (TX2 3).2.1 (TX2 3).2.2.1).before args s = true) (hdg : decode cc pc = .ok (.getfield index, 3)) (kk : ∀ q : Nat, zG z q = (58, o) → W p l e R s m args below meth c H locs cells slots Q (F0 m (pc + 3) ls (.ref q :: rest))) : W p l e R s m args below meth c H locs cells slots Q (F0 m pc ls (.ref a :: rest)) := by
  obtain ⟨E, hP, hD, hm, hz, hE⟩ := hT
  have hL : a ∈ zL z := hm a (by rw [ha]; exact Nat.succ_ne_zero _)
  obtain ⟨k, hk0⟩ := va_pl_get (X := []) (f := E) hL
  have he := hE a hL
  rw [ha] at he
  obtain ⟨fs, h9, hf⟩ := to_Search (show eSearch z (σ o 12) o (E a) from he)
  have hk := hk0
  rw [h9] at hk
  obtain ⟨_, hv, y, rfl, f⟩ := fL_get 3 hf rfl
  exact va_get (D := zD z) (ci := 2) (C := RX2) (T := TX2) (N := 8) hx hb hts hin hown hK hP k hk rfl 3 (by decide) hlink (fun _ h9 => h9) hv hdg (kk y f)
theorem gt_Search_byPlaces (hx : p.tables.exec = Jvm.exec) (hb : c.code = cc) (hts : ∀ w ∈ Ts, w.before args s = true) (hin : ∀ w ∈ u_ws RX2 TX2 8, w ∈ Ts) (hown : s.vm.findClass own = some m.cls) (hK : va_K (zD z) vwCl (zT z) s) (hT : TY z A σ H) (ha : zG z a = (12, o)) (hlink : (Cond.fieldLink own index (TX2 4).1 (TX2 4).2.1 (TX2 4).2.2.1).before args s = true) (hdg : decode cc pc = .ok (.getfield index, 3)) (kk : ∀ x : Int32, x.toInt = σ o 12 4 → 0 ≤ x.toInt → x.toInt ≤ 1 → W p l e R s m args below meth c H locs cells slots Q (F0 m (pc + 3) ls (.int x :: rest))) : W p l e R s m args below meth c H locs cells slots Q (F0 m pc ls (.ref a :: rest)) := by
  obtain ⟨E, hP, hD, hm, hz, hE⟩ := hT
  have hL : a ∈ zL z := hm a (by rw [ha]; exact Nat.succ_ne_zero _)
  obtain ⟨k, hk0⟩ := va_pl_get (X := []) (f := E) hL
  have he := hE a hL
  rw [ha] at he
  obtain ⟨fs, h9, hf⟩ := to_Search (show eSearch z (σ o 12) o (E a) from he)
  have hk := hk0
  rw [h9] at hk
  obtain ⟨_, hv, y, rfl, f⟩ := fL_get 4 hf rfl
  exact va_get (D := zD z) (ci := 2) (C := RX2) (T := TX2) (N := 8) hx hb hts hin hown hK hP k hk rfl 4 (by decide) hlink (fun _ h9 => h9) hv hdg (kk y f.1 f.2.1 f.2.2)
theorem pt_Search_byPlaces {x : Int32} (hx : p.tables.exec = Jvm.exec) (hb : c.code = cc) (hts : ∀ w ∈ Ts, w.before args s = true) (hin : ∀ w ∈ u_ws RX2 TX2 8, w ∈ Ts) (hown : s.vm.findClass own = some m.cls) (hK : va_K (zD z) vwCl (zT z) s) (hT : TY z A σ H) (hS : va_S A H0 H locs) (ha : zG z a = (12, o)) (hlink : (Cond.fieldLink own index (TX2 4).1 (TX2 4).2.1 (TX2 4).2.2.1).before args s = true) (h1 : 0 ≤ x.toInt) (h2 : x.toInt ≤ 1) (hdg : decode cc pc = .ok (.putfield index, 3)) (kk : ∀ (H1 : Heap) (locs1 : List Loc), TY z A (wr σ o 12 4 x.toInt) H1 → va_S A H0 H1 locs1 → W p l e R s m args below meth c H1 locs1 cells slots Q (F0 m (pc + 3) ls (rest))) : W p l e R s m args below meth c H locs cells slots Q (F0 m pc ls (.int x :: .ref a :: rest)) := by
  obtain ⟨E, hP, hD, hm, hz, hE⟩ := hT
  have hL : a ∈ zL z := hm a (by rw [ha]; exact Nat.succ_ne_zero _)
  obtain ⟨k, hk0⟩ := va_pl_get (X := []) (f := E) hL
  have he := hE a hL
  rw [ha] at he
  obtain ⟨fs, h9, hf⟩ := to_Search (show eSearch z (σ o 12) o (E a) from he)
  have hk := hk0
  rw [h9] at hk
  refine va_put (D := zD z) (ci := 2) (v := .int x) (ty := .boolean) (C := RX2) (T := TX2) (N := 8) hx hb hts hin tyX2 tyX2_ok nmX2 hown hK hP hD hS k hk rfl 4 (by decide) hlink (fun _ h9 => h9) rfl (by decide +kernel) (bo_n h1 h2) (bo_f h1 h2) (by rw [fL_len hf]; decide) hdg (fun H1 locs1 hP1 hD1 hS1 => ?_)
  refine kk H1 locs1 (ty_up hP1 hD1 hD hm hz hE hL hk0 ?_ (up_mo hz hE ha (fun r' hr' => wrl_nr _ _ hr'))) hS1
  rw [ha]
  show eOK z (gset σ o (wrl (σ o) 12 4 x.toInt) o 12) (12, o) _
  rw [gset_at]
  exact of_Search (fL_set 4 hf rfl (fun j hj => wrl_ni _ _ (fun q => hj (by omega))) ⟨x, rfl, (wrl_at _ _ _ _).symm, h1, h2⟩)
theorem gt_Search_length (hx : p.tables.exec = Jvm.exec) (hb : c.code = cc) (hts : ∀ w ∈ Ts, w.before args s = true) (hin : ∀ w ∈ u_ws RX2 TX2 8, w ∈ Ts) (hown : s.vm.findClass own = some m.cls) (hK : va_K (zD z) vwCl (zT z) s) (hT : TY z A σ H) (ha : zG z a = (12, o)) (hlink : (Cond.fieldLink own index (TX2 5).1 (TX2 5).2.1 (TX2 5).2.2.1).before args s = true) (hdg : decode cc pc = .ok (.getfield index, 3)) (kk : ∀ x : Int32, x.toInt = σ o 12 5 → 0 ≤ x.toInt → x.toInt ≤ 5 → W p l e R s m args below meth c H locs cells slots Q (F0 m (pc + 3) ls (.int x :: rest))) : W p l e R s m args below meth c H locs cells slots Q (F0 m pc ls (.ref a :: rest)) := by
  obtain ⟨E, hP, hD, hm, hz, hE⟩ := hT
  have hL : a ∈ zL z := hm a (by rw [ha]; exact Nat.succ_ne_zero _)
  obtain ⟨k, hk0⟩ := va_pl_get (X := []) (f := E) hL
  have he := hE a hL
  rw [ha] at he
  obtain ⟨fs, h9, hf⟩ := to_Search (show eSearch z (σ o 12) o (E a) from he)
  have hk := hk0
  rw [h9] at hk
  obtain ⟨_, hv, y, rfl, f⟩ := fL_get 5 hf rfl
  exact va_get (D := zD z) (ci := 2) (C := RX2) (T := TX2) (N := 8) hx hb hts hin hown hK hP k hk rfl 5 (by decide) hlink (fun _ h9 => h9) hv hdg (kk y f.1 f.2.1 f.2.2)
theorem pt_Search_length {x : Int32} (hx : p.tables.exec = Jvm.exec) (hb : c.code = cc) (hts : ∀ w ∈ Ts, w.before args s = true) (hin : ∀ w ∈ u_ws RX2 TX2 8, w ∈ Ts) (hown : s.vm.findClass own = some m.cls) (hK : va_K (zD z) vwCl (zT z) s) (hT : TY z A σ H) (hS : va_S A H0 H locs) (ha : zG z a = (12, o)) (hlink : (Cond.fieldLink own index (TX2 5).1 (TX2 5).2.1 (TX2 5).2.2.1).before args s = true) (h1 : 0 ≤ x.toInt) (h2 : x.toInt ≤ 5) (hdg : decode cc pc = .ok (.putfield index, 3)) (kk : ∀ (H1 : Heap) (locs1 : List Loc), TY z A (wr σ o 12 5 x.toInt) H1 → va_S A H0 H1 locs1 → W p l e R s m args below meth c H1 locs1 cells slots Q (F0 m (pc + 3) ls (rest))) : W p l e R s m args below meth c H locs cells slots Q (F0 m pc ls (.int x :: .ref a :: rest)) := by
  obtain ⟨E, hP, hD, hm, hz, hE⟩ := hT
  have hL : a ∈ zL z := hm a (by rw [ha]; exact Nat.succ_ne_zero _)
  obtain ⟨k, hk0⟩ := va_pl_get (X := []) (f := E) hL
  have he := hE a hL
  rw [ha] at he
  obtain ⟨fs, h9, hf⟩ := to_Search (show eSearch z (σ o 12) o (E a) from he)
  have hk := hk0
  rw [h9] at hk
  refine va_put (D := zD z) (ci := 2) (v := .int x) (ty := .int) (C := RX2) (T := TX2) (N := 8) hx hb hts hin tyX2 tyX2_ok nmX2 hown hK hP hD hS k hk rfl 5 (by decide) hlink (fun _ h9 => h9) rfl (by decide +kernel) rfl rfl (by rw [fL_len hf]; decide) hdg (fun H1 locs1 hP1 hD1 hS1 => ?_)
  refine kk H1 locs1 (ty_up hP1 hD1 hD hm hz hE hL hk0 ?_ (up_mo hz hE ha (fun r' hr' => wrl_nr _ _ hr'))) hS1
  rw [ha]
  show eOK z (gset σ o (wrl (σ o) 12 5 x.toInt) o 12) (12, o) _
  rw [gset_at]
  exact of_Search (fL_set 5 hf rfl (fun j hj => wrl_ni _ _ (fun q => hj (by omega))) ⟨x, rfl, (wrl_at _ _ _ _).symm, h1, h2⟩)
theorem gt_Search_found (hx : p.tables.exec = Jvm.exec) (hb : c.code = cc) (hts : ∀ w ∈ Ts, w.before args s = true) (hin : ∀ w ∈ u_ws RX2 TX2 8, w ∈ Ts) (hown : s.vm.findClass own = some m.cls) (hK : va_K (zD z) vwCl (zT z) s) (hT : TY z A σ H) (ha : zG z a = (12, o)) (hlink : (Cond.fieldLink own index (TX2 6).1 (TX2 6).2.1 (TX2 6).2.2.1).before args s = true) (hdg : decode cc pc = .ok (.getfield index, 3)) (kk : ∀ x : Int32, x.toInt = σ o 12 6 → -2147483648 ≤ x.toInt → x.toInt ≤ 2147483647 → W p l e R s m args below meth c H locs cells slots Q (F0 m (pc + 3) ls (.int x :: rest))) : W p l e R s m args below meth c H locs cells slots Q (F0 m pc ls (.ref a :: rest)) := by
  obtain ⟨E, hP, hD, hm, hz, hE⟩ := hT
  have hL : a ∈ zL z := hm a (by rw [ha]; exact Nat.succ_ne_zero _)
  obtain ⟨k, hk0⟩ := va_pl_get (X := []) (f := E) hL
  have he := hE a hL
  rw [ha] at he
  obtain ⟨fs, h9, hf⟩ := to_Search (show eSearch z (σ o 12) o (E a) from he)
  have hk := hk0
  rw [h9] at hk
  obtain ⟨_, hv, y, rfl, f⟩ := fL_get 6 hf rfl
  exact va_get (D := zD z) (ci := 2) (C := RX2) (T := TX2) (N := 8) hx hb hts hin hown hK hP k hk rfl 6 (by decide) hlink (fun _ h9 => h9) hv hdg (kk y f.1 f.2.1 f.2.2)
theorem pt_Search_found {x : Int32} (hx : p.tables.exec = Jvm.exec) (hb : c.code = cc) (hts : ∀ w ∈ Ts, w.before args s = true) (hin : ∀ w ∈ u_ws RX2 TX2 8, w ∈ Ts) (hown : s.vm.findClass own = some m.cls) (hK : va_K (zD z) vwCl (zT z) s) (hT : TY z A σ H) (hS : va_S A H0 H locs) (ha : zG z a = (12, o)) (hlink : (Cond.fieldLink own index (TX2 6).1 (TX2 6).2.1 (TX2 6).2.2.1).before args s = true) (h1 : -2147483648 ≤ x.toInt) (h2 : x.toInt ≤ 2147483647) (hdg : decode cc pc = .ok (.putfield index, 3)) (kk : ∀ (H1 : Heap) (locs1 : List Loc), TY z A (wr σ o 12 6 x.toInt) H1 → va_S A H0 H1 locs1 → W p l e R s m args below meth c H1 locs1 cells slots Q (F0 m (pc + 3) ls (rest))) : W p l e R s m args below meth c H locs cells slots Q (F0 m pc ls (.int x :: .ref a :: rest)) := by
  obtain ⟨E, hP, hD, hm, hz, hE⟩ := hT
  have hL : a ∈ zL z := hm a (by rw [ha]; exact Nat.succ_ne_zero _)
  obtain ⟨k, hk0⟩ := va_pl_get (X := []) (f := E) hL
  have he := hE a hL
  rw [ha] at he
  obtain ⟨fs, h9, hf⟩ := to_Search (show eSearch z (σ o 12) o (E a) from he)
  have hk := hk0
  rw [h9] at hk
  refine va_put (D := zD z) (ci := 2) (v := .int x) (ty := .int) (C := RX2) (T := TX2) (N := 8) hx hb hts hin tyX2 tyX2_ok nmX2 hown hK hP hD hS k hk rfl 6 (by decide) hlink (fun _ h9 => h9) rfl (by decide +kernel) rfl rfl (by rw [fL_len hf]; decide) hdg (fun H1 locs1 hP1 hD1 hS1 => ?_)
  refine kk H1 locs1 (ty_up hP1 hD1 hD hm hz hE hL hk0 ?_ (up_mo hz hE ha (fun r' hr' => wrl_nr _ _ hr'))) hS1
  rw [ha]
  show eOK z (gset σ o (wrl (σ o) 12 6 x.toInt) o 12) (12, o) _
  rw [gset_at]
  exact of_Search (fL_set 6 hf rfl (fun j hj => wrl_ni _ _ (fun q => hj (by omega))) ⟨x, rfl, (wrl_at _ _ _ _).symm, h1, h2⟩)
theorem gt_Search_most (hx : p.tables.exec = Jvm.exec) (hb : c.code = cc) (hts : ∀ w ∈ Ts, w.before args s = true) (hin : ∀ w ∈ u_ws RX2 TX2 8, w ∈ Ts) (hown : s.vm.findClass own = some m.cls) (hK : va_K (zD z) vwCl (zT z) s) (hT : TY z A σ H) (ha : zG z a = (12, o)) (hlink : (Cond.fieldLink own index (TX2 7).1 (TX2 7).2.1 (TX2 7).2.2.1).before args s = true) (hdg : decode cc pc = .ok (.getfield index, 3)) (kk : ∀ x : Int32, x.toInt = σ o 12 7 → -2147483648 ≤ x.toInt → x.toInt ≤ 2147483647 → W p l e R s m args below meth c H locs cells slots Q (F0 m (pc + 3) ls (.int x :: rest))) : W p l e R s m args below meth c H locs cells slots Q (F0 m pc ls (.ref a :: rest)) := by
  obtain ⟨E, hP, hD, hm, hz, hE⟩ := hT
  have hL : a ∈ zL z := hm a (by rw [ha]; exact Nat.succ_ne_zero _)
  obtain ⟨k, hk0⟩ := va_pl_get (X := []) (f := E) hL
  have he := hE a hL
  rw [ha] at he
  obtain ⟨fs, h9, hf⟩ := to_Search (show eSearch z (σ o 12) o (E a) from he)
  have hk := hk0
  rw [h9] at hk
  obtain ⟨_, hv, y, rfl, f⟩ := fL_get 7 hf rfl
  exact va_get (D := zD z) (ci := 2) (C := RX2) (T := TX2) (N := 8) hx hb hts hin hown hK hP k hk rfl 7 (by decide) hlink (fun _ h9 => h9) hv hdg (kk y f.1 f.2.1 f.2.2)
theorem pt_Search_most {x : Int32} (hx : p.tables.exec = Jvm.exec) (hb : c.code = cc) (hts : ∀ w ∈ Ts, w.before args s = true) (hin : ∀ w ∈ u_ws RX2 TX2 8, w ∈ Ts) (hown : s.vm.findClass own = some m.cls) (hK : va_K (zD z) vwCl (zT z) s) (hT : TY z A σ H) (hS : va_S A H0 H locs) (ha : zG z a = (12, o)) (hlink : (Cond.fieldLink own index (TX2 7).1 (TX2 7).2.1 (TX2 7).2.2.1).before args s = true) (h1 : -2147483648 ≤ x.toInt) (h2 : x.toInt ≤ 2147483647) (hdg : decode cc pc = .ok (.putfield index, 3)) (kk : ∀ (H1 : Heap) (locs1 : List Loc), TY z A (wr σ o 12 7 x.toInt) H1 → va_S A H0 H1 locs1 → W p l e R s m args below meth c H1 locs1 cells slots Q (F0 m (pc + 3) ls (rest))) : W p l e R s m args below meth c H locs cells slots Q (F0 m pc ls (.int x :: .ref a :: rest)) := by
  obtain ⟨E, hP, hD, hm, hz, hE⟩ := hT
  have hL : a ∈ zL z := hm a (by rw [ha]; exact Nat.succ_ne_zero _)
  obtain ⟨k, hk0⟩ := va_pl_get (X := []) (f := E) hL
  have he := hE a hL
  rw [ha] at he
  obtain ⟨fs, h9, hf⟩ := to_Search (show eSearch z (σ o 12) o (E a) from he)
  have hk := hk0
  rw [h9] at hk
  refine va_put (D := zD z) (ci := 2) (v := .int x) (ty := .int) (C := RX2) (T := TX2) (N := 8) hx hb hts hin tyX2 tyX2_ok nmX2 hown hK hP hD hS k hk rfl 7 (by decide) hlink (fun _ h9 => h9) rfl (by decide +kernel) rfl rfl (by rw [fL_len hf]; decide) hdg (fun H1 locs1 hP1 hD1 hS1 => ?_)
  refine kk H1 locs1 (ty_up hP1 hD1 hD hm hz hE hL hk0 ?_ (up_mo hz hE ha (fun r' hr' => wrl_nr _ _ hr'))) hS1
  rw [ha]
  show eOK z (gset σ o (wrl (σ o) 12 7 x.toInt) o 12) (12, o) _
  rw [gset_at]
  exact of_Search (fL_set 7 hf rfl (fun j hj => wrl_ni _ _ (fun q => hj (by omega))) ⟨x, rfl, (wrl_at _ _ _ _).symm, h1, h2⟩)
theorem rv_Sheet (hK : va_K (zD z) vwCl (zT z) s) (hT : TY z A σ H) (ha : zG z a = (13, o)) : ∃ cell : Cell, H[a]? = some cell ∧ cell.vm.isStatics = false ∧ s.vm.findClass RX3 = some cell.cls := by
  obtain ⟨E, hP, hD, hm, hz, hE⟩ := hT
  have hL : a ∈ zL z := hm a (by rw [ha]; exact Nat.succ_ne_zero _)
  obtain ⟨k, hk0⟩ := va_pl_get (X := []) (f := E) hL
  have he := hE a hL
  rw [ha] at he
  obtain ⟨fs, h9, hf⟩ := to_Sheet (show eSheet z (σ o 13) o (E a) from he)
  have hk := hk0
  rw [h9] at hk
  exact va_recv hK hP (ci := 3) (q := (RX3, TX3, 3)) rfl hk
theorem gt_Sheet_cells (hx : p.tables.exec = Jvm.exec) (hb : c.code = cc) (hts : ∀ w ∈ Ts, w.before args s = true) (hin : ∀ w ∈ u_ws RX3 TX3 3, w ∈ Ts) (hown : s.vm.findClass own = some m.cls) (hK : va_K (zD z) vwCl (zT z) s) (hT : TY z A σ H) (ha : zG z a = (13, o)) (hlink : (Cond.fieldLink own index (TX3 0).1 (TX3 0).2.1 (TX3 0).2.2.1).before args s = true) (hdg : decode cc pc = .ok (.getfield index, 3)) (kk : ∀ q : Nat, zG z q = (23, o) → W p l e R s m args below meth c H locs cells slots Q (F0 m (pc + 3) ls (.ref q :: rest))) : W p l e R s m args below meth c H locs cells slots Q (F0 m pc ls (.ref a :: rest)) := by
  obtain ⟨E, hP, hD, hm, hz, hE⟩ := hT
  have hL : a ∈ zL z := hm a (by rw [ha]; exact Nat.succ_ne_zero _)
  obtain ⟨k, hk0⟩ := va_pl_get (X := []) (f := E) hL
  have he := hE a hL
  rw [ha] at he
  obtain ⟨fs, h9, hf⟩ := to_Sheet (show eSheet z (σ o 13) o (E a) from he)
  have hk := hk0
  rw [h9] at hk
  obtain ⟨_, hv, y, rfl, f⟩ := fL_get 0 hf rfl
  exact va_get (D := zD z) (ci := 3) (C := RX3) (T := TX3) (N := 3) hx hb hts hin hown hK hP k hk rfl 0 (by decide) hlink (fun _ h9 => h9) hv hdg (kk y f)
theorem gt_Sheet_lane (hx : p.tables.exec = Jvm.exec) (hb : c.code = cc) (hts : ∀ w ∈ Ts, w.before args s = true) (hin : ∀ w ∈ u_ws RX3 TX3 3, w ∈ Ts) (hown : s.vm.findClass own = some m.cls) (hK : va_K (zD z) vwCl (zT z) s) (hT : TY z A σ H) (ha : zG z a = (13, o)) (hlink : (Cond.fieldLink own index (TX3 1).1 (TX3 1).2.1 (TX3 1).2.2.1).before args s = true) (hdg : decode cc pc = .ok (.getfield index, 3)) (kk : ∀ x : Int32, x.toInt = σ o 13 1 → -1 ≤ x.toInt → x.toInt ≤ 2 → W p l e R s m args below meth c H locs cells slots Q (F0 m (pc + 3) ls (.int x :: rest))) : W p l e R s m args below meth c H locs cells slots Q (F0 m pc ls (.ref a :: rest)) := by
  obtain ⟨E, hP, hD, hm, hz, hE⟩ := hT
  have hL : a ∈ zL z := hm a (by rw [ha]; exact Nat.succ_ne_zero _)
  obtain ⟨k, hk0⟩ := va_pl_get (X := []) (f := E) hL
  have he := hE a hL
  rw [ha] at he
  obtain ⟨fs, h9, hf⟩ := to_Sheet (show eSheet z (σ o 13) o (E a) from he)
  have hk := hk0
  rw [h9] at hk
  obtain ⟨_, hv, y, rfl, f⟩ := fL_get 1 hf rfl
  exact va_get (D := zD z) (ci := 3) (C := RX3) (T := TX3) (N := 3) hx hb hts hin hown hK hP k hk rfl 1 (by decide) hlink (fun _ h9 => h9) hv hdg (kk y f.1 f.2.1 f.2.2)
theorem pt_Sheet_lane {x : Int32} (hx : p.tables.exec = Jvm.exec) (hb : c.code = cc) (hts : ∀ w ∈ Ts, w.before args s = true) (hin : ∀ w ∈ u_ws RX3 TX3 3, w ∈ Ts) (hown : s.vm.findClass own = some m.cls) (hK : va_K (zD z) vwCl (zT z) s) (hT : TY z A σ H) (hS : va_S A H0 H locs) (ha : zG z a = (13, o)) (hlink : (Cond.fieldLink own index (TX3 1).1 (TX3 1).2.1 (TX3 1).2.2.1).before args s = true) (h1 : -1 ≤ x.toInt) (h2 : x.toInt ≤ 2) (hdg : decode cc pc = .ok (.putfield index, 3)) (kk : ∀ (H1 : Heap) (locs1 : List Loc), TY z A (wr σ o 13 1 x.toInt) H1 → va_S A H0 H1 locs1 → W p l e R s m args below meth c H1 locs1 cells slots Q (F0 m (pc + 3) ls (rest))) : W p l e R s m args below meth c H locs cells slots Q (F0 m pc ls (.int x :: .ref a :: rest)) := by
  obtain ⟨E, hP, hD, hm, hz, hE⟩ := hT
  have hL : a ∈ zL z := hm a (by rw [ha]; exact Nat.succ_ne_zero _)
  obtain ⟨k, hk0⟩ := va_pl_get (X := []) (f := E) hL
  have he := hE a hL
  rw [ha] at he
  obtain ⟨fs, h9, hf⟩ := to_Sheet (show eSheet z (σ o 13) o (E a) from he)
  have hk := hk0
  rw [h9] at hk
  refine va_put (D := zD z) (ci := 3) (v := .int x) (ty := .int) (C := RX3) (T := TX3) (N := 3) hx hb hts hin tyX3 tyX3_ok nmX3 hown hK hP hD hS k hk rfl 1 (by decide) hlink (fun _ h9 => h9) rfl (by decide +kernel) rfl rfl (by rw [fL_len hf]; decide) hdg (fun H1 locs1 hP1 hD1 hS1 => ?_)
  refine kk H1 locs1 (ty_up hP1 hD1 hD hm hz hE hL hk0 ?_ (up_mo hz hE ha (fun r' hr' => wrl_nr _ _ hr'))) hS1
  rw [ha]
  show eOK z (gset σ o (wrl (σ o) 13 1 x.toInt) o 13) (13, o) _
  rw [gset_at]
  exact of_Sheet (fL_set 1 hf rfl (fun j hj => wrl_ni _ _ (fun q => hj (by omega))) ⟨x, rfl, (wrl_at _ _ _ _).symm, h1, h2⟩)
theorem gt_Sheet_length (hx : p.tables.exec = Jvm.exec) (hb : c.code = cc) (hts : ∀ w ∈ Ts, w.before args s = true) (hin : ∀ w ∈ u_ws RX3 TX3 3, w ∈ Ts) (hown : s.vm.findClass own = some m.cls) (hK : va_K (zD z) vwCl (zT z) s) (hT : TY z A σ H) (ha : zG z a = (13, o)) (hlink : (Cond.fieldLink own index (TX3 2).1 (TX3 2).2.1 (TX3 2).2.2.1).before args s = true) (hdg : decode cc pc = .ok (.getfield index, 3)) (kk : ∀ x : Int32, x.toInt = σ o 13 2 → 0 ≤ x.toInt → x.toInt ≤ 40 → W p l e R s m args below meth c H locs cells slots Q (F0 m (pc + 3) ls (.int x :: rest))) : W p l e R s m args below meth c H locs cells slots Q (F0 m pc ls (.ref a :: rest)) := by
  obtain ⟨E, hP, hD, hm, hz, hE⟩ := hT
  have hL : a ∈ zL z := hm a (by rw [ha]; exact Nat.succ_ne_zero _)
  obtain ⟨k, hk0⟩ := va_pl_get (X := []) (f := E) hL
  have he := hE a hL
  rw [ha] at he
  obtain ⟨fs, h9, hf⟩ := to_Sheet (show eSheet z (σ o 13) o (E a) from he)
  have hk := hk0
  rw [h9] at hk
  obtain ⟨_, hv, y, rfl, f⟩ := fL_get 2 hf rfl
  exact va_get (D := zD z) (ci := 3) (C := RX3) (T := TX3) (N := 3) hx hb hts hin hown hK hP k hk rfl 2 (by decide) hlink (fun _ h9 => h9) hv hdg (kk y f.1 f.2.1 f.2.2)
theorem pt_Sheet_length {x : Int32} (hx : p.tables.exec = Jvm.exec) (hb : c.code = cc) (hts : ∀ w ∈ Ts, w.before args s = true) (hin : ∀ w ∈ u_ws RX3 TX3 3, w ∈ Ts) (hown : s.vm.findClass own = some m.cls) (hK : va_K (zD z) vwCl (zT z) s) (hT : TY z A σ H) (hS : va_S A H0 H locs) (ha : zG z a = (13, o)) (hlink : (Cond.fieldLink own index (TX3 2).1 (TX3 2).2.1 (TX3 2).2.2.1).before args s = true) (h1 : 0 ≤ x.toInt) (h2 : x.toInt ≤ 40) (hdg : decode cc pc = .ok (.putfield index, 3)) (kk : ∀ (H1 : Heap) (locs1 : List Loc), TY z A (wr σ o 13 2 x.toInt) H1 → va_S A H0 H1 locs1 → W p l e R s m args below meth c H1 locs1 cells slots Q (F0 m (pc + 3) ls (rest))) : W p l e R s m args below meth c H locs cells slots Q (F0 m pc ls (.int x :: .ref a :: rest)) := by
  obtain ⟨E, hP, hD, hm, hz, hE⟩ := hT
  have hL : a ∈ zL z := hm a (by rw [ha]; exact Nat.succ_ne_zero _)
  obtain ⟨k, hk0⟩ := va_pl_get (X := []) (f := E) hL
  have he := hE a hL
  rw [ha] at he
  obtain ⟨fs, h9, hf⟩ := to_Sheet (show eSheet z (σ o 13) o (E a) from he)
  have hk := hk0
  rw [h9] at hk
  refine va_put (D := zD z) (ci := 3) (v := .int x) (ty := .int) (C := RX3) (T := TX3) (N := 3) hx hb hts hin tyX3 tyX3_ok nmX3 hown hK hP hD hS k hk rfl 2 (by decide) hlink (fun _ h9 => h9) rfl (by decide +kernel) rfl rfl (by rw [fL_len hf]; decide) hdg (fun H1 locs1 hP1 hD1 hS1 => ?_)
  refine kk H1 locs1 (ty_up hP1 hD1 hD hm hz hE hL hk0 ?_ (up_mo hz hE ha (fun r' hr' => wrl_nr _ _ hr'))) hS1
  rw [ha]
  show eOK z (gset σ o (wrl (σ o) 13 2 x.toInt) o 13) (13, o) _
  rw [gset_at]
  exact of_Sheet (fL_set 2 hf rfl (fun j hj => wrl_ni _ _ (fun q => hj (by omega))) ⟨x, rfl, (wrl_at _ _ _ _).symm, h1, h2⟩)
theorem rv_Tape (hK : va_K (zD z) vwCl (zT z) s) (hT : TY z A σ H) (ha : zG z a = (14, o)) : ∃ cell : Cell, H[a]? = some cell ∧ cell.vm.isStatics = false ∧ s.vm.findClass RX4 = some cell.cls := by
  obtain ⟨E, hP, hD, hm, hz, hE⟩ := hT
  have hL : a ∈ zL z := hm a (by rw [ha]; exact Nat.succ_ne_zero _)
  obtain ⟨k, hk0⟩ := va_pl_get (X := []) (f := E) hL
  have he := hE a hL
  rw [ha] at he
  obtain ⟨fs, h9, hf⟩ := to_Tape (show eTape z (σ o 14) o (E a) from he)
  have hk := hk0
  rw [h9] at hk
  exact va_recv hK hP (ci := 4) (q := (RX4, TX4, 10)) rfl hk
theorem gt_Tape_bytes (hx : p.tables.exec = Jvm.exec) (hb : c.code = cc) (hts : ∀ w ∈ Ts, w.before args s = true) (hin : ∀ w ∈ u_ws RX4 TX4 10, w ∈ Ts) (hown : s.vm.findClass own = some m.cls) (hK : va_K (zD z) vwCl (zT z) s) (hT : TY z A σ H) (ha : zG z a = (14, o)) (hlink : (Cond.fieldLink own index (TX4 0).1 (TX4 0).2.1 (TX4 0).2.2.1).before args s = true) (hdg : decode cc pc = .ok (.getfield index, 3)) (kk : ∀ q : Nat, zG z q = (30, o) → W p l e R s m args below meth c H locs cells slots Q (F0 m (pc + 3) ls (.ref q :: rest))) : W p l e R s m args below meth c H locs cells slots Q (F0 m pc ls (.ref a :: rest)) := by
  obtain ⟨E, hP, hD, hm, hz, hE⟩ := hT
  have hL : a ∈ zL z := hm a (by rw [ha]; exact Nat.succ_ne_zero _)
  obtain ⟨k, hk0⟩ := va_pl_get (X := []) (f := E) hL
  have he := hE a hL
  rw [ha] at he
  obtain ⟨fs, h9, hf⟩ := to_Tape (show eTape z (σ o 14) o (E a) from he)
  have hk := hk0
  rw [h9] at hk
  obtain ⟨_, hv, y, rfl, f⟩ := fL_get 0 hf rfl
  exact va_get (D := zD z) (ci := 4) (C := RX4) (T := TX4) (N := 10) hx hb hts hin hown hK hP k hk rfl 0 (by decide) hlink (fun _ h9 => h9) hv hdg (kk y f)
theorem gt_Tape_draft (hx : p.tables.exec = Jvm.exec) (hb : c.code = cc) (hts : ∀ w ∈ Ts, w.before args s = true) (hin : ∀ w ∈ u_ws RX4 TX4 10, w ∈ Ts) (hown : s.vm.findClass own = some m.cls) (hK : va_K (zD z) vwCl (zT z) s) (hT : TY z A σ H) (ha : zG z a = (14, o)) (hlink : (Cond.fieldLink own index (TX4 1).1 (TX4 1).2.1 (TX4 1).2.2.1).before args s = true) (hdg : decode cc pc = .ok (.getfield index, 3)) (kk : ∀ q : Nat, zG z q = (10, o) → W p l e R s m args below meth c H locs cells slots Q (F0 m (pc + 3) ls (.ref q :: rest))) : W p l e R s m args below meth c H locs cells slots Q (F0 m pc ls (.ref a :: rest)) := by
  obtain ⟨E, hP, hD, hm, hz, hE⟩ := hT
  have hL : a ∈ zL z := hm a (by rw [ha]; exact Nat.succ_ne_zero _)
  obtain ⟨k, hk0⟩ := va_pl_get (X := []) (f := E) hL
  have he := hE a hL
  rw [ha] at he
  obtain ⟨fs, h9, hf⟩ := to_Tape (show eTape z (σ o 14) o (E a) from he)
  have hk := hk0
  rw [h9] at hk
  obtain ⟨_, hv, y, rfl, f⟩ := fL_get 1 hf rfl
  exact va_get (D := zD z) (ci := 4) (C := RX4) (T := TX4) (N := 10) hx hb hts hin hown hK hP k hk rfl 1 (by decide) hlink (fun _ h9 => h9) hv hdg (kk y f)
theorem gt_Tape_length (hx : p.tables.exec = Jvm.exec) (hb : c.code = cc) (hts : ∀ w ∈ Ts, w.before args s = true) (hin : ∀ w ∈ u_ws RX4 TX4 10, w ∈ Ts) (hown : s.vm.findClass own = some m.cls) (hK : va_K (zD z) vwCl (zT z) s) (hT : TY z A σ H) (ha : zG z a = (14, o)) (hlink : (Cond.fieldLink own index (TX4 2).1 (TX4 2).2.1 (TX4 2).2.2.1).before args s = true) (hdg : decode cc pc = .ok (.getfield index, 3)) (kk : ∀ x : Int32, x.toInt = σ o 14 2 → 0 ≤ x.toInt → x.toInt ≤ 160 → W p l e R s m args below meth c H locs cells slots Q (F0 m (pc + 3) ls (.int x :: rest))) : W p l e R s m args below meth c H locs cells slots Q (F0 m pc ls (.ref a :: rest)) := by
  obtain ⟨E, hP, hD, hm, hz, hE⟩ := hT
  have hL : a ∈ zL z := hm a (by rw [ha]; exact Nat.succ_ne_zero _)
  obtain ⟨k, hk0⟩ := va_pl_get (X := []) (f := E) hL
  have he := hE a hL
  rw [ha] at he
  obtain ⟨fs, h9, hf⟩ := to_Tape (show eTape z (σ o 14) o (E a) from he)
  have hk := hk0
  rw [h9] at hk
  obtain ⟨_, hv, y, rfl, f⟩ := fL_get 2 hf rfl
  exact va_get (D := zD z) (ci := 4) (C := RX4) (T := TX4) (N := 10) hx hb hts hin hown hK hP k hk rfl 2 (by decide) hlink (fun _ h9 => h9) hv hdg (kk y f.1 f.2.1 f.2.2)
theorem pt_Tape_length {x : Int32} (hx : p.tables.exec = Jvm.exec) (hb : c.code = cc) (hts : ∀ w ∈ Ts, w.before args s = true) (hin : ∀ w ∈ u_ws RX4 TX4 10, w ∈ Ts) (hown : s.vm.findClass own = some m.cls) (hK : va_K (zD z) vwCl (zT z) s) (hT : TY z A σ H) (hS : va_S A H0 H locs) (ha : zG z a = (14, o)) (hlink : (Cond.fieldLink own index (TX4 2).1 (TX4 2).2.1 (TX4 2).2.2.1).before args s = true) (h1 : 0 ≤ x.toInt) (h2 : x.toInt ≤ 160) (hdg : decode cc pc = .ok (.putfield index, 3)) (kk : ∀ (H1 : Heap) (locs1 : List Loc), TY z A (wr σ o 14 2 x.toInt) H1 → va_S A H0 H1 locs1 → W p l e R s m args below meth c H1 locs1 cells slots Q (F0 m (pc + 3) ls (rest))) : W p l e R s m args below meth c H locs cells slots Q (F0 m pc ls (.int x :: .ref a :: rest)) := by
  obtain ⟨E, hP, hD, hm, hz, hE⟩ := hT
  have hL : a ∈ zL z := hm a (by rw [ha]; exact Nat.succ_ne_zero _)
  obtain ⟨k, hk0⟩ := va_pl_get (X := []) (f := E) hL
  have he := hE a hL
  rw [ha] at he
  obtain ⟨fs, h9, hf⟩ := to_Tape (show eTape z (σ o 14) o (E a) from he)
  have hk := hk0
  rw [h9] at hk
  refine va_put (D := zD z) (ci := 4) (v := .int x) (ty := .int) (C := RX4) (T := TX4) (N := 10) hx hb hts hin tyX4 tyX4_ok nmX4 hown hK hP hD hS k hk rfl 2 (by decide) hlink (fun _ h9 => h9) rfl (by decide +kernel) rfl rfl (by rw [fL_len hf]; decide) hdg (fun H1 locs1 hP1 hD1 hS1 => ?_)
  refine kk H1 locs1 (ty_up hP1 hD1 hD hm hz hE hL hk0 ?_ (up_mo hz hE ha (fun r' hr' => wrl_nr _ _ hr'))) hS1
  rw [ha]
  show eOK z (gset σ o (wrl (σ o) 14 2 x.toInt) o 14) (14, o) _
  rw [gset_at]
  exact of_Tape (fL_set 2 hf rfl (fun j hj => wrl_ni _ _ (fun q => hj (by omega))) ⟨x, rfl, (wrl_at _ _ _ _).symm, h1, h2⟩)
theorem gt_Tape_faultFound (hx : p.tables.exec = Jvm.exec) (hb : c.code = cc) (hts : ∀ w ∈ Ts, w.before args s = true) (hin : ∀ w ∈ u_ws RX4 TX4 10, w ∈ Ts) (hown : s.vm.findClass own = some m.cls) (hK : va_K (zD z) vwCl (zT z) s) (hT : TY z A σ H) (ha : zG z a = (14, o)) (hlink : (Cond.fieldLink own index (TX4 3).1 (TX4 3).2.1 (TX4 3).2.2.1).before args s = true) (hdg : decode cc pc = .ok (.getfield index, 3)) (kk : ∀ x : Int32, x.toInt = σ o 14 3 → 0 ≤ x.toInt → x.toInt ≤ 6 → W p l e R s m args below meth c H locs cells slots Q (F0 m (pc + 3) ls (.int x :: rest))) : W p l e R s m args below meth c H locs cells slots Q (F0 m pc ls (.ref a :: rest)) := by
  obtain ⟨E, hP, hD, hm, hz, hE⟩ := hT
  have hL : a ∈ zL z := hm a (by rw [ha]; exact Nat.succ_ne_zero _)
  obtain ⟨k, hk0⟩ := va_pl_get (X := []) (f := E) hL
  have he := hE a hL
  rw [ha] at he
  obtain ⟨fs, h9, hf⟩ := to_Tape (show eTape z (σ o 14) o (E a) from he)
  have hk := hk0
  rw [h9] at hk
  obtain ⟨_, hv, y, rfl, f⟩ := fL_get 3 hf rfl
  exact va_get (D := zD z) (ci := 4) (C := RX4) (T := TX4) (N := 10) hx hb hts hin hown hK hP k hk rfl 3 (by decide) hlink (fun _ h9 => h9) hv hdg (kk y f.1 f.2.1 f.2.2)
theorem pt_Tape_faultFound {x : Int32} (hx : p.tables.exec = Jvm.exec) (hb : c.code = cc) (hts : ∀ w ∈ Ts, w.before args s = true) (hin : ∀ w ∈ u_ws RX4 TX4 10, w ∈ Ts) (hown : s.vm.findClass own = some m.cls) (hK : va_K (zD z) vwCl (zT z) s) (hT : TY z A σ H) (hS : va_S A H0 H locs) (ha : zG z a = (14, o)) (hlink : (Cond.fieldLink own index (TX4 3).1 (TX4 3).2.1 (TX4 3).2.2.1).before args s = true) (h1 : 0 ≤ x.toInt) (h2 : x.toInt ≤ 6) (hdg : decode cc pc = .ok (.putfield index, 3)) (kk : ∀ (H1 : Heap) (locs1 : List Loc), TY z A (wr σ o 14 3 x.toInt) H1 → va_S A H0 H1 locs1 → W p l e R s m args below meth c H1 locs1 cells slots Q (F0 m (pc + 3) ls (rest))) : W p l e R s m args below meth c H locs cells slots Q (F0 m pc ls (.int x :: .ref a :: rest)) := by
  obtain ⟨E, hP, hD, hm, hz, hE⟩ := hT
  have hL : a ∈ zL z := hm a (by rw [ha]; exact Nat.succ_ne_zero _)
  obtain ⟨k, hk0⟩ := va_pl_get (X := []) (f := E) hL
  have he := hE a hL
  rw [ha] at he
  obtain ⟨fs, h9, hf⟩ := to_Tape (show eTape z (σ o 14) o (E a) from he)
  have hk := hk0
  rw [h9] at hk
  refine va_put (D := zD z) (ci := 4) (v := .int x) (ty := .int) (C := RX4) (T := TX4) (N := 10) hx hb hts hin tyX4 tyX4_ok nmX4 hown hK hP hD hS k hk rfl 3 (by decide) hlink (fun _ h9 => h9) rfl (by decide +kernel) rfl rfl (by rw [fL_len hf]; decide) hdg (fun H1 locs1 hP1 hD1 hS1 => ?_)
  refine kk H1 locs1 (ty_up hP1 hD1 hD hm hz hE hL hk0 ?_ (up_mo hz hE ha (fun r' hr' => wrl_nr _ _ hr'))) hS1
  rw [ha]
  show eOK z (gset σ o (wrl (σ o) 14 3 x.toInt) o 14) (14, o) _
  rw [gset_at]
  exact of_Tape (fL_set 3 hf rfl (fun j hj => wrl_ni _ _ (fun q => hj (by omega))) ⟨x, rfl, (wrl_at _ _ _ _).symm, h1, h2⟩)
theorem gt_Tape_place (hx : p.tables.exec = Jvm.exec) (hb : c.code = cc) (hts : ∀ w ∈ Ts, w.before args s = true) (hin : ∀ w ∈ u_ws RX4 TX4 10, w ∈ Ts) (hown : s.vm.findClass own = some m.cls) (hK : va_K (zD z) vwCl (zT z) s) (hT : TY z A σ H) (ha : zG z a = (14, o)) (hlink : (Cond.fieldLink own index (TX4 4).1 (TX4 4).2.1 (TX4 4).2.2.1).before args s = true) (hdg : decode cc pc = .ok (.getfield index, 3)) (kk : ∀ x : Int32, x.toInt = σ o 14 4 → 0 ≤ x.toInt → x.toInt ≤ 160 → W p l e R s m args below meth c H locs cells slots Q (F0 m (pc + 3) ls (.int x :: rest))) : W p l e R s m args below meth c H locs cells slots Q (F0 m pc ls (.ref a :: rest)) := by
  obtain ⟨E, hP, hD, hm, hz, hE⟩ := hT
  have hL : a ∈ zL z := hm a (by rw [ha]; exact Nat.succ_ne_zero _)
  obtain ⟨k, hk0⟩ := va_pl_get (X := []) (f := E) hL
  have he := hE a hL
  rw [ha] at he
  obtain ⟨fs, h9, hf⟩ := to_Tape (show eTape z (σ o 14) o (E a) from he)
  have hk := hk0
  rw [h9] at hk
  obtain ⟨_, hv, y, rfl, f⟩ := fL_get 4 hf rfl
  exact va_get (D := zD z) (ci := 4) (C := RX4) (T := TX4) (N := 10) hx hb hts hin hown hK hP k hk rfl 4 (by decide) hlink (fun _ h9 => h9) hv hdg (kk y f.1 f.2.1 f.2.2)
theorem pt_Tape_place {x : Int32} (hx : p.tables.exec = Jvm.exec) (hb : c.code = cc) (hts : ∀ w ∈ Ts, w.before args s = true) (hin : ∀ w ∈ u_ws RX4 TX4 10, w ∈ Ts) (hown : s.vm.findClass own = some m.cls) (hK : va_K (zD z) vwCl (zT z) s) (hT : TY z A σ H) (hS : va_S A H0 H locs) (ha : zG z a = (14, o)) (hlink : (Cond.fieldLink own index (TX4 4).1 (TX4 4).2.1 (TX4 4).2.2.1).before args s = true) (h1 : 0 ≤ x.toInt) (h2 : x.toInt ≤ 160) (hdg : decode cc pc = .ok (.putfield index, 3)) (kk : ∀ (H1 : Heap) (locs1 : List Loc), TY z A (wr σ o 14 4 x.toInt) H1 → va_S A H0 H1 locs1 → W p l e R s m args below meth c H1 locs1 cells slots Q (F0 m (pc + 3) ls (rest))) : W p l e R s m args below meth c H locs cells slots Q (F0 m pc ls (.int x :: .ref a :: rest)) := by
  obtain ⟨E, hP, hD, hm, hz, hE⟩ := hT
  have hL : a ∈ zL z := hm a (by rw [ha]; exact Nat.succ_ne_zero _)
  obtain ⟨k, hk0⟩ := va_pl_get (X := []) (f := E) hL
  have he := hE a hL
  rw [ha] at he
  obtain ⟨fs, h9, hf⟩ := to_Tape (show eTape z (σ o 14) o (E a) from he)
  have hk := hk0
  rw [h9] at hk
  refine va_put (D := zD z) (ci := 4) (v := .int x) (ty := .int) (C := RX4) (T := TX4) (N := 10) hx hb hts hin tyX4 tyX4_ok nmX4 hown hK hP hD hS k hk rfl 4 (by decide) hlink (fun _ h9 => h9) rfl (by decide +kernel) rfl rfl (by rw [fL_len hf]; decide) hdg (fun H1 locs1 hP1 hD1 hS1 => ?_)
  refine kk H1 locs1 (ty_up hP1 hD1 hD hm hz hE hL hk0 ?_ (up_mo hz hE ha (fun r' hr' => wrl_nr _ _ hr'))) hS1
  rw [ha]
  show eOK z (gset σ o (wrl (σ o) 14 4 x.toInt) o 14) (14, o) _
  rw [gset_at]
  exact of_Tape (fL_set 4 hf rfl (fun j hj => wrl_ni _ _ (fun q => hj (by omega))) ⟨x, rfl, (wrl_at _ _ _ _).symm, h1, h2⟩)
theorem gt_Tape_next (hx : p.tables.exec = Jvm.exec) (hb : c.code = cc) (hts : ∀ w ∈ Ts, w.before args s = true) (hin : ∀ w ∈ u_ws RX4 TX4 10, w ∈ Ts) (hown : s.vm.findClass own = some m.cls) (hK : va_K (zD z) vwCl (zT z) s) (hT : TY z A σ H) (ha : zG z a = (14, o)) (hlink : (Cond.fieldLink own index (TX4 5).1 (TX4 5).2.1 (TX4 5).2.2.1).before args s = true) (hdg : decode cc pc = .ok (.getfield index, 3)) (kk : ∀ x : Int32, x.toInt = σ o 14 5 → 0 ≤ x.toInt → x.toInt ≤ 160 → W p l e R s m args below meth c H locs cells slots Q (F0 m (pc + 3) ls (.int x :: rest))) : W p l e R s m args below meth c H locs cells slots Q (F0 m pc ls (.ref a :: rest)) := by
  obtain ⟨E, hP, hD, hm, hz, hE⟩ := hT
  have hL : a ∈ zL z := hm a (by rw [ha]; exact Nat.succ_ne_zero _)
  obtain ⟨k, hk0⟩ := va_pl_get (X := []) (f := E) hL
  have he := hE a hL
  rw [ha] at he
  obtain ⟨fs, h9, hf⟩ := to_Tape (show eTape z (σ o 14) o (E a) from he)
  have hk := hk0
  rw [h9] at hk
  obtain ⟨_, hv, y, rfl, f⟩ := fL_get 5 hf rfl
  exact va_get (D := zD z) (ci := 4) (C := RX4) (T := TX4) (N := 10) hx hb hts hin hown hK hP k hk rfl 5 (by decide) hlink (fun _ h9 => h9) hv hdg (kk y f.1 f.2.1 f.2.2)
theorem pt_Tape_next {x : Int32} (hx : p.tables.exec = Jvm.exec) (hb : c.code = cc) (hts : ∀ w ∈ Ts, w.before args s = true) (hin : ∀ w ∈ u_ws RX4 TX4 10, w ∈ Ts) (hown : s.vm.findClass own = some m.cls) (hK : va_K (zD z) vwCl (zT z) s) (hT : TY z A σ H) (hS : va_S A H0 H locs) (ha : zG z a = (14, o)) (hlink : (Cond.fieldLink own index (TX4 5).1 (TX4 5).2.1 (TX4 5).2.2.1).before args s = true) (h1 : 0 ≤ x.toInt) (h2 : x.toInt ≤ 160) (hdg : decode cc pc = .ok (.putfield index, 3)) (kk : ∀ (H1 : Heap) (locs1 : List Loc), TY z A (wr σ o 14 5 x.toInt) H1 → va_S A H0 H1 locs1 → W p l e R s m args below meth c H1 locs1 cells slots Q (F0 m (pc + 3) ls (rest))) : W p l e R s m args below meth c H locs cells slots Q (F0 m pc ls (.int x :: .ref a :: rest)) := by
  obtain ⟨E, hP, hD, hm, hz, hE⟩ := hT
  have hL : a ∈ zL z := hm a (by rw [ha]; exact Nat.succ_ne_zero _)
  obtain ⟨k, hk0⟩ := va_pl_get (X := []) (f := E) hL
  have he := hE a hL
  rw [ha] at he
  obtain ⟨fs, h9, hf⟩ := to_Tape (show eTape z (σ o 14) o (E a) from he)
  have hk := hk0
  rw [h9] at hk
  refine va_put (D := zD z) (ci := 4) (v := .int x) (ty := .int) (C := RX4) (T := TX4) (N := 10) hx hb hts hin tyX4 tyX4_ok nmX4 hown hK hP hD hS k hk rfl 5 (by decide) hlink (fun _ h9 => h9) rfl (by decide +kernel) rfl rfl (by rw [fL_len hf]; decide) hdg (fun H1 locs1 hP1 hD1 hS1 => ?_)
  refine kk H1 locs1 (ty_up hP1 hD1 hD hm hz hE hL hk0 ?_ (up_mo hz hE ha (fun r' hr' => wrl_nr _ _ hr'))) hS1
  rw [ha]
  show eOK z (gset σ o (wrl (σ o) 14 5 x.toInt) o 14) (14, o) _
  rw [gset_at]
  exact of_Tape (fL_set 5 hf rfl (fun j hj => wrl_ni _ _ (fun q => hj (by omega))) ⟨x, rfl, (wrl_at _ _ _ _).symm, h1, h2⟩)
theorem gt_Tape_token (hx : p.tables.exec = Jvm.exec) (hb : c.code = cc) (hts : ∀ w ∈ Ts, w.before args s = true) (hin : ∀ w ∈ u_ws RX4 TX4 10, w ∈ Ts) (hown : s.vm.findClass own = some m.cls) (hK : va_K (zD z) vwCl (zT z) s) (hT : TY z A σ H) (ha : zG z a = (14, o)) (hlink : (Cond.fieldLink own index (TX4 6).1 (TX4 6).2.1 (TX4 6).2.2.1).before args s = true) (hdg : decode cc pc = .ok (.getfield index, 3)) (kk : ∀ x : Int32, x.toInt = σ o 14 6 → 0 ≤ x.toInt → x.toInt ≤ 4 → W p l e R s m args below meth c H locs cells slots Q (F0 m (pc + 3) ls (.int x :: rest))) : W p l e R s m args below meth c H locs cells slots Q (F0 m pc ls (.ref a :: rest)) := by
  obtain ⟨E, hP, hD, hm, hz, hE⟩ := hT
  have hL : a ∈ zL z := hm a (by rw [ha]; exact Nat.succ_ne_zero _)
  obtain ⟨k, hk0⟩ := va_pl_get (X := []) (f := E) hL
  have he := hE a hL
  rw [ha] at he
  obtain ⟨fs, h9, hf⟩ := to_Tape (show eTape z (σ o 14) o (E a) from he)
  have hk := hk0
  rw [h9] at hk
  obtain ⟨_, hv, y, rfl, f⟩ := fL_get 6 hf rfl
  exact va_get (D := zD z) (ci := 4) (C := RX4) (T := TX4) (N := 10) hx hb hts hin hown hK hP k hk rfl 6 (by decide) hlink (fun _ h9 => h9) hv hdg (kk y f.1 f.2.1 f.2.2)
theorem pt_Tape_token {x : Int32} (hx : p.tables.exec = Jvm.exec) (hb : c.code = cc) (hts : ∀ w ∈ Ts, w.before args s = true) (hin : ∀ w ∈ u_ws RX4 TX4 10, w ∈ Ts) (hown : s.vm.findClass own = some m.cls) (hK : va_K (zD z) vwCl (zT z) s) (hT : TY z A σ H) (hS : va_S A H0 H locs) (ha : zG z a = (14, o)) (hlink : (Cond.fieldLink own index (TX4 6).1 (TX4 6).2.1 (TX4 6).2.2.1).before args s = true) (h1 : 0 ≤ x.toInt) (h2 : x.toInt ≤ 4) (hdg : decode cc pc = .ok (.putfield index, 3)) (kk : ∀ (H1 : Heap) (locs1 : List Loc), TY z A (wr σ o 14 6 x.toInt) H1 → va_S A H0 H1 locs1 → W p l e R s m args below meth c H1 locs1 cells slots Q (F0 m (pc + 3) ls (rest))) : W p l e R s m args below meth c H locs cells slots Q (F0 m pc ls (.int x :: .ref a :: rest)) := by
  obtain ⟨E, hP, hD, hm, hz, hE⟩ := hT
  have hL : a ∈ zL z := hm a (by rw [ha]; exact Nat.succ_ne_zero _)
  obtain ⟨k, hk0⟩ := va_pl_get (X := []) (f := E) hL
  have he := hE a hL
  rw [ha] at he
  obtain ⟨fs, h9, hf⟩ := to_Tape (show eTape z (σ o 14) o (E a) from he)
  have hk := hk0
  rw [h9] at hk
  refine va_put (D := zD z) (ci := 4) (v := .int x) (ty := .int) (C := RX4) (T := TX4) (N := 10) hx hb hts hin tyX4 tyX4_ok nmX4 hown hK hP hD hS k hk rfl 6 (by decide) hlink (fun _ h9 => h9) rfl (by decide +kernel) rfl rfl (by rw [fL_len hf]; decide) hdg (fun H1 locs1 hP1 hD1 hS1 => ?_)
  refine kk H1 locs1 (ty_up hP1 hD1 hD hm hz hE hL hk0 ?_ (up_mo hz hE ha (fun r' hr' => wrl_nr _ _ hr'))) hS1
  rw [ha]
  show eOK z (gset σ o (wrl (σ o) 14 6 x.toInt) o 14) (14, o) _
  rw [gset_at]
  exact of_Tape (fL_set 6 hf rfl (fun j hj => wrl_ni _ _ (fun q => hj (by omega))) ⟨x, rfl, (wrl_at _ _ _ _).symm, h1, h2⟩)
theorem gt_Tape_start (hx : p.tables.exec = Jvm.exec) (hb : c.code = cc) (hts : ∀ w ∈ Ts, w.before args s = true) (hin : ∀ w ∈ u_ws RX4 TX4 10, w ∈ Ts) (hown : s.vm.findClass own = some m.cls) (hK : va_K (zD z) vwCl (zT z) s) (hT : TY z A σ H) (ha : zG z a = (14, o)) (hlink : (Cond.fieldLink own index (TX4 7).1 (TX4 7).2.1 (TX4 7).2.2.1).before args s = true) (hdg : decode cc pc = .ok (.getfield index, 3)) (kk : ∀ x : Int32, x.toInt = σ o 14 7 → 0 ≤ x.toInt → x.toInt ≤ 160 → W p l e R s m args below meth c H locs cells slots Q (F0 m (pc + 3) ls (.int x :: rest))) : W p l e R s m args below meth c H locs cells slots Q (F0 m pc ls (.ref a :: rest)) := by
  obtain ⟨E, hP, hD, hm, hz, hE⟩ := hT
  have hL : a ∈ zL z := hm a (by rw [ha]; exact Nat.succ_ne_zero _)
  obtain ⟨k, hk0⟩ := va_pl_get (X := []) (f := E) hL
  have he := hE a hL
  rw [ha] at he
  obtain ⟨fs, h9, hf⟩ := to_Tape (show eTape z (σ o 14) o (E a) from he)
  have hk := hk0
  rw [h9] at hk
  obtain ⟨_, hv, y, rfl, f⟩ := fL_get 7 hf rfl
  exact va_get (D := zD z) (ci := 4) (C := RX4) (T := TX4) (N := 10) hx hb hts hin hown hK hP k hk rfl 7 (by decide) hlink (fun _ h9 => h9) hv hdg (kk y f.1 f.2.1 f.2.2)
theorem pt_Tape_start {x : Int32} (hx : p.tables.exec = Jvm.exec) (hb : c.code = cc) (hts : ∀ w ∈ Ts, w.before args s = true) (hin : ∀ w ∈ u_ws RX4 TX4 10, w ∈ Ts) (hown : s.vm.findClass own = some m.cls) (hK : va_K (zD z) vwCl (zT z) s) (hT : TY z A σ H) (hS : va_S A H0 H locs) (ha : zG z a = (14, o)) (hlink : (Cond.fieldLink own index (TX4 7).1 (TX4 7).2.1 (TX4 7).2.2.1).before args s = true) (h1 : 0 ≤ x.toInt) (h2 : x.toInt ≤ 160) (hdg : decode cc pc = .ok (.putfield index, 3)) (kk : ∀ (H1 : Heap) (locs1 : List Loc), TY z A (wr σ o 14 7 x.toInt) H1 → va_S A H0 H1 locs1 → W p l e R s m args below meth c H1 locs1 cells slots Q (F0 m (pc + 3) ls (rest))) : W p l e R s m args below meth c H locs cells slots Q (F0 m pc ls (.int x :: .ref a :: rest)) := by
  obtain ⟨E, hP, hD, hm, hz, hE⟩ := hT
  have hL : a ∈ zL z := hm a (by rw [ha]; exact Nat.succ_ne_zero _)
  obtain ⟨k, hk0⟩ := va_pl_get (X := []) (f := E) hL
  have he := hE a hL
  rw [ha] at he
  obtain ⟨fs, h9, hf⟩ := to_Tape (show eTape z (σ o 14) o (E a) from he)
  have hk := hk0
  rw [h9] at hk
  refine va_put (D := zD z) (ci := 4) (v := .int x) (ty := .int) (C := RX4) (T := TX4) (N := 10) hx hb hts hin tyX4 tyX4_ok nmX4 hown hK hP hD hS k hk rfl 7 (by decide) hlink (fun _ h9 => h9) rfl (by decide +kernel) rfl rfl (by rw [fL_len hf]; decide) hdg (fun H1 locs1 hP1 hD1 hS1 => ?_)
  refine kk H1 locs1 (ty_up hP1 hD1 hD hm hz hE hL hk0 ?_ (up_mo hz hE ha (fun r' hr' => wrl_nr _ _ hr'))) hS1
  rw [ha]
  show eOK z (gset σ o (wrl (σ o) 14 7 x.toInt) o 14) (14, o) _
  rw [gset_at]
  exact of_Tape (fL_set 7 hf rfl (fun j hj => wrl_ni _ _ (fun q => hj (by omega))) ⟨x, rfl, (wrl_at _ _ _ _).symm, h1, h2⟩)
theorem gt_Tape_value (hx : p.tables.exec = Jvm.exec) (hb : c.code = cc) (hts : ∀ w ∈ Ts, w.before args s = true) (hin : ∀ w ∈ u_ws RX4 TX4 10, w ∈ Ts) (hown : s.vm.findClass own = some m.cls) (hK : va_K (zD z) vwCl (zT z) s) (hT : TY z A σ H) (ha : zG z a = (14, o)) (hlink : (Cond.fieldLink own index (TX4 8).1 (TX4 8).2.1 (TX4 8).2.2.1).before args s = true) (hdg : decode cc pc = .ok (.getfield index, 3)) (kk : ∀ x : Int32, x.toInt = σ o 14 8 → 0 ≤ x.toInt → x.toInt ≤ 999 → W p l e R s m args below meth c H locs cells slots Q (F0 m (pc + 3) ls (.int x :: rest))) : W p l e R s m args below meth c H locs cells slots Q (F0 m pc ls (.ref a :: rest)) := by
  obtain ⟨E, hP, hD, hm, hz, hE⟩ := hT
  have hL : a ∈ zL z := hm a (by rw [ha]; exact Nat.succ_ne_zero _)
  obtain ⟨k, hk0⟩ := va_pl_get (X := []) (f := E) hL
  have he := hE a hL
  rw [ha] at he
  obtain ⟨fs, h9, hf⟩ := to_Tape (show eTape z (σ o 14) o (E a) from he)
  have hk := hk0
  rw [h9] at hk
  obtain ⟨_, hv, y, rfl, f⟩ := fL_get 8 hf rfl
  exact va_get (D := zD z) (ci := 4) (C := RX4) (T := TX4) (N := 10) hx hb hts hin hown hK hP k hk rfl 8 (by decide) hlink (fun _ h9 => h9) hv hdg (kk y f.1 f.2.1 f.2.2)
theorem pt_Tape_value {x : Int32} (hx : p.tables.exec = Jvm.exec) (hb : c.code = cc) (hts : ∀ w ∈ Ts, w.before args s = true) (hin : ∀ w ∈ u_ws RX4 TX4 10, w ∈ Ts) (hown : s.vm.findClass own = some m.cls) (hK : va_K (zD z) vwCl (zT z) s) (hT : TY z A σ H) (hS : va_S A H0 H locs) (ha : zG z a = (14, o)) (hlink : (Cond.fieldLink own index (TX4 8).1 (TX4 8).2.1 (TX4 8).2.2.1).before args s = true) (h1 : 0 ≤ x.toInt) (h2 : x.toInt ≤ 999) (hdg : decode cc pc = .ok (.putfield index, 3)) (kk : ∀ (H1 : Heap) (locs1 : List Loc), TY z A (wr σ o 14 8 x.toInt) H1 → va_S A H0 H1 locs1 → W p l e R s m args below meth c H1 locs1 cells slots Q (F0 m (pc + 3) ls (rest))) : W p l e R s m args below meth c H locs cells slots Q (F0 m pc ls (.int x :: .ref a :: rest)) := by
  obtain ⟨E, hP, hD, hm, hz, hE⟩ := hT
  have hL : a ∈ zL z := hm a (by rw [ha]; exact Nat.succ_ne_zero _)
  obtain ⟨k, hk0⟩ := va_pl_get (X := []) (f := E) hL
  have he := hE a hL
  rw [ha] at he
  obtain ⟨fs, h9, hf⟩ := to_Tape (show eTape z (σ o 14) o (E a) from he)
  have hk := hk0
  rw [h9] at hk
  refine va_put (D := zD z) (ci := 4) (v := .int x) (ty := .int) (C := RX4) (T := TX4) (N := 10) hx hb hts hin tyX4 tyX4_ok nmX4 hown hK hP hD hS k hk rfl 8 (by decide) hlink (fun _ h9 => h9) rfl (by decide +kernel) rfl rfl (by rw [fL_len hf]; decide) hdg (fun H1 locs1 hP1 hD1 hS1 => ?_)
  refine kk H1 locs1 (ty_up hP1 hD1 hD hm hz hE hL hk0 ?_ (up_mo hz hE ha (fun r' hr' => wrl_nr _ _ hr'))) hS1
  rw [ha]
  show eOK z (gset σ o (wrl (σ o) 14 8 x.toInt) o 14) (14, o) _
  rw [gset_at]
  exact of_Tape (fL_set 8 hf rfl (fun j hj => wrl_ni _ _ (fun q => hj (by omega))) ⟨x, rfl, (wrl_at _ _ _ _).symm, h1, h2⟩)
theorem gt_Tape_hasProgram (hx : p.tables.exec = Jvm.exec) (hb : c.code = cc) (hts : ∀ w ∈ Ts, w.before args s = true) (hin : ∀ w ∈ u_ws RX4 TX4 10, w ∈ Ts) (hown : s.vm.findClass own = some m.cls) (hK : va_K (zD z) vwCl (zT z) s) (hT : TY z A σ H) (ha : zG z a = (14, o)) (hlink : (Cond.fieldLink own index (TX4 9).1 (TX4 9).2.1 (TX4 9).2.2.1).before args s = true) (hdg : decode cc pc = .ok (.getfield index, 3)) (kk : ∀ x : Int32, x.toInt = σ o 14 9 → 0 ≤ x.toInt → x.toInt ≤ 1 → W p l e R s m args below meth c H locs cells slots Q (F0 m (pc + 3) ls (.int x :: rest))) : W p l e R s m args below meth c H locs cells slots Q (F0 m pc ls (.ref a :: rest)) := by
  obtain ⟨E, hP, hD, hm, hz, hE⟩ := hT
  have hL : a ∈ zL z := hm a (by rw [ha]; exact Nat.succ_ne_zero _)
  obtain ⟨k, hk0⟩ := va_pl_get (X := []) (f := E) hL
  have he := hE a hL
  rw [ha] at he
  obtain ⟨fs, h9, hf⟩ := to_Tape (show eTape z (σ o 14) o (E a) from he)
  have hk := hk0
  rw [h9] at hk
  obtain ⟨_, hv, y, rfl, f⟩ := fL_get 9 hf rfl
  exact va_get (D := zD z) (ci := 4) (C := RX4) (T := TX4) (N := 10) hx hb hts hin hown hK hP k hk rfl 9 (by decide) hlink (fun _ h9 => h9) hv hdg (kk y f.1 f.2.1 f.2.2)
theorem pt_Tape_hasProgram {x : Int32} (hx : p.tables.exec = Jvm.exec) (hb : c.code = cc) (hts : ∀ w ∈ Ts, w.before args s = true) (hin : ∀ w ∈ u_ws RX4 TX4 10, w ∈ Ts) (hown : s.vm.findClass own = some m.cls) (hK : va_K (zD z) vwCl (zT z) s) (hT : TY z A σ H) (hS : va_S A H0 H locs) (ha : zG z a = (14, o)) (hlink : (Cond.fieldLink own index (TX4 9).1 (TX4 9).2.1 (TX4 9).2.2.1).before args s = true) (h1 : 0 ≤ x.toInt) (h2 : x.toInt ≤ 1) (hdg : decode cc pc = .ok (.putfield index, 3)) (kk : ∀ (H1 : Heap) (locs1 : List Loc), TY z A (wr σ o 14 9 x.toInt) H1 → va_S A H0 H1 locs1 → W p l e R s m args below meth c H1 locs1 cells slots Q (F0 m (pc + 3) ls (rest))) : W p l e R s m args below meth c H locs cells slots Q (F0 m pc ls (.int x :: .ref a :: rest)) := by
  obtain ⟨E, hP, hD, hm, hz, hE⟩ := hT
  have hL : a ∈ zL z := hm a (by rw [ha]; exact Nat.succ_ne_zero _)
  obtain ⟨k, hk0⟩ := va_pl_get (X := []) (f := E) hL
  have he := hE a hL
  rw [ha] at he
  obtain ⟨fs, h9, hf⟩ := to_Tape (show eTape z (σ o 14) o (E a) from he)
  have hk := hk0
  rw [h9] at hk
  refine va_put (D := zD z) (ci := 4) (v := .int x) (ty := .boolean) (C := RX4) (T := TX4) (N := 10) hx hb hts hin tyX4 tyX4_ok nmX4 hown hK hP hD hS k hk rfl 9 (by decide) hlink (fun _ h9 => h9) rfl (by decide +kernel) (bo_n h1 h2) (bo_f h1 h2) (by rw [fL_len hf]; decide) hdg (fun H1 locs1 hP1 hD1 hS1 => ?_)
  refine kk H1 locs1 (ty_up hP1 hD1 hD hm hz hE hL hk0 ?_ (up_mo hz hE ha (fun r' hr' => wrl_nr _ _ hr'))) hS1
  rw [ha]
  show eOK z (gset σ o (wrl (σ o) 14 9 x.toInt) o 14) (14, o) _
  rw [gset_at]
  exact of_Tape (fL_set 9 hf rfl (fun j hj => wrl_ni _ _ (fun q => hj (by omega))) ⟨x, rfl, (wrl_at _ _ _ _).symm, h1, h2⟩)
theorem rv_Walk (hK : va_K (zD z) vwCl (zT z) s) (hT : TY z A σ H) (ha : zG z a = (15, o)) : ∃ cell : Cell, H[a]? = some cell ∧ cell.vm.isStatics = false ∧ s.vm.findClass RX5 = some cell.cls := by
  obtain ⟨E, hP, hD, hm, hz, hE⟩ := hT
  have hL : a ∈ zL z := hm a (by rw [ha]; exact Nat.succ_ne_zero _)
  obtain ⟨k, hk0⟩ := va_pl_get (X := []) (f := E) hL
  have he := hE a hL
  rw [ha] at he
  obtain ⟨fs, h9, hf⟩ := to_Walk (show eWalk z (σ o 15) o (E a) from he)
  have hk := hk0
  rw [h9] at hk
  exact va_recv hK hP (ci := 5) (q := (RX5, TX5, 3)) rfl hk
theorem gt_Walk_floor (hx : p.tables.exec = Jvm.exec) (hb : c.code = cc) (hts : ∀ w ∈ Ts, w.before args s = true) (hin : ∀ w ∈ u_ws RX5 TX5 3, w ∈ Ts) (hown : s.vm.findClass own = some m.cls) (hK : va_K (zD z) vwCl (zT z) s) (hT : TY z A σ H) (ha : zG z a = (15, o)) (hlink : (Cond.fieldLink own index (TX5 0).1 (TX5 0).2.1 (TX5 0).2.2.1).before args s = true) (hdg : decode cc pc = .ok (.getfield index, 3)) (kk : ∀ q : Nat, zG z q = (11, o) → W p l e R s m args below meth c H locs cells slots Q (F0 m (pc + 3) ls (.ref q :: rest))) : W p l e R s m args below meth c H locs cells slots Q (F0 m pc ls (.ref a :: rest)) := by
  obtain ⟨E, hP, hD, hm, hz, hE⟩ := hT
  have hL : a ∈ zL z := hm a (by rw [ha]; exact Nat.succ_ne_zero _)
  obtain ⟨k, hk0⟩ := va_pl_get (X := []) (f := E) hL
  have he := hE a hL
  rw [ha] at he
  obtain ⟨fs, h9, hf⟩ := to_Walk (show eWalk z (σ o 15) o (E a) from he)
  have hk := hk0
  rw [h9] at hk
  obtain ⟨_, hv, y, rfl, f⟩ := fL_get 0 hf rfl
  exact va_get (D := zD z) (ci := 5) (C := RX5) (T := TX5) (N := 3) hx hb hts hin hown hK hP k hk rfl 0 (by decide) hlink (fun _ h9 => h9) hv hdg (kk y f)
theorem gt_Walk_partners (hx : p.tables.exec = Jvm.exec) (hb : c.code = cc) (hts : ∀ w ∈ Ts, w.before args s = true) (hin : ∀ w ∈ u_ws RX5 TX5 3, w ∈ Ts) (hown : s.vm.findClass own = some m.cls) (hK : va_K (zD z) vwCl (zT z) s) (hT : TY z A σ H) (ha : zG z a = (15, o)) (hlink : (Cond.fieldLink own index (TX5 1).1 (TX5 1).2.1 (TX5 1).2.2.1).before args s = true) (hdg : decode cc pc = .ok (.getfield index, 3)) (kk : ∀ q : Nat, zG z q = (24, o) → W p l e R s m args below meth c H locs cells slots Q (F0 m (pc + 3) ls (.ref q :: rest))) : W p l e R s m args below meth c H locs cells slots Q (F0 m pc ls (.ref a :: rest)) := by
  obtain ⟨E, hP, hD, hm, hz, hE⟩ := hT
  have hL : a ∈ zL z := hm a (by rw [ha]; exact Nat.succ_ne_zero _)
  obtain ⟨k, hk0⟩ := va_pl_get (X := []) (f := E) hL
  have he := hE a hL
  rw [ha] at he
  obtain ⟨fs, h9, hf⟩ := to_Walk (show eWalk z (σ o 15) o (E a) from he)
  have hk := hk0
  rw [h9] at hk
  obtain ⟨_, hv, y, rfl, f⟩ := fL_get 1 hf rfl
  exact va_get (D := zD z) (ci := 5) (C := RX5) (T := TX5) (N := 3) hx hb hts hin hown hK hP k hk rfl 1 (by decide) hlink (fun _ h9 => h9) hv hdg (kk y f)
theorem gt_Walk_steps (hx : p.tables.exec = Jvm.exec) (hb : c.code = cc) (hts : ∀ w ∈ Ts, w.before args s = true) (hin : ∀ w ∈ u_ws RX5 TX5 3, w ∈ Ts) (hown : s.vm.findClass own = some m.cls) (hK : va_K (zD z) vwCl (zT z) s) (hT : TY z A σ H) (ha : zG z a = (15, o)) (hlink : (Cond.fieldLink own index (TX5 2).1 (TX5 2).2.1 (TX5 2).2.2.1).before args s = true) (hdg : decode cc pc = .ok (.getfield index, 3)) (kk : ∀ x : Int32, x.toInt = σ o 15 2 → 0 ≤ x.toInt → x.toInt ≤ 8 → W p l e R s m args below meth c H locs cells slots Q (F0 m (pc + 3) ls (.int x :: rest))) : W p l e R s m args below meth c H locs cells slots Q (F0 m pc ls (.ref a :: rest)) := by
  obtain ⟨E, hP, hD, hm, hz, hE⟩ := hT
  have hL : a ∈ zL z := hm a (by rw [ha]; exact Nat.succ_ne_zero _)
  obtain ⟨k, hk0⟩ := va_pl_get (X := []) (f := E) hL
  have he := hE a hL
  rw [ha] at he
  obtain ⟨fs, h9, hf⟩ := to_Walk (show eWalk z (σ o 15) o (E a) from he)
  have hk := hk0
  rw [h9] at hk
  obtain ⟨_, hv, y, rfl, f⟩ := fL_get 2 hf rfl
  exact va_get (D := zD z) (ci := 5) (C := RX5) (T := TX5) (N := 3) hx hb hts hin hown hK hP k hk rfl 2 (by decide) hlink (fun _ h9 => h9) hv hdg (kk y f.1 f.2.1 f.2.2)
theorem pt_Walk_steps {x : Int32} (hx : p.tables.exec = Jvm.exec) (hb : c.code = cc) (hts : ∀ w ∈ Ts, w.before args s = true) (hin : ∀ w ∈ u_ws RX5 TX5 3, w ∈ Ts) (hown : s.vm.findClass own = some m.cls) (hK : va_K (zD z) vwCl (zT z) s) (hT : TY z A σ H) (hS : va_S A H0 H locs) (ha : zG z a = (15, o)) (hlink : (Cond.fieldLink own index (TX5 2).1 (TX5 2).2.1 (TX5 2).2.2.1).before args s = true) (h1 : 0 ≤ x.toInt) (h2 : x.toInt ≤ 8) (hdg : decode cc pc = .ok (.putfield index, 3)) (kk : ∀ (H1 : Heap) (locs1 : List Loc), TY z A (wr σ o 15 2 x.toInt) H1 → va_S A H0 H1 locs1 → W p l e R s m args below meth c H1 locs1 cells slots Q (F0 m (pc + 3) ls (rest))) : W p l e R s m args below meth c H locs cells slots Q (F0 m pc ls (.int x :: .ref a :: rest)) := by
  obtain ⟨E, hP, hD, hm, hz, hE⟩ := hT
  have hL : a ∈ zL z := hm a (by rw [ha]; exact Nat.succ_ne_zero _)
  obtain ⟨k, hk0⟩ := va_pl_get (X := []) (f := E) hL
  have he := hE a hL
  rw [ha] at he
  obtain ⟨fs, h9, hf⟩ := to_Walk (show eWalk z (σ o 15) o (E a) from he)
  have hk := hk0
  rw [h9] at hk
  refine va_put (D := zD z) (ci := 5) (v := .int x) (ty := .int) (C := RX5) (T := TX5) (N := 3) hx hb hts hin tyX5 tyX5_ok nmX5 hown hK hP hD hS k hk rfl 2 (by decide) hlink (fun _ h9 => h9) rfl (by decide +kernel) rfl rfl (by rw [fL_len hf]; decide) hdg (fun H1 locs1 hP1 hD1 hS1 => ?_)
  refine kk H1 locs1 (ty_up hP1 hD1 hD hm hz hE hL hk0 ?_ (up_mo hz hE ha (fun r' hr' => wrl_nr _ _ hr'))) hS1
  rw [ha]
  show eOK z (gset σ o (wrl (σ o) 15 2 x.toInt) o 15) (15, o) _
  rw [gset_at]
  exact of_Walk (fL_set 2 hf rfl (fun j hj => wrl_ni _ _ (fun q => hj (by omega))) ⟨x, rfl, (wrl_at _ _ _ _).symm, h1, h2⟩)
theorem rv_HeelDance (hK : va_K (zD z) vwCl (zT z) s) (hT : TY z A σ H) (ha : zG z a = (16, o)) : ∃ cell : Cell, H[a]? = some cell ∧ cell.vm.isStatics = false ∧ s.vm.findClass RX6 = some cell.cls := by
  obtain ⟨E, hP, hD, hm, hz, hE⟩ := hT
  have hL : a ∈ zL z := hm a (by rw [ha]; exact Nat.succ_ne_zero _)
  obtain ⟨k, hk0⟩ := va_pl_get (X := []) (f := E) hL
  have he := hE a hL
  rw [ha] at he
  obtain ⟨fs, h9, hf⟩ := to_HeelDance (show eHeelDance z (σ o 16) o (E a) from he)
  have hk := hk0
  rw [h9] at hk
  exact va_recv hK hP (ci := 6) (q := (RX6, TX6, 9)) rfl hk
theorem gt_HeelDance_tape (hx : p.tables.exec = Jvm.exec) (hb : c.code = cc) (hts : ∀ w ∈ Ts, w.before args s = true) (hin : ∀ w ∈ u_ws RX6 TX6 9, w ∈ Ts) (hown : s.vm.findClass own = some m.cls) (hK : va_K (zD z) vwCl (zT z) s) (hT : TY z A σ H) (ha : zG z a = (16, o)) (hlink : (Cond.fieldLink own index (TX6 0).1 (TX6 0).2.1 (TX6 0).2.2.1).before args s = true) (hdg : decode cc pc = .ok (.getfield index, 3)) (kk : ∀ q : Nat, zG z q = (14, 2) → W p l e R s m args below meth c H locs cells slots Q (F0 m (pc + 3) ls (.ref q :: rest))) : W p l e R s m args below meth c H locs cells slots Q (F0 m pc ls (.ref a :: rest)) := by
  obtain ⟨E, hP, hD, hm, hz, hE⟩ := hT
  have hL : a ∈ zL z := hm a (by rw [ha]; exact Nat.succ_ne_zero _)
  obtain ⟨k, hk0⟩ := va_pl_get (X := []) (f := E) hL
  have he := hE a hL
  rw [ha] at he
  obtain ⟨fs, h9, hf⟩ := to_HeelDance (show eHeelDance z (σ o 16) o (E a) from he)
  have hk := hk0
  rw [h9] at hk
  obtain ⟨_, hv, y, rfl, f⟩ := fL_get 0 hf rfl
  exact va_get (D := zD z) (ci := 6) (C := RX6) (T := TX6) (N := 9) hx hb hts hin hown hK hP k hk rfl 0 (by decide) hlink (fun _ h9 => h9) hv hdg (kk y f)
theorem gt_HeelDance_now (hx : p.tables.exec = Jvm.exec) (hb : c.code = cc) (hts : ∀ w ∈ Ts, w.before args s = true) (hin : ∀ w ∈ u_ws RX6 TX6 9, w ∈ Ts) (hown : s.vm.findClass own = some m.cls) (hK : va_K (zD z) vwCl (zT z) s) (hT : TY z A σ H) (ha : zG z a = (16, o)) (hlink : (Cond.fieldLink own index (TX6 1).1 (TX6 1).2.1 (TX6 1).2.2.1).before args s = true) (hdg : decode cc pc = .ok (.getfield index, 3)) (kk : ∀ q : Nat, zG z q = (10, 1) → W p l e R s m args below meth c H locs cells slots Q (F0 m (pc + 3) ls (.ref q :: rest))) : W p l e R s m args below meth c H locs cells slots Q (F0 m pc ls (.ref a :: rest)) := by
  obtain ⟨E, hP, hD, hm, hz, hE⟩ := hT
  have hL : a ∈ zL z := hm a (by rw [ha]; exact Nat.succ_ne_zero _)
  obtain ⟨k, hk0⟩ := va_pl_get (X := []) (f := E) hL
  have he := hE a hL
  rw [ha] at he
  obtain ⟨fs, h9, hf⟩ := to_HeelDance (show eHeelDance z (σ o 16) o (E a) from he)
  have hk := hk0
  rw [h9] at hk
  obtain ⟨_, hv, y, rfl, f⟩ := fL_get 1 hf rfl
  exact va_get (D := zD z) (ci := 6) (C := RX6) (T := TX6) (N := 9) hx hb hts hin hown hK hP k hk rfl 1 (by decide) hlink (fun _ h9 => h9) hv hdg (kk y f)
theorem gt_HeelDance_images (hx : p.tables.exec = Jvm.exec) (hb : c.code = cc) (hts : ∀ w ∈ Ts, w.before args s = true) (hin : ∀ w ∈ u_ws RX6 TX6 9, w ∈ Ts) (hown : s.vm.findClass own = some m.cls) (hK : va_K (zD z) vwCl (zT z) s) (hT : TY z A σ H) (ha : zG z a = (16, o)) (hlink : (Cond.fieldLink own index (TX6 2).1 (TX6 2).2.1 (TX6 2).2.2.1).before args s = true) (hdg : decode cc pc = .ok (.getfield index, 3)) (kk : ∀ q : Nat, zG z q = (36, o) → W p l e R s m args below meth c H locs cells slots Q (F0 m (pc + 3) ls (.ref q :: rest))) : W p l e R s m args below meth c H locs cells slots Q (F0 m pc ls (.ref a :: rest)) := by
  obtain ⟨E, hP, hD, hm, hz, hE⟩ := hT
  have hL : a ∈ zL z := hm a (by rw [ha]; exact Nat.succ_ne_zero _)
  obtain ⟨k, hk0⟩ := va_pl_get (X := []) (f := E) hL
  have he := hE a hL
  rw [ha] at he
  obtain ⟨fs, h9, hf⟩ := to_HeelDance (show eHeelDance z (σ o 16) o (E a) from he)
  have hk := hk0
  rw [h9] at hk
  obtain ⟨_, hv, y, rfl, f⟩ := fL_get 2 hf rfl
  exact va_get (D := zD z) (ci := 6) (C := RX6) (T := TX6) (N := 9) hx hb hts hin hown hK hP k hk rfl 2 (by decide) hlink (fun _ h9 => h9) hv hdg (kk y f)
theorem gt_HeelDance_kept (hx : p.tables.exec = Jvm.exec) (hb : c.code = cc) (hts : ∀ w ∈ Ts, w.before args s = true) (hin : ∀ w ∈ u_ws RX6 TX6 9, w ∈ Ts) (hown : s.vm.findClass own = some m.cls) (hK : va_K (zD z) vwCl (zT z) s) (hT : TY z A σ H) (ha : zG z a = (16, o)) (hlink : (Cond.fieldLink own index (TX6 3).1 (TX6 3).2.1 (TX6 3).2.2.1).before args s = true) (hdg : decode cc pc = .ok (.getfield index, 3)) (kk : ∀ q : Nat, zG z q = (33, o) → W p l e R s m args below meth c H locs cells slots Q (F0 m (pc + 3) ls (.ref q :: rest))) : W p l e R s m args below meth c H locs cells slots Q (F0 m pc ls (.ref a :: rest)) := by
  obtain ⟨E, hP, hD, hm, hz, hE⟩ := hT
  have hL : a ∈ zL z := hm a (by rw [ha]; exact Nat.succ_ne_zero _)
  obtain ⟨k, hk0⟩ := va_pl_get (X := []) (f := E) hL
  have he := hE a hL
  rw [ha] at he
  obtain ⟨fs, h9, hf⟩ := to_HeelDance (show eHeelDance z (σ o 16) o (E a) from he)
  have hk := hk0
  rw [h9] at hk
  obtain ⟨_, hv, y, rfl, f⟩ := fL_get 3 hf rfl
  exact va_get (D := zD z) (ci := 6) (C := RX6) (T := TX6) (N := 9) hx hb hts hin hown hK hP k hk rfl 3 (by decide) hlink (fun _ h9 => h9) hv hdg (kk y f)
theorem gt_HeelDance_walk (hx : p.tables.exec = Jvm.exec) (hb : c.code = cc) (hts : ∀ w ∈ Ts, w.before args s = true) (hin : ∀ w ∈ u_ws RX6 TX6 9, w ∈ Ts) (hown : s.vm.findClass own = some m.cls) (hK : va_K (zD z) vwCl (zT z) s) (hT : TY z A σ H) (ha : zG z a = (16, o)) (hlink : (Cond.fieldLink own index (TX6 4).1 (TX6 4).2.1 (TX6 4).2.2.1).before args s = true) (hdg : decode cc pc = .ok (.getfield index, 3)) (kk : ∀ q : Nat, zG z q = (15, 5) → W p l e R s m args below meth c H locs cells slots Q (F0 m (pc + 3) ls (.ref q :: rest))) : W p l e R s m args below meth c H locs cells slots Q (F0 m pc ls (.ref a :: rest)) := by
  obtain ⟨E, hP, hD, hm, hz, hE⟩ := hT
  have hL : a ∈ zL z := hm a (by rw [ha]; exact Nat.succ_ne_zero _)
  obtain ⟨k, hk0⟩ := va_pl_get (X := []) (f := E) hL
  have he := hE a hL
  rw [ha] at he
  obtain ⟨fs, h9, hf⟩ := to_HeelDance (show eHeelDance z (σ o 16) o (E a) from he)
  have hk := hk0
  rw [h9] at hk
  obtain ⟨_, hv, y, rfl, f⟩ := fL_get 4 hf rfl
  exact va_get (D := zD z) (ci := 6) (C := RX6) (T := TX6) (N := 9) hx hb hts hin hown hK hP k hk rfl 4 (by decide) hlink (fun _ h9 => h9) hv hdg (kk y f)
theorem gt_HeelDance_search (hx : p.tables.exec = Jvm.exec) (hb : c.code = cc) (hts : ∀ w ∈ Ts, w.before args s = true) (hin : ∀ w ∈ u_ws RX6 TX6 9, w ∈ Ts) (hown : s.vm.findClass own = some m.cls) (hK : va_K (zD z) vwCl (zT z) s) (hT : TY z A σ H) (ha : zG z a = (16, o)) (hlink : (Cond.fieldLink own index (TX6 5).1 (TX6 5).2.1 (TX6 5).2.2.1).before args s = true) (hdg : decode cc pc = .ok (.getfield index, 3)) (kk : ∀ q : Nat, zG z q = (12, 0) → W p l e R s m args below meth c H locs cells slots Q (F0 m (pc + 3) ls (.ref q :: rest))) : W p l e R s m args below meth c H locs cells slots Q (F0 m pc ls (.ref a :: rest)) := by
  obtain ⟨E, hP, hD, hm, hz, hE⟩ := hT
  have hL : a ∈ zL z := hm a (by rw [ha]; exact Nat.succ_ne_zero _)
  obtain ⟨k, hk0⟩ := va_pl_get (X := []) (f := E) hL
  have he := hE a hL
  rw [ha] at he
  obtain ⟨fs, h9, hf⟩ := to_HeelDance (show eHeelDance z (σ o 16) o (E a) from he)
  have hk := hk0
  rw [h9] at hk
  obtain ⟨_, hv, y, rfl, f⟩ := fL_get 5 hf rfl
  exact va_get (D := zD z) (ci := 6) (C := RX6) (T := TX6) (N := 9) hx hb hts hin hown hK hP k hk rfl 5 (by decide) hlink (fun _ h9 => h9) hv hdg (kk y f)
theorem gt_HeelDance_sheets (hx : p.tables.exec = Jvm.exec) (hb : c.code = cc) (hts : ∀ w ∈ Ts, w.before args s = true) (hin : ∀ w ∈ u_ws RX6 TX6 9, w ∈ Ts) (hown : s.vm.findClass own = some m.cls) (hK : va_K (zD z) vwCl (zT z) s) (hT : TY z A σ H) (ha : zG z a = (16, o)) (hlink : (Cond.fieldLink own index (TX6 6).1 (TX6 6).2.1 (TX6 6).2.2.1).before args s = true) (hdg : decode cc pc = .ok (.getfield index, 3)) (kk : ∀ q : Nat, zG z q = (37, o) → W p l e R s m args below meth c H locs cells slots Q (F0 m (pc + 3) ls (.ref q :: rest))) : W p l e R s m args below meth c H locs cells slots Q (F0 m pc ls (.ref a :: rest)) := by
  obtain ⟨E, hP, hD, hm, hz, hE⟩ := hT
  have hL : a ∈ zL z := hm a (by rw [ha]; exact Nat.succ_ne_zero _)
  obtain ⟨k, hk0⟩ := va_pl_get (X := []) (f := E) hL
  have he := hE a hL
  rw [ha] at he
  obtain ⟨fs, h9, hf⟩ := to_HeelDance (show eHeelDance z (σ o 16) o (E a) from he)
  have hk := hk0
  rw [h9] at hk
  obtain ⟨_, hv, y, rfl, f⟩ := fL_get 6 hf rfl
  exact va_get (D := zD z) (ci := 6) (C := RX6) (T := TX6) (N := 9) hx hb hts hin hown hK hP k hk rfl 6 (by decide) hlink (fun _ h9 => h9) hv hdg (kk y f)
theorem gt_HeelDance_latestFault (hx : p.tables.exec = Jvm.exec) (hb : c.code = cc) (hts : ∀ w ∈ Ts, w.before args s = true) (hin : ∀ w ∈ u_ws RX6 TX6 9, w ∈ Ts) (hown : s.vm.findClass own = some m.cls) (hK : va_K (zD z) vwCl (zT z) s) (hT : TY z A σ H) (ha : zG z a = (16, o)) (hlink : (Cond.fieldLink own index (TX6 7).1 (TX6 7).2.1 (TX6 7).2.2.1).before args s = true) (hdg : decode cc pc = .ok (.getfield index, 3)) (kk : ∀ x : Int32, x.toInt = σ o 16 7 → 0 ≤ x.toInt → x.toInt ≤ 6 → W p l e R s m args below meth c H locs cells slots Q (F0 m (pc + 3) ls (.int x :: rest))) : W p l e R s m args below meth c H locs cells slots Q (F0 m pc ls (.ref a :: rest)) := by
  obtain ⟨E, hP, hD, hm, hz, hE⟩ := hT
  have hL : a ∈ zL z := hm a (by rw [ha]; exact Nat.succ_ne_zero _)
  obtain ⟨k, hk0⟩ := va_pl_get (X := []) (f := E) hL
  have he := hE a hL
  rw [ha] at he
  obtain ⟨fs, h9, hf⟩ := to_HeelDance (show eHeelDance z (σ o 16) o (E a) from he)
  have hk := hk0
  rw [h9] at hk
  obtain ⟨_, hv, y, rfl, f⟩ := fL_get 7 hf rfl
  exact va_get (D := zD z) (ci := 6) (C := RX6) (T := TX6) (N := 9) hx hb hts hin hown hK hP k hk rfl 7 (by decide) hlink (fun _ h9 => h9) hv hdg (kk y f.1 f.2.1 f.2.2)
theorem pt_HeelDance_latestFault {x : Int32} (hx : p.tables.exec = Jvm.exec) (hb : c.code = cc) (hts : ∀ w ∈ Ts, w.before args s = true) (hin : ∀ w ∈ u_ws RX6 TX6 9, w ∈ Ts) (hown : s.vm.findClass own = some m.cls) (hK : va_K (zD z) vwCl (zT z) s) (hT : TY z A σ H) (hS : va_S A H0 H locs) (ha : zG z a = (16, o)) (hlink : (Cond.fieldLink own index (TX6 7).1 (TX6 7).2.1 (TX6 7).2.2.1).before args s = true) (h1 : 0 ≤ x.toInt) (h2 : x.toInt ≤ 6) (hdg : decode cc pc = .ok (.putfield index, 3)) (kk : ∀ (H1 : Heap) (locs1 : List Loc), TY z A (wr σ o 16 7 x.toInt) H1 → va_S A H0 H1 locs1 → W p l e R s m args below meth c H1 locs1 cells slots Q (F0 m (pc + 3) ls (rest))) : W p l e R s m args below meth c H locs cells slots Q (F0 m pc ls (.int x :: .ref a :: rest)) := by
  obtain ⟨E, hP, hD, hm, hz, hE⟩ := hT
  have hL : a ∈ zL z := hm a (by rw [ha]; exact Nat.succ_ne_zero _)
  obtain ⟨k, hk0⟩ := va_pl_get (X := []) (f := E) hL
  have he := hE a hL
  rw [ha] at he
  obtain ⟨fs, h9, hf⟩ := to_HeelDance (show eHeelDance z (σ o 16) o (E a) from he)
  have hk := hk0
  rw [h9] at hk
  refine va_put (D := zD z) (ci := 6) (v := .int x) (ty := .int) (C := RX6) (T := TX6) (N := 9) hx hb hts hin tyX6 tyX6_ok nmX6 hown hK hP hD hS k hk rfl 7 (by decide) hlink (fun _ h9 => h9) rfl (by decide +kernel) rfl rfl (by rw [fL_len hf]; decide) hdg (fun H1 locs1 hP1 hD1 hS1 => ?_)
  refine kk H1 locs1 (ty_up hP1 hD1 hD hm hz hE hL hk0 ?_ (up_mo hz hE ha (fun r' hr' => wrl_nr _ _ hr'))) hS1
  rw [ha]
  show eOK z (gset σ o (wrl (σ o) 16 7 x.toInt) o 16) (16, o) _
  rw [gset_at]
  exact of_HeelDance (fL_set 7 hf rfl (fun j hj => wrl_ni _ _ (fun q => hj (by omega))) ⟨x, rfl, (wrl_at _ _ _ _).symm, h1, h2⟩)
theorem gt_HeelDance_latestTear (hx : p.tables.exec = Jvm.exec) (hb : c.code = cc) (hts : ∀ w ∈ Ts, w.before args s = true) (hin : ∀ w ∈ u_ws RX6 TX6 9, w ∈ Ts) (hown : s.vm.findClass own = some m.cls) (hK : va_K (zD z) vwCl (zT z) s) (hT : TY z A σ H) (ha : zG z a = (16, o)) (hlink : (Cond.fieldLink own index (TX6 8).1 (TX6 8).2.1 (TX6 8).2.2.1).before args s = true) (hdg : decode cc pc = .ok (.getfield index, 3)) (kk : ∀ x : Int32, x.toInt = σ o 16 8 → 0 ≤ x.toInt → x.toInt ≤ 3 → W p l e R s m args below meth c H locs cells slots Q (F0 m (pc + 3) ls (.int x :: rest))) : W p l e R s m args below meth c H locs cells slots Q (F0 m pc ls (.ref a :: rest)) := by
  obtain ⟨E, hP, hD, hm, hz, hE⟩ := hT
  have hL : a ∈ zL z := hm a (by rw [ha]; exact Nat.succ_ne_zero _)
  obtain ⟨k, hk0⟩ := va_pl_get (X := []) (f := E) hL
  have he := hE a hL
  rw [ha] at he
  obtain ⟨fs, h9, hf⟩ := to_HeelDance (show eHeelDance z (σ o 16) o (E a) from he)
  have hk := hk0
  rw [h9] at hk
  obtain ⟨_, hv, y, rfl, f⟩ := fL_get 8 hf rfl
  exact va_get (D := zD z) (ci := 6) (C := RX6) (T := TX6) (N := 9) hx hb hts hin hown hK hP k hk rfl 8 (by decide) hlink (fun _ h9 => h9) hv hdg (kk y f.1 f.2.1 f.2.2)
theorem pt_HeelDance_latestTear {x : Int32} (hx : p.tables.exec = Jvm.exec) (hb : c.code = cc) (hts : ∀ w ∈ Ts, w.before args s = true) (hin : ∀ w ∈ u_ws RX6 TX6 9, w ∈ Ts) (hown : s.vm.findClass own = some m.cls) (hK : va_K (zD z) vwCl (zT z) s) (hT : TY z A σ H) (hS : va_S A H0 H locs) (ha : zG z a = (16, o)) (hlink : (Cond.fieldLink own index (TX6 8).1 (TX6 8).2.1 (TX6 8).2.2.1).before args s = true) (h1 : 0 ≤ x.toInt) (h2 : x.toInt ≤ 3) (hdg : decode cc pc = .ok (.putfield index, 3)) (kk : ∀ (H1 : Heap) (locs1 : List Loc), TY z A (wr σ o 16 8 x.toInt) H1 → va_S A H0 H1 locs1 → W p l e R s m args below meth c H1 locs1 cells slots Q (F0 m (pc + 3) ls (rest))) : W p l e R s m args below meth c H locs cells slots Q (F0 m pc ls (.int x :: .ref a :: rest)) := by
  obtain ⟨E, hP, hD, hm, hz, hE⟩ := hT
  have hL : a ∈ zL z := hm a (by rw [ha]; exact Nat.succ_ne_zero _)
  obtain ⟨k, hk0⟩ := va_pl_get (X := []) (f := E) hL
  have he := hE a hL
  rw [ha] at he
  obtain ⟨fs, h9, hf⟩ := to_HeelDance (show eHeelDance z (σ o 16) o (E a) from he)
  have hk := hk0
  rw [h9] at hk
  refine va_put (D := zD z) (ci := 6) (v := .int x) (ty := .int) (C := RX6) (T := TX6) (N := 9) hx hb hts hin tyX6 tyX6_ok nmX6 hown hK hP hD hS k hk rfl 8 (by decide) hlink (fun _ h9 => h9) rfl (by decide +kernel) rfl rfl (by rw [fL_len hf]; decide) hdg (fun H1 locs1 hP1 hD1 hS1 => ?_)
  refine kk H1 locs1 (ty_up hP1 hD1 hD hm hz hE hL hk0 ?_ (up_mo hz hE ha (fun r' hr' => wrl_nr _ _ hr'))) hS1
  rw [ha]
  show eOK z (gset σ o (wrl (σ o) 16 8 x.toInt) o 16) (16, o) _
  rw [gset_at]
  exact of_HeelDance (fL_set 8 hf rfl (fun j hj => wrl_ni _ _ (fun q => hj (by omega))) ⟨x, rfl, (wrl_at _ _ _ _).symm, h1, h2⟩)
theorem rv_Model (hK : va_K (zD z) vwCl (zT z) s) (hT : TY z A σ H) (ha : zG z a = (17, o)) : ∃ cell : Cell, H[a]? = some cell ∧ cell.vm.isStatics = false ∧ s.vm.findClass RX7 = some cell.cls := by
  obtain ⟨E, hP, hD, hm, hz, hE⟩ := hT
  have hL : a ∈ zL z := hm a (by rw [ha]; exact Nat.succ_ne_zero _)
  obtain ⟨k, hk0⟩ := va_pl_get (X := []) (f := E) hL
  have he := hE a hL
  rw [ha] at he
  obtain ⟨fs, h9, hf⟩ := to_Model (show eModel z (σ o 17) o (E a) from he)
  have hk := hk0
  rw [h9] at hk
  exact va_recv hK hP (ci := 7) (q := (RX7, TX7, 26)) rfl hk
theorem gt_Model_st (hx : p.tables.exec = Jvm.exec) (hb : c.code = cc) (hts : ∀ w ∈ Ts, w.before args s = true) (hin : ∀ w ∈ u_ws RX7 TX7 26, w ∈ Ts) (hown : s.vm.findClass own = some m.cls) (hK : va_K (zD z) vwCl (zT z) s) (hT : TY z A σ H) (ha : zG z a = (17, o)) (hlink : (Cond.fieldLink own index (TX7 0).1 (TX7 0).2.1 (TX7 0).2.2.1).before args s = true) (hdg : decode cc pc = .ok (.getfield index, 3)) (kk : ∀ q : Nat, zG z q = (40, o) → W p l e R s m args below meth c H locs cells slots Q (F0 m (pc + 3) ls (.ref q :: rest))) : W p l e R s m args below meth c H locs cells slots Q (F0 m pc ls (.ref a :: rest)) := by
  obtain ⟨E, hP, hD, hm, hz, hE⟩ := hT
  have hL : a ∈ zL z := hm a (by rw [ha]; exact Nat.succ_ne_zero _)
  obtain ⟨k, hk0⟩ := va_pl_get (X := []) (f := E) hL
  have he := hE a hL
  rw [ha] at he
  obtain ⟨fs, h9, hf⟩ := to_Model (show eModel z (σ o 17) o (E a) from he)
  have hk := hk0
  rw [h9] at hk
  obtain ⟨_, hv, y, rfl, f⟩ := fL_get 0 hf rfl
  exact va_get (D := zD z) (ci := 7) (C := RX7) (T := TX7) (N := 26) hx hb hts hin hown hK hP k hk rfl 0 (by decide) hlink (fun _ h9 => h9) hv hdg (kk y f)
theorem gt_Model_now (hx : p.tables.exec = Jvm.exec) (hb : c.code = cc) (hts : ∀ w ∈ Ts, w.before args s = true) (hin : ∀ w ∈ u_ws RX7 TX7 26, w ∈ Ts) (hown : s.vm.findClass own = some m.cls) (hK : va_K (zD z) vwCl (zT z) s) (hT : TY z A σ H) (ha : zG z a = (17, o)) (hlink : (Cond.fieldLink own index (TX7 1).1 (TX7 1).2.1 (TX7 1).2.2.1).before args s = true) (hdg : decode cc pc = .ok (.getfield index, 3)) (kk : ∀ q : Nat, zG z q = (41, o) → W p l e R s m args below meth c H locs cells slots Q (F0 m (pc + 3) ls (.ref q :: rest))) : W p l e R s m args below meth c H locs cells slots Q (F0 m pc ls (.ref a :: rest)) := by
  obtain ⟨E, hP, hD, hm, hz, hE⟩ := hT
  have hL : a ∈ zL z := hm a (by rw [ha]; exact Nat.succ_ne_zero _)
  obtain ⟨k, hk0⟩ := va_pl_get (X := []) (f := E) hL
  have he := hE a hL
  rw [ha] at he
  obtain ⟨fs, h9, hf⟩ := to_Model (show eModel z (σ o 17) o (E a) from he)
  have hk := hk0
  rw [h9] at hk
  obtain ⟨_, hv, y, rfl, f⟩ := fL_get 1 hf rfl
  exact va_get (D := zD z) (ci := 7) (C := RX7) (T := TX7) (N := 26) hx hb hts hin hown hK hP k hk rfl 1 (by decide) hlink (fun _ h9 => h9) hv hdg (kk y f)
theorem gt_Model_isKept (hx : p.tables.exec = Jvm.exec) (hb : c.code = cc) (hts : ∀ w ∈ Ts, w.before args s = true) (hin : ∀ w ∈ u_ws RX7 TX7 26, w ∈ Ts) (hown : s.vm.findClass own = some m.cls) (hK : va_K (zD z) vwCl (zT z) s) (hT : TY z A σ H) (ha : zG z a = (17, o)) (hlink : (Cond.fieldLink own index (TX7 2).1 (TX7 2).2.1 (TX7 2).2.2.1).before args s = true) (hdg : decode cc pc = .ok (.getfield index, 3)) (kk : ∀ q : Nat, zG z q = (42, o) → W p l e R s m args below meth c H locs cells slots Q (F0 m (pc + 3) ls (.ref q :: rest))) : W p l e R s m args below meth c H locs cells slots Q (F0 m pc ls (.ref a :: rest)) := by
  obtain ⟨E, hP, hD, hm, hz, hE⟩ := hT
  have hL : a ∈ zL z := hm a (by rw [ha]; exact Nat.succ_ne_zero _)
  obtain ⟨k, hk0⟩ := va_pl_get (X := []) (f := E) hL
  have he := hE a hL
  rw [ha] at he
  obtain ⟨fs, h9, hf⟩ := to_Model (show eModel z (σ o 17) o (E a) from he)
  have hk := hk0
  rw [h9] at hk
  obtain ⟨_, hv, y, rfl, f⟩ := fL_get 2 hf rfl
  exact va_get (D := zD z) (ci := 7) (C := RX7) (T := TX7) (N := 26) hx hb hts hin hown hK hP k hk rfl 2 (by decide) hlink (fun _ h9 => h9) hv hdg (kk y f)
theorem gt_Model_men (hx : p.tables.exec = Jvm.exec) (hb : c.code = cc) (hts : ∀ w ∈ Ts, w.before args s = true) (hin : ∀ w ∈ u_ws RX7 TX7 26, w ∈ Ts) (hown : s.vm.findClass own = some m.cls) (hK : va_K (zD z) vwCl (zT z) s) (hT : TY z A σ H) (ha : zG z a = (17, o)) (hlink : (Cond.fieldLink own index (TX7 3).1 (TX7 3).2.1 (TX7 3).2.2.1).before args s = true) (hdg : decode cc pc = .ok (.getfield index, 3)) (kk : ∀ x : Int32, x.toInt = σ o 17 3 → 0 ≤ x.toInt → x.toInt ≤ 5 → W p l e R s m args below meth c H locs cells slots Q (F0 m (pc + 3) ls (.int x :: rest))) : W p l e R s m args below meth c H locs cells slots Q (F0 m pc ls (.ref a :: rest)) := by
  obtain ⟨E, hP, hD, hm, hz, hE⟩ := hT
  have hL : a ∈ zL z := hm a (by rw [ha]; exact Nat.succ_ne_zero _)
  obtain ⟨k, hk0⟩ := va_pl_get (X := []) (f := E) hL
  have he := hE a hL
  rw [ha] at he
  obtain ⟨fs, h9, hf⟩ := to_Model (show eModel z (σ o 17) o (E a) from he)
  have hk := hk0
  rw [h9] at hk
  obtain ⟨_, hv, y, rfl, f⟩ := fL_get 3 hf rfl
  exact va_get (D := zD z) (ci := 7) (C := RX7) (T := TX7) (N := 26) hx hb hts hin hown hK hP k hk rfl 3 (by decide) hlink (fun _ h9 => h9) hv hdg (kk y f.1 f.2.1 f.2.2)
theorem pt_Model_men {x : Int32} (hx : p.tables.exec = Jvm.exec) (hb : c.code = cc) (hts : ∀ w ∈ Ts, w.before args s = true) (hin : ∀ w ∈ u_ws RX7 TX7 26, w ∈ Ts) (hown : s.vm.findClass own = some m.cls) (hK : va_K (zD z) vwCl (zT z) s) (hT : TY z A σ H) (hS : va_S A H0 H locs) (ha : zG z a = (17, o)) (hlink : (Cond.fieldLink own index (TX7 3).1 (TX7 3).2.1 (TX7 3).2.2.1).before args s = true) (h1 : 0 ≤ x.toInt) (h2 : x.toInt ≤ 5) (hdg : decode cc pc = .ok (.putfield index, 3)) (kk : ∀ (H1 : Heap) (locs1 : List Loc), TY z A (wr σ o 17 3 x.toInt) H1 → va_S A H0 H1 locs1 → W p l e R s m args below meth c H1 locs1 cells slots Q (F0 m (pc + 3) ls (rest))) : W p l e R s m args below meth c H locs cells slots Q (F0 m pc ls (.int x :: .ref a :: rest)) := by
  obtain ⟨E, hP, hD, hm, hz, hE⟩ := hT
  have hL : a ∈ zL z := hm a (by rw [ha]; exact Nat.succ_ne_zero _)
  obtain ⟨k, hk0⟩ := va_pl_get (X := []) (f := E) hL
  have he := hE a hL
  rw [ha] at he
  obtain ⟨fs, h9, hf⟩ := to_Model (show eModel z (σ o 17) o (E a) from he)
  have hk := hk0
  rw [h9] at hk
  refine va_put (D := zD z) (ci := 7) (v := .int x) (ty := .int) (C := RX7) (T := TX7) (N := 26) hx hb hts hin tyX7 tyX7_ok nmX7 hown hK hP hD hS k hk rfl 3 (by decide) hlink (fun _ h9 => h9) rfl (by decide +kernel) rfl rfl (by rw [fL_len hf]; decide) hdg (fun H1 locs1 hP1 hD1 hS1 => ?_)
  refine kk H1 locs1 (ty_up hP1 hD1 hD hm hz hE hL hk0 ?_ (up_mo hz hE ha (fun r' hr' => wrl_nr _ _ hr'))) hS1
  rw [ha]
  show eOK z (gset σ o (wrl (σ o) 17 3 x.toInt) o 17) (17, o) _
  rw [gset_at]
  exact of_Model (fL_set 3 hf rfl (fun j hj => wrl_ni _ _ (fun q => hj (by omega))) ⟨x, rfl, (wrl_at _ _ _ _).symm, h1, h2⟩)
theorem gt_Model_draft (hx : p.tables.exec = Jvm.exec) (hb : c.code = cc) (hts : ∀ w ∈ Ts, w.before args s = true) (hin : ∀ w ∈ u_ws RX7 TX7 26, w ∈ Ts) (hown : s.vm.findClass own = some m.cls) (hK : va_K (zD z) vwCl (zT z) s) (hT : TY z A σ H) (ha : zG z a = (17, o)) (hlink : (Cond.fieldLink own index (TX7 4).1 (TX7 4).2.1 (TX7 4).2.2.1).before args s = true) (hdg : decode cc pc = .ok (.getfield index, 3)) (kk : ∀ q : Nat, zG z q = (43, o) → W p l e R s m args below meth c H locs cells slots Q (F0 m (pc + 3) ls (.ref q :: rest))) : W p l e R s m args below meth c H locs cells slots Q (F0 m pc ls (.ref a :: rest)) := by
  obtain ⟨E, hP, hD, hm, hz, hE⟩ := hT
  have hL : a ∈ zL z := hm a (by rw [ha]; exact Nat.succ_ne_zero _)
  obtain ⟨k, hk0⟩ := va_pl_get (X := []) (f := E) hL
  have he := hE a hL
  rw [ha] at he
  obtain ⟨fs, h9, hf⟩ := to_Model (show eModel z (σ o 17) o (E a) from he)
  have hk := hk0
  rw [h9] at hk
  obtain ⟨_, hv, y, rfl, f⟩ := fL_get 4 hf rfl
  exact va_get (D := zD z) (ci := 7) (C := RX7) (T := TX7) (N := 26) hx hb hts hin hown hK hP k hk rfl 4 (by decide) hlink (fun _ h9 => h9) hv hdg (kk y f)
theorem gt_Model_dMen (hx : p.tables.exec = Jvm.exec) (hb : c.code = cc) (hts : ∀ w ∈ Ts, w.before args s = true) (hin : ∀ w ∈ u_ws RX7 TX7 26, w ∈ Ts) (hown : s.vm.findClass own = some m.cls) (hK : va_K (zD z) vwCl (zT z) s) (hT : TY z A σ H) (ha : zG z a = (17, o)) (hlink : (Cond.fieldLink own index (TX7 5).1 (TX7 5).2.1 (TX7 5).2.2.1).before args s = true) (hdg : decode cc pc = .ok (.getfield index, 3)) (kk : ∀ x : Int32, x.toInt = σ o 17 5 → 0 ≤ x.toInt → x.toInt ≤ 5 → W p l e R s m args below meth c H locs cells slots Q (F0 m (pc + 3) ls (.int x :: rest))) : W p l e R s m args below meth c H locs cells slots Q (F0 m pc ls (.ref a :: rest)) := by
  obtain ⟨E, hP, hD, hm, hz, hE⟩ := hT
  have hL : a ∈ zL z := hm a (by rw [ha]; exact Nat.succ_ne_zero _)
  obtain ⟨k, hk0⟩ := va_pl_get (X := []) (f := E) hL
  have he := hE a hL
  rw [ha] at he
  obtain ⟨fs, h9, hf⟩ := to_Model (show eModel z (σ o 17) o (E a) from he)
  have hk := hk0
  rw [h9] at hk
  obtain ⟨_, hv, y, rfl, f⟩ := fL_get 5 hf rfl
  exact va_get (D := zD z) (ci := 7) (C := RX7) (T := TX7) (N := 26) hx hb hts hin hown hK hP k hk rfl 5 (by decide) hlink (fun _ h9 => h9) hv hdg (kk y f.1 f.2.1 f.2.2)
theorem pt_Model_dMen {x : Int32} (hx : p.tables.exec = Jvm.exec) (hb : c.code = cc) (hts : ∀ w ∈ Ts, w.before args s = true) (hin : ∀ w ∈ u_ws RX7 TX7 26, w ∈ Ts) (hown : s.vm.findClass own = some m.cls) (hK : va_K (zD z) vwCl (zT z) s) (hT : TY z A σ H) (hS : va_S A H0 H locs) (ha : zG z a = (17, o)) (hlink : (Cond.fieldLink own index (TX7 5).1 (TX7 5).2.1 (TX7 5).2.2.1).before args s = true) (h1 : 0 ≤ x.toInt) (h2 : x.toInt ≤ 5) (hdg : decode cc pc = .ok (.putfield index, 3)) (kk : ∀ (H1 : Heap) (locs1 : List Loc), TY z A (wr σ o 17 5 x.toInt) H1 → va_S A H0 H1 locs1 → W p l e R s m args below meth c H1 locs1 cells slots Q (F0 m (pc + 3) ls (rest))) : W p l e R s m args below meth c H locs cells slots Q (F0 m pc ls (.int x :: .ref a :: rest)) := by
  obtain ⟨E, hP, hD, hm, hz, hE⟩ := hT
  have hL : a ∈ zL z := hm a (by rw [ha]; exact Nat.succ_ne_zero _)
  obtain ⟨k, hk0⟩ := va_pl_get (X := []) (f := E) hL
  have he := hE a hL
  rw [ha] at he
  obtain ⟨fs, h9, hf⟩ := to_Model (show eModel z (σ o 17) o (E a) from he)
  have hk := hk0
  rw [h9] at hk
  refine va_put (D := zD z) (ci := 7) (v := .int x) (ty := .int) (C := RX7) (T := TX7) (N := 26) hx hb hts hin tyX7 tyX7_ok nmX7 hown hK hP hD hS k hk rfl 5 (by decide) hlink (fun _ h9 => h9) rfl (by decide +kernel) rfl rfl (by rw [fL_len hf]; decide) hdg (fun H1 locs1 hP1 hD1 hS1 => ?_)
  refine kk H1 locs1 (ty_up hP1 hD1 hD hm hz hE hL hk0 ?_ (up_mo hz hE ha (fun r' hr' => wrl_nr _ _ hr'))) hS1
  rw [ha]
  show eOK z (gset σ o (wrl (σ o) 17 5 x.toInt) o 17) (17, o) _
  rw [gset_at]
  exact of_Model (fL_set 5 hf rfl (fun j hj => wrl_ni _ _ (fun q => hj (by omega))) ⟨x, rfl, (wrl_at _ _ _ _).symm, h1, h2⟩)
theorem gt_Model_dKin (hx : p.tables.exec = Jvm.exec) (hb : c.code = cc) (hts : ∀ w ∈ Ts, w.before args s = true) (hin : ∀ w ∈ u_ws RX7 TX7 26, w ∈ Ts) (hown : s.vm.findClass own = some m.cls) (hK : va_K (zD z) vwCl (zT z) s) (hT : TY z A σ H) (ha : zG z a = (17, o)) (hlink : (Cond.fieldLink own index (TX7 6).1 (TX7 6).2.1 (TX7 6).2.2.1).before args s = true) (hdg : decode cc pc = .ok (.getfield index, 3)) (kk : ∀ x : Int32, x.toInt = σ o 17 6 → 0 ≤ x.toInt → x.toInt ≤ 6 → W p l e R s m args below meth c H locs cells slots Q (F0 m (pc + 3) ls (.int x :: rest))) : W p l e R s m args below meth c H locs cells slots Q (F0 m pc ls (.ref a :: rest)) := by
  obtain ⟨E, hP, hD, hm, hz, hE⟩ := hT
  have hL : a ∈ zL z := hm a (by rw [ha]; exact Nat.succ_ne_zero _)
  obtain ⟨k, hk0⟩ := va_pl_get (X := []) (f := E) hL
  have he := hE a hL
  rw [ha] at he
  obtain ⟨fs, h9, hf⟩ := to_Model (show eModel z (σ o 17) o (E a) from he)
  have hk := hk0
  rw [h9] at hk
  obtain ⟨_, hv, y, rfl, f⟩ := fL_get 6 hf rfl
  exact va_get (D := zD z) (ci := 7) (C := RX7) (T := TX7) (N := 26) hx hb hts hin hown hK hP k hk rfl 6 (by decide) hlink (fun _ h9 => h9) hv hdg (kk y f.1 f.2.1 f.2.2)
theorem pt_Model_dKin {x : Int32} (hx : p.tables.exec = Jvm.exec) (hb : c.code = cc) (hts : ∀ w ∈ Ts, w.before args s = true) (hin : ∀ w ∈ u_ws RX7 TX7 26, w ∈ Ts) (hown : s.vm.findClass own = some m.cls) (hK : va_K (zD z) vwCl (zT z) s) (hT : TY z A σ H) (hS : va_S A H0 H locs) (ha : zG z a = (17, o)) (hlink : (Cond.fieldLink own index (TX7 6).1 (TX7 6).2.1 (TX7 6).2.2.1).before args s = true) (h1 : 0 ≤ x.toInt) (h2 : x.toInt ≤ 6) (hdg : decode cc pc = .ok (.putfield index, 3)) (kk : ∀ (H1 : Heap) (locs1 : List Loc), TY z A (wr σ o 17 6 x.toInt) H1 → va_S A H0 H1 locs1 → W p l e R s m args below meth c H1 locs1 cells slots Q (F0 m (pc + 3) ls (rest))) : W p l e R s m args below meth c H locs cells slots Q (F0 m pc ls (.int x :: .ref a :: rest)) := by
  obtain ⟨E, hP, hD, hm, hz, hE⟩ := hT
  have hL : a ∈ zL z := hm a (by rw [ha]; exact Nat.succ_ne_zero _)
  obtain ⟨k, hk0⟩ := va_pl_get (X := []) (f := E) hL
  have he := hE a hL
  rw [ha] at he
  obtain ⟨fs, h9, hf⟩ := to_Model (show eModel z (σ o 17) o (E a) from he)
  have hk := hk0
  rw [h9] at hk
  refine va_put (D := zD z) (ci := 7) (v := .int x) (ty := .int) (C := RX7) (T := TX7) (N := 26) hx hb hts hin tyX7 tyX7_ok nmX7 hown hK hP hD hS k hk rfl 6 (by decide) hlink (fun _ h9 => h9) rfl (by decide +kernel) rfl rfl (by rw [fL_len hf]; decide) hdg (fun H1 locs1 hP1 hD1 hS1 => ?_)
  refine kk H1 locs1 (ty_up hP1 hD1 hD hm hz hE hL hk0 ?_ (up_mo hz hE ha (fun r' hr' => wrl_nr _ _ hr'))) hS1
  rw [ha]
  show eOK z (gset σ o (wrl (σ o) 17 6 x.toInt) o 17) (17, o) _
  rw [gset_at]
  exact of_Model (fL_set 6 hf rfl (fun j hj => wrl_ni _ _ (fun q => hj (by omega))) ⟨x, rfl, (wrl_at _ _ _ _).symm, h1, h2⟩)
theorem gt_Model_hasProgram (hx : p.tables.exec = Jvm.exec) (hb : c.code = cc) (hts : ∀ w ∈ Ts, w.before args s = true) (hin : ∀ w ∈ u_ws RX7 TX7 26, w ∈ Ts) (hown : s.vm.findClass own = some m.cls) (hK : va_K (zD z) vwCl (zT z) s) (hT : TY z A σ H) (ha : zG z a = (17, o)) (hlink : (Cond.fieldLink own index (TX7 7).1 (TX7 7).2.1 (TX7 7).2.2.1).before args s = true) (hdg : decode cc pc = .ok (.getfield index, 3)) (kk : ∀ x : Int32, x.toInt = σ o 17 7 → 0 ≤ x.toInt → x.toInt ≤ 1 → W p l e R s m args below meth c H locs cells slots Q (F0 m (pc + 3) ls (.int x :: rest))) : W p l e R s m args below meth c H locs cells slots Q (F0 m pc ls (.ref a :: rest)) := by
  obtain ⟨E, hP, hD, hm, hz, hE⟩ := hT
  have hL : a ∈ zL z := hm a (by rw [ha]; exact Nat.succ_ne_zero _)
  obtain ⟨k, hk0⟩ := va_pl_get (X := []) (f := E) hL
  have he := hE a hL
  rw [ha] at he
  obtain ⟨fs, h9, hf⟩ := to_Model (show eModel z (σ o 17) o (E a) from he)
  have hk := hk0
  rw [h9] at hk
  obtain ⟨_, hv, y, rfl, f⟩ := fL_get 7 hf rfl
  exact va_get (D := zD z) (ci := 7) (C := RX7) (T := TX7) (N := 26) hx hb hts hin hown hK hP k hk rfl 7 (by decide) hlink (fun _ h9 => h9) hv hdg (kk y f.1 f.2.1 f.2.2)
theorem pt_Model_hasProgram {x : Int32} (hx : p.tables.exec = Jvm.exec) (hb : c.code = cc) (hts : ∀ w ∈ Ts, w.before args s = true) (hin : ∀ w ∈ u_ws RX7 TX7 26, w ∈ Ts) (hown : s.vm.findClass own = some m.cls) (hK : va_K (zD z) vwCl (zT z) s) (hT : TY z A σ H) (hS : va_S A H0 H locs) (ha : zG z a = (17, o)) (hlink : (Cond.fieldLink own index (TX7 7).1 (TX7 7).2.1 (TX7 7).2.2.1).before args s = true) (h1 : 0 ≤ x.toInt) (h2 : x.toInt ≤ 1) (hdg : decode cc pc = .ok (.putfield index, 3)) (kk : ∀ (H1 : Heap) (locs1 : List Loc), TY z A (wr σ o 17 7 x.toInt) H1 → va_S A H0 H1 locs1 → W p l e R s m args below meth c H1 locs1 cells slots Q (F0 m (pc + 3) ls (rest))) : W p l e R s m args below meth c H locs cells slots Q (F0 m pc ls (.int x :: .ref a :: rest)) := by
  obtain ⟨E, hP, hD, hm, hz, hE⟩ := hT
  have hL : a ∈ zL z := hm a (by rw [ha]; exact Nat.succ_ne_zero _)
  obtain ⟨k, hk0⟩ := va_pl_get (X := []) (f := E) hL
  have he := hE a hL
  rw [ha] at he
  obtain ⟨fs, h9, hf⟩ := to_Model (show eModel z (σ o 17) o (E a) from he)
  have hk := hk0
  rw [h9] at hk
  refine va_put (D := zD z) (ci := 7) (v := .int x) (ty := .boolean) (C := RX7) (T := TX7) (N := 26) hx hb hts hin tyX7 tyX7_ok nmX7 hown hK hP hD hS k hk rfl 7 (by decide) hlink (fun _ h9 => h9) rfl (by decide +kernel) (bo_n h1 h2) (bo_f h1 h2) (by rw [fL_len hf]; decide) hdg (fun H1 locs1 hP1 hD1 hS1 => ?_)
  refine kk H1 locs1 (ty_up hP1 hD1 hD hm hz hE hL hk0 ?_ (up_mo hz hE ha (fun r' hr' => wrl_nr _ _ hr'))) hS1
  rw [ha]
  show eOK z (gset σ o (wrl (σ o) 17 7 x.toInt) o 17) (17, o) _
  rw [gset_at]
  exact of_Model (fL_set 7 hf rfl (fun j hj => wrl_ni _ _ (fun q => hj (by omega))) ⟨x, rfl, (wrl_at _ _ _ _).symm, h1, h2⟩)
theorem gt_Model_highest (hx : p.tables.exec = Jvm.exec) (hb : c.code = cc) (hts : ∀ w ∈ Ts, w.before args s = true) (hin : ∀ w ∈ u_ws RX7 TX7 26, w ∈ Ts) (hown : s.vm.findClass own = some m.cls) (hK : va_K (zD z) vwCl (zT z) s) (hT : TY z A σ H) (ha : zG z a = (17, o)) (hlink : (Cond.fieldLink own index (TX7 8).1 (TX7 8).2.1 (TX7 8).2.2.1).before args s = true) (hdg : decode cc pc = .ok (.getfield index, 3)) (kk : ∀ x : Int32, x.toInt = σ o 17 8 → -4 ≤ x.toInt → x.toInt ≤ 4 → W p l e R s m args below meth c H locs cells slots Q (F0 m (pc + 3) ls (.int x :: rest))) : W p l e R s m args below meth c H locs cells slots Q (F0 m pc ls (.ref a :: rest)) := by
  obtain ⟨E, hP, hD, hm, hz, hE⟩ := hT
  have hL : a ∈ zL z := hm a (by rw [ha]; exact Nat.succ_ne_zero _)
  obtain ⟨k, hk0⟩ := va_pl_get (X := []) (f := E) hL
  have he := hE a hL
  rw [ha] at he
  obtain ⟨fs, h9, hf⟩ := to_Model (show eModel z (σ o 17) o (E a) from he)
  have hk := hk0
  rw [h9] at hk
  obtain ⟨_, hv, y, rfl, f⟩ := fL_get 8 hf rfl
  exact va_get (D := zD z) (ci := 7) (C := RX7) (T := TX7) (N := 26) hx hb hts hin hown hK hP k hk rfl 8 (by decide) hlink (fun _ h9 => h9) hv hdg (kk y f.1 f.2.1 f.2.2)
theorem pt_Model_highest {x : Int32} (hx : p.tables.exec = Jvm.exec) (hb : c.code = cc) (hts : ∀ w ∈ Ts, w.before args s = true) (hin : ∀ w ∈ u_ws RX7 TX7 26, w ∈ Ts) (hown : s.vm.findClass own = some m.cls) (hK : va_K (zD z) vwCl (zT z) s) (hT : TY z A σ H) (hS : va_S A H0 H locs) (ha : zG z a = (17, o)) (hlink : (Cond.fieldLink own index (TX7 8).1 (TX7 8).2.1 (TX7 8).2.2.1).before args s = true) (h1 : -4 ≤ x.toInt) (h2 : x.toInt ≤ 4) (hdg : decode cc pc = .ok (.putfield index, 3)) (kk : ∀ (H1 : Heap) (locs1 : List Loc), TY z A (wr σ o 17 8 x.toInt) H1 → va_S A H0 H1 locs1 → W p l e R s m args below meth c H1 locs1 cells slots Q (F0 m (pc + 3) ls (rest))) : W p l e R s m args below meth c H locs cells slots Q (F0 m pc ls (.int x :: .ref a :: rest)) := by
  obtain ⟨E, hP, hD, hm, hz, hE⟩ := hT
  have hL : a ∈ zL z := hm a (by rw [ha]; exact Nat.succ_ne_zero _)
  obtain ⟨k, hk0⟩ := va_pl_get (X := []) (f := E) hL
  have he := hE a hL
  rw [ha] at he
  obtain ⟨fs, h9, hf⟩ := to_Model (show eModel z (σ o 17) o (E a) from he)
  have hk := hk0
  rw [h9] at hk
  refine va_put (D := zD z) (ci := 7) (v := .int x) (ty := .int) (C := RX7) (T := TX7) (N := 26) hx hb hts hin tyX7 tyX7_ok nmX7 hown hK hP hD hS k hk rfl 8 (by decide) hlink (fun _ h9 => h9) rfl (by decide +kernel) rfl rfl (by rw [fL_len hf]; decide) hdg (fun H1 locs1 hP1 hD1 hS1 => ?_)
  refine kk H1 locs1 (ty_up hP1 hD1 hD hm hz hE hL hk0 ?_ (up_mo hz hE ha (fun r' hr' => wrl_nr _ _ hr'))) hS1
  rw [ha]
  show eOK z (gset σ o (wrl (σ o) 17 8 x.toInt) o 17) (17, o) _
  rw [gset_at]
  exact of_Model (fL_set 8 hf rfl (fun j hj => wrl_ni _ _ (fun q => hj (by omega))) ⟨x, rfl, (wrl_at _ _ _ _).symm, h1, h2⟩)
theorem gt_Model_tape (hx : p.tables.exec = Jvm.exec) (hb : c.code = cc) (hts : ∀ w ∈ Ts, w.before args s = true) (hin : ∀ w ∈ u_ws RX7 TX7 26, w ∈ Ts) (hown : s.vm.findClass own = some m.cls) (hK : va_K (zD z) vwCl (zT z) s) (hT : TY z A σ H) (ha : zG z a = (17, o)) (hlink : (Cond.fieldLink own index (TX7 9).1 (TX7 9).2.1 (TX7 9).2.2.1).before args s = true) (hdg : decode cc pc = .ok (.getfield index, 3)) (kk : ∀ q : Nat, zG z q = (44, o) → W p l e R s m args below meth c H locs cells slots Q (F0 m (pc + 3) ls (.ref q :: rest))) : W p l e R s m args below meth c H locs cells slots Q (F0 m pc ls (.ref a :: rest)) := by
  obtain ⟨E, hP, hD, hm, hz, hE⟩ := hT
  have hL : a ∈ zL z := hm a (by rw [ha]; exact Nat.succ_ne_zero _)
  obtain ⟨k, hk0⟩ := va_pl_get (X := []) (f := E) hL
  have he := hE a hL
  rw [ha] at he
  obtain ⟨fs, h9, hf⟩ := to_Model (show eModel z (σ o 17) o (E a) from he)
  have hk := hk0
  rw [h9] at hk
  obtain ⟨_, hv, y, rfl, f⟩ := fL_get 9 hf rfl
  exact va_get (D := zD z) (ci := 7) (C := RX7) (T := TX7) (N := 26) hx hb hts hin hown hK hP k hk rfl 9 (by decide) hlink (fun _ h9 => h9) hv hdg (kk y f)
theorem gt_Model_taped (hx : p.tables.exec = Jvm.exec) (hb : c.code = cc) (hts : ∀ w ∈ Ts, w.before args s = true) (hin : ∀ w ∈ u_ws RX7 TX7 26, w ∈ Ts) (hown : s.vm.findClass own = some m.cls) (hK : va_K (zD z) vwCl (zT z) s) (hT : TY z A σ H) (ha : zG z a = (17, o)) (hlink : (Cond.fieldLink own index (TX7 10).1 (TX7 10).2.1 (TX7 10).2.2.1).before args s = true) (hdg : decode cc pc = .ok (.getfield index, 3)) (kk : ∀ x : Int32, x.toInt = σ o 17 10 → 0 ≤ x.toInt → x.toInt ≤ 160 → W p l e R s m args below meth c H locs cells slots Q (F0 m (pc + 3) ls (.int x :: rest))) : W p l e R s m args below meth c H locs cells slots Q (F0 m pc ls (.ref a :: rest)) := by
  obtain ⟨E, hP, hD, hm, hz, hE⟩ := hT
  have hL : a ∈ zL z := hm a (by rw [ha]; exact Nat.succ_ne_zero _)
  obtain ⟨k, hk0⟩ := va_pl_get (X := []) (f := E) hL
  have he := hE a hL
  rw [ha] at he
  obtain ⟨fs, h9, hf⟩ := to_Model (show eModel z (σ o 17) o (E a) from he)
  have hk := hk0
  rw [h9] at hk
  obtain ⟨_, hv, y, rfl, f⟩ := fL_get 10 hf rfl
  exact va_get (D := zD z) (ci := 7) (C := RX7) (T := TX7) (N := 26) hx hb hts hin hown hK hP k hk rfl 10 (by decide) hlink (fun _ h9 => h9) hv hdg (kk y f.1 f.2.1 f.2.2)
theorem pt_Model_taped {x : Int32} (hx : p.tables.exec = Jvm.exec) (hb : c.code = cc) (hts : ∀ w ∈ Ts, w.before args s = true) (hin : ∀ w ∈ u_ws RX7 TX7 26, w ∈ Ts) (hown : s.vm.findClass own = some m.cls) (hK : va_K (zD z) vwCl (zT z) s) (hT : TY z A σ H) (hS : va_S A H0 H locs) (ha : zG z a = (17, o)) (hlink : (Cond.fieldLink own index (TX7 10).1 (TX7 10).2.1 (TX7 10).2.2.1).before args s = true) (h1 : 0 ≤ x.toInt) (h2 : x.toInt ≤ 160) (hdg : decode cc pc = .ok (.putfield index, 3)) (kk : ∀ (H1 : Heap) (locs1 : List Loc), TY z A (wr σ o 17 10 x.toInt) H1 → va_S A H0 H1 locs1 → W p l e R s m args below meth c H1 locs1 cells slots Q (F0 m (pc + 3) ls (rest))) : W p l e R s m args below meth c H locs cells slots Q (F0 m pc ls (.int x :: .ref a :: rest)) := by
  obtain ⟨E, hP, hD, hm, hz, hE⟩ := hT
  have hL : a ∈ zL z := hm a (by rw [ha]; exact Nat.succ_ne_zero _)
  obtain ⟨k, hk0⟩ := va_pl_get (X := []) (f := E) hL
  have he := hE a hL
  rw [ha] at he
  obtain ⟨fs, h9, hf⟩ := to_Model (show eModel z (σ o 17) o (E a) from he)
  have hk := hk0
  rw [h9] at hk
  refine va_put (D := zD z) (ci := 7) (v := .int x) (ty := .int) (C := RX7) (T := TX7) (N := 26) hx hb hts hin tyX7 tyX7_ok nmX7 hown hK hP hD hS k hk rfl 10 (by decide) hlink (fun _ h9 => h9) rfl (by decide +kernel) rfl rfl (by rw [fL_len hf]; decide) hdg (fun H1 locs1 hP1 hD1 hS1 => ?_)
  refine kk H1 locs1 (ty_up hP1 hD1 hD hm hz hE hL hk0 ?_ (up_mo hz hE ha (fun r' hr' => wrl_nr _ _ hr'))) hS1
  rw [ha]
  show eOK z (gset σ o (wrl (σ o) 17 10 x.toInt) o 17) (17, o) _
  rw [gset_at]
  exact of_Model (fL_set 10 hf rfl (fun j hj => wrl_ni _ _ (fun q => hj (by omega))) ⟨x, rfl, (wrl_at _ _ _ _).symm, h1, h2⟩)
theorem gt_Model_pos (hx : p.tables.exec = Jvm.exec) (hb : c.code = cc) (hts : ∀ w ∈ Ts, w.before args s = true) (hin : ∀ w ∈ u_ws RX7 TX7 26, w ∈ Ts) (hown : s.vm.findClass own = some m.cls) (hK : va_K (zD z) vwCl (zT z) s) (hT : TY z A σ H) (ha : zG z a = (17, o)) (hlink : (Cond.fieldLink own index (TX7 11).1 (TX7 11).2.1 (TX7 11).2.2.1).before args s = true) (hdg : decode cc pc = .ok (.getfield index, 3)) (kk : ∀ x : Int32, x.toInt = σ o 17 11 → 0 ≤ x.toInt → x.toInt ≤ 160 → W p l e R s m args below meth c H locs cells slots Q (F0 m (pc + 3) ls (.int x :: rest))) : W p l e R s m args below meth c H locs cells slots Q (F0 m pc ls (.ref a :: rest)) := by
  obtain ⟨E, hP, hD, hm, hz, hE⟩ := hT
  have hL : a ∈ zL z := hm a (by rw [ha]; exact Nat.succ_ne_zero _)
  obtain ⟨k, hk0⟩ := va_pl_get (X := []) (f := E) hL
  have he := hE a hL
  rw [ha] at he
  obtain ⟨fs, h9, hf⟩ := to_Model (show eModel z (σ o 17) o (E a) from he)
  have hk := hk0
  rw [h9] at hk
  obtain ⟨_, hv, y, rfl, f⟩ := fL_get 11 hf rfl
  exact va_get (D := zD z) (ci := 7) (C := RX7) (T := TX7) (N := 26) hx hb hts hin hown hK hP k hk rfl 11 (by decide) hlink (fun _ h9 => h9) hv hdg (kk y f.1 f.2.1 f.2.2)
theorem pt_Model_pos {x : Int32} (hx : p.tables.exec = Jvm.exec) (hb : c.code = cc) (hts : ∀ w ∈ Ts, w.before args s = true) (hin : ∀ w ∈ u_ws RX7 TX7 26, w ∈ Ts) (hown : s.vm.findClass own = some m.cls) (hK : va_K (zD z) vwCl (zT z) s) (hT : TY z A σ H) (hS : va_S A H0 H locs) (ha : zG z a = (17, o)) (hlink : (Cond.fieldLink own index (TX7 11).1 (TX7 11).2.1 (TX7 11).2.2.1).before args s = true) (h1 : 0 ≤ x.toInt) (h2 : x.toInt ≤ 160) (hdg : decode cc pc = .ok (.putfield index, 3)) (kk : ∀ (H1 : Heap) (locs1 : List Loc), TY z A (wr σ o 17 11 x.toInt) H1 → va_S A H0 H1 locs1 → W p l e R s m args below meth c H1 locs1 cells slots Q (F0 m (pc + 3) ls (rest))) : W p l e R s m args below meth c H locs cells slots Q (F0 m pc ls (.int x :: .ref a :: rest)) := by
  obtain ⟨E, hP, hD, hm, hz, hE⟩ := hT
  have hL : a ∈ zL z := hm a (by rw [ha]; exact Nat.succ_ne_zero _)
  obtain ⟨k, hk0⟩ := va_pl_get (X := []) (f := E) hL
  have he := hE a hL
  rw [ha] at he
  obtain ⟨fs, h9, hf⟩ := to_Model (show eModel z (σ o 17) o (E a) from he)
  have hk := hk0
  rw [h9] at hk
  refine va_put (D := zD z) (ci := 7) (v := .int x) (ty := .int) (C := RX7) (T := TX7) (N := 26) hx hb hts hin tyX7 tyX7_ok nmX7 hown hK hP hD hS k hk rfl 11 (by decide) hlink (fun _ h9 => h9) rfl (by decide +kernel) rfl rfl (by rw [fL_len hf]; decide) hdg (fun H1 locs1 hP1 hD1 hS1 => ?_)
  refine kk H1 locs1 (ty_up hP1 hD1 hD hm hz hE hL hk0 ?_ (up_mo hz hE ha (fun r' hr' => wrl_nr _ _ hr'))) hS1
  rw [ha]
  show eOK z (gset σ o (wrl (σ o) 17 11 x.toInt) o 17) (17, o) _
  rw [gset_at]
  exact of_Model (fL_set 11 hf rfl (fun j hj => wrl_ni _ _ (fun q => hj (by omega))) ⟨x, rfl, (wrl_at _ _ _ _).symm, h1, h2⟩)
theorem gt_Model_from (hx : p.tables.exec = Jvm.exec) (hb : c.code = cc) (hts : ∀ w ∈ Ts, w.before args s = true) (hin : ∀ w ∈ u_ws RX7 TX7 26, w ∈ Ts) (hown : s.vm.findClass own = some m.cls) (hK : va_K (zD z) vwCl (zT z) s) (hT : TY z A σ H) (ha : zG z a = (17, o)) (hlink : (Cond.fieldLink own index (TX7 12).1 (TX7 12).2.1 (TX7 12).2.2.1).before args s = true) (hdg : decode cc pc = .ok (.getfield index, 3)) (kk : ∀ x : Int32, x.toInt = σ o 17 12 → 0 ≤ x.toInt → x.toInt ≤ 160 → W p l e R s m args below meth c H locs cells slots Q (F0 m (pc + 3) ls (.int x :: rest))) : W p l e R s m args below meth c H locs cells slots Q (F0 m pc ls (.ref a :: rest)) := by
  obtain ⟨E, hP, hD, hm, hz, hE⟩ := hT
  have hL : a ∈ zL z := hm a (by rw [ha]; exact Nat.succ_ne_zero _)
  obtain ⟨k, hk0⟩ := va_pl_get (X := []) (f := E) hL
  have he := hE a hL
  rw [ha] at he
  obtain ⟨fs, h9, hf⟩ := to_Model (show eModel z (σ o 17) o (E a) from he)
  have hk := hk0
  rw [h9] at hk
  obtain ⟨_, hv, y, rfl, f⟩ := fL_get 12 hf rfl
  exact va_get (D := zD z) (ci := 7) (C := RX7) (T := TX7) (N := 26) hx hb hts hin hown hK hP k hk rfl 12 (by decide) hlink (fun _ h9 => h9) hv hdg (kk y f.1 f.2.1 f.2.2)
theorem pt_Model_from {x : Int32} (hx : p.tables.exec = Jvm.exec) (hb : c.code = cc) (hts : ∀ w ∈ Ts, w.before args s = true) (hin : ∀ w ∈ u_ws RX7 TX7 26, w ∈ Ts) (hown : s.vm.findClass own = some m.cls) (hK : va_K (zD z) vwCl (zT z) s) (hT : TY z A σ H) (hS : va_S A H0 H locs) (ha : zG z a = (17, o)) (hlink : (Cond.fieldLink own index (TX7 12).1 (TX7 12).2.1 (TX7 12).2.2.1).before args s = true) (h1 : 0 ≤ x.toInt) (h2 : x.toInt ≤ 160) (hdg : decode cc pc = .ok (.putfield index, 3)) (kk : ∀ (H1 : Heap) (locs1 : List Loc), TY z A (wr σ o 17 12 x.toInt) H1 → va_S A H0 H1 locs1 → W p l e R s m args below meth c H1 locs1 cells slots Q (F0 m (pc + 3) ls (rest))) : W p l e R s m args below meth c H locs cells slots Q (F0 m pc ls (.int x :: .ref a :: rest)) := by
  obtain ⟨E, hP, hD, hm, hz, hE⟩ := hT
  have hL : a ∈ zL z := hm a (by rw [ha]; exact Nat.succ_ne_zero _)
  obtain ⟨k, hk0⟩ := va_pl_get (X := []) (f := E) hL
  have he := hE a hL
  rw [ha] at he
  obtain ⟨fs, h9, hf⟩ := to_Model (show eModel z (σ o 17) o (E a) from he)
  have hk := hk0
  rw [h9] at hk
  refine va_put (D := zD z) (ci := 7) (v := .int x) (ty := .int) (C := RX7) (T := TX7) (N := 26) hx hb hts hin tyX7 tyX7_ok nmX7 hown hK hP hD hS k hk rfl 12 (by decide) hlink (fun _ h9 => h9) rfl (by decide +kernel) rfl rfl (by rw [fL_len hf]; decide) hdg (fun H1 locs1 hP1 hD1 hS1 => ?_)
  refine kk H1 locs1 (ty_up hP1 hD1 hD hm hz hE hL hk0 ?_ (up_mo hz hE ha (fun r' hr' => wrl_nr _ _ hr'))) hS1
  rw [ha]
  show eOK z (gset σ o (wrl (σ o) 17 12 x.toInt) o 17) (17, o) _
  rw [gset_at]
  exact of_Model (fL_set 12 hf rfl (fun j hj => wrl_ni _ _ (fun q => hj (by omega))) ⟨x, rfl, (wrl_at _ _ _ _).symm, h1, h2⟩)
theorem gt_Model_sort (hx : p.tables.exec = Jvm.exec) (hb : c.code = cc) (hts : ∀ w ∈ Ts, w.before args s = true) (hin : ∀ w ∈ u_ws RX7 TX7 26, w ∈ Ts) (hown : s.vm.findClass own = some m.cls) (hK : va_K (zD z) vwCl (zT z) s) (hT : TY z A σ H) (ha : zG z a = (17, o)) (hlink : (Cond.fieldLink own index (TX7 13).1 (TX7 13).2.1 (TX7 13).2.2.1).before args s = true) (hdg : decode cc pc = .ok (.getfield index, 3)) (kk : ∀ x : Int32, x.toInt = σ o 17 13 → 0 ≤ x.toInt → x.toInt ≤ 3 → W p l e R s m args below meth c H locs cells slots Q (F0 m (pc + 3) ls (.int x :: rest))) : W p l e R s m args below meth c H locs cells slots Q (F0 m pc ls (.ref a :: rest)) := by
  obtain ⟨E, hP, hD, hm, hz, hE⟩ := hT
  have hL : a ∈ zL z := hm a (by rw [ha]; exact Nat.succ_ne_zero _)
  obtain ⟨k, hk0⟩ := va_pl_get (X := []) (f := E) hL
  have he := hE a hL
  rw [ha] at he
  obtain ⟨fs, h9, hf⟩ := to_Model (show eModel z (σ o 17) o (E a) from he)
  have hk := hk0
  rw [h9] at hk
  obtain ⟨_, hv, y, rfl, f⟩ := fL_get 13 hf rfl
  exact va_get (D := zD z) (ci := 7) (C := RX7) (T := TX7) (N := 26) hx hb hts hin hown hK hP k hk rfl 13 (by decide) hlink (fun _ h9 => h9) hv hdg (kk y f.1 f.2.1 f.2.2)
theorem pt_Model_sort {x : Int32} (hx : p.tables.exec = Jvm.exec) (hb : c.code = cc) (hts : ∀ w ∈ Ts, w.before args s = true) (hin : ∀ w ∈ u_ws RX7 TX7 26, w ∈ Ts) (hown : s.vm.findClass own = some m.cls) (hK : va_K (zD z) vwCl (zT z) s) (hT : TY z A σ H) (hS : va_S A H0 H locs) (ha : zG z a = (17, o)) (hlink : (Cond.fieldLink own index (TX7 13).1 (TX7 13).2.1 (TX7 13).2.2.1).before args s = true) (h1 : 0 ≤ x.toInt) (h2 : x.toInt ≤ 3) (hdg : decode cc pc = .ok (.putfield index, 3)) (kk : ∀ (H1 : Heap) (locs1 : List Loc), TY z A (wr σ o 17 13 x.toInt) H1 → va_S A H0 H1 locs1 → W p l e R s m args below meth c H1 locs1 cells slots Q (F0 m (pc + 3) ls (rest))) : W p l e R s m args below meth c H locs cells slots Q (F0 m pc ls (.int x :: .ref a :: rest)) := by
  obtain ⟨E, hP, hD, hm, hz, hE⟩ := hT
  have hL : a ∈ zL z := hm a (by rw [ha]; exact Nat.succ_ne_zero _)
  obtain ⟨k, hk0⟩ := va_pl_get (X := []) (f := E) hL
  have he := hE a hL
  rw [ha] at he
  obtain ⟨fs, h9, hf⟩ := to_Model (show eModel z (σ o 17) o (E a) from he)
  have hk := hk0
  rw [h9] at hk
  refine va_put (D := zD z) (ci := 7) (v := .int x) (ty := .int) (C := RX7) (T := TX7) (N := 26) hx hb hts hin tyX7 tyX7_ok nmX7 hown hK hP hD hS k hk rfl 13 (by decide) hlink (fun _ h9 => h9) rfl (by decide +kernel) rfl rfl (by rw [fL_len hf]; decide) hdg (fun H1 locs1 hP1 hD1 hS1 => ?_)
  refine kk H1 locs1 (ty_up hP1 hD1 hD hm hz hE hL hk0 ?_ (up_mo hz hE ha (fun r' hr' => wrl_nr _ _ hr'))) hS1
  rw [ha]
  show eOK z (gset σ o (wrl (σ o) 17 13 x.toInt) o 17) (17, o) _
  rw [gset_at]
  exact of_Model (fL_set 13 hf rfl (fun j hj => wrl_ni _ _ (fun q => hj (by omega))) ⟨x, rfl, (wrl_at _ _ _ _).symm, h1, h2⟩)
theorem gt_Model_value (hx : p.tables.exec = Jvm.exec) (hb : c.code = cc) (hts : ∀ w ∈ Ts, w.before args s = true) (hin : ∀ w ∈ u_ws RX7 TX7 26, w ∈ Ts) (hown : s.vm.findClass own = some m.cls) (hK : va_K (zD z) vwCl (zT z) s) (hT : TY z A σ H) (ha : zG z a = (17, o)) (hlink : (Cond.fieldLink own index (TX7 14).1 (TX7 14).2.1 (TX7 14).2.2.1).before args s = true) (hdg : decode cc pc = .ok (.getfield index, 3)) (kk : ∀ x : Int32, x.toInt = σ o 17 14 → 0 ≤ x.toInt → x.toInt ≤ 999 → W p l e R s m args below meth c H locs cells slots Q (F0 m (pc + 3) ls (.int x :: rest))) : W p l e R s m args below meth c H locs cells slots Q (F0 m pc ls (.ref a :: rest)) := by
  obtain ⟨E, hP, hD, hm, hz, hE⟩ := hT
  have hL : a ∈ zL z := hm a (by rw [ha]; exact Nat.succ_ne_zero _)
  obtain ⟨k, hk0⟩ := va_pl_get (X := []) (f := E) hL
  have he := hE a hL
  rw [ha] at he
  obtain ⟨fs, h9, hf⟩ := to_Model (show eModel z (σ o 17) o (E a) from he)
  have hk := hk0
  rw [h9] at hk
  obtain ⟨_, hv, y, rfl, f⟩ := fL_get 14 hf rfl
  exact va_get (D := zD z) (ci := 7) (C := RX7) (T := TX7) (N := 26) hx hb hts hin hown hK hP k hk rfl 14 (by decide) hlink (fun _ h9 => h9) hv hdg (kk y f.1 f.2.1 f.2.2)
theorem pt_Model_value {x : Int32} (hx : p.tables.exec = Jvm.exec) (hb : c.code = cc) (hts : ∀ w ∈ Ts, w.before args s = true) (hin : ∀ w ∈ u_ws RX7 TX7 26, w ∈ Ts) (hown : s.vm.findClass own = some m.cls) (hK : va_K (zD z) vwCl (zT z) s) (hT : TY z A σ H) (hS : va_S A H0 H locs) (ha : zG z a = (17, o)) (hlink : (Cond.fieldLink own index (TX7 14).1 (TX7 14).2.1 (TX7 14).2.2.1).before args s = true) (h1 : 0 ≤ x.toInt) (h2 : x.toInt ≤ 999) (hdg : decode cc pc = .ok (.putfield index, 3)) (kk : ∀ (H1 : Heap) (locs1 : List Loc), TY z A (wr σ o 17 14 x.toInt) H1 → va_S A H0 H1 locs1 → W p l e R s m args below meth c H1 locs1 cells slots Q (F0 m (pc + 3) ls (rest))) : W p l e R s m args below meth c H locs cells slots Q (F0 m pc ls (.int x :: .ref a :: rest)) := by
  obtain ⟨E, hP, hD, hm, hz, hE⟩ := hT
  have hL : a ∈ zL z := hm a (by rw [ha]; exact Nat.succ_ne_zero _)
  obtain ⟨k, hk0⟩ := va_pl_get (X := []) (f := E) hL
  have he := hE a hL
  rw [ha] at he
  obtain ⟨fs, h9, hf⟩ := to_Model (show eModel z (σ o 17) o (E a) from he)
  have hk := hk0
  rw [h9] at hk
  refine va_put (D := zD z) (ci := 7) (v := .int x) (ty := .int) (C := RX7) (T := TX7) (N := 26) hx hb hts hin tyX7 tyX7_ok nmX7 hown hK hP hD hS k hk rfl 14 (by decide) hlink (fun _ h9 => h9) rfl (by decide +kernel) rfl rfl (by rw [fL_len hf]; decide) hdg (fun H1 locs1 hP1 hD1 hS1 => ?_)
  refine kk H1 locs1 (ty_up hP1 hD1 hD hm hz hE hL hk0 ?_ (up_mo hz hE ha (fun r' hr' => wrl_nr _ _ hr'))) hS1
  rw [ha]
  show eOK z (gset σ o (wrl (σ o) 17 14 x.toInt) o 17) (17, o) _
  rw [gset_at]
  exact of_Model (fL_set 14 hf rfl (fun j hj => wrl_ni _ _ (fun q => hj (by omega))) ⟨x, rfl, (wrl_at _ _ _ _).symm, h1, h2⟩)
theorem gt_Model_fault (hx : p.tables.exec = Jvm.exec) (hb : c.code = cc) (hts : ∀ w ∈ Ts, w.before args s = true) (hin : ∀ w ∈ u_ws RX7 TX7 26, w ∈ Ts) (hown : s.vm.findClass own = some m.cls) (hK : va_K (zD z) vwCl (zT z) s) (hT : TY z A σ H) (ha : zG z a = (17, o)) (hlink : (Cond.fieldLink own index (TX7 15).1 (TX7 15).2.1 (TX7 15).2.2.1).before args s = true) (hdg : decode cc pc = .ok (.getfield index, 3)) (kk : ∀ x : Int32, x.toInt = σ o 17 15 → 0 ≤ x.toInt → x.toInt ≤ 6 → W p l e R s m args below meth c H locs cells slots Q (F0 m (pc + 3) ls (.int x :: rest))) : W p l e R s m args below meth c H locs cells slots Q (F0 m pc ls (.ref a :: rest)) := by
  obtain ⟨E, hP, hD, hm, hz, hE⟩ := hT
  have hL : a ∈ zL z := hm a (by rw [ha]; exact Nat.succ_ne_zero _)
  obtain ⟨k, hk0⟩ := va_pl_get (X := []) (f := E) hL
  have he := hE a hL
  rw [ha] at he
  obtain ⟨fs, h9, hf⟩ := to_Model (show eModel z (σ o 17) o (E a) from he)
  have hk := hk0
  rw [h9] at hk
  obtain ⟨_, hv, y, rfl, f⟩ := fL_get 15 hf rfl
  exact va_get (D := zD z) (ci := 7) (C := RX7) (T := TX7) (N := 26) hx hb hts hin hown hK hP k hk rfl 15 (by decide) hlink (fun _ h9 => h9) hv hdg (kk y f.1 f.2.1 f.2.2)
theorem pt_Model_fault {x : Int32} (hx : p.tables.exec = Jvm.exec) (hb : c.code = cc) (hts : ∀ w ∈ Ts, w.before args s = true) (hin : ∀ w ∈ u_ws RX7 TX7 26, w ∈ Ts) (hown : s.vm.findClass own = some m.cls) (hK : va_K (zD z) vwCl (zT z) s) (hT : TY z A σ H) (hS : va_S A H0 H locs) (ha : zG z a = (17, o)) (hlink : (Cond.fieldLink own index (TX7 15).1 (TX7 15).2.1 (TX7 15).2.2.1).before args s = true) (h1 : 0 ≤ x.toInt) (h2 : x.toInt ≤ 6) (hdg : decode cc pc = .ok (.putfield index, 3)) (kk : ∀ (H1 : Heap) (locs1 : List Loc), TY z A (wr σ o 17 15 x.toInt) H1 → va_S A H0 H1 locs1 → W p l e R s m args below meth c H1 locs1 cells slots Q (F0 m (pc + 3) ls (rest))) : W p l e R s m args below meth c H locs cells slots Q (F0 m pc ls (.int x :: .ref a :: rest)) := by
  obtain ⟨E, hP, hD, hm, hz, hE⟩ := hT
  have hL : a ∈ zL z := hm a (by rw [ha]; exact Nat.succ_ne_zero _)
  obtain ⟨k, hk0⟩ := va_pl_get (X := []) (f := E) hL
  have he := hE a hL
  rw [ha] at he
  obtain ⟨fs, h9, hf⟩ := to_Model (show eModel z (σ o 17) o (E a) from he)
  have hk := hk0
  rw [h9] at hk
  refine va_put (D := zD z) (ci := 7) (v := .int x) (ty := .int) (C := RX7) (T := TX7) (N := 26) hx hb hts hin tyX7 tyX7_ok nmX7 hown hK hP hD hS k hk rfl 15 (by decide) hlink (fun _ h9 => h9) rfl (by decide +kernel) rfl rfl (by rw [fL_len hf]; decide) hdg (fun H1 locs1 hP1 hD1 hS1 => ?_)
  refine kk H1 locs1 (ty_up hP1 hD1 hD hm hz hE hL hk0 ?_ (up_mo hz hE ha (fun r' hr' => wrl_nr _ _ hr'))) hS1
  rw [ha]
  show eOK z (gset σ o (wrl (σ o) 17 15 x.toInt) o 17) (17, o) _
  rw [gset_at]
  exact of_Model (fL_set 15 hf rfl (fun j hj => wrl_ni _ _ (fun q => hj (by omega))) ⟨x, rfl, (wrl_at _ _ _ _).symm, h1, h2⟩)
theorem gt_Model_wrongAt (hx : p.tables.exec = Jvm.exec) (hb : c.code = cc) (hts : ∀ w ∈ Ts, w.before args s = true) (hin : ∀ w ∈ u_ws RX7 TX7 26, w ∈ Ts) (hown : s.vm.findClass own = some m.cls) (hK : va_K (zD z) vwCl (zT z) s) (hT : TY z A σ H) (ha : zG z a = (17, o)) (hlink : (Cond.fieldLink own index (TX7 16).1 (TX7 16).2.1 (TX7 16).2.2.1).before args s = true) (hdg : decode cc pc = .ok (.getfield index, 3)) (kk : ∀ x : Int32, x.toInt = σ o 17 16 → 0 ≤ x.toInt → x.toInt ≤ 160 → W p l e R s m args below meth c H locs cells slots Q (F0 m (pc + 3) ls (.int x :: rest))) : W p l e R s m args below meth c H locs cells slots Q (F0 m pc ls (.ref a :: rest)) := by
  obtain ⟨E, hP, hD, hm, hz, hE⟩ := hT
  have hL : a ∈ zL z := hm a (by rw [ha]; exact Nat.succ_ne_zero _)
  obtain ⟨k, hk0⟩ := va_pl_get (X := []) (f := E) hL
  have he := hE a hL
  rw [ha] at he
  obtain ⟨fs, h9, hf⟩ := to_Model (show eModel z (σ o 17) o (E a) from he)
  have hk := hk0
  rw [h9] at hk
  obtain ⟨_, hv, y, rfl, f⟩ := fL_get 16 hf rfl
  exact va_get (D := zD z) (ci := 7) (C := RX7) (T := TX7) (N := 26) hx hb hts hin hown hK hP k hk rfl 16 (by decide) hlink (fun _ h9 => h9) hv hdg (kk y f.1 f.2.1 f.2.2)
theorem pt_Model_wrongAt {x : Int32} (hx : p.tables.exec = Jvm.exec) (hb : c.code = cc) (hts : ∀ w ∈ Ts, w.before args s = true) (hin : ∀ w ∈ u_ws RX7 TX7 26, w ∈ Ts) (hown : s.vm.findClass own = some m.cls) (hK : va_K (zD z) vwCl (zT z) s) (hT : TY z A σ H) (hS : va_S A H0 H locs) (ha : zG z a = (17, o)) (hlink : (Cond.fieldLink own index (TX7 16).1 (TX7 16).2.1 (TX7 16).2.2.1).before args s = true) (h1 : 0 ≤ x.toInt) (h2 : x.toInt ≤ 160) (hdg : decode cc pc = .ok (.putfield index, 3)) (kk : ∀ (H1 : Heap) (locs1 : List Loc), TY z A (wr σ o 17 16 x.toInt) H1 → va_S A H0 H1 locs1 → W p l e R s m args below meth c H1 locs1 cells slots Q (F0 m (pc + 3) ls (rest))) : W p l e R s m args below meth c H locs cells slots Q (F0 m pc ls (.int x :: .ref a :: rest)) := by
  obtain ⟨E, hP, hD, hm, hz, hE⟩ := hT
  have hL : a ∈ zL z := hm a (by rw [ha]; exact Nat.succ_ne_zero _)
  obtain ⟨k, hk0⟩ := va_pl_get (X := []) (f := E) hL
  have he := hE a hL
  rw [ha] at he
  obtain ⟨fs, h9, hf⟩ := to_Model (show eModel z (σ o 17) o (E a) from he)
  have hk := hk0
  rw [h9] at hk
  refine va_put (D := zD z) (ci := 7) (v := .int x) (ty := .int) (C := RX7) (T := TX7) (N := 26) hx hb hts hin tyX7 tyX7_ok nmX7 hown hK hP hD hS k hk rfl 16 (by decide) hlink (fun _ h9 => h9) rfl (by decide +kernel) rfl rfl (by rw [fL_len hf]; decide) hdg (fun H1 locs1 hP1 hD1 hS1 => ?_)
  refine kk H1 locs1 (ty_up hP1 hD1 hD hm hz hE hL hk0 ?_ (up_mo hz hE ha (fun r' hr' => wrl_nr _ _ hr'))) hS1
  rw [ha]
  show eOK z (gset σ o (wrl (σ o) 17 16 x.toInt) o 17) (17, o) _
  rw [gset_at]
  exact of_Model (fL_set 16 hf rfl (fun j hj => wrl_ni _ _ (fun q => hj (by omega))) ⟨x, rfl, (wrl_at _ _ _ _).symm, h1, h2⟩)
theorem gt_Model_byRank (hx : p.tables.exec = Jvm.exec) (hb : c.code = cc) (hts : ∀ w ∈ Ts, w.before args s = true) (hin : ∀ w ∈ u_ws RX7 TX7 26, w ∈ Ts) (hown : s.vm.findClass own = some m.cls) (hK : va_K (zD z) vwCl (zT z) s) (hT : TY z A σ H) (ha : zG z a = (17, o)) (hlink : (Cond.fieldLink own index (TX7 17).1 (TX7 17).2.1 (TX7 17).2.2.1).before args s = true) (hdg : decode cc pc = .ok (.getfield index, 3)) (kk : ∀ q : Nat, zG z q = (45, o) → W p l e R s m args below meth c H locs cells slots Q (F0 m (pc + 3) ls (.ref q :: rest))) : W p l e R s m args below meth c H locs cells slots Q (F0 m pc ls (.ref a :: rest)) := by
  obtain ⟨E, hP, hD, hm, hz, hE⟩ := hT
  have hL : a ∈ zL z := hm a (by rw [ha]; exact Nat.succ_ne_zero _)
  obtain ⟨k, hk0⟩ := va_pl_get (X := []) (f := E) hL
  have he := hE a hL
  rw [ha] at he
  obtain ⟨fs, h9, hf⟩ := to_Model (show eModel z (σ o 17) o (E a) from he)
  have hk := hk0
  rw [h9] at hk
  obtain ⟨_, hv, y, rfl, f⟩ := fL_get 17 hf rfl
  exact va_get (D := zD z) (ci := 7) (C := RX7) (T := TX7) (N := 26) hx hb hts hin hown hK hP k hk rfl 17 (by decide) hlink (fun _ h9 => h9) hv hdg (kk y f)
theorem gt_Model_order (hx : p.tables.exec = Jvm.exec) (hb : c.code = cc) (hts : ∀ w ∈ Ts, w.before args s = true) (hin : ∀ w ∈ u_ws RX7 TX7 26, w ∈ Ts) (hown : s.vm.findClass own = some m.cls) (hK : va_K (zD z) vwCl (zT z) s) (hT : TY z A σ H) (ha : zG z a = (17, o)) (hlink : (Cond.fieldLink own index (TX7 18).1 (TX7 18).2.1 (TX7 18).2.2.1).before args s = true) (hdg : decode cc pc = .ok (.getfield index, 3)) (kk : ∀ q : Nat, zG z q = (46, o) → W p l e R s m args below meth c H locs cells slots Q (F0 m (pc + 3) ls (.ref q :: rest))) : W p l e R s m args below meth c H locs cells slots Q (F0 m pc ls (.ref a :: rest)) := by
  obtain ⟨E, hP, hD, hm, hz, hE⟩ := hT
  have hL : a ∈ zL z := hm a (by rw [ha]; exact Nat.succ_ne_zero _)
  obtain ⟨k, hk0⟩ := va_pl_get (X := []) (f := E) hL
  have he := hE a hL
  rw [ha] at he
  obtain ⟨fs, h9, hf⟩ := to_Model (show eModel z (σ o 17) o (E a) from he)
  have hk := hk0
  rw [h9] at hk
  obtain ⟨_, hv, y, rfl, f⟩ := fL_get 18 hf rfl
  exact va_get (D := zD z) (ci := 7) (C := RX7) (T := TX7) (N := 26) hx hb hts hin hown hK hP k hk rfl 18 (by decide) hlink (fun _ h9 => h9) hv hdg (kk y f)
theorem gt_Model_roundSum (hx : p.tables.exec = Jvm.exec) (hb : c.code = cc) (hts : ∀ w ∈ Ts, w.before args s = true) (hin : ∀ w ∈ u_ws RX7 TX7 26, w ∈ Ts) (hown : s.vm.findClass own = some m.cls) (hK : va_K (zD z) vwCl (zT z) s) (hT : TY z A σ H) (ha : zG z a = (17, o)) (hlink : (Cond.fieldLink own index (TX7 19).1 (TX7 19).2.1 (TX7 19).2.2.1).before args s = true) (hdg : decode cc pc = .ok (.getfield index, 3)) (kk : ∀ x : Int64, x.toInt = σ o 17 19 → W p l e R s m args below meth c H locs cells slots Q (F0 m (pc + 3) ls (.long x :: rest))) : W p l e R s m args below meth c H locs cells slots Q (F0 m pc ls (.ref a :: rest)) := by
  obtain ⟨E, hP, hD, hm, hz, hE⟩ := hT
  have hL : a ∈ zL z := hm a (by rw [ha]; exact Nat.succ_ne_zero _)
  obtain ⟨k, hk0⟩ := va_pl_get (X := []) (f := E) hL
  have he := hE a hL
  rw [ha] at he
  obtain ⟨fs, h9, hf⟩ := to_Model (show eModel z (σ o 17) o (E a) from he)
  have hk := hk0
  rw [h9] at hk
  obtain ⟨_, hv, y, rfl, f⟩ := fL_get 19 hf rfl
  exact va_get (D := zD z) (ci := 7) (C := RX7) (T := TX7) (N := 26) hx hb hts hin hown hK hP k hk rfl 19 (by decide) hlink (fun _ h9 => h9) hv hdg (kk y f)
theorem pt_Model_roundSum {x : Int64} (hx : p.tables.exec = Jvm.exec) (hb : c.code = cc) (hts : ∀ w ∈ Ts, w.before args s = true) (hin : ∀ w ∈ u_ws RX7 TX7 26, w ∈ Ts) (hown : s.vm.findClass own = some m.cls) (hK : va_K (zD z) vwCl (zT z) s) (hT : TY z A σ H) (hS : va_S A H0 H locs) (ha : zG z a = (17, o)) (hlink : (Cond.fieldLink own index (TX7 19).1 (TX7 19).2.1 (TX7 19).2.2.1).before args s = true) (hdg : decode cc pc = .ok (.putfield index, 3)) (kk : ∀ (H1 : Heap) (locs1 : List Loc), TY z A (wr σ o 17 19 x.toInt) H1 → va_S A H0 H1 locs1 → W p l e R s m args below meth c H1 locs1 cells slots Q (F0 m (pc + 3) ls (rest))) : W p l e R s m args below meth c H locs cells slots Q (F0 m pc ls (.long x :: .ref a :: rest)) := by
  obtain ⟨E, hP, hD, hm, hz, hE⟩ := hT
  have hL : a ∈ zL z := hm a (by rw [ha]; exact Nat.succ_ne_zero _)
  obtain ⟨k, hk0⟩ := va_pl_get (X := []) (f := E) hL
  have he := hE a hL
  rw [ha] at he
  obtain ⟨fs, h9, hf⟩ := to_Model (show eModel z (σ o 17) o (E a) from he)
  have hk := hk0
  rw [h9] at hk
  refine va_put (D := zD z) (ci := 7) (v := .long x) (ty := .long) (C := RX7) (T := TX7) (N := 26) hx hb hts hin tyX7 tyX7_ok nmX7 hown hK hP hD hS k hk rfl 19 (by decide) hlink (fun _ h9 => h9) rfl (by decide +kernel) rfl rfl (by rw [fL_len hf]; decide) hdg (fun H1 locs1 hP1 hD1 hS1 => ?_)
  refine kk H1 locs1 (ty_up hP1 hD1 hD hm hz hE hL hk0 ?_ (up_mo hz hE ha (fun r' hr' => wrl_nr _ _ hr'))) hS1
  rw [ha]
  show eOK z (gset σ o (wrl (σ o) 17 19 x.toInt) o 17) (17, o) _
  rw [gset_at]
  exact of_Model (fL_set 19 hf rfl (fun j hj => wrl_ni _ _ (fun q => hj (by omega))) ⟨x, rfl, (wrl_at _ _ _ _).symm⟩)
theorem gt_Model_allSum (hx : p.tables.exec = Jvm.exec) (hb : c.code = cc) (hts : ∀ w ∈ Ts, w.before args s = true) (hin : ∀ w ∈ u_ws RX7 TX7 26, w ∈ Ts) (hown : s.vm.findClass own = some m.cls) (hK : va_K (zD z) vwCl (zT z) s) (hT : TY z A σ H) (ha : zG z a = (17, o)) (hlink : (Cond.fieldLink own index (TX7 20).1 (TX7 20).2.1 (TX7 20).2.2.1).before args s = true) (hdg : decode cc pc = .ok (.getfield index, 3)) (kk : ∀ x : Int64, x.toInt = σ o 17 20 → W p l e R s m args below meth c H locs cells slots Q (F0 m (pc + 3) ls (.long x :: rest))) : W p l e R s m args below meth c H locs cells slots Q (F0 m pc ls (.ref a :: rest)) := by
  obtain ⟨E, hP, hD, hm, hz, hE⟩ := hT
  have hL : a ∈ zL z := hm a (by rw [ha]; exact Nat.succ_ne_zero _)
  obtain ⟨k, hk0⟩ := va_pl_get (X := []) (f := E) hL
  have he := hE a hL
  rw [ha] at he
  obtain ⟨fs, h9, hf⟩ := to_Model (show eModel z (σ o 17) o (E a) from he)
  have hk := hk0
  rw [h9] at hk
  obtain ⟨_, hv, y, rfl, f⟩ := fL_get 20 hf rfl
  exact va_get (D := zD z) (ci := 7) (C := RX7) (T := TX7) (N := 26) hx hb hts hin hown hK hP k hk rfl 20 (by decide) hlink (fun _ h9 => h9) hv hdg (kk y f)
theorem pt_Model_allSum {x : Int64} (hx : p.tables.exec = Jvm.exec) (hb : c.code = cc) (hts : ∀ w ∈ Ts, w.before args s = true) (hin : ∀ w ∈ u_ws RX7 TX7 26, w ∈ Ts) (hown : s.vm.findClass own = some m.cls) (hK : va_K (zD z) vwCl (zT z) s) (hT : TY z A σ H) (hS : va_S A H0 H locs) (ha : zG z a = (17, o)) (hlink : (Cond.fieldLink own index (TX7 20).1 (TX7 20).2.1 (TX7 20).2.2.1).before args s = true) (hdg : decode cc pc = .ok (.putfield index, 3)) (kk : ∀ (H1 : Heap) (locs1 : List Loc), TY z A (wr σ o 17 20 x.toInt) H1 → va_S A H0 H1 locs1 → W p l e R s m args below meth c H1 locs1 cells slots Q (F0 m (pc + 3) ls (rest))) : W p l e R s m args below meth c H locs cells slots Q (F0 m pc ls (.long x :: .ref a :: rest)) := by
  obtain ⟨E, hP, hD, hm, hz, hE⟩ := hT
  have hL : a ∈ zL z := hm a (by rw [ha]; exact Nat.succ_ne_zero _)
  obtain ⟨k, hk0⟩ := va_pl_get (X := []) (f := E) hL
  have he := hE a hL
  rw [ha] at he
  obtain ⟨fs, h9, hf⟩ := to_Model (show eModel z (σ o 17) o (E a) from he)
  have hk := hk0
  rw [h9] at hk
  refine va_put (D := zD z) (ci := 7) (v := .long x) (ty := .long) (C := RX7) (T := TX7) (N := 26) hx hb hts hin tyX7 tyX7_ok nmX7 hown hK hP hD hS k hk rfl 20 (by decide) hlink (fun _ h9 => h9) rfl (by decide +kernel) rfl rfl (by rw [fL_len hf]; decide) hdg (fun H1 locs1 hP1 hD1 hS1 => ?_)
  refine kk H1 locs1 (ty_up hP1 hD1 hD hm hz hE hL hk0 ?_ (up_mo hz hE ha (fun r' hr' => wrl_nr _ _ hr'))) hS1
  rw [ha]
  show eOK z (gset σ o (wrl (σ o) 17 20 x.toInt) o 17) (17, o) _
  rw [gset_at]
  exact of_Model (fL_set 20 hf rfl (fun j hj => wrl_ni _ _ (fun q => hj (by omega))) ⟨x, rfl, (wrl_at _ _ _ _).symm⟩)
theorem gt_Model_lanes (hx : p.tables.exec = Jvm.exec) (hb : c.code = cc) (hts : ∀ w ∈ Ts, w.before args s = true) (hin : ∀ w ∈ u_ws RX7 TX7 26, w ∈ Ts) (hown : s.vm.findClass own = some m.cls) (hK : va_K (zD z) vwCl (zT z) s) (hT : TY z A σ H) (ha : zG z a = (17, o)) (hlink : (Cond.fieldLink own index (TX7 21).1 (TX7 21).2.1 (TX7 21).2.2.1).before args s = true) (hdg : decode cc pc = .ok (.getfield index, 3)) (kk : ∀ q : Nat, zG z q = (47, o) → W p l e R s m args below meth c H locs cells slots Q (F0 m (pc + 3) ls (.ref q :: rest))) : W p l e R s m args below meth c H locs cells slots Q (F0 m pc ls (.ref a :: rest)) := by
  obtain ⟨E, hP, hD, hm, hz, hE⟩ := hT
  have hL : a ∈ zL z := hm a (by rw [ha]; exact Nat.succ_ne_zero _)
  obtain ⟨k, hk0⟩ := va_pl_get (X := []) (f := E) hL
  have he := hE a hL
  rw [ha] at he
  obtain ⟨fs, h9, hf⟩ := to_Model (show eModel z (σ o 17) o (E a) from he)
  have hk := hk0
  rw [h9] at hk
  obtain ⟨_, hv, y, rfl, f⟩ := fL_get 21 hf rfl
  exact va_get (D := zD z) (ci := 7) (C := RX7) (T := TX7) (N := 26) hx hb hts hin hown hK hP k hk rfl 21 (by decide) hlink (fun _ h9 => h9) hv hdg (kk y f)
theorem gt_Model_sizes (hx : p.tables.exec = Jvm.exec) (hb : c.code = cc) (hts : ∀ w ∈ Ts, w.before args s = true) (hin : ∀ w ∈ u_ws RX7 TX7 26, w ∈ Ts) (hown : s.vm.findClass own = some m.cls) (hK : va_K (zD z) vwCl (zT z) s) (hT : TY z A σ H) (ha : zG z a = (17, o)) (hlink : (Cond.fieldLink own index (TX7 22).1 (TX7 22).2.1 (TX7 22).2.2.1).before args s = true) (hdg : decode cc pc = .ok (.getfield index, 3)) (kk : ∀ q : Nat, zG z q = (48, o) → W p l e R s m args below meth c H locs cells slots Q (F0 m (pc + 3) ls (.ref q :: rest))) : W p l e R s m args below meth c H locs cells slots Q (F0 m pc ls (.ref a :: rest)) := by
  obtain ⟨E, hP, hD, hm, hz, hE⟩ := hT
  have hL : a ∈ zL z := hm a (by rw [ha]; exact Nat.succ_ne_zero _)
  obtain ⟨k, hk0⟩ := va_pl_get (X := []) (f := E) hL
  have he := hE a hL
  rw [ha] at he
  obtain ⟨fs, h9, hf⟩ := to_Model (show eModel z (σ o 17) o (E a) from he)
  have hk := hk0
  rw [h9] at hk
  obtain ⟨_, hv, y, rfl, f⟩ := fL_get 22 hf rfl
  exact va_get (D := zD z) (ci := 7) (C := RX7) (T := TX7) (N := 26) hx hb hts hin hown hK hP k hk rfl 22 (by decide) hlink (fun _ h9 => h9) hv hdg (kk y f)
theorem gt_Model_cells (hx : p.tables.exec = Jvm.exec) (hb : c.code = cc) (hts : ∀ w ∈ Ts, w.before args s = true) (hin : ∀ w ∈ u_ws RX7 TX7 26, w ∈ Ts) (hown : s.vm.findClass own = some m.cls) (hK : va_K (zD z) vwCl (zT z) s) (hT : TY z A σ H) (ha : zG z a = (17, o)) (hlink : (Cond.fieldLink own index (TX7 23).1 (TX7 23).2.1 (TX7 23).2.2.1).before args s = true) (hdg : decode cc pc = .ok (.getfield index, 3)) (kk : ∀ q : Nat, zG z q = (49, o) → W p l e R s m args below meth c H locs cells slots Q (F0 m (pc + 3) ls (.ref q :: rest))) : W p l e R s m args below meth c H locs cells slots Q (F0 m pc ls (.ref a :: rest)) := by
  obtain ⟨E, hP, hD, hm, hz, hE⟩ := hT
  have hL : a ∈ zL z := hm a (by rw [ha]; exact Nat.succ_ne_zero _)
  obtain ⟨k, hk0⟩ := va_pl_get (X := []) (f := E) hL
  have he := hE a hL
  rw [ha] at he
  obtain ⟨fs, h9, hf⟩ := to_Model (show eModel z (σ o 17) o (E a) from he)
  have hk := hk0
  rw [h9] at hk
  obtain ⟨_, hv, y, rfl, f⟩ := fL_get 23 hf rfl
  exact va_get (D := zD z) (ci := 7) (C := RX7) (T := TX7) (N := 26) hx hb hts hin hown hK hP k hk rfl 23 (by decide) hlink (fun _ h9 => h9) hv hdg (kk y f)
theorem gt_Model_torn (hx : p.tables.exec = Jvm.exec) (hb : c.code = cc) (hts : ∀ w ∈ Ts, w.before args s = true) (hin : ∀ w ∈ u_ws RX7 TX7 26, w ∈ Ts) (hown : s.vm.findClass own = some m.cls) (hK : va_K (zD z) vwCl (zT z) s) (hT : TY z A σ H) (ha : zG z a = (17, o)) (hlink : (Cond.fieldLink own index (TX7 24).1 (TX7 24).2.1 (TX7 24).2.2.1).before args s = true) (hdg : decode cc pc = .ok (.getfield index, 3)) (kk : ∀ x : Int32, x.toInt = σ o 17 24 → 0 ≤ x.toInt → x.toInt ≤ 3 → W p l e R s m args below meth c H locs cells slots Q (F0 m (pc + 3) ls (.int x :: rest))) : W p l e R s m args below meth c H locs cells slots Q (F0 m pc ls (.ref a :: rest)) := by
  obtain ⟨E, hP, hD, hm, hz, hE⟩ := hT
  have hL : a ∈ zL z := hm a (by rw [ha]; exact Nat.succ_ne_zero _)
  obtain ⟨k, hk0⟩ := va_pl_get (X := []) (f := E) hL
  have he := hE a hL
  rw [ha] at he
  obtain ⟨fs, h9, hf⟩ := to_Model (show eModel z (σ o 17) o (E a) from he)
  have hk := hk0
  rw [h9] at hk
  obtain ⟨_, hv, y, rfl, f⟩ := fL_get 24 hf rfl
  exact va_get (D := zD z) (ci := 7) (C := RX7) (T := TX7) (N := 26) hx hb hts hin hown hK hP k hk rfl 24 (by decide) hlink (fun _ h9 => h9) hv hdg (kk y f.1 f.2.1 f.2.2)
theorem pt_Model_torn {x : Int32} (hx : p.tables.exec = Jvm.exec) (hb : c.code = cc) (hts : ∀ w ∈ Ts, w.before args s = true) (hin : ∀ w ∈ u_ws RX7 TX7 26, w ∈ Ts) (hown : s.vm.findClass own = some m.cls) (hK : va_K (zD z) vwCl (zT z) s) (hT : TY z A σ H) (hS : va_S A H0 H locs) (ha : zG z a = (17, o)) (hlink : (Cond.fieldLink own index (TX7 24).1 (TX7 24).2.1 (TX7 24).2.2.1).before args s = true) (h1 : 0 ≤ x.toInt) (h2 : x.toInt ≤ 3) (hdg : decode cc pc = .ok (.putfield index, 3)) (kk : ∀ (H1 : Heap) (locs1 : List Loc), TY z A (wr σ o 17 24 x.toInt) H1 → va_S A H0 H1 locs1 → W p l e R s m args below meth c H1 locs1 cells slots Q (F0 m (pc + 3) ls (rest))) : W p l e R s m args below meth c H locs cells slots Q (F0 m pc ls (.int x :: .ref a :: rest)) := by
  obtain ⟨E, hP, hD, hm, hz, hE⟩ := hT
  have hL : a ∈ zL z := hm a (by rw [ha]; exact Nat.succ_ne_zero _)
  obtain ⟨k, hk0⟩ := va_pl_get (X := []) (f := E) hL
  have he := hE a hL
  rw [ha] at he
  obtain ⟨fs, h9, hf⟩ := to_Model (show eModel z (σ o 17) o (E a) from he)
  have hk := hk0
  rw [h9] at hk
  refine va_put (D := zD z) (ci := 7) (v := .int x) (ty := .int) (C := RX7) (T := TX7) (N := 26) hx hb hts hin tyX7 tyX7_ok nmX7 hown hK hP hD hS k hk rfl 24 (by decide) hlink (fun _ h9 => h9) rfl (by decide +kernel) rfl rfl (by rw [fL_len hf]; decide) hdg (fun H1 locs1 hP1 hD1 hS1 => ?_)
  refine kk H1 locs1 (ty_up hP1 hD1 hD hm hz hE hL hk0 ?_ (up_mo hz hE ha (fun r' hr' => wrl_nr _ _ hr'))) hS1
  rw [ha]
  show eOK z (gset σ o (wrl (σ o) 17 24 x.toInt) o 17) (17, o) _
  rw [gset_at]
  exact of_Model (fL_set 24 hf rfl (fun j hj => wrl_ni _ _ (fun q => hj (by omega))) ⟨x, rfl, (wrl_at _ _ _ _).symm, h1, h2⟩)
theorem gt_Model_had (hx : p.tables.exec = Jvm.exec) (hb : c.code = cc) (hts : ∀ w ∈ Ts, w.before args s = true) (hin : ∀ w ∈ u_ws RX7 TX7 26, w ∈ Ts) (hown : s.vm.findClass own = some m.cls) (hK : va_K (zD z) vwCl (zT z) s) (hT : TY z A σ H) (ha : zG z a = (17, o)) (hlink : (Cond.fieldLink own index (TX7 25).1 (TX7 25).2.1 (TX7 25).2.2.1).before args s = true) (hdg : decode cc pc = .ok (.getfield index, 3)) (kk : ∀ q : Nat, zG z q = (50, o) → W p l e R s m args below meth c H locs cells slots Q (F0 m (pc + 3) ls (.ref q :: rest))) : W p l e R s m args below meth c H locs cells slots Q (F0 m pc ls (.ref a :: rest)) := by
  obtain ⟨E, hP, hD, hm, hz, hE⟩ := hT
  have hL : a ∈ zL z := hm a (by rw [ha]; exact Nat.succ_ne_zero _)
  obtain ⟨k, hk0⟩ := va_pl_get (X := []) (f := E) hL
  have he := hE a hL
  rw [ha] at he
  obtain ⟨fs, h9, hf⟩ := to_Model (show eModel z (σ o 17) o (E a) from he)
  have hk := hk0
  rw [h9] at hk
  obtain ⟨_, hv, y, rfl, f⟩ := fL_get 25 hf rfl
  exact va_get (D := zD z) (ci := 7) (C := RX7) (T := TX7) (N := 26) hx hb hts hin hown hK hP k hk rfl 25 (by decide) hlink (fun _ h9 => h9) hv hdg (kk y f)
end TYR
