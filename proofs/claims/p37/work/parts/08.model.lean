/-! the reference's order of the MEN, by its row 'now' -/
def mV (f : Nat → Int32) (m w : Nat) : Int := (f (4 * m + w)).toInt
def mS (f : Nat → Int32) (m : Nat) : Int := mV f m 1 + mV f m 2 + (if mV f m 0 = 2 then -2 else if mV f m 0 = 3 then 3 else 0)
def mB (f : Nat → Int32) (m o : Nat) : Prop := mS f m < mS f o ∨ (mS f m = mS f o ∧ (mV f o 3 < mV f m 3 ∨ (mV f m 3 = mV f o 3 ∧ m < o)))
theorem mB_dec (f : Nat → Int32) (m o : Nat) : mB f m o ∨ ¬ mB f m o := Classical.em _
theorem mB_tr {f : Nat → Int32} {a b c : Nat} (h : mB f a b) (h2 : mB f b c) : mB f a c := by
  unfold mB at *
  omega
theorem mB_ir {f : Nat → Int32} {a : Nat} : ¬ mB f a a := by
  unfold mB
  omega
theorem mB_tot {f : Nat → Int32} {a b : Nat} (h : a ≠ b) : mB f a b ∨ mB f b a := by
  unfold mB
  omega
noncomputable def mK (f : Nat → Int32) (m : Nat) : Nat → Nat
  | 0 => 0
  | o + 1 => mK f m o + @ite Nat (o ≠ m ∧ mB f o m) (Classical.propDecidable _) 1 0
theorem mK_s1 {f : Nat → Int32} {m o : Nat} (h : o ≠ m ∧ mB f o m) : mK f m (o + 1) = mK f m o + 1 := by
  unfold mK
  rw [if_pos h]
  cases o <;> rfl
theorem mK_s0 {f : Nat → Int32} {m o : Nat} (h : ¬ (o ≠ m ∧ mB f o m)) : mK f m (o + 1) = mK f m o := by
  show mK f m o + @ite Nat (o ≠ m ∧ mB f o m) (Classical.propDecidable _) 1 0 = mK f m o
  rw [if_neg h]; rfl
theorem mK_le (f : Nat → Int32) (m : Nat) : ∀ o, mK f m o ≤ o
  | 0 => Nat.le_refl 0
  | o + 1 => by
    have ih := mK_le f m o
    rcases Classical.em (o ≠ m ∧ mB f o m) with h | h
    · rw [mK_s1 h]; omega
    · rw [mK_s0 h]; omega
theorem mK_lt (f : Nat → Int32) (m : Nat) : ∀ o, m < o → mK f m o < o
  | 0, h => absurd h (Nat.not_lt_zero _)
  | o + 1, hm => by
    rcases Classical.em (o = m) with h | h
    · rw [mK_s0 (fun q => q.1 h)]
      have := mK_le f m o
      omega
    · have ih := mK_lt f m o (by omega)
      rcases Classical.em (o ≠ m ∧ mB f o m) with h | h
      · rw [mK_s1 h]; omega
      · rw [mK_s0 h]; omega
theorem mK_mono {f : Nat → Int32} {a b : Nat} (h : mB f a b) : ∀ o, mK f a o + (if a < o then 1 else 0) ≤ mK f b o
  | 0 => by simp [mK]
  | o + 1 => by
    have ih := mK_mono h o
    have hab : a ≠ b := fun q => by rw [q] at h; exact mB_ir h
    by_cases ho : o = a
    · subst ho
      rw [mK_s0 (f := f) (m := o) (fun q => q.1 rfl), mK_s1 (f := f) (m := b) (o := o) ⟨hab, h⟩]
      rw [if_pos (Nat.lt_succ_self _)]
      rw [if_neg (Nat.lt_irrefl _)] at ih
      omega
    · have hi : (if a < o + 1 then 1 else 0) = (if a < o then (1 : Nat) else 0) := by
        by_cases q : a < o
        · rw [if_pos q, if_pos (by omega)]
        · rw [if_neg q, if_neg (by omega)]
      rw [hi]
      rcases Classical.em (o ≠ a ∧ mB f o a) with q | q
      · have q2 : o ≠ b ∧ mB f o b := ⟨fun e => by rw [e] at q; exact mB_ir (mB_tr q.2 h), mB_tr q.2 h⟩
        rw [mK_s1 q, mK_s1 q2]; omega
      · rw [mK_s0 q]
        rcases Classical.em (o ≠ b ∧ mB f o b) with q2 | q2
        · rw [mK_s1 q2]; omega
        · rw [mK_s0 q2]; omega
theorem mK_inj {f : Nat → Int32} {a b M : Nat} (ha : a < M) (hb : b < M) (h : a ≠ b) : mK f a M ≠ mK f b M := by
  rcases mB_tot (f := f) h with q | q
  · have := mK_mono q M
    rw [if_pos ha] at this
    omega
  · have := mK_mono q M
    rw [if_pos hb] at this
    omega
theorem fb_holes9 : ∀ (m n : Nat) (f : Nat → Nat), (∀ i, i < n → f i < m) → (∀ i j, i < j → j < n → f i ≠ f j) → n ≤ m
  | 0, n, f, h, _ => by
    cases n with
    | zero => exact Nat.le_refl 0
    | succ n => exact absurd (h 0 (Nat.succ_pos n)) (Nat.not_lt_zero _)
  | m + 1, n, f, h, h2 => by
    cases n with
    | zero => exact Nat.zero_le _
    | succ n =>
      -- the last value is taken out: values above it move down
      have hg := fb_holes9 m n (fun i => if f i < f n then f i else f i - 1) (fun i hi => by
        have h3 := h i (by omega)
        have h4 := h n (by omega)
        have h5 := h2 i n hi (by omega)
        show (if f i < f n then f i else f i - 1) < m
        by_cases q : f i < f n
        · rw [if_pos q]; omega
        · rw [if_neg q]; omega) (fun i j hij hj => by
        have h5 := h2 i n (by omega) (by omega)
        have h6 := h2 j n hj (by omega)
        have h7 := h2 i j hij (by omega)
        show (if f i < f n then f i else f i - 1) ≠ (if f j < f n then f j else f j - 1)
        by_cases q : f i < f n
        · by_cases r : f j < f n
          · rw [if_pos q, if_pos r]; exact h7
          · rw [if_pos q, if_neg r]; omega
        · by_cases r : f j < f n
          · rw [if_neg q, if_pos r]; omega
          · rw [if_neg q, if_neg r]; omega)
      omega
theorem mK_onto {f : Nat → Int32} {M i : Nat} (hi : i < M) : ∃ j, j < M ∧ mK f j M = i := by
  rcases Classical.em (∃ j, j < M ∧ mK f j M = i) with h | h
  · exact h
  · exfalso
    -- M values, none of them i: they fit into M - 1 places
    have := fb_holes9 (M - 1) M (fun j => if mK f j M < i then mK f j M else mK f j M - 1) (fun j hj => by
      have h3 := mK_lt f j M hj
      have h4 : mK f j M ≠ i := fun q => h ⟨j, hj, q⟩
      show (if mK f j M < i then mK f j M else mK f j M - 1) < M - 1
      by_cases q : mK f j M < i
      · rw [if_pos q]; omega
      · rw [if_neg q]; omega) (fun a b hab hb => by
      have h3 := mK_inj (f := f) (a := a) (b := b) (M := M) (by omega) hb (by omega)
      have h4 : mK f a M ≠ i := fun q => h ⟨a, by omega, q⟩
      have h5 : mK f b M ≠ i := fun q => h ⟨b, hb, q⟩
      show (if mK f a M < i then mK f a M else mK f a M - 1) ≠ (if mK f b M < i then mK f b M else mK f b M - 1)
      by_cases q : mK f a M < i
      · by_cases r : mK f b M < i
        · rw [if_pos q, if_pos r]; exact h3
        · rw [if_pos q, if_neg r]; omega
      · by_cases r : mK f b M < i
        · rw [if_neg q, if_pos r]; omega
        · rw [if_neg q, if_neg r]; omega)
    omega
theorem ty_md {z : Zt} {A : Nat → Prop} {gh : Gh} {H : Heap} {a o : Nat} (hT : TY z A gh H) (ha : zG z a = (17, o)) : (0 ≤ gh.1 a 41 ∧ gh.1 a 41 ≤ 5) ∧ (∃ q, zG z q = (41, a)) ∧ (∃ q, zG z q = (45, a)) ∧ (0 ≤ gh.1 a 40 ∧ gh.1 a 40 ≤ 160) ∧ (0 ≤ gh.1 a 52 ∧ gh.1 a 52 ≤ 160) ∧ (0 ≤ gh.1 a 55 ∧ gh.1 a 55 ≤ 5) ∧ (0 ≤ gh.1 a 54 ∧ gh.1 a 54 ≤ 6) := by
  obtain ⟨E, hP, hD, hm, hE⟩ := hT
  have he := hE a (hm a (by rw [ha]; exact Nat.succ_ne_zero _))
  rw [ha] at he
  obtain ⟨q0, q1, q2, x3, q4, x5, x6, x7, x8, q9, x10, x11, x12, x13, x14, x15, x16, q17, q18, x19, x20, q21, q22, q23, x24, q25, h9, f0, f1, f2, f3, f4, f5, f6, f7, f8, f9, f10, f11, f12, f13, f14, f15, f16, f17, f18, f19, f20, f21, f22, f23⟩ : eModel z (gh.1 a) (17, o) a (E a) := he
  refine ⟨by omega, ⟨q1, f1⟩, ⟨q17, f17⟩, by omega, by omega, by omega, by omega⟩
theorem ty_41 {z : Zt} {A : Nat → Prop} {gh : Gh} {H : Heap} {a o : Nat} (hT : TY z A gh H) (ha : zG z a = (41, o)) : ∀ i : Nat, i < 59 → p41 (gh.1 o) i (gh.2 a i).toInt := by
  obtain ⟨E, hP, hD, hm, hE⟩ := hT
  have he := hE a (hm a (by rw [ha]; exact Nat.succ_ne_zero _))
  rw [ha] at he
  obtain ⟨f, h9, hct, hf⟩ : a41 z (gh.1 o) (gh.2 a) (E a) := he
  subst hct
  exact hf
theorem fr_s {B f : Nat → Int32} {M m r : Nat} {x : Int32} (h : ∀ j : Nat, j < m → (B (mK f j M)).toInt = j) (hr : r = mK f m M) (hx : x.toInt = m) (hm : m < M) : ∀ j : Nat, j < m + 1 → (upd B r x (mK f j M)).toInt = j := by
  intro j hj
  by_cases q : j = m
  · subst q
    rw [show upd B r x (mK f j M) = x from if_pos hr.symm]
    exact hx
  · rw [show upd B r x (mK f j M) = B (mK f j M) from if_neg (by rw [hr]; exact mK_inj (by omega) hm q)]
    exact h j (by omega)
theorem i_powb {b : Int} {k : Nat} (h0 : 0 ≤ b) (h1 : b ≤ 10) (hk : k ≤ 5) : 0 ≤ b ^ k ∧ b ^ k ≤ 100000 := by
  have hb : b = 0 ∨ b = 1 ∨ b = 2 ∨ b = 3 ∨ b = 4 ∨ b = 5 ∨ b = 6 ∨ b = 7 ∨ b = 8 ∨ b = 9 ∨ b = 10 := by omega
  have hk2 : k = 0 ∨ k = 1 ∨ k = 2 ∨ k = 3 ∨ k = 4 ∨ k = 5 := by omega
  rcases hb with rfl | rfl | rfl | rfl | rfl | rfl | rfl | rfl | rfl | rfl | rfl <;> rcases hk2 with rfl | rfl | rfl | rfl | rfl | rfl <;> decide
theorem i_powp {b : Int} {k : Nat} (h0 : 1 ≤ b) (h1 : b ≤ 10) (hk : k ≤ 5) : 1 ≤ b ^ k := by
  have hb : b = 1 ∨ b = 2 ∨ b = 3 ∨ b = 4 ∨ b = 5 ∨ b = 6 ∨ b = 7 ∨ b = 8 ∨ b = 9 ∨ b = 10 := by omega
  have hk2 : k = 0 ∨ k = 1 ∨ k = 2 ∨ k = 3 ∨ k = 4 ∨ k = 5 := by omega
  rcases hb with rfl | rfl | rfl | rfl | rfl | rfl | rfl | rfl | rfl | rfl <;> rcases hk2 with rfl | rfl | rfl | rfl | rfl | rfl <;> decide
theorem i_pows {x y w : Int32} {b : Int} {k : Nat} (h0 : 0 ≤ b) (h1 : b ≤ 10) (hk : k + 1 ≤ 5) (hx : x.toInt = b ^ k) (hy : y.toInt = b) (hw : w = x * y) : w.toInt = b ^ (k + 1) := by
  have e : x.toInt * y.toInt = b ^ (k + 1) := by rw [hx, hy, Int.pow_succ]
  have h3 := i_powb (k := k + 1) h0 h1 hk
  rw [hw, i_mul (by rw [e]; omega) (by rw [e]; omega), e]
theorem p41_0 {go go' : Nat → Int} (h : go' 49 ≤ 0) : ∀ i y, p41 go i y → p41 go' i y := by
  intro i y hp
  unfold p41 b59 at hp ⊢
  omega
theorem ty_mr {z : Zt} {A : Nat → Prop} {gh : Gh} {H : Heap} {a o : Nat} (hT : TY z A gh H) (ha : zG z a = (17, o)) : (0 ≤ gh.1 a 40 ∧ gh.1 a 40 ≤ 160) ∧ (0 ≤ gh.1 a 52 ∧ gh.1 a 52 ≤ 160) ∧ (0 ≤ gh.1 a 53 ∧ gh.1 a 53 ≤ 3) ∧ (0 ≤ gh.1 a 54 ∧ gh.1 a 54 ≤ 6) ∧ (0 ≤ gh.1 a 55 ∧ gh.1 a 55 ≤ 5) ∧ ∃ q, zG z q = (44, a) := by
  obtain ⟨E, hP, hD, hm, hE⟩ := hT
  have he := hE a (hm a (by rw [ha]; exact Nat.succ_ne_zero _))
  rw [ha] at he
  obtain ⟨q0, q1, q2, x3, q4, x5, x6, x7, x8, q9, x10, x11, x12, x13, x14, x15, x16, q17, q18, x19, x20, q21, q22, q23, x24, q25, h9, f0, f1, f2, f3, f4, f5, f6, f7, f8, f9, f10, f11, f12, f13, f14, f15, f16, f17, f18, f19, f20, f21, f22, f23⟩ : eModel z (gh.1 a) (17, o) a (E a) := he
  refine ⟨by omega, by omega, by omega, by omega, by omega, ⟨q9, f9⟩⟩
theorem b59_r19 {B t : Int} {i : Nat} {x : Int} (h : b59 B t i x) (hi : i < 20) : 0 ≤ x ∧ x ≤ 9 := h.1 hi
theorem b59_r20 {B t : Int} {i : Nat} {x : Int} (h : b59 B t i x) (h1 : 20 ≤ i) (h2 : i ≤ 24) : 0 ≤ x ∧ x ≤ 4 ∧ ((i : Int) < t → (i : Int) - 20 < B → x < B) := h.2.1 ⟨h1, h2⟩
theorem b59_r31 {B t : Int} {i : Nat} {x : Int} (h : b59 B t i x) (hi : i = 31) : 0 ≤ x ∧ x ≤ 8 := h.2.2.1 hi
theorem b59_r40 {B t : Int} {i : Nat} {x : Int} (h : b59 B t i x) (hi : i = 40) : 0 ≤ x ∧ x ≤ 6 := h.2.2.2.1 hi
theorem b59_r41 {B t : Int} {i : Nat} {x : Int} (h : b59 B t i x) (h1 : 41 ≤ i) (h2 : i % 3 = 2) : 0 ≤ x ∧ x ≤ 4 := h.2.2.2.2 ⟨h1, h2⟩
theorem b59_m19 {B t : Int} {i : Nat} {x : Int} (hi : i < 20) (h : 0 ≤ x ∧ x ≤ 9) : b59 B t i x := by unfold b59; omega
theorem b59_m20 {B t : Int} {i : Nat} {x : Int} (h1 : 20 ≤ i) (h2 : i ≤ 24) (h : 0 ≤ x ∧ x ≤ 4) (h3 : (i : Int) < t → (i : Int) - 20 < B → x < B) : b59 B t i x := by
  refine ⟨fun q => ?_, fun _ => ⟨h.1, h.2, h3⟩, fun q => ?_, fun q => ?_, fun q => ?_⟩ <;> omega
theorem b59_mf {B t : Int} {i : Nat} {x : Int} (h : (25 ≤ i ∧ i ≤ 30) ∨ (32 ≤ i ∧ i ≤ 39)) : b59 B t i x := by unfold b59; omega
theorem b59_m31 {B t : Int} {i : Nat} {x : Int} (hi : i = 31) (h : 0 ≤ x ∧ x ≤ 8) : b59 B t i x := by unfold b59; omega
theorem b59_m40 {B t : Int} {i : Nat} {x : Int} (hi : i = 40) (h : 0 ≤ x ∧ x ≤ 6) : b59 B t i x := by unfold b59; omega
theorem b59_m41 {B t : Int} {i : Nat} {x : Int} (hi : 41 ≤ i) (h : i % 3 = 2 → 0 ≤ x ∧ x ≤ 4) : b59 B t i x := by unfold b59; omega
theorem b59_tr {B t B' t' : Int} {i : Nat} {x : Int} (h : b59 B t i x) (hB : B = B') (ht : (i : Int) < t' → (i : Int) < t) : b59 B' t' i x := by
  subst hB
  exact ⟨h.1, fun q => ⟨(h.2.1 q).1, (h.2.1 q).2.1, fun a b => (h.2.1 q).2.2 (ht a) b⟩, h.2.2⟩
theorem d59_r19 {i : Nat} {x : Int} (h : d59 i x) (hi : i < 20) : 0 ≤ x ∧ x ≤ 9 := h.1 hi
theorem d59_r20 {i : Nat} {x : Int} (h : d59 i x) (h1 : 20 ≤ i) (h2 : i ≤ 24) : 0 ≤ x ∧ x ≤ (i : Int) - 20 := h.2.1 ⟨h1, h2⟩
theorem d59_r31 {i : Nat} {x : Int} (h : d59 i x) (hi : i = 31) : 0 ≤ x ∧ x ≤ 8 := h.2.2.1 hi
theorem d59_m19 {i : Nat} {x : Int} (hi : i < 20) (h : 0 ≤ x ∧ x ≤ 9) : d59 i x := by unfold d59; omega
theorem d59_m20 {i : Nat} {x : Int} (h1 : 20 ≤ i) (h2 : i ≤ 24) (h : 0 ≤ x ∧ x ≤ (i : Int) - 20) : d59 i x := by unfold d59; omega
theorem d59_mf {i : Nat} {x : Int} (h : (25 ≤ i ∧ i ≤ 30) ∨ (32 ≤ i ∧ i ≤ 39)) : d59 i x := by unfold d59; omega
theorem d59_m31 {i : Nat} {x : Int} (hi : i = 31) (h : 0 ≤ x ∧ x ≤ 8) : d59 i x := by unfold d59; omega
theorem d59_m0 {i : Nat} {x : Int} (h : x = 0) : d59 i x := by unfold d59; omega
theorem p40_e {go : Nat → Int} {i : Nat} {x : Int} (h : p40 go i x) (hi : i < 59) : b59 (go 42) (go 43) i x := h.1 hi
theorem p40_m {go : Nat → Int} {i : Nat} {x : Int} (hi : i < 59) (h : b59 (go 42) (go 43) i x) : p40 go i x := ⟨fun _ => h, fun h1 => absurd hi (by omega), fun h1 => absurd hi (by omega)⟩
theorem p41_e {go : Nat → Int} {i : Nat} {x : Int} (h : p41 go i x) : b59 (go 48) (go 49) i x := h
theorem p41_m {go : Nat → Int} {i : Nat} {x : Int} (h : b59 (go 48) (go 49) i x) : p41 go i x := h
theorem i_subw (a b : Int32) : ((a - b).toInt = a.toInt - b.toInt ∨ (a - b).toInt = a.toInt - b.toInt + 4294967296 ∨ (a - b).toInt = a.toInt - b.toInt - 4294967296) ∧ -2147483648 ≤ (a - b).toInt ∧ (a - b).toInt ≤ 2147483647 := by
  have h1 := i_mx a
  have h2 := i_mx b
  have h3 := i_mx (a - b)
  rw [Int32.toInt_sub, Int.bmod_def] at *
  split at * <;> omega
theorem s_isub {p : Program} {l : Launch} {e : Env} {R : Room} {s : State} {m : MethodId} {args : Array Value} {below : List Frame} {meth : Method} {c : Code} {H : Heap} {locs : List Loc} {cells slots : Nat} {Q : State → Prop} {cc : ByteArray} {pc : Nat} {ls : Array Slot} {rest : List Value} {x y : Int32} (hx : p.tables.exec = Jvm.exec) (hb : c.code = cc) (hdg : decode cc pc = .ok (.isub, 1)) (kk : ∀ w : Int32, (w.toInt = x.toInt - y.toInt ∨ w.toInt = x.toInt - y.toInt + 4294967296 ∨ w.toInt = x.toInt - y.toInt - 4294967296) → (-2147483648 ≤ w.toInt ∧ w.toInt ≤ 2147483647) → W p l e R s m args below meth c H locs cells slots Q (F0 m (pc + 1) ls (.int w :: rest))) : W p l e R s m args below meth c H locs cells slots Q (F0 m pc ls (.int y :: .int x :: rest)) := lv_isub hx hb hdg (kk _ (i_subw x y).1 (i_subw x y).2)
