def wfF (g : Nat → Int) : Prop := 0 ≤ g 0 ∧ g 0 ≤ 5 ∧ g 0 ≤ g 1 ∧ g 2 = g 0
def wfM (g : Nat → Int) : Prop := 0 ≤ g 41 ∧ g 41 ≤ 5 ∧ g 42 = g 41 ∧ 59 ≤ g 43 ∧ (g 44 = 1 → 59 ≤ g 46) ∧ (g 45 = 1 → 59 ≤ g 47)
def zuN (n : Nat) : Bool := [11, 13, 14, 17, 27, 28, 29, 30, 40, 41, 42, 43, 44, 45, 47, 48, 50].contains n
def zu (z : Zt) : Prop := ∀ a b, zuN (zG z a).1 = true → zG z a = zG z b → a = b
def wf (z : Zt) (gh : Gh) : Prop := (∀ a o, zG z a = (11, o) → wfF (gh.1 a)) ∧ (∀ a o, zG z a = (17, o) → wfM (gh.1 a)) ∧ zu z
def vsb (n k : Nat) : Bool := (n == 14 && k == 30) || (n == 13 && (k == 34 || k == 35)) || (n == 17 && (k == 40 || (60 ≤ k && k ≤ 67)))
def vis (z : Zt) (gh : Gh) (v : Nat → Nat → Int) : Prop := ∀ a k, vsb (zG z a).1 k = true → gh.1 a k = v a k
def WX (z : Zt) (v : Nat → Nat → Int) (H : Heap) : Prop := ∃ gh : Gh, wf z gh ∧ vis z gh v ∧ TY z (zA z) gh H
def hid (k : Nat) : Bool := [31, 32, 33, 36, 37, 38, 39, 52, 53, 54, 55, 56].contains k
def eqv (gk gh : Gh) : Prop := ∀ a k, hid k = false → gk.1 a k = gh.1 a k
theorem eqv_rf (gh : Gh) : eqv gh gh := fun _ _ _ => rfl
theorem eqv_eq {g1 g2 : Gh} (h : g1.1 = g2.1) : eqv g1 g2 := fun a k _ => by rw [h]
theorem eqv_tr {g1 g2 g3 : Gh} (h : eqv g1 g2) (h2 : eqv g2 g3) : eqv g1 g3 := fun a k hk => (h a k hk).trans (h2 a k hk)
theorem eqv_gs {gk gh : Gh} {a j : Nat} {v : Int} (hj : hid j = true) (h : eqv gk gh) : eqv (gs gk a j v) gh := fun b k hk => (gs_nk gk a j v (fun q => by subst q; rw [hj] at hk; cases hk)).trans (h b k hk)
theorem eqv_gc {gk gh : Gh} {a : Nat} {f : Nat → Int32} (h : eqv gk gh) : eqv (gc gk a f) gh := h
theorem wfF_of {g g' : Nat → Int} (h : wfF g) (e : ∀ k, hid k = false → g' k = g k) : wfF g' := by
  unfold wfF at h ⊢; rw [e 0 rfl, e 1 rfl, e 2 rfl]; exact h
theorem wfM_of {g g' : Nat → Int} (h : wfM g) (e : ∀ k, hid k = false → g' k = g k) : wfM g' := by
  unfold wfM at h ⊢; rw [e 41 rfl, e 42 rfl, e 43 rfl, e 44 rfl, e 45 rfl, e 46 rfl, e 47 rfl]; exact h
theorem wf_of {z : Zt} {gh gk : Gh} (e : eqv gk gh) (h : wf z gh) : wf z gk :=
  ⟨fun a o ha => wfF_of (h.1 a o ha) (fun k hk => e a k hk), fun a o ha => wfM_of (h.2.1 a o ha) (fun k hk => e a k hk), h.2.2⟩
theorem vsb_hid {n k : Nat} (h : vsb n k = true) : hid k = false := by
  cases hh : hid k with
  | false => rfl
  | true =>
    exfalso
    have h2 : k = 31 ∨ k = 32 ∨ k = 33 ∨ k = 36 ∨ k = 37 ∨ k = 38 ∨ k = 39 ∨ k = 52 ∨ k = 53 ∨ k = 54 ∨ k = 55 ∨ k = 56 := by simpa [hid] using hh
    rcases h2 with rfl | rfl | rfl | rfl | rfl | rfl | rfl | rfl | rfl | rfl | rfl | rfl <;> simp [vsb] at h
theorem vis_of {z : Zt} {gh gk : Gh} {v : Nat → Nat → Int} (e : eqv gk gh) (h : vis z gh v) : vis z gk v := fun a k hk => (e a k (vsb_hid hk)).trans (h a k hk)
def deq (z : Zt) (gk gh : Gh) : Prop := gk.1 = gh.1 ∧ ∀ q, (zG z q).1 = 40 → gk.2 q = gh.2 q
theorem deq_rf (z : Zt) (gh : Gh) : deq z gh gh := ⟨rfl, fun _ _ => rfl⟩
theorem deq_tr {z : Zt} {g1 g2 g3 : Gh} (h : deq z g1 g2) (h2 : deq z g2 g3) : deq z g1 g3 := ⟨h.1.trans h2.1, fun q hq => (h.2 q hq).trans (h2.2 q hq)⟩
theorem deq_gc {z : Zt} {gk gh : Gh} {a n o : Nat} {f : Nat → Int32} (h : deq z gk gh) (ha : zG z a = (n, o)) (hn : n ≠ 40) : deq z (gc gk a f) gh := ⟨h.1, fun q hq => by
  rw [gc_na gk a f (fun e => hn (by rw [e, ha] at hq; exact hq))]; exact h.2 q hq⟩
theorem deq_r {z : Zt} {gk gh : Gh} (h : deq z gk gh) (a k : Nat) : gk.1 a k = gh.1 a k := by rw [h.1]
theorem wf_gs {z : Zt} {gh : Gh} {a j : Nat} {v : Int} (hj : [0, 1, 2, 41, 42, 43, 44, 45, 46, 47].contains j = false) (h : wf z gh) : wf z (gs gh a j v) := by
  have hk : ∀ b k, [0, 1, 2, 41, 42, 43, 44, 45, 46, 47].contains k = true → (gs gh a j v).1 b k = gh.1 b k := fun b k hk => gs_nk gh a j v (fun q => by rw [q, hj] at hk; cases hk)
  refine ⟨fun b o hb => ?_, fun b o hb => ?_, h.2.2⟩
  · have h1 := h.1 b o hb
    unfold wfF at h1 ⊢
    rw [hk b 0 rfl, hk b 1 rfl, hk b 2 rfl]; exact h1
  · have h1 := h.2.1 b o hb
    unfold wfM at h1 ⊢
    rw [hk b 41 rfl, hk b 42 rfl, hk b 43 rfl, hk b 44 rfl, hk b 45 rfl, hk b 46 rfl, hk b 47 rfl]; exact h1
theorem vis_gs {z : Zt} {gh : Gh} {w : Nat → Nat → Int} {a j : Nat} {v : Int} (hj : ∀ n, vsb n j = false) (h : vis z gh w) : vis z (gs gh a j v) w := fun b k hk => by
  rw [gs_nk gh a j v (fun q => by rw [q, hj] at hk; cases hk)]; exact h b k hk
def nowOK (g : Nat → Int) : Prop := g 48 = g 41 ∧ 59 ≤ g 49
theorem nowOK_of {gh gk : Gh} {a : Nat} (e : eqv gk gh) (h : nowOK (gh.1 a)) : nowOK (gk.1 a) := by
  unfold nowOK at h ⊢; rw [e a 48 rfl, e a 41 rfl, e a 49 rfl]; exact h
theorem zu_at {z : Zt} (h : zu z) {a b n o : Nat} (hn : zuN n = true) (ha : zG z a = (n, o)) (hb : zG z b = (n, o)) : a = b :=
  h a b (by rw [ha]; exact hn) (by rw [ha, hb])
/-- a floor whose ranks are found -/
def rkF (z : Zt) (gh : Gh) (f : Nat) : Prop := (∀ q, zG z q = (28, f) → ∀ i : Nat, (i : Int) < gh.1 f 0 → 0 ≤ (gh.2 q i).toInt ∧ (gh.2 q i).toInt < gh.1 f 0) ∧ (∀ q, zG z q = (29, f) → ∀ i : Nat, (i : Int) < gh.1 f 0 → 0 ≤ (gh.2 q i).toInt ∧ (gh.2 q i).toInt < gh.1 f 0)
/-- the row of ranks while the MEN are put in -/
def luA (f : Nat → Int32) (m : Nat) : Prop := (∀ j : Nat, j < m → 0 ≤ (f j).toInt ∧ (f j).toInt < m) ∧ ∀ i : Nat, i < m → ∃ j : Nat, j < m ∧ (f j).toInt = i
def luB (f : Nat → Int32) (m r : Nat) : Prop := r ≤ m ∧ (∀ j : Nat, j ≤ m → j ≠ r → 0 ≤ (f j).toInt ∧ (f j).toInt < m) ∧ ∀ i : Nat, i < m → ∃ j : Nat, j ≤ m ∧ j ≠ r ∧ (f j).toInt = i
theorem luA_0 (f : Nat → Int32) : luA f 0 := ⟨fun j h => absurd h (Nat.not_lt_zero _), fun j h => absurd h (Nat.not_lt_zero _)⟩
theorem luB_of {f : Nat → Int32} {m : Nat} (h : luA f m) : luB f m m := by
  refine ⟨Nat.le_refl _, fun j h1 h2 => h.1 j (by omega), fun i hi => ?_⟩
  obtain ⟨j, h1, h2⟩ := h.2 i hi
  exact ⟨j, by omega, by omega, h2⟩
theorem luB_sh {f : Nat → Int32} {m r : Nat} {x : Int32} (h : luB f m r) (hr : 0 < r) (hx : x = f (r - 1)) : luB (upd f r x) m (r - 1) := by
  subst hx
  obtain ⟨h1, h2, h3⟩ := h
  refine ⟨by omega, fun j a b => ?_, fun i hi => ?_⟩
  · by_cases q : j = r
    · subst q
      rw [show upd f j (f (j - 1)) j = f (j - 1) from if_pos rfl]
      exact h2 (j - 1) (by omega) (by omega)
    · rw [show upd f r (f (r - 1)) j = f j from if_neg q]
      exact h2 j a q
  · obtain ⟨j, a, b, c⟩ := h3 i hi
    by_cases q : j = r - 1
    · refine ⟨r, h1, by omega, ?_⟩
      rw [show upd f r (f (r - 1)) r = f (r - 1) from if_pos rfl, ← q]
      exact c
    · refine ⟨j, a, q, ?_⟩
      rw [show upd f r (f (r - 1)) j = f j from if_neg b]
      exact c
theorem luA_of {f : Nat → Int32} {m r : Nat} {x : Int32} (h : luB f m r) (hx : x.toInt = m) : luA (upd f r x) (m + 1) := by
  obtain ⟨h1, h2, h3⟩ := h
  refine ⟨fun j a => ?_, fun i hi => ?_⟩
  · by_cases q : j = r
    · subst q
      rw [show upd f j x j = x from if_pos rfl]
      omega
    · rw [show upd f r x j = f j from if_neg q]
      have := h2 j (by omega) q
      omega
  · by_cases q : i = m
    · exact ⟨r, by omega, by rw [show upd f r x r = x from if_pos rfl, hx, q]⟩
    · obtain ⟨j, a, b, c⟩ := h3 i (by omega)
      exact ⟨j, by omega, by rw [show upd f r x j = f j from if_neg b]; exact c⟩
/-- the ranks by MEN, as far as they are written -/
def luC (f g : Nat → Int32) (M r : Nat) : Prop := ∀ j : Nat, j < r → 0 ≤ (g (f j).toNatClampNeg).toInt ∧ (g (f j).toNatClampNeg).toInt < M
theorem luC_0 (f g : Nat → Int32) (M : Nat) : luC f g M 0 := fun j h => absurd h (Nat.not_lt_zero _)
theorem luC_s {f g : Nat → Int32} {M r : Nat} {x : Int32} (h : luC f g M r) (hx : x.toInt = r) (hr : r < M) : luC f (upd g (f r).toNatClampNeg x) M (r + 1) := by
  intro j hj
  by_cases q : (f j).toNatClampNeg = (f r).toNatClampNeg
  · rw [q, show upd g (f r).toNatClampNeg x (f r).toNatClampNeg = x from if_pos rfl]
    omega
  · rw [show upd g (f r).toNatClampNeg x (f j).toNatClampNeg = g (f j).toNatClampNeg from if_neg q]
    refine h j ?_
    have : j ≠ r := fun e => q (by rw [e])
    omega
theorem luC_all {f g : Nat → Int32} {M : Nat} (h : luC f g M M) (ha : luA f M) (i : Nat) (hi : i < M) : 0 ≤ (g i).toInt ∧ (g i).toInt < M := by
  obtain ⟨j, h1, h2⟩ := ha.2 i hi
  have h3 := h j h1
  have h4 : (f j).toNatClampNeg = i := by
    have := ix_nat (i := f j) (by omega)
    omega
  rw [h4] at h3
  exact h3
theorem wf_ne {z : Zt} {gk gh : Gh} (hk : ∀ a k, k ≠ 48 → k ≠ 49 → gk.1 a k = gh.1 a k) (h : wf z gh) : wf z gk := by
  refine ⟨fun b o hb => ?_, fun b o hb => ?_, h.2.2⟩
  · have h1 := h.1 b o hb
    unfold wfF at h1 ⊢
    rw [hk b 0 (by decide) (by decide), hk b 1 (by decide) (by decide), hk b 2 (by decide) (by decide)]; exact h1
  · have h1 := h.2.1 b o hb
    unfold wfM at h1 ⊢
    rw [hk b 41 (by decide) (by decide), hk b 42 (by decide) (by decide), hk b 43 (by decide) (by decide), hk b 44 (by decide) (by decide), hk b 45 (by decide) (by decide), hk b 46 (by decide) (by decide), hk b 47 (by decide) (by decide)]; exact h1
theorem vis_ne {z : Zt} {gk gh : Gh} {v : Nat → Nat → Int} (hk : ∀ a k, k ≠ 48 → k ≠ 49 → gk.1 a k = gh.1 a k) (h : vis z gh v) : vis z gk v := fun a k hv => (hk a k (fun q => by subst q; simp [vsb] at hv) (fun q => by subst q; simp [vsb] at hv)).trans (h a k hv)
