theorem ro_ne {z : Zt} {a b n m o p : Nat} (ha : zG z a = (n, o)) (hb : zG z b = (m, p)) (h : n ≠ m) : a ≠ b := fun q => h (by rw [q, hb] at ha; exact (congrArg Prod.fst ha).symm)
theorem ty_fl {z : Zt} {A : Nat → Prop} {gh : Gh} {H : Heap} {a o : Nat} (hT : TY z A gh H) (ha : zG z a = (11, o)) : (0 ≤ gh.1 a 0 ∧ gh.1 a 0 ≤ 5) ∧ (∃ q, zG z q = (28, a)) ∧ ∃ q, zG z q = (29, a) := by
  obtain ⟨E, hP, hD, hm, hE⟩ := hT
  have he := hE a (hm a (by rw [ha]; exact Nat.succ_ne_zero _))
  rw [ha] at he
  obtain ⟨q0, q1, q2, q3, q4, q5, q6, q7, x8, x9, h9, f0, f1, f2, f3, f4, f5, f6, f7, f8, f9⟩ : eFloor z (gh.1 a) (11, o) a (E a) := he
  exact ⟨by omega, ⟨q6, f6⟩, ⟨q7, f7⟩⟩
def wfx (z : Zt) (gh : Gh) (f : Nat) : Prop := (∀ a o, zG z a = (11, o) → a ≠ f → wfF (gh.1 a)) ∧ (∀ a o, zG z a = (17, o) → wfM (gh.1 a)) ∧ zu z
theorem fn_eq {g g' : Nat → Nat → Int} {b f : Nat} (h : ∀ b k, b ≠ f → g' b k = g b k) (hb : b ≠ f) : g' b = g b := by
  funext k; exact h b k hb
theorem wfx_of {z : Zt} {gh g' : Gh} {f o : Nat} (h : wf z gh) (hf : zG z f = (11, o)) (he : ∀ b k, b ≠ f → g'.1 b k = gh.1 b k) : wfx z g' f :=
  ⟨fun a o1 ha hn => by rw [fn_eq he hn]; exact h.1 a o1 ha, fun a o1 ha => by rw [fn_eq he (ro_ne ha hf (by decide))]; exact h.2.1 a o1 ha, h.2.2⟩
theorem wfx_tr {z : Zt} {gh g' : Gh} {f o : Nat} (h : wfx z gh f) (hf : zG z f = (11, o)) (he : ∀ b k, b ≠ f → g'.1 b k = gh.1 b k) : wfx z g' f :=
  ⟨fun a o1 ha hn => by rw [fn_eq he hn]; exact h.1 a o1 ha hn, fun a o1 ha => by rw [fn_eq he (ro_ne ha hf (by decide))]; exact h.2.1 a o1 ha, h.2.2⟩
theorem wf_x {z : Zt} {gh : Gh} {f : Nat} (h : wfx z gh f) (hf : wfF (gh.1 f)) : wf z gh :=
  ⟨fun a o ha => by
    by_cases q : a = f
    · rw [q]; exact hf
    · exact h.1 a o ha q, h.2.1, h.2.2⟩
theorem vis_fl {z : Zt} {gh g' : Gh} {v : Nat → Nat → Int} {f o : Nat} (h : vis z gh v) (hf : zG z f = (11, o)) (he : ∀ b k, b ≠ f → g'.1 b k = gh.1 b k) : vis z g' v := by
  intro a k hk
  by_cases q : a = f
  · rw [q, hf] at hk
    simp [vsb] at hk
  · rw [he a k q]
    exact h a k hk
theorem gs_n1 (gh : Gh) (a j : Nat) (v : Int) : ∀ b k, b ≠ a → (gs gh a j v).1 b k = gh.1 b k := fun b k hb => gs_na gh a j v hb
theorem p27_0 {go go' : Nat → Int} (h : go' 1 ≤ 0) : ∀ i y, p27 go i y → p27 go' i y := by
  intro i y hp
  unfold p27 at hp ⊢
  omega
theorem p27_b {go go' : Nat → Int} (h1 : go' 1 ≤ go 1) (h2 : go 2 ≤ go' 2) : ∀ i y, p27 go i y → p27 go' i y := by
  intro i y hp
  unfold p27 at hp ⊢
  omega
theorem ty_sh {z : Zt} {A : Nat → Prop} {gh : Gh} {H : Heap} {a o : Nat} (hT : TY z A gh H) (ha : zG z a = (13, o)) : (-1 ≤ gh.1 a 34 ∧ gh.1 a 34 ≤ 2) ∧ (0 ≤ gh.1 a 35 ∧ gh.1 a 35 ≤ 40) := by
  obtain ⟨E, hP, hD, hm, hE⟩ := hT
  have he := hE a (hm a (by rw [ha]; exact Nat.succ_ne_zero _))
  rw [ha] at he
  obtain ⟨q0, x1, x2, h9, f0, f1, f2⟩ : eSheet z (gh.1 a) (13, o) a (E a) := he
  exact ⟨by omega, by omega⟩
theorem ty_tp {z : Zt} {A : Nat → Prop} {gh : Gh} {H : Heap} {a o : Nat} (hT : TY z A gh H) (ha : zG z a = (14, o)) : (0 ≤ gh.1 a 30 ∧ gh.1 a 30 ≤ 160) ∧ (0 ≤ gh.1 a 31 ∧ gh.1 a 31 ≤ 160) ∧ (0 ≤ gh.1 a 32 ∧ gh.1 a 32 ≤ 4) ∧ (0 ≤ gh.1 a 33 ∧ gh.1 a 33 ≤ 160) := by
  obtain ⟨E, hP, hD, hm, hE⟩ := hT
  have he := hE a (hm a (by rw [ha]; exact Nat.succ_ne_zero _))
  rw [ha] at he
  obtain ⟨q0, q1, x2, x3, x4, x5, x6, x7, x8, x9, h9, f0, f1, f2, f3, f4, f5, f6, f7, f8, f9⟩ : eTape z (gh.1 a) (14, o) a (E a) := he
  exact ⟨by omega, by omega, by omega, by omega⟩
def dgt (z : Zt) (gh : Gh) (f : Nat) : Prop := gh.1 f 32 = 2 → ∀ q, zG z q = (30, f) → ∀ j : Nat, gh.1 f 33 ≤ (j : Int) → (j : Int) < gh.1 f 31 → 48 ≤ (gh.2 q j).toInt ∧ (gh.2 q j).toInt ≤ 57
noncomputable def vT (z : Zt) (v : Nat → Nat → Int) (f : Nat) (t : Int) : Nat → Nat → Int := fun a k => @ite Int (zG z a = (14, f) ∧ k = 30) (Classical.propDecidable _) t (v a k)
theorem vT_at {z : Zt} {v : Nat → Nat → Int} {f : Nat} {t : Int} {a : Nat} (h : zG z a = (14, f)) : vT z v f t a 30 = t := by unfold vT; exact if_pos ⟨h, rfl⟩
theorem vT_ne {z : Zt} {v : Nat → Nat → Int} {f : Nat} {t : Int} {a k : Nat} (h : ¬ (zG z a = (14, f) ∧ k = 30)) : vT z v f t a k = v a k := by unfold vT; exact if_neg h
theorem vis_t0 {z : Zt} {gh : Gh} {v : Nat → Nat → Int} {f : Nat} {t : Int} (h : vis z gh v) (hv : ∀ q, zG z q = (14, f) → v q 30 = t) : vis z gh (vT z v f t) := by
  intro a k hk
  rcases Classical.em (zG z a = (14, f) ∧ k = 30) with q | q
  · obtain ⟨q1, rfl⟩ := q
    rw [vT_at q1, h a 30 hk]
    exact hv a q1
  · rw [vT_ne q]
    exact h a k hk
theorem vis_t1 {z : Zt} {gh : Gh} {v : Nat → Nat → Int} {f q : Nat} {x : Int} (h : vis z gh v) (hq : zG z q = (14, f)) (hz : zu z) : vis z (gs gh q 30 x) (vT z v f x) := by
  intro a k hk
  rcases Classical.em (zG z a = (14, f) ∧ k = 30) with p | p
  · obtain ⟨p1, rfl⟩ := p
    rw [vT_at p1, zu_at hz rfl p1 hq, gs_at]
  · rw [vT_ne p]
    have hn : ¬ (a = q ∧ k = 30) := fun e => p ⟨by rw [e.1]; exact hq, e.2⟩
    rw [show (gs gh q 30 x).1 a k = gh.1 a k from if_neg hn]
    exact h a k hk
def ftr (t c r t2 : Int) : Prop := ((c < 0 ∨ 127 < c) → r = -1 ∧ t2 = t) ∧ (0 ≤ c → c ≤ 127 → 160 ≤ t → r = -3 ∧ t2 = t) ∧ (0 ≤ c → c ≤ 127 → t < 160 → r = t + 1 ∧ t2 = t + 1)
def etr (t n r t2 : Int) : Prop := ((n < 0 ∨ t < n) → r = -1 ∧ t2 = t) ∧ (0 ≤ n → n ≤ t → r = t ∧ t2 = n)
def shr (k lane n r : Int) : Prop := ((k < 0 ∨ 3 < k ∨ lane < 0 ∨ 2 < lane ∨ 40 < n) → r = -1) ∧ (0 ≤ k → k ≤ 3 → 0 ≤ lane → lane ≤ 2 → n < 0 → r = -14) ∧ (0 ≤ k → k ≤ 3 → 0 ≤ lane → lane ≤ 2 → 0 ≤ n → n ≤ 40 → r = 1)
def lyr (k i lane len r : Int) : Prop := ((k < 0 ∨ 3 < k) → r = -1) ∧ (0 ≤ k → k ≤ 3 → lane = -1 → r = -11) ∧ (0 ≤ k → k ≤ 3 → lane ≠ -1 → (i < 0 ∨ len ≤ i) → r = -12) ∧ (0 ≤ k → k ≤ 3 → lane ≠ -1 → 0 ≤ i → i < len → r = 1)
def vSa (v : Nat → Nat → Int) (a : Nat) (lane len : Int) : Nat → Nat → Int := fun b k => if b = a ∧ k = 34 then lane else if b = a ∧ k = 35 then len else v b k
theorem vis_s {z : Zt} {gh : Gh} {v : Nat → Nat → Int} {a : Nat} {x y : Int} (h : vis z gh v) : vis z (gs (gs gh a 34 x) a 35 y) (vSa v a x y) := by
  intro b k hk
  unfold vSa gs
  by_cases h1 : b = a ∧ k = 34
  · obtain ⟨rfl, rfl⟩ := h1
    simp
  · by_cases h2 : b = a ∧ k = 35
    · obtain ⟨rfl, rfl⟩ := h2
      simp
    · simp only [h1, h2, if_false]
      exact h b k hk
def vM (v : Nat → Nat → Int) (f : Nat) (t : Int) : Nat → Nat → Int := fun a k => if a = f ∧ k = 40 then t else v a k
theorem vis_m0 {z : Zt} {gh : Gh} {v : Nat → Nat → Int} {f : Nat} {t : Int} (h : vis z gh v) (hv : v f 40 = t) : vis z gh (vM v f t) := by
  intro a k hk
  unfold vM
  by_cases q : a = f ∧ k = 40
  · obtain ⟨rfl, rfl⟩ := q
    rw [if_pos ⟨rfl, rfl⟩, h a 40 hk]
    exact hv
  · rw [if_neg q]
    exact h a k hk
theorem vis_m1 {z : Zt} {gh : Gh} {v : Nat → Nat → Int} {f : Nat} {x : Int} (h : vis z gh v) : vis z (gs gh f 40 x) (vM v f x) := by
  intro a k hk
  unfold vM gs
  by_cases q : a = f ∧ k = 40
  · simp only [q, if_true, and_self]
  · simp only [q, if_false]
    exact h a k hk
