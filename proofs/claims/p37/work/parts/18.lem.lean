theorem b59_z {B t B' t' : Int} {i : Nat} {x : Int} (h : b59 B t i x) (ht : t' ≤ 0) : b59 B' t' i x :=
  ⟨h.1, fun q => ⟨(h.2.1 q).1, (h.2.1 q).2.1, fun a => absurd a (by omega)⟩, h.2.2⟩
theorem d59_b {B t : Int} {i : Nat} {x : Int} (h : d59 i x) : b59 B t i x :=
  ⟨h.1, fun q => by have h2 := h.2.1 q; exact ⟨by omega, by omega, fun _ _ => by omega⟩, h.2.2⟩
theorem p40_z {go go' : Nat → Int} (h1 : go' 43 ≤ 0) (h2 : go' 46 ≤ 0) (h3 : go' 47 ≤ 0) : ∀ i y, p40 go i y → p40 go' i y :=
  fun i y h => ⟨fun a => b59_z (h.1 a) h1, fun a b => b59_z (h.2.1 a b) h2, fun a => b59_z (h.2.2 a) h3⟩
theorem p40_w {go go' : Nat → Int} (h0 : go' 42 = go 42) (h1 : go' 43 = go 43 ∨ go' 43 ≤ 0) (h2 : go' 46 = go 46 ∨ go' 46 ≤ 0) (h3 : go' 47 = go 47 ∨ go' 47 ≤ 0) : ∀ i y, p40 go i y → p40 go' i y :=
  fun i y h => ⟨fun a => b59_tr (h.1 a) h0.symm (fun q => by omega), fun a b => b59_tr (h.2.1 a b) h0.symm (fun q => by omega), fun a => b59_tr (h.2.2 a) h0.symm (fun q => by omega)⟩
theorem gs_or (gh : Gh) (a j : Nat) (v : Int) {b k : Nat} (h : b ≠ a ∨ k ≠ j) : (gs gh a j v).1 b k = gh.1 b k := by
  rcases h with h | h
  · exact gs_na gh a j v h
  · exact gs_nk gh a j v h
theorem kd_0 {z : Zt} {A : Nat → Prop} {gh : Gh} {H : Heap} {o : Nat} {B : Int} (hT : TY z A gh H) : ∃ g : Gh, g.1 o 42 = B ∧ g.1 o 43 = 0 ∧ g.1 o 46 = 0 ∧ g.1 o 47 = 0 ∧ (∀ a k, (a ≠ o ∨ k < 41 ∨ 47 < k) → g.1 a k = gh.1 a k) ∧ TY z A g H := by
  have h1 := gw_40 (o := o) (j := 43) (v := 0) hT (by omega) (p40_w (gs_nk _ _ _ _ (by decide)) (Or.inr (by rw [gs_at]; omega)) (Or.inl (gs_nk _ _ _ _ (by decide))) (Or.inl (gs_nk _ _ _ _ (by decide))))
  have h2 := gw_40 (o := o) (j := 46) (v := 0) h1 (by omega) (p40_w (gs_nk _ _ _ _ (by decide)) (Or.inl (gs_nk _ _ _ _ (by decide))) (Or.inr (by rw [gs_at]; omega)) (Or.inl (gs_nk _ _ _ _ (by decide))))
  have h3 := gw_40 (o := o) (j := 47) (v := 0) h2 (by omega) (p40_w (gs_nk _ _ _ _ (by decide)) (Or.inl (gs_nk _ _ _ _ (by decide))) (Or.inl (gs_nk _ _ _ _ (by decide))) (Or.inr (by rw [gs_at]; omega)))
  have h4 := gw_40 (o := o) (j := 42) (v := B) h3 (by omega) (p40_z (by rw [gs_nk _ _ _ _ (by decide), gs_nk _ _ _ _ (by decide), gs_nk _ _ _ _ (by decide), gs_at]; omega) (by rw [gs_nk _ _ _ _ (by decide), gs_nk _ _ _ _ (by decide), gs_at]; omega) (by rw [gs_nk _ _ _ _ (by decide), gs_at]; omega))
  refine ⟨_, ?_, ?_, ?_, ?_, ?_, h4⟩
  · rw [gs_at]
  · rw [gs_nk _ _ _ _ (by decide), gs_nk _ _ _ _ (by decide), gs_nk _ _ _ _ (by decide), gs_at]
  · rw [gs_nk _ _ _ _ (by decide), gs_nk _ _ _ _ (by decide), gs_at]
  · rw [gs_nk _ _ _ _ (by decide), gs_at]
  · intro a k h
    rw [gs_or _ _ _ _ (by omega), gs_or _ _ _ _ (by omega), gs_or _ _ _ _ (by omega), gs_or _ _ _ _ (by omega)]
theorem p40_s43 {g : Gh} {o n : Nat} {v : Int} (h : g.1 o 43 = n) (hv : v = n + 1) : ∀ k y, k ≠ n → p40 (g.1 o) k y → p40 ((gs g o 43 v).1 o) k y := by
  intro k y hk hp
  refine ⟨fun a => ?_, fun a b => ?_, fun a => ?_⟩
  · rw [gs_at, gs_nk _ _ _ _ (by decide)]; exact b59_tr (hp.1 a) rfl (fun q => by omega)
  · rw [gs_nk _ _ _ _ (by decide), gs_nk _ _ _ _ (by decide)]; exact hp.2.1 a b
  · rw [gs_nk _ _ _ _ (by decide), gs_nk _ _ _ _ (by decide)]; exact hp.2.2 a
def cpj (b j : Nat) : Prop := (b = 59 ∧ j = 46) ∨ (b = 118 ∧ j = 47)
theorem p40_mj {go : Nat → Int} {i b j : Nat} {x : Int} (hj : cpj b j) (h1 : b ≤ i) (h2 : i < b + 59) (h : b59 (go 42) (go j) (i - b) x) : p40 go i x := by
  rcases hj with ⟨rfl, rfl⟩ | ⟨rfl, rfl⟩
  · exact ⟨fun a => absurd a (by omega), fun _ _ => h, fun a => absurd a (by omega)⟩
  · exact ⟨fun a => absurd a (by omega), fun a c => absurd c (by omega), fun _ => h⟩
theorem p40_ej {go : Nat → Int} {i b j : Nat} {x : Int} (hj : cpj b j) (h1 : b ≤ i) (h2 : i < b + 59) (h : p40 go i x) : b59 (go 42) (go j) (i - b) x := by
  rcases hj with ⟨rfl, rfl⟩ | ⟨rfl, rfl⟩
  · exact h.2.1 h1 (by omega)
  · exact h.2.2 h1
theorem p40_sj {g : Gh} {o n b j : Nat} {v : Int} (hj : cpj b j) (h : g.1 o j = n) (hv : v = n + 1) : ∀ k y, k ≠ b + n → p40 (g.1 o) k y → p40 ((gs g o j v).1 o) k y := by
  intro k y hk hp
  rcases hj with ⟨rfl, rfl⟩ | ⟨rfl, rfl⟩
  · refine ⟨fun a => ?_, fun a b => ?_, fun a => ?_⟩
    · rw [gs_nk _ _ _ _ (by decide), gs_nk _ _ _ _ (by decide)]; exact hp.1 a
    · rw [gs_at, gs_nk _ _ _ _ (by decide)]; exact b59_tr (hp.2.1 a b) rfl (fun q => by omega)
    · rw [gs_nk _ _ _ _ (by decide), gs_nk _ _ _ _ (by decide)]; exact hp.2.2 a
  · refine ⟨fun a => ?_, fun a b => ?_, fun a => ?_⟩
    · rw [gs_nk _ _ _ _ (by decide), gs_nk _ _ _ _ (by decide)]; exact hp.1 a
    · rw [gs_nk _ _ _ _ (by decide), gs_nk _ _ _ _ (by decide)]; exact hp.2.1 a b
    · rw [gs_at, gs_nk _ _ _ _ (by decide)]; exact b59_tr (hp.2.2 a) rfl (fun q => by omega)
theorem cp_0 {z : Zt} {A : Nat → Prop} {gh : Gh} {H : Heap} {o j : Nat} (hj : j = 46 ∨ j = 47) (hT : TY z A gh H) : ∃ g : Gh, g.1 o j = 0 ∧ (∀ a k, (a ≠ o ∨ k ≠ j) → g.1 a k = gh.1 a k) ∧ TY z A g H := by
  refine ⟨gs gh o j 0, gs_at _ _ _ _, fun a k h => gs_or _ _ _ _ h, ?_⟩
  rcases hj with rfl | rfl
  · exact gw_40 (o := o) (j := 46) (v := 0) hT (by omega) (p40_w (gs_nk _ _ _ _ (by decide)) (Or.inl (gs_nk _ _ _ _ (by decide))) (Or.inr (by rw [gs_at]; omega)) (Or.inl (gs_nk _ _ _ _ (by decide))))
  · exact gw_40 (o := o) (j := 47) (v := 0) hT (by omega) (p40_w (gs_nk _ _ _ _ (by decide)) (Or.inl (gs_nk _ _ _ _ (by decide))) (Or.inl (gs_nk _ _ _ _ (by decide))) (Or.inr (by rw [gs_at]; omega)))
theorem p42_w {gh : Gh} {o j k : Nat} {v x : Int} (hj : (k = 0 ∧ j = 44) ∨ (k = 1 ∧ j = 45)) (h0 : 0 ≤ x) (h1 : x ≤ 1) (hx : x = v) : p42 ((gs gh o j v).1 o) k x := by
  rcases hj with ⟨rfl, rfl⟩ | ⟨rfl, rfl⟩
  · exact ⟨h0, h1, fun _ => by rw [gs_at]; exact hx, fun q => absurd q (by decide)⟩
  · exact ⟨h0, h1, fun q => absurd q (by decide), fun _ => by rw [gs_at]; exact hx⟩
theorem p42_s {gh : Gh} {o j k : Nat} {v : Int} (hj : (k = 0 ∧ j = 44) ∨ (k = 1 ∧ j = 45)) : ∀ k2 y, k2 ≠ k → p42 (gh.1 o) k2 y → p42 ((gs gh o j v).1 o) k2 y := by
  intro k2 y hk hp
  rcases hj with ⟨rfl, rfl⟩ | ⟨rfl, rfl⟩
  · exact ⟨hp.1, hp.2.1, fun q => absurd q hk, fun q => by rw [gs_nk _ _ _ _ (by decide)]; exact hp.2.2.2 q⟩
  · exact ⟨hp.1, hp.2.1, fun q => by rw [gs_nk _ _ _ _ (by decide)]; exact hp.2.2.1 q, fun q => absurd q hk⟩
theorem vsb_4 {n k : Nat} (h : vsb n k = true) : k ≠ 41 ∧ k ≠ 42 ∧ k ≠ 43 ∧ k ≠ 44 ∧ k ≠ 45 ∧ k ≠ 46 ∧ k ≠ 47 ∧ k ≠ 48 ∧ k ≠ 49 ∧ k ≠ 50 ∧ k ≠ 51 := by
  refine ⟨?_, ?_, ?_, ?_, ?_, ?_, ?_, ?_, ?_, ?_, ?_⟩ <;> (intro q; subst q; simp [vsb] at h)
theorem wf_kp {z : Zt} {gh g1 g2 : Gh} {o oo j j2 : Nat} (hwf : wf z gh) (ho : zG z o = (17, oo)) (hj : (j = 46 ∧ j2 = 44) ∨ (j = 47 ∧ j2 = 45)) (h1 : ∀ b k, (b ≠ o ∨ k ≠ j2) → g1.1 b k = gh.1 b k) (h2 : ∀ b k, (b ≠ o ∨ k ≠ j) → g2.1 b k = g1.1 b k) (h3 : 59 ≤ g2.1 o j) : wf z g2 := by
  have e : ∀ b k, (b ≠ o ∨ (k ≠ j ∧ k ≠ j2)) → g2.1 b k = gh.1 b k := fun b k q => (h2 b k (by omega)).trans (h1 b k (by omega))
  refine ⟨fun a o1 ha => ?_, fun a o1 ha => ?_, hwf.2.2⟩
  · have hn : a ≠ o := ro_ne ha ho (by decide)
    rw [fn_eq (g := gh.1) (f := o) (fun b k q => e b k (Or.inl q)) hn]
    exact hwf.1 a o1 ha
  · by_cases hn : a = o
    · subst hn
      have h := hwf.2.1 a o1 ha
      have e2 := e a
      unfold wfM at h ⊢
      rcases hj with ⟨rfl, rfl⟩ | ⟨rfl, rfl⟩
      · rw [e2 41 (by omega), e2 42 (by omega), e2 43 (by omega), e2 45 (by omega), e2 47 (by omega)]
        exact ⟨h.1, h.2.1, h.2.2.1, h.2.2.2.1, fun _ => h3, h.2.2.2.2.2⟩
      · rw [e2 41 (by omega), e2 42 (by omega), e2 43 (by omega), e2 44 (by omega), e2 46 (by omega)]
        exact ⟨h.1, h.2.1, h.2.2.1, h.2.2.2.1, h.2.2.2.2.1, fun _ => h3⟩
    · rw [fn_eq (g := gh.1) (f := o) (fun b k q => e b k (Or.inl q)) hn]
      exact hwf.2.1 a o1 ha
theorem vis_kp {z : Zt} {gh g1 g2 : Gh} {v : Nat → Nat → Int} {o j j2 : Nat} (h : vis z gh v) (hj : (j = 46 ∧ j2 = 44) ∨ (j = 47 ∧ j2 = 45)) (h1 : ∀ b k, (b ≠ o ∨ k ≠ j2) → g1.1 b k = gh.1 b k) (h2 : ∀ b k, (b ≠ o ∨ k ≠ j) → g2.1 b k = g1.1 b k) : vis z g2 v := by
  intro a k hk
  have q := vsb_4 hk
  rw [h2 a k (by omega), h1 a k (by omega)]
  exact h a k hk
theorem wf_kd {z : Zt} {gh g2 : Gh} {o oo : Nat} (hwf : wf z gh) (ho : zG z o = (17, oo)) (h1 : ∀ b k, (b ≠ o ∨ k < 41 ∨ 47 < k) → g2.1 b k = gh.1 b k) (h3 : wfM (g2.1 o)) : wf z g2 := by
  refine ⟨fun a o1 ha => ?_, fun a o1 ha => ?_, hwf.2.2⟩
  · have hn : a ≠ o := ro_ne ha ho (by decide)
    rw [fn_eq (g := gh.1) (f := o) (fun b k q => h1 b k (Or.inl q)) hn]
    exact hwf.1 a o1 ha
  · by_cases hn : a = o
    · subst hn
      exact h3
    · rw [fn_eq (g := gh.1) (f := o) (fun b k q => h1 b k (Or.inl q)) hn]
      exact hwf.2.1 a o1 ha
theorem vis_kd {z : Zt} {gh g2 : Gh} {v : Nat → Nat → Int} {o : Nat} (h : vis z gh v) (h1 : ∀ b k, (b ≠ o ∨ k < 41 ∨ 47 < k) → g2.1 b k = gh.1 b k) : vis z g2 v := by
  intro a k hk
  have q := vsb_4 hk
  rw [h1 a k (by omega)]
  exact h a k hk
theorem p47_w {gh : Gh} {o k : Nat} {v x : Int} (h0 : -4 ≤ x) (h1 : x ≤ 2) (hx : x = v) : p47 ((gs gh o (60 + k) v).1 o) k x := ⟨h0, h1, by rw [gs_at]; exact hx⟩
theorem p47_s {gh : Gh} {o k : Nat} {v : Int} : ∀ k2 y, k2 ≠ k → p47 (gh.1 o) k2 y → p47 ((gs gh o (60 + k) v).1 o) k2 y := fun k2 y hk hp => ⟨hp.1, hp.2.1, by rw [gs_nk _ _ _ _ (by omega)]; exact hp.2.2⟩
theorem p48_w {gh : Gh} {o k : Nat} {v x : Int} (h0 : 0 ≤ x) (h1 : x ≤ 40) (hx : x = v) : p48 ((gs gh o (64 + k) v).1 o) k x := ⟨h0, h1, by rw [gs_at]; exact hx⟩
theorem p48_s {gh : Gh} {o k : Nat} {v : Int} : ∀ k2 y, k2 ≠ k → p48 (gh.1 o) k2 y → p48 ((gs gh o (64 + k) v).1 o) k2 y := fun k2 y hk hp => ⟨hp.1, hp.2.1, by rw [gs_nk _ _ _ _ (by omega)]; exact hp.2.2⟩
def vMs (v : Nat → Nat → Int) (f k : Nat) (x y : Int) : Nat → Nat → Int := fun a q => if a = f ∧ q = 64 + k then y else if a = f ∧ q = 60 + k then x else v a q
theorem vis_ms {z : Zt} {gh : Gh} {v : Nat → Nat → Int} {f k : Nat} {x y : Int} (h : vis z gh v) : vis z (gs (gs gh f (60 + k) x) f (64 + k) y) (vMs v f k x y) := by
  intro a q hq
  unfold vMs gs
  by_cases h1 : a = f ∧ q = 64 + k
  · simp only [h1, if_true, and_self]
  · simp only [h1, if_false]
    by_cases h2 : a = f ∧ q = 60 + k
    · simp only [h2, if_true, and_self]
    · simp only [h2, if_false]
      exact h a q hq
theorem wf_ms {z : Zt} {gh : Gh} {f k : Nat} {x y : Int} (hk : k < 4) (h : wf z gh) : wf z (gs (gs gh f (60 + k) x) f (64 + k) y) := by
  have hk2 : k = 0 ∨ k = 1 ∨ k = 2 ∨ k = 3 := by omega
  rcases hk2 with rfl | rfl | rfl | rfl <;> exact wf_gs rfl (wf_gs rfl h)
def lyr4 (k i lane len r : Int) : Prop := ((k < 0 ∨ 3 < k) → r = -1) ∧ (0 ≤ k → k ≤ 3 → lane = -4 → r = -11) ∧ (0 ≤ k → k ≤ 3 → lane ≠ -4 → (i < 0 ∨ len ≤ i) → r = -12) ∧ (0 ≤ k → k ≤ 3 → lane ≠ -4 → 0 ≤ i → i < len → r = 1)
theorem p50_z {go go' : Nat → Int} (h1 : go' 51 ≤ 0) : ∀ i y, p50 go i y → p50 go' i y := fun i y h => b59_z h h1
theorem hd_0 {z : Zt} {gh : Gh} {v : Nat → Nat → Int} {H : Heap} {o : Nat} (hwf : wf z gh) (hvis : vis z gh v) (hT : TY z (zA z) gh H) : ∃ g : Gh, wf z g ∧ vis z g v ∧ g.1 o 50 = g.1 o 42 ∧ g.1 o 51 = 0 ∧ TY z (zA z) g H := by
  have h1 := gw_50 (o := o) (j := 51) (v := 0) hT (by omega) (p50_z (by rw [gs_at]; omega))
  have h2 := gw_50 (o := o) (j := 50) (v := gh.1 o 42) h1 (by omega) (p50_z (by rw [gs_nk _ _ _ _ (by decide), gs_at]; omega))
  refine ⟨_, wf_gs rfl (wf_gs rfl hwf), vis_gs ?_ (vis_gs ?_ hvis), ?_, ?_, h2⟩
  · intro n; simp [vsb]
  · intro n; simp [vsb]
  · rw [gs_at, gs_nk _ _ _ _ (by decide), gs_nk _ _ _ _ (by decide)]
  · rw [gs_nk _ _ _ _ (by decide), gs_at]
theorem p50_s {g : Gh} {o n : Nat} {v : Int} (h : g.1 o 51 = n) (hv : v = n + 1) : ∀ k y, k ≠ n → p50 (g.1 o) k y → p50 ((gs g o 51 v).1 o) k y := by
  intro k y hk hp
  show b59 _ _ _ _
  rw [gs_at, gs_nk _ _ _ _ (by decide)]
  exact b59_tr hp rfl (fun q => by omega)
theorem p50_w {g : Gh} {o n : Nat} {v x : Int} (hv : v = n + 1) (h : b59 (g.1 o 42) (g.1 o 43) n x) (hB : g.1 o 42 = g.1 o 50) (ht : 59 ≤ g.1 o 43) (hn : n < 59) : p50 ((gs g o 51 v).1 o) n x := by
  show b59 _ _ _ _
  rw [gs_at, gs_nk _ _ _ _ (by decide)]
  exact b59_tr h hB (fun q => by omega)
theorem hd_1 {z : Zt} {gh : Gh} {v : Nat → Nat → Int} {H : Heap} {o : Nat} {x : Int} (hwf : wf z gh) (hvis : vis z gh v) (h50 : gh.1 o 50 = gh.1 o 42) (hT : TY z (zA z) (gs gh o 51 x) H) : ∃ g : Gh, wf z g ∧ vis z g v ∧ g.1 o 50 = g.1 o 42 ∧ g.1 o 51 = x ∧ TY z (zA z) g H := by
  refine ⟨_, wf_gs rfl hwf, vis_gs ?_ hvis, ?_, ?_, hT⟩
  · intro n; simp [vsb]
  · rw [gs_nk _ _ _ _ (by decide), gs_nk _ _ _ _ (by decide)]; exact h50
  · rw [gs_at]
theorem vis_e {z : Zt} {gh gk : Gh} {v : Nat → Nat → Int} (e : ∀ a k, k ≠ 48 → k ≠ 49 → hid k = false → gk.1 a k = gh.1 a k) (h : vis z gh v) : vis z gk v := by
  intro a k hk
  have q := vsb_4 hk
  rw [e a k (by omega) (by omega) (vsb_hid hk)]
  exact h a k hk
