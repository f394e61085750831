theorem i00 {α : Type} (a b : α) : (if (0 : Int) = 0 then a else b) = a := if_pos rfl
theorem i10 {α : Type} (a b : α) : (if (1 : Int) = 0 then a else b) = b := if_neg (by decide)
theorem FF_inj {N : Nat} {φ : Lo} {μ : Nat → Int} (h : FF N φ μ) {a b : Nat} (ha : a < N) (hb : b < N) (hn : a ≠ b) : φ 27 a ≠ φ 27 b := by
  by_cases q : a < b
  · exact h.2.2.2.2 a b q hb
  · exact fun e => h.2.2.2.2 b a (by omega) ha e.symm
theorem cl_swap {N : Nat} {σ : Sg} (h : rlS N σ) (p1 p2 : Int) : CS σ (D_X6_swap σ p1 p2) (D_X7_swap (σ 13) p1 p2) := by
  obtain ⟨n1, n2, n5⟩ := rlS_N h
  by_cases h1 : 0 ≤ p1 ∧ p1 < N
  · by_cases h2 : 0 ≤ p2 ∧ p2 < N
    · by_cases h3 : p1 = p2
      · refine CS_same h (-1) ?_ ?_
        · simp only [D_X6_swap.eq_1, bd0_e, bnd_e, D_nob0 n1 h1, D_nob0 n1 h2, if_true, i10]
          rw [if_pos h3]
        · simp only [D_X7_swap.eq_1, bd0_e, bnd_e, D_one1 n2 h1, D_one1 n2 h2, if_true, i10]
          rw [if_pos h3]
      · obtain ⟨w, hw, rfl⟩ := nat_of h1.1 h1.2
        obtain ⟨u, hu, rfl⟩ := nat_of h2.1 h2.2
        have hwu : w ≠ u := by omega
        have hF := h.1.2.1
        have q := hF.2.1
        have r := hF.2.2.2.1
        have eu := (q u hu).2.2.2.2
        have ew := (q w hw).2.2.2.2
        have ru := (r u hu).2.2.2.2
        have rw' := (r w hw).2.2.2.2
        have e1 : D_X6_swap σ w u = some (σ 1 27 u, gset σ 1 (wrl (wrl (σ 1) 27 w (σ 1 27 u)) 27 u (σ 1 27 w))) := by
          simp only [D_X6_swap.eq_1, bd0_e, bnd_e, bns_e, D_nob0 n1 h1, D_nob0 n1 h2, if_true, i10, tn]
          rw [if_neg h3, wr_0 σ, wr_g, gset_at, wrl_r, up1_ne _ _ hwu, wrl_r, up1_at]
        have e2 : D_X7_swap (σ 13) w u = some (σ 1 27 u, wrl (wrl (σ 13) 40 (20 + w) (σ 1 27 u)) 40 (20 + u) (σ 1 27 w)) := by
          simp only [D_X7_swap.eq_1, D_X7_becomes.eq_1, bd0_e, bnd_e, bns_e, D_one1 n2 h1, D_one1 n2 h2, if_true, i10]
          rw [if_neg h3, show (20 + (w : Int)).toNat = 20 + w by omega, show (20 + (u : Int)).toNat = 20 + u by omega, ← eu, ← ew, chk_e (GD_w (M := σ 13) (by omega) (gd59_m20 (by omega) (by omega) ⟨by omega, by omega⟩))]
          simp only [bd2_e]
          rw [chk_e (GD_w (M := σ 13) (by omega) (gd59_m20 (by omega) (by omega) ⟨by omega, by omega⟩)), wrl_r, up1_ne _ _ (by omega), wrl_r, up1_at]
        refine ⟨_, _, _, N, e1, gset_ne _ _ (by decide), e2, rlS_w h ⟨fun r a => by rw [wrl_nr _ _ a, wrl_nr _ _ a], fun i hi => by rw [wrl_ni _ _ (by omega), wrl_ni _ _ (by omega)]⟩ ?_ ?_⟩
        · have new : ∀ m, m < N → ∃ t, t < N ∧ wrl (wrl (σ 1) 27 w (σ 1 27 u)) 27 u (σ 1 27 w) 27 m = σ 1 27 t ∧ wrl (wrl (σ 13) 40 (20 + w) (σ 1 27 u)) 40 (20 + u) (σ 1 27 w) 40 (20 + m) = σ 1 27 t ∧ ((m = u ∧ t = w) ∨ (m = w ∧ t = u) ∨ (m ≠ u ∧ m ≠ w ∧ t = m)) := fun m hm => by
            rw [wrl_r, wrl_r, wrl_r, wrl_r]
            by_cases c1 : m = u
            · exact ⟨w, hw, by rw [c1, up1_at], by rw [c1, up1_at], Or.inl ⟨c1, rfl⟩⟩
            · by_cases c2 : m = w
              · exact ⟨u, hu, by rw [up1_ne _ _ c1, c2, up1_at], by rw [up1_ne _ _ (by omega), c2, up1_at], Or.inr (Or.inl ⟨c2, rfl⟩)⟩
              · exact ⟨m, hm, by rw [up1_ne _ _ c1, up1_ne _ _ c2], by rw [up1_ne _ _ (by omega), up1_ne _ _ (by omega), (q m hm).2.2.2.2], Or.inr (Or.inr ⟨c1, c2, rfl⟩)⟩
          have keep : ∀ r, r ≠ 27 → wrl (wrl (σ 1) 27 w (σ 1 27 u)) 27 u (σ 1 27 w) r = σ 1 r := fun r a => by rw [wrl_nr _ _ a, wrl_nr _ _ a]
          have keep2 : ∀ i, (i < 20 ∨ 25 ≤ i) → wrl (wrl (σ 13) 40 (20 + w) (σ 1 27 u)) 40 (20 + u) (σ 1 27 w) 40 i = σ 13 40 i := fun i a => by rw [wrl_ni _ _ (by omega), wrl_ni _ _ (by omega)]
          refine ⟨⟨by rw [keep 11 (by decide)]; exact n1, n5⟩, fun m hm => ?_, ?_, fun m hm => ?_, fun a b hab hb e => ?_⟩
          · obtain ⟨t, t1, t2, t3, -⟩ := new m hm
            rw [keep 51 (by decide), keep 52 (by decide), keep 53 (by decide), keep 54 (by decide), t2, t3, keep2 _ (by omega), keep2 _ (by omega), keep2 _ (by omega), keep2 _ (by omega)]
            exact ⟨(q m hm).1, (q m hm).2.1, (q m hm).2.2.1, (q m hm).2.2.2.1, rfl⟩
          · rw [keep 11 (by decide), keep2 30 (by omega)]; exact hF.2.2.1
          · obtain ⟨t, t1, t2, t3, -⟩ := new m hm
            rw [keep 51 (by decide), keep 52 (by decide), keep 53 (by decide), keep 54 (by decide), t2]
            exact ⟨(r m hm).1, (r m hm).2.1, (r m hm).2.2.1, (r m hm).2.2.2.1, (r t t1).2.2.2.2⟩
          · obtain ⟨t, t1, t2, t3, t4⟩ := new a (by omega)
            obtain ⟨s, s1, s2, s3, s4⟩ := new b hb
            rw [t2, s2] at e
            by_cases ts : t = s
            · omega
            · exact FF_inj hF t1 s1 ts e
        · refine EE_cg h.1.2.2 (fun w _ => ?_) ?_ (fun i _ => ?_) ?_ (fun i _ => ⟨?_, ?_, ?_⟩) (fun i a b c => by rw [wrl_ni _ _ (by omega), wrl_ni _ _ (by omega)]) <;> rw [wrl_nr _ _ (by decide), wrl_nr _ _ (by decide)]
    · refine CS_same h (-1) ?_ ?_
      · simp only [D_X6_swap.eq_1, bd0_e, bnd_e, D_nob0 n1 h1, D_nob1 n1 h2, if_true, i10]
      · simp only [D_X7_swap.eq_1, bd0_e, bnd_e, D_one1 n2 h1, D_one0 n2 h2, if_true, i10]
  · refine CS_same h (-1) ?_ ?_
    · simp only [D_X6_swap.eq_1, bd0_e, bnd_e, D_nob1 n1 h1, if_true, i10]
    · simp only [D_X7_swap.eq_1, bd0_e, bnd_e, D_one0 n2 h1, if_true, i10]
/-! KIND, HEIGHT, HEELS, HEAT -/
theorem FF_up {N : Nat} {φ : Lo} {μ : Nat → Int} (h : FF N φ μ) {m R j : Nat} {v : Int} (hm : m < N) (hR : (R = 51 ∧ j = 0 ∧ 0 ≤ v ∧ v ≤ 3) ∨ (R = 52 ∧ j = 1 ∧ 0 ≤ v ∧ v ≤ 9) ∨ (R = 53 ∧ j = 2 ∧ 0 ≤ v ∧ v ≤ 9) ∨ (R = 54 ∧ j = 3 ∧ 0 ≤ v ∧ v ≤ 9)) : FF N (wrl φ R m v) (up1 μ (4 * m + j) v) := by
  obtain ⟨⟨h8, h5⟩, hq, hd, hr, hi⟩ := h
  have e11 : wrl φ R m v 11 = φ 11 := wrl_nr _ _ (by omega)
  have e27 : wrl φ R m v 27 = φ 27 := wrl_nr _ _ (by omega)
  have ot : ∀ r, r ≠ R → wrl φ R m v r = φ r := fun r a => wrl_nr _ _ a
  have at' : ∀ i, wrl φ R m v R i = if i = m then v else φ R i := fun i => by rw [wrl_r]; rfl
  refine ⟨⟨by rw [e11]; exact h8, h5⟩, fun i hi2 => ?_, ?_, fun i hi2 => ?_, fun a b hab hb => ?_⟩
  · obtain ⟨q1, q2, q3, q4, q5⟩ := hq i hi2
    rw [e27, up1_ne μ v (show 20 + i ≠ 4 * m + j by omega)]
    rcases hR with ⟨rfl, rfl, -⟩ | ⟨rfl, rfl, -⟩ | ⟨rfl, rfl, -⟩ | ⟨rfl, rfl, -⟩
    · rw [at', ot 52 (by decide), ot 53 (by decide), ot 54 (by decide), up1_ne μ v (show 4 * i + 1 ≠ 4 * m + 0 by omega), up1_ne μ v (show 4 * i + 2 ≠ 4 * m + 0 by omega), up1_ne μ v (show 4 * i + 3 ≠ 4 * m + 0 by omega)]
      by_cases c : i = m
      · rw [if_pos c, c, Nat.add_zero, up1_at]; subst c; exact ⟨rfl, q2, q3, q4, q5⟩
      · rw [if_neg c, up1_ne μ v (by omega)]; exact ⟨q1, q2, q3, q4, q5⟩
    · rw [at', ot 51 (by decide), ot 53 (by decide), ot 54 (by decide), up1_ne μ v (show 4 * i ≠ 4 * m + 1 by omega), up1_ne μ v (show 4 * i + 2 ≠ 4 * m + 1 by omega), up1_ne μ v (show 4 * i + 3 ≠ 4 * m + 1 by omega)]
      by_cases c : i = m
      · rw [if_pos c, c, up1_at]; subst c; exact ⟨q1, rfl, q3, q4, q5⟩
      · rw [if_neg c, up1_ne μ v (by omega)]; exact ⟨q1, q2, q3, q4, q5⟩
    · rw [at', ot 51 (by decide), ot 52 (by decide), ot 54 (by decide), up1_ne μ v (show 4 * i ≠ 4 * m + 2 by omega), up1_ne μ v (show 4 * i + 1 ≠ 4 * m + 2 by omega), up1_ne μ v (show 4 * i + 3 ≠ 4 * m + 2 by omega)]
      by_cases c : i = m
      · rw [if_pos c, c, up1_at]; subst c; exact ⟨q1, q2, rfl, q4, q5⟩
      · rw [if_neg c, up1_ne μ v (by omega)]; exact ⟨q1, q2, q3, q4, q5⟩
    · rw [at', ot 51 (by decide), ot 52 (by decide), ot 53 (by decide), up1_ne μ v (show 4 * i ≠ 4 * m + 3 by omega), up1_ne μ v (show 4 * i + 1 ≠ 4 * m + 3 by omega), up1_ne μ v (show 4 * i + 2 ≠ 4 * m + 3 by omega)]
      by_cases c : i = m
      · rw [if_pos c, c, up1_at]; subst c; exact ⟨q1, q2, q3, rfl, q5⟩
      · rw [if_neg c, up1_ne μ v (by omega)]; exact ⟨q1, q2, q3, q4, q5⟩
  · rw [e11, up1_ne μ v (show 30 ≠ 4 * m + j by omega)]; exact hd
  · obtain ⟨r1, r2, r3, r4, r5⟩ := hr i hi2
    rw [e27]
    rcases hR with ⟨rfl, rfl, b⟩ | ⟨rfl, rfl, b⟩ | ⟨rfl, rfl, b⟩ | ⟨rfl, rfl, b⟩
    · rw [at', ot 52 (by decide), ot 53 (by decide), ot 54 (by decide)]
      refine ⟨?_, r2, r3, r4, r5⟩
      split
      · exact b
      · exact r1
    · rw [at', ot 51 (by decide), ot 53 (by decide), ot 54 (by decide)]
      refine ⟨r1, ?_, r3, r4, r5⟩
      split
      · exact b
      · exact r2
    · rw [at', ot 51 (by decide), ot 52 (by decide), ot 54 (by decide)]
      refine ⟨r1, r2, ?_, r4, r5⟩
      split
      · exact b
      · exact r3
    · rw [at', ot 51 (by decide), ot 52 (by decide), ot 53 (by decide)]
      refine ⟨r1, r2, r3, ?_, r5⟩
      split
      · exact b
      · exact r4
  · rw [e27]; exact hi a b hab hb
theorem cl_alter {N : Nat} {σ : Sg} (h : rlS N σ) (p1 p2 p3 : Int) : CS σ (D_X6_alter σ p1 p2 p3) (D_X7_alter (σ 13) p1 p2 p3) := by
  obtain ⟨n1, n2, n5⟩ := rlS_N h
  by_cases h1 : 0 ≤ p1 ∧ p1 < N
  · by_cases h2 : 0 ≤ p2 ∧ p2 ≤ 3
    · have hi2 := D_in1 h2.1 h2.2
      by_cases h3 : 0 ≤ p3 ∧ p3 ≤ (if p2 = 0 then 3 else 9)
      · obtain ⟨m, hm, rfl⟩ := nat_of h1.1 h1.2
        obtain ⟨j, hj, rfl⟩ := nat_of (b := 4) h2.1 (by omega)
        have q := h.1.2.1.2.1 m hm
        have go : ∀ R : Nat, (R = 51 ∧ j = 0) ∨ (R = 52 ∧ j = 1) ∨ (R = 53 ∧ j = 2) ∨ (R = 54 ∧ j = 3) → D_X6_alter σ m j p3 = some (σ 1 R m, gset σ 1 (wrl (σ 1) R m p3)) → σ 1 R m = σ 13 40 (4 * m + j) → CS σ (D_X6_alter σ m j p3) (D_X7_alter (σ 13) m j p3) := fun R hR e1 eq => by
          have hg : gd177 (4 * m + j) p3 := GD_w (M := σ 13) (by omega) (gd59_m19 (by omega) ⟨h3.1, by have := h3.2; split at this <;> omega⟩)
          have e2 : D_X7_alter (σ 13) m j p3 = some (σ 1 R m, wrl (σ 13) 40 (4 * m + j) p3) := by
            simp only [D_X7_alter.eq_1, D_X7_alter_36.eq_1, D_X7_becomes.eq_1, bd0_e, bnd_e, bns_e, D_one1 n2 h1, hi2, if_true, i10]
            rw [show (4 * (m : Int) + j).toNat = 4 * m + j by omega, eq]
            by_cases c : (j : Int) = 0
            · rw [if_pos c] at h3 ⊢
              rw [D_in1 h3.1 h3.2]
              simp only [bd0_e, if_true, i10]
              rw [chk_e hg]
              simp only [bd2_e]
            · rw [if_neg c] at h3 ⊢
              rw [D_in1 h3.1 h3.2]
              simp only [bd0_e, if_true, i10]
              rw [chk_e hg]
              simp only [bd2_e]
          have hb3 : (0 : Int) ≤ p3 ∧ (j = 0 → p3 ≤ 3) ∧ p3 ≤ 9 := by
            refine ⟨h3.1, fun c => ?_, ?_⟩
            · have := h3.2; rw [if_pos (by omega)] at this; exact this
            · have := h3.2; split at this <;> omega
          refine ⟨_, _, _, N, e1, gset_ne _ _ (by decide), e2, rlS_w h ⟨fun r a => wrl_nr _ _ a, fun i hi => by rw [wrl_ni _ _ (by omega)]⟩ ?_ ?_⟩
          · rw [wrl_r]
            refine FF_up h.1.2.1 hm ?_
            rcases hR with ⟨rfl, rfl⟩ | ⟨rfl, rfl⟩ | ⟨rfl, rfl⟩ | ⟨rfl, rfl⟩
            · exact Or.inl ⟨rfl, rfl, hb3.1, hb3.2.1 rfl⟩
            · exact Or.inr (Or.inl ⟨rfl, rfl, hb3.1, hb3.2.2⟩)
            · exact Or.inr (Or.inr (Or.inl ⟨rfl, rfl, hb3.1, hb3.2.2⟩))
            · exact Or.inr (Or.inr (Or.inr ⟨rfl, rfl, hb3.1, hb3.2.2⟩))
          · refine EE_cg h.1.2.2 (fun w _ => ?_) ?_ (fun i _ => ?_) ?_ (fun i _ => ⟨?_, ?_, ?_⟩) (fun i a b c => by rw [wrl_ni _ _ (by omega)]) <;> rw [wrl_nr _ _ (by omega)]
        have hc : D_X6_alter σ m j p3 = D_X6_alter_29 m j p3 σ (if (j : Int) = 0 then 3 else 9) := by
          simp only [D_X6_alter.eq_1, bd0_e, bnd_e, D_nob0 n1 h1, if_true, i10]
          rw [if_neg (by omega), if_neg (by omega)]
          by_cases c : (j : Int) = 0
          · rw [if_pos c, if_pos c]
          · rw [if_neg c, if_neg c]
        have h29 : ∀ k : Int, ¬ k < p3 → D_X6_alter_29 m j p3 σ k = bd0 (D_X1_rowOf (σ 1) j) (fun r51 => (if r51 = 51 then (bnd (σ 1 51 (m : Int).toNat) (fun x59 => (bns (wr σ 1 51 (m : Int).toNat p3) (fun σ => (some (x59, σ)))))) else (if r51 = 52 then (bnd (σ 1 52 (m : Int).toNat) (fun x59 => (bns (wr σ 1 52 (m : Int).toNat p3) (fun σ => (some (x59, σ)))))) else (if r51 = 53 then (bnd (σ 1 53 (m : Int).toNat) (fun x59 => (bns (wr σ 1 53 (m : Int).toNat p3) (fun σ => (some (x59, σ)))))) else (if r51 = 54 then (bnd (σ 1 54 (m : Int).toNat) (fun x59 => (bns (wr σ 1 54 (m : Int).toNat p3) (fun σ => (some (x59, σ)))))) else none))))) := fun k hk => by
          rw [D_X6_alter_29.eq_1, if_neg (by omega), if_neg hk]
        rcases (show j = 0 ∨ j = 1 ∨ j = 2 ∨ j = 3 by omega) with rfl | rfl | rfl | rfl
        · refine go 51 (Or.inl ⟨rfl, rfl⟩) ?_ q.1
          rw [hc, h29 _ (by have := h3.2; omega), D_X1_rowOf.eq_1, if_pos (by decide)]
          simp only [bd0_e, bnd_e, bns_e, if_true]
          rfl
        · refine go 52 (Or.inr (Or.inl ⟨rfl, rfl⟩)) ?_ q.2.1
          rw [hc, h29 _ (by have := h3.2; omega), D_X1_rowOf.eq_1, if_neg (by decide), if_pos (by decide)]
          simp only [bd0_e, bnd_e, bns_e, if_true]
          rw [if_neg (by decide)]; rfl
        · refine go 53 (Or.inr (Or.inr (Or.inl ⟨rfl, rfl⟩))) ?_ q.2.2.1
          rw [hc, h29 _ (by have := h3.2; omega), D_X1_rowOf.eq_1, if_neg (by decide), if_neg (by decide), if_pos (by decide)]
          simp only [bd0_e, bnd_e, bns_e, if_true]
          rw [if_neg (by decide), if_neg (by decide)]; rfl
        · refine go 54 (Or.inr (Or.inr (Or.inr ⟨rfl, rfl⟩))) ?_ q.2.2.2.1
          rw [hc, h29 _ (by have := h3.2; omega), D_X1_rowOf.eq_1, if_neg (by decide), if_neg (by decide), if_neg (by decide)]
          simp only [bd0_e, bnd_e, bns_e, if_true]
          rw [if_neg (by decide), if_neg (by decide), if_neg (by decide)]; rfl
      · refine CS_same h (-1) ?_ ?_
        · simp only [D_X6_alter.eq_1, D_X6_alter_29.eq_1, bd0_e, bnd_e, D_nob0 n1 h1, if_true, i10]
          rw [if_neg (by omega), if_neg (by omega)]
          by_cases c : p2 = 0
          · rw [if_pos c] at h3 ⊢
            by_cases c3 : p3 < 0
            · rw [if_pos c3]
            · rw [if_neg c3, if_pos (by omega)]
          · rw [if_neg c] at h3 ⊢
            by_cases c3 : p3 < 0
            · rw [if_pos c3]
            · rw [if_neg c3, if_pos (by omega)]
        · simp only [D_X7_alter.eq_1, D_X7_alter_36.eq_1, D_X7_alter_55.eq_1, bd0_e, bnd_e, D_one1 n2 h1, hi2, if_true, i10]
          by_cases c : p2 = 0
          · rw [if_pos c] at h3 ⊢
            rw [D_in0 (by omega)]
            simp only [bd0_e, if_true, i10]
          · rw [if_neg c] at h3 ⊢
            rw [D_in0 (by omega)]
            simp only [bd0_e, if_true, i10]
    · refine CS_same h (-1) ?_ ?_
      · simp only [D_X6_alter.eq_1, bd0_e, bnd_e, D_nob0 n1 h1, if_true, i10]
        by_cases c : p2 < 0
        · rw [if_pos c]
        · rw [if_neg c, if_pos (by omega)]
      · simp only [D_X7_alter.eq_1, D_X7_alter_55.eq_1, bd0_e, bnd_e, D_one1 n2 h1, if_true, i10]
        rw [D_in0 (by omega)]
        simp only [bd0_e, if_true, i10]
  · refine CS_same h (-1) ?_ ?_
    · simp only [D_X6_alter.eq_1, bd0_e, bnd_e, D_nob1 n1 h1, if_true, i10]
    · simp only [D_X7_alter.eq_1, D_X7_alter_55.eq_1, bd0_e, bnd_e, D_one0 n2 h1, if_true, i10]
