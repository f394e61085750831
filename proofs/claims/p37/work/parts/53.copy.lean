theorem cl_kin {N : Nat} {σ : Sg} (h : rlS N σ) (p1 p2 p3 : Int) (hp3 : p3 = 0 ∨ p3 = 1) : CS σ (D_X6_kin σ p1 p2 p3) (D_X7_kin (σ 13) p1 p2 p3) := by
  obtain ⟨n1, n2, n5⟩ := rlS_N h
  obtain ⟨k1, f1, f4, f5, f6, f7⟩ := h.1.2.2
  by_cases h1 : 0 ≤ p1 ∧ p1 < N
  · by_cases h2 : 0 ≤ p2 ∧ p2 < N
    · obtain ⟨w, hw, rfl⟩ := nat_of h1.1 h1.2
      obtain ⟨m, hm, rfl⟩ := nat_of h2.1 h2.2
      obtain ⟨ek, eb⟩ := k1 w (by omega)
      have hall := D_ak (fun w hw => (k1 w hw).2)
      have hmk := D_mk (φ := σ 1) (M := σ 13) k1
      obtain ⟨x, hx, ex⟩ := nat_of (x := σ 1 20 w) (b := 32) eb.1 (by omega)
      have hkb := kinb x hx m (by omega)
      rw [← ex] at hkb
      have e25 : (25 + (w : Int)).toNat = 25 + w := by omega
      -- what is written
      have fin : ∀ v : Int, 0 ≤ v → v ≤ 31 → (pc v ≤ pc (σ 1 20 w) ∨ (kcn (σ 1) < 6 ∧ pc v = pc (σ 1 20 w) + 1)) → rlS N (gset (gset σ 1 (wrl (σ 1) 20 w v)) 13 (wrl (σ 13) 40 (25 + w) v)) := fun v v0 v1 v2 => by
        refine rlS_w h ⟨fun r a => wrl_nr _ _ a, fun i hi => by rw [wrl_ni _ _ (by omega)]⟩ ?_ ?_
        · refine FF_cg h.1.2.1 ?_ ?_ (fun m hm => ⟨?_, ?_, ?_, ?_, ?_⟩) (fun i hi => ?_)
          iterate 7 rw [wrl_nr _ _ (by decide)]
          rw [wrl_ni _ _ (by omega)]
        · rw [wrl_r]
          refine ⟨fun u hu => ?_, ?_, fun i hi => ?_, ?_, fun i hi => ?_, ?_⟩
          · rw [wrl_r]
            by_cases c : u = w
            · rw [c, up1_at, up1_at]; exact ⟨rfl, v0, v1⟩
            · rw [up1_ne _ _ c, up1_ne _ _ (by omega)]; exact k1 u hu
          · rw [wrl_nr _ _ (by decide), up1_ne _ _ (by omega)]; exact f1
          · rw [wrl_nr _ _ (by decide)] at hi
            rw [wrl_nr _ _ (by decide), up1_ne _ _ (by omega)]; exact f4 i hi
          · rw [wrl_nr _ _ (by decide), up1_ne _ _ (by omega)]; exact f5
          · rw [wrl_nr _ _ (by decide)] at hi
            rw [wrl_nr _ _ (by decide), wrl_nr _ _ (by decide), wrl_nr _ _ (by decide), up1_ne _ _ (by omega), up1_ne _ _ (by omega), up1_ne _ _ (by omega)]; exact f6 i hi
          · unfold kcn at f7 v2 ⊢
            rw [wrl_r]
            rcases (show w = 0 ∨ w = 1 ∨ w = 2 ∨ w = 3 ∨ w = 4 by omega) with rfl | rfl | rfl | rfl | rfl
            · rw [up1_at, up1_ne _ _ (by decide), up1_ne _ _ (by decide), up1_ne _ _ (by decide), up1_ne _ _ (by decide)]; omega
            · rw [up1_at, up1_ne _ _ (by decide), up1_ne _ _ (by decide), up1_ne _ _ (by decide), up1_ne _ _ (by decide)]; omega
            · rw [up1_at, up1_ne _ _ (by decide), up1_ne _ _ (by decide), up1_ne _ _ (by decide), up1_ne _ _ (by decide)]; omega
            · rw [up1_at, up1_ne _ _ (by decide), up1_ne _ _ (by decide), up1_ne _ _ (by decide), up1_ne _ _ (by decide)]; omega
            · rw [up1_at, up1_ne _ _ (by decide), up1_ne _ _ (by decide), up1_ne _ _ (by decide), up1_ne _ _ (by decide)]; omega
      have same : wrl (σ 13) 40 (25 + w) (σ 1 20 w) = σ 13 := by
        funext r i
        by_cases c : r = 40
        · subst c
          rw [wrl_r]
          by_cases c2 : i = 25 + w
          · rw [c2, up1_at, ek]
          · rw [up1_ne _ _ c2]
        · rw [wrl_nr _ _ c]
      have c1 : ∀ a : Int, (a = 0 ∨ a = 1) → b_and (b_shr (σ 1 20 w) m) 1 = a → D_X0_areKin (σ 1) w m = some a := fun a ha e => by
        simp only [D_X0_areKin.eq_1, bnd_e, tn]
        rw [e]
        rcases ha with rfl | rfl
        · rw [if_neg (by decide)]
        · rw [if_pos rfl]
      rcases hkb with ⟨b0, b1, b2, b3, b4, b5⟩ | ⟨b0, b1, b2, b3, b4, b5⟩
      · -- they were not
        have ha := c1 0 (Or.inl rfl) b0
        rcases hp3 with rfl | rfl
        · refine CS_same h 0 ?_ ?_
          · simp only [D_X6_kin.eq_1, D_X6_kin_53.eq_1, D_X6_kin_74.eq_1, bd0_e, bnd_e, D_nob0 n1 h1, D_nob0 n1 h2, ha, if_true]
          · simp only [D_X7_kin.eq_1, D_X7_kin_54.eq_1, bd0_e, bnd_e, bns_e, D_one1 n2 h1, D_one1 n2 h2, e25, if_true, i10]
            rw [← ek, b0, b5, same]
        · by_cases hf : kcn (σ 1) < 6
          · refine ⟨0, _, _, N, ?_, gset_ne _ _ (by decide), ?_, fin _ b2 b3 (Or.inr ⟨hf, b4⟩)⟩
            · simp only [D_X6_kin.eq_1, D_X6_kin_53.eq_1, D_X6_kin_74.eq_1, bd0_e, bnd_e, bns_e, D_nob0 n1 h1, D_nob0 n1 h2, ha, if_true, i10, hall, tn]
              rw [if_pos hf, b1]; rfl
            · simp only [D_X7_kin.eq_1, D_X7_kin_54.eq_1, bd0_e, bnd_e, bns_e, D_one1 n2 h1, D_one1 n2 h2, e25, if_true, i10]
              rw [← ek, b0, if_pos rfl, hmk]
              simp only [bd0_e]
              rw [if_neg (by omega)]
          · refine CS_same h (-3) ?_ ?_
            · simp only [D_X6_kin.eq_1, bd0_e, bnd_e, D_nob0 n1 h1, D_nob0 n1 h2, ha, if_true, i10, hall]
              rw [if_neg hf]
            · simp only [D_X7_kin.eq_1, bd0_e, bnd_e, D_one1 n2 h1, D_one1 n2 h2, e25, if_true, i10]
              rw [← ek, b0, if_pos rfl, hmk]
              simp only [bd0_e]
              rw [if_pos (by omega)]
      · have ha := c1 1 (Or.inr rfl) b0
        rcases hp3 with rfl | rfl
        · refine ⟨1, _, _, N, ?_, gset_ne _ _ (by decide), ?_, fin _ b2 b3 (Or.inl (by omega))⟩
          · simp only [D_X6_kin.eq_1, D_X6_kin_53.eq_1, D_X6_kin_74.eq_1, bd0_e, bnd_e, bns_e, D_nob0 n1 h1, D_nob0 n1 h2, ha, if_true, i10, tn]
            rw [if_neg (by decide), b1]; rfl
          · simp only [D_X7_kin.eq_1, D_X7_kin_54.eq_1, bd0_e, bnd_e, bns_e, D_one1 n2 h1, D_one1 n2 h2, e25, if_true, i10]
            rw [← ek, b0]
        · refine CS_same h 1 ?_ ?_
          · simp only [D_X6_kin.eq_1, D_X6_kin_53.eq_1, D_X6_kin_74.eq_1, bd0_e, bnd_e, D_nob0 n1 h1, D_nob0 n1 h2, ha, if_true, i10]
          · simp only [D_X7_kin.eq_1, D_X7_kin_54.eq_1, bd0_e, bnd_e, bns_e, D_one1 n2 h1, D_one1 n2 h2, e25, if_true, i10]
            rw [← ek, b0, if_neg (by decide), b5, same]
    · refine CS_same h (-1) ?_ ?_
      · simp only [D_X6_kin.eq_1, bd0_e, bnd_e, D_nob0 n1 h1, D_nob1 n1 h2, if_true, i10]
      · simp only [D_X7_kin.eq_1, bd0_e, bnd_e, D_one1 n2 h1, D_one0 n2 h2, if_true, i10]
  · refine CS_same h (-1) ?_ ?_
    · simp only [D_X6_kin.eq_1, bd0_e, bnd_e, D_nob1 n1 h1, if_true, i10]
    · simp only [D_X7_kin.eq_1, bd0_e, bnd_e, D_one0 n2 h1, if_true, i10]
theorem cl_see {N : Nat} {σ : Sg} (h : rlS N σ) (p1 p2 p3 : Int) : CS σ (D_X6_see σ p1 p2 p3) (D_X7_see (σ 13) p1 p2 p3) := by
  obtain ⟨n1, n2, n5⟩ := rlS_N h
  obtain ⟨k1, f1, f4, ⟨f5, g5, g6⟩, f6, f7⟩ := h.1.2.2
  by_cases h1 : 0 ≤ p1 ∧ p1 < N
  · by_cases h2 : 0 ≤ p2 ∧ p2 ≤ 8
    · by_cases h3 : 0 ≤ p3 ∧ p3 < N
      · by_cases h6 : σ 1 10 7 < 6
        · obtain ⟨t, ht6, ht⟩ := nat_of (b := 6) g5 h6
          have e1 : D_X6_see σ p1 p2 p3 = some ((t : Int) + 1, gset σ 1 (wrl (wrl (wrl (wrl (σ 1) 25 t p1) 26 t p2) 22 t p3) 10 7 ((t : Int) + 1))) := by
            simp only [D_X6_see.eq_1, D_X0_addSeen.eq_1, bd0_e, bnd_e, bns_e, D_nob0 n1 h1, D_nob0 n1 h3, if_true, i10]
            rw [if_neg (by omega), if_neg (by omega), if_pos h6, if_pos h6, chk_e ⟨by omega, by omega⟩, ht, tn, wrl_nr _ _ (by decide), ht, chk_e ⟨by omega, by omega⟩, tn, wrl_nr _ _ (by decide), wrl_nr _ _ (by decide), ht, chk_e ⟨by omega, by omega⟩, tn, wrl_nr _ _ (by decide), wrl_nr _ _ (by decide), wrl_nr _ _ (by decide), ht, chk_e ⟨by omega, by omega⟩]
            simp only [bd1_e]
            rw [gset_at, wrl_at]
          have e2 : D_X7_see (σ 13) p1 p2 p3 = some ((t : Int) + 1, wrl (wrl (wrl (wrl (σ 13) 40 (41 + 3 * t) p1) 40 (42 + 3 * t) p2) 40 (43 + 3 * t) p3) 40 40 ((t : Int) + 1)) := by
            simp only [D_X7_see.eq_1, bd0_e, bnd_e, bns_e, D_one1 n2 h1, D_one1 n2 h3, D_in1 h2.1 h2.2, if_true, i10]
            rw [show (40 : Int).toNat = 40 from rfl, ← f5, if_neg (by omega), ht, show (41 + 3 * (t : Int)).toNat = 41 + 3 * t by omega, show (41 + 3 * (t : Int) + 1).toNat = 42 + 3 * t by omega, show (41 + 3 * (t : Int) + 2).toNat = 43 + 3 * t by omega,
              chk_e (GD_w (M := σ 13) (by omega) (show gd59 (41 + 3 * t) p1 by unfold gd59; omega)), chk_e (GD_w (M := σ 13) (by omega) (show gd59 (42 + 3 * t) p2 by unfold gd59; omega)), chk_e (GD_w (M := σ 13) (by omega) (show gd59 (43 + 3 * t) p3 by unfold gd59; omega)),
              wrl_ni _ _ (by omega), wrl_ni _ _ (by omega), wrl_ni _ _ (by omega), ← f5, ht, chk_e (GD_w (M := σ 13) (by decide) (gd59_m40 rfl ⟨by omega, by omega⟩)), wrl_at]
          refine ⟨_, _, _, N, e1, gset_ne _ _ (by decide), e2, rlS_w h ⟨fun r a => by rw [wrl_nr _ _ a, wrl_nr _ _ a, wrl_nr _ _ a, wrl_nr _ _ a], fun i hi => by rw [wrl_ni _ _ (by omega), wrl_ni _ _ (by omega), wrl_ni _ _ (by omega), wrl_ni _ _ (by omega)]⟩ ?_ ?_⟩
          · refine FF_cg h.1.2.1 ?_ ?_ (fun m hm => ⟨?_, ?_, ?_, ?_, ?_⟩) (fun i hi => ?_)
            iterate 7 rw [wrl_nr _ _ (by decide), wrl_nr _ _ (by decide), wrl_nr _ _ (by decide), wrl_nr _ _ (by decide)]
            rw [wrl_ni _ _ (by omega), wrl_ni _ _ (by omega), wrl_ni _ _ (by omega), wrl_ni _ _ (by omega)]
          · have q : ∀ i, 25 ≤ i → i < 40 → wrl (wrl (wrl (wrl (σ 13) 40 (41 + 3 * t) p1) 40 (42 + 3 * t) p2) 40 (43 + 3 * t) p3) 40 40 ((t : Int) + 1) 40 i = σ 13 40 i := fun i a b => by rw [wrl_ni _ _ (by omega), wrl_ni _ _ (by omega), wrl_ni _ _ (by omega), wrl_ni _ _ (by omega)]
            refine ⟨fun u hu => ?_, ?_, fun i hi => ?_, ?_, fun i hi => ?_, ?_⟩
            · rw [q _ (by omega) (by omega), wrl_nr _ _ (by decide), wrl_nr _ _ (by decide), wrl_nr _ _ (by decide), wrl_nr _ _ (by decide)]; exact k1 u hu
            · rw [q _ (by omega) (by omega), wrl_ni _ _ (by decide), wrl_nr _ _ (by decide), wrl_nr _ _ (by decide), wrl_nr _ _ (by decide)]; exact f1
            · rw [wrl_ni _ _ (by decide), wrl_nr _ _ (by decide), wrl_nr _ _ (by decide), wrl_nr _ _ (by decide)] at hi
              rw [q _ (by omega) (by omega), wrl_nr _ _ (by decide), wrl_nr _ _ (by decide), wrl_nr _ _ (by decide), wrl_nr _ _ (by decide)]; exact f4 i hi
            · rw [wrl_at, wrl_at]; exact ⟨rfl, by omega, by omega⟩
            · rw [wrl_at] at hi
              have e25 : wrl (wrl (wrl (wrl (σ 1) 25 t p1) 26 t p2) 22 t p3) 10 7 ((t : Int) + 1) 25 i = if i = t then p1 else σ 1 25 i := by rw [wrl_nr _ _ (by decide), wrl_nr _ _ (by decide), wrl_nr _ _ (by decide), wrl_r]; rfl
              have e26 : wrl (wrl (wrl (wrl (σ 1) 25 t p1) 26 t p2) 22 t p3) 10 7 ((t : Int) + 1) 26 i = if i = t then p2 else σ 1 26 i := by rw [wrl_nr _ _ (by decide), wrl_nr _ _ (by decide), wrl_r, wrl_nr _ _ (by decide)]; rfl
              have e22 : wrl (wrl (wrl (wrl (σ 1) 25 t p1) 26 t p2) 22 t p3) 10 7 ((t : Int) + 1) 22 i = if i = t then p3 else σ 1 22 i := by rw [wrl_nr _ _ (by decide), wrl_r, wrl_nr _ _ (by decide), wrl_nr _ _ (by decide)]; rfl
              rw [e25, e26, e22, wrl_r, wrl_r, wrl_r, wrl_r]
              by_cases c : i = t
              · subst c
                rw [if_pos rfl, if_pos rfl, if_pos rfl, up1_ne _ _ (by omega), up1_ne _ _ (by omega), up1_ne _ _ (by omega), up1_at, up1_ne _ _ (by omega), up1_ne _ _ (by omega), up1_at, up1_ne _ _ (by omega), up1_at]
                exact ⟨rfl, rfl, rfl, h1, h2⟩
              · rw [if_neg c, if_neg c, if_neg c, up1_ne _ _ (by omega), up1_ne _ _ (by omega), up1_ne _ _ (by omega), up1_ne _ _ (by omega), up1_ne _ _ (by omega), up1_ne _ _ (by omega), up1_ne _ _ (by omega), up1_ne _ _ (by omega), up1_ne _ _ (by omega), up1_ne _ _ (by omega), up1_ne _ _ (by omega), up1_ne _ _ (by omega)]
                exact f6 i (by omega)
            · exact kcn_k f7 (by rw [wrl_nr _ _ (by decide), wrl_nr _ _ (by decide), wrl_nr _ _ (by decide), wrl_nr _ _ (by decide)])
        · refine CS_same h (-3) ?_ ?_
          · simp only [D_X6_see.eq_1, bd0_e, bnd_e, D_nob0 n1 h1, D_nob0 n1 h3, if_true, i10]
            rw [if_neg (by omega), if_neg (by omega), if_neg h6]
          · simp only [D_X7_see.eq_1, bd0_e, bnd_e, D_one1 n2 h1, D_one1 n2 h3, D_in1 h2.1 h2.2, if_true, i10]
            rw [show (40 : Int).toNat = 40 from rfl, ← f5, if_pos (by omega)]
      · refine CS_same h (-1) ?_ ?_
        · simp only [D_X6_see.eq_1, bd0_e, bnd_e, D_nob0 n1 h1, D_nob1 n1 h3, if_true, i10]
          rw [if_neg (by omega), if_neg (by omega)]
        · simp only [D_X7_see.eq_1, bd0_e, bnd_e, D_one1 n2 h1, D_one0 n2 h3, D_in1 h2.1 h2.2, if_true, i10]
    · refine CS_same h (-1) ?_ ?_
      · simp only [D_X6_see.eq_1, bd0_e, bnd_e, D_nob0 n1 h1, if_true, i10]
        by_cases c : p2 < 0
        · rw [if_pos c]
        · rw [if_neg c, if_pos (by omega)]
      · simp only [D_X7_see.eq_1, bd0_e, bnd_e, D_one1 n2 h1, if_true, i10]
        rw [D_in0 (by omega)]
        simp only [bd0_e, if_true]
  · refine CS_same h (-1) ?_ ?_
    · simp only [D_X6_see.eq_1, bd0_e, bnd_e, D_nob1 n1 h1, if_true, i10]
    · simp only [D_X7_see.eq_1, bd0_e, bnd_e, D_one0 n2 h1, if_true, i10]
