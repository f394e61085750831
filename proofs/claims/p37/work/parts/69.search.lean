/-! the search: that it ends, and what it leaves -/
theorem step_F {N : Nat} {φ : Lo} {μ : Nat → Int} (h : FF N φ μ) (f : Int) : ∃ (φ' : Lo) (μ' : Nat → Int), D_X1_step φ f = some φ' ∧ FF N φ' μ' := by
  have e : (fun (r : Nat) (i : Nat) => if r = 17 then (N : Int) else μ i) 41 = μ := by
    funext i
    exact if_neg (by decide)
  obtain ⟨φ', M', a1, -, a3, -, -⟩ := step_sim (M := fun (r : Nat) (i : Nat) => if r = 17 then (N : Int) else μ i) (φ := φ) (Eq.mpr (congrArg (FF N φ) e) h) (if_pos rfl) f
  exact ⟨φ', _, a1, a3⟩
theorem cm_tot {N : Nat} {σ : Sg} {o a : Nat} (n5 : N ≤ 5) (hN : σ a 11 8 = N) : ∃ r, D_X0_cousinsMeet o a σ = some r := by
  have key : ∀ (n k : Nat), N < n + k → k ≤ N → ∃ r, D_X0_cousinsMeet_2 o a σ n k = some r := by
    intro n
    induction n with
    | zero => intro k x y; omega
    | succ n ih =>
      intro k hn hk
      rw [D_X0_cousinsMeet_2.eq_2]
      simp only [bnd_e, D_X0_areKin.eq_1]
      rw [hN, nc1]
      by_cases c : (k : Int) < (N : Int)
      · rw [if_pos c]
        by_cases d : b_and (b_shr (σ o 20 (k : Int).toNat) (σ a 27 (k : Int).toNat)) 1 = 1
        · rw [if_pos d]
          simp only [bd0_e, i10]
          exact ⟨1, rfl⟩
        · rw [if_neg d]
          simp only [bd0_e, if_true]
          exact ih (k + 1) (by omega) (by omega)
      · rw [if_neg c]
        exact ⟨0, rfl⟩
  rw [D_X0_cousinsMeet.eq_1]
  simp only [bnd_e]
  generalize hk : (5000 : Nat) = n
  exact key n 0 (by omega) (Nat.zero_le _)
def G0 (σ σ' : Sg) : Prop := (∀ o, o ≠ 0 → σ' o = σ o) ∧ σ' 0 16 = σ 0 16 ∧ σ' 0 33 = σ 0 33 ∧ σ' 0 12 5 = σ 0 12 5
theorem G0_rf (σ : Sg) : G0 σ σ := ⟨fun _ _ => rfl, rfl, rfl, rfl⟩
theorem G0_tr {σ σ' σ'' : Sg} (h2 : G0 σ' σ'') (h : G0 σ σ') : G0 σ σ'' := ⟨fun o x => (h2.1 o x).trans (h.1 o x), h2.2.1.trans h.2.1, h2.2.2.1.trans h.2.2.1, h2.2.2.2.trans h.2.2.2⟩
theorem G0_g {σ : Sg} {φ : Lo} (h16 : φ 16 = σ 0 16) (h33 : φ 33 = σ 0 33) (h5 : φ 12 5 = σ 0 12 5) : G0 σ (gset σ 0 φ) := ⟨fun o x => gset_ne _ _ x, by rw [gset_at]; exact h16, by rw [gset_at]; exact h33, by rw [gset_at]; exact h5⟩
theorem G0_w {σ : Sg} {r i : Nat} (v : Int) (hr : r ≠ 16 ∧ r ≠ 33) (h5 : r ≠ 12 ∨ i ≠ 5) : G0 σ (wr σ 0 r i v) := by
  rw [wr_0]
  refine G0_g (wrl_nr _ _ (fun q => hr.1 q.symm)) (wrl_nr _ _ (fun q => hr.2 q.symm)) ?_
  rcases h5 with q | q
  · rw [wrl_nr _ _ (fun z => q z.symm)]
  · rw [wrl_ni _ _ (fun z => q z.symm)]
theorem G0_c {σ : Sg} {q a r b n : Nat} (hr : r ≠ 16 ∧ r ≠ 33 ∧ r ≠ 12) : G0 σ (gset σ 0 (cpl (σ 0) (σ 0) q a r b n)) := G0_g (cpl_nr _ _ (fun z => hr.1 z.symm)) (cpl_nr _ _ (fun z => hr.2.1 z.symm)) (by rw [cpl_nr _ _ (fun z => hr.2.2 z.symm)])
theorem sC_G {σ σ' σ'' : Sg} (h : sC σ σ') (g : G0 σ' σ'') : sC σ σ'' := sC_tr ⟨fun o a b c => g.1 o a, fun r q => by
  rcases q with rfl | rfl
  · exact g.2.1
  · exact g.2.2.1, fun r _ _ _ => by rw [g.1 1 (by decide)]⟩ h
theorem take70 (σ : Sg) : ∃ σ', D_X2_take_70 σ = some σ' ∧ G0 σ σ' := by
  simp only [D_X2_take_70.eq_1, bnd_e, bns_e]
  exact ⟨_, rfl, G0_w _ ⟨by decide, by decide⟩ (Or.inr (by decide))⟩
theorem take40 (r : Int) (σ : Sg) : ∃ σ', D_X2_take_40 r σ = some σ' ∧ G0 σ σ' := by
  simp only [D_X2_take_40.eq_1, bnd_e, bns_e]
  by_cases c : σ 0 12 7 < r
  · rw [if_pos c]
    obtain ⟨σ', e1, e2⟩ := take70 (gset (wr σ 0 12 7 r) 0 (cpl (wr σ 0 12 7 r 0) (wr σ 0 12 7 r 0) 56 (0 : Int).toNat 58 (0 : Int).toNat (wr σ 0 12 7 r 0 12 5).toNat))
    exact ⟨σ', e1, G0_tr e2 (G0_tr (G0_c ⟨by decide, by decide, by decide⟩) (G0_w _ ⟨by decide, by decide⟩ (Or.inr (by decide))))⟩
  · rw [if_neg c]
    exact take70 σ
theorem take_tot {N L : Nat} {σ : Sg} {μ : Nat → Int} (hL : σ 0 12 5 = L) (hF : FF N (σ (6 + L)) μ) : ∃ σ', D_X2_take σ = some σ' ∧ G0 σ σ' := by
  have r5 := rb_31 (σ (6 + L) 27) (w := N) hF.1.2
  simp only [D_X2_take.eq_1, bnd_e, bns_e]
  rw [hL, tn, D_rb hF.1.2 hF.1.1]
  simp only [bd0_e]
  rw [D_bc r5.1 r5.2]
  simp only [bd0_e]
  by_cases c : σ 0 12 6 = 0
  · rw [if_pos c]
    obtain ⟨σ', e1, e2⟩ := take40 (pc (rb (σ (6 + L) 27) N)) (gset σ 0 (cpl (σ 0) (σ 0) 56 (0 : Int).toNat 57 (0 : Int).toNat (L : Int).toNat))
    exact ⟨σ', e1, G0_tr e2 (G0_c ⟨by decide, by decide, by decide⟩)⟩
  · rw [if_neg c]
    exact take40 _ σ
theorem desc {N L : Nat} (n5 : N ≤ 5) (hL5 : L ≤ 5) {σ0 : Sg} : ∀ (dd d : Nat) (σ : Sg) (mask : Int), L < dd + d → d ≤ L → σ 0 12 5 = L → sC σ0 σ → (∃ μ, FF N (σ (6 + d)) μ) → ∃ σ', D_X2_descend 1 dd σ d mask = some σ' ∧ σ' 0 12 5 = L ∧ sC σ0 σ' ∧ (∀ o, 6 ≤ o → o ≤ 6 + d → σ' o = σ o) := by
  intro dd
  induction dd with
  | zero => intro d σ mask a b; omega
  | succ dd ih =>
    intro d σ mask hdd hd h5 hC hF
    rw [D_X2_descend.eq_2]
    simp only [bnd_e]
    rw [h5]
    by_cases c : (d : Int) < (L : Int)
    · rw [if_pos c]
      have lp : ∀ (T : Nat), T ≤ 5 → ∀ (n k : Nat) (σ1 : Sg), T < n + k → k ≤ T → σ1 0 12 5 = L → sC σ0 σ1 → (∀ o, 6 ≤ o → o ≤ 6 + d → σ1 o = σ o) → ∃ σ', D_X2_descend_43 1 d mask (D_X2_descend 1 dd) T ((d : Int) + 1) n σ1 k = some σ' ∧ σ' 0 12 5 = L ∧ sC σ0 σ' ∧ (∀ o, 6 ≤ o → o ≤ 6 + d → σ' o = σ o) := by
        intro T hT n
        induction n with
        | zero => intro k σ1 a b; omega
        | succ n ihn =>
          intro k σ1 hn hk g5 gC gF
          rw [D_X2_descend_43.eq_2]
          simp only [bnd_e]
          by_cases e : (k : Int) < (T : Int)
          · have one : ∃ σ', D_X2_descend_70 (D_X2_descend_43 1 d mask (D_X2_descend 1 dd) T ((d : Int) + 1) n) 1 d mask (D_X2_descend 1 dd) ((d : Int) + 1) k σ1 = some σ' ∧ σ' 0 12 5 = L ∧ sC σ0 σ' ∧ (∀ o, 6 ≤ o → o ≤ 6 + d → σ' o = σ o) := by
              obtain ⟨μ, hμ⟩ := hF
              have hμ1 : FF N (σ1 (6 + d)) μ := by rw [gF (6 + d) (by omega) (by omega)]; exact hμ
              obtain ⟨φ1, c1, c2⟩ := D_cf (σ := σ1) (o := 6 + (d + 1)) (a := 6 + d) (N := N) (by omega) n5 hμ1.1.1
              have hF1 : FF N φ1 μ := FF_cpd hμ1 c2
              have st : ∀ f : Int, ∃ σ', D_X2_descend_102 (D_X2_descend_43 1 d mask (D_X2_descend 1 dd) T ((d : Int) + 1) n) 1 d mask (D_X2_descend 1 dd) ((d : Int) + 1) k (gset σ1 (6 + (d + 1)) φ1) f = some σ' ∧ σ' 0 12 5 = L ∧ sC σ0 σ' ∧ (∀ o, 6 ≤ o → o ≤ 6 + d → σ' o = σ o) := fun f => by
                obtain ⟨φ2, μ2, s1, s2⟩ := step_F hF1 f
                rw [D_X2_descend_102.eq_1]
                simp only [bnd_e, bns_e, D_X2_descend_136.eq_1]
                rw [show ((d : Int) + 1).toNat = d + 1 by omega, gset_at, s1]
                simp only [bd1_e, gset_gset]
                obtain ⟨r, hr⟩ := cm_tot (σ := gset σ1 (6 + (d + 1)) φ2) (o := 1) (a := 6 + (d + 1)) n5 (by rw [gset_at]; exact s2.1.1)
                rw [hr]
                simp only [bd0_e]
                have gC2 : sC σ0 (gset σ1 (6 + (d + 1)) φ2) := sC_tr (sC_g (by omega)) gC
                have g52 : gset σ1 (6 + (d + 1)) φ2 0 12 5 = L := by rw [gset_ne _ _ (by omega)]; exact g5
                have gF2 : ∀ o, 6 ≤ o → o ≤ 6 + d → gset σ1 (6 + (d + 1)) φ2 o = σ o := fun o x y => by rw [gset_ne _ _ (by omega)]; exact gF o x y
                by_cases z : r = 0
                · rw [if_pos z]
                  have w := G0_w (σ := gset σ1 (6 + (d + 1)) φ2) (r := 56) (i := (d : Int).toNat) (k : Int) ⟨by decide, by decide⟩ (Or.inl (by decide))
                  generalize wr (gset σ1 (6 + (d + 1)) φ2) 0 56 (d : Int).toNat (k : Int) = σ2 at w
                  obtain ⟨σ3, q1, q2, q3, q4⟩ := ih (d + 1) σ2 (b_or mask (b_shl 1 k)) (by omega) (by omega) (by rw [w.2.2.2]; exact g52) (sC_G gC2 w) ⟨μ2, by rw [w.1 _ (by omega), gset_at]; exact s2⟩
                  rw [nc1, q1]
                  simp only [bd1_e]
                  rw [nc1]
                  exact ihn (k + 1) σ3 (by omega) (by omega) q2 q3 (fun o x y => by rw [q4 o x (by omega), w.1 o (by omega)]; exact gF2 o x y)
                · rw [if_neg z, nc1, nc1]
                  exact ihn (k + 1) _ (by omega) (by omega) g52 gC2 gF2
              rw [D_X2_descend_70.eq_1, show ((d : Int) + 1).toNat = d + 1 by omega, tn, c1]
              simp only [bd1_e, bnd_e]
              by_cases u : gset σ1 (6 + (d + 1)) φ1 0 12 4 = 0
              · rw [if_pos u]; exact st _
              · rw [if_neg u]; exact st _
            rw [if_pos e]
            by_cases u : σ1 0 12 4 = 0
            · rw [if_pos u]; exact one
            · rw [if_neg u]
              by_cases v : b_and (b_shr mask k) 1 = 1
              · rw [if_pos v, D_X2_descend_136.eq_1]
                simp only [bnd_e]
                rw [nc1]
                exact ihn (k + 1) σ1 (by omega) (by omega) g5 gC gF
              · rw [if_neg v]; exact one
          · rw [if_neg e]
            exact ⟨σ1, rfl, g5, gC, gF⟩
      have go : ∀ T : Nat, T ≤ 5 → ∃ σ', D_X2_descend_28 1 d mask (D_X2_descend 1 dd) σ T = some σ' ∧ σ' 0 12 5 = L ∧ sC σ0 σ' ∧ (∀ o, 6 ≤ o → o ≤ 6 + d → σ' o = σ o) := fun T hT => by
        rw [D_X2_descend_28.eq_1]
        simp only [bnd_e]
        generalize hk : (5000 : Nat) = n
        exact lp T hT n 0 σ (by omega) (Nat.zero_le _) h5 hC (fun _ _ _ => rfl)
      by_cases u : σ 0 12 4 = 0
      · rw [if_pos u]; exact go 4 (by decide)
      · rw [if_neg u]; exact go L hL5
    · rw [if_neg c]
      obtain ⟨μ, hμ⟩ := hF
      have ed : d = L := by omega
      rw [ed] at hμ
      obtain ⟨σ', t1, t2⟩ := take_tot h5 hμ
      rw [t1]
      simp only [bd1_e]
      exact ⟨σ', rfl, by rw [t2.2.2.2]; exact h5, sC_G hC t2, fun o x y => t2.1 o (by omega)⟩
theorem over_tot {N : Nat} {σ : Sg} (h : rlS N σ) {p : Int} (hp : 0 ≤ p) (q : Int) : ∃ σ', D_X2_over 1 σ p q = some σ' ∧ sC σ σ' := by
  obtain ⟨n1, n2, n5⟩ := rlS_N h
  obtain ⟨L, hL, eL⟩ := nat_of (x := min p 5) (b := 6) (by omega) (by omega)
  rw [D_X2_over.eq_1]
  simp only [bnd_e, bns_e]
  rw [eL]
  generalize h1 : wr (wr (wr (wr σ 0 12 4 q) 0 12 5 (L : Int)) 0 12 6 0) 0 12 7 (-4) = σ1
  have o1 : ∀ o, o ≠ 0 → σ1 o = σ o := fun o x => by rw [← h1, wr_0, gset_ne _ _ x, wr_0, gset_ne _ _ x, wr_0, gset_ne _ _ x, wr_0, gset_ne _ _ x]
  have o5 : σ1 0 12 5 = L := by rw [← h1, wr_0, gset_at, wrl_ni _ _ (by decide), wr_0, gset_at, wrl_ni _ _ (by decide), wr_0, gset_at, wrl_at]
  have orr : ∀ r, r ≠ 12 → σ1 0 r = σ 0 r := fun r x => by rw [← h1, wr_0, gset_at, wrl_nr _ _ x, wr_0, gset_at, wrl_nr _ _ x, wr_0, gset_at, wrl_nr _ _ x, wr_0, gset_at, wrl_nr _ _ x]
  have hC : sC σ σ1 := ⟨fun o a b c => o1 o a, fun r x => by
    rcases x with rfl | rfl
    · exact orr 16 (by decide)
    · exact orr 33 (by decide), fun r _ _ _ => by rw [o1 1 (by decide)]⟩
  obtain ⟨φ1, c1, c2⟩ := D_cf (σ := σ1) (o := 6) (a := 1) (N := N) (by decide) n5 (by rw [o1 1 (by decide)]; exact n1)
  rw [o1 1 (by decide)] at c2
  have hF : FF N φ1 (σ 13 40) := FF_cpd h.1.2.1 c2
  rw [show 6 + (0 : Int).toNat = 6 from rfl, c1]
  simp only [bd1_e]
  obtain ⟨σ', q1, -, q3, -⟩ := desc n5 (L := L) (by omega) (σ0 := σ) 6 0 (gset σ1 6 φ1) 0 (by omega) (Nat.zero_le _) (by rw [gset_ne _ _ (by decide)]; exact o5) (sC_tr (sC_g (by decide)) hC) ⟨_, by rw [gset_at]; exact hF⟩
  rw [c0] at q1
  rw [q1]
  simp only [bd1_e]
  exact ⟨σ', rfl, q3⟩
theorem pl57 (φ : Lo) (p q : Int) : ∃ r, D_placeIn57 φ p q = some r := by
  simp only [D_placeIn57.eq_1, D_placeIn57_20.eq_1, bnd_e]
  repeat' split
  all_goals exact ⟨_, rfl⟩
theorem pl58 (φ : Lo) (p q : Int) : ∃ r, D_placeIn58 φ p q = some r := by
  simp only [D_placeIn58.eq_1, D_placeIn58_20.eq_1, bnd_e]
  repeat' split
  all_goals exact ⟨_, rfl⟩
theorem ct_best {N : Nat} {σ : Sg} (h : rlS N σ) (p q : Int) : ∃ r σ', D_X6_best σ p q = some (r, σ') ∧ sC σ σ' := by
  have two : 0 ≤ p → ∃ r σ', D_X6_best_21 p q σ = some (r, σ') ∧ sC σ σ' := fun hp => by
    obtain ⟨σ', e1, e2⟩ := over_tot h hp 0
    simp only [D_X6_best_21.eq_1, bnd_e, e1, bd1_e]
    obtain ⟨r, hr⟩ := pl58 (σ' 0) p q
    rw [hr]
    simp only [bd0_e]
    repeat' split
    all_goals exact ⟨_, _, rfl, e2⟩
  rw [D_X6_best.eq_1]
  simp only [bnd_e]
  by_cases c : p < 0
  · rw [if_pos c]; exact ⟨_, _, rfl, sC_rf _⟩
  · rw [if_neg c]
    repeat' split
    all_goals first
      | exact ⟨_, _, rfl, sC_rf _⟩
      | exact two (by omega)
theorem ct_orders {N : Nat} {σ : Sg} (h : rlS N σ) (p : Int) : ∃ r σ', D_X6_orders σ p = some (r, σ') ∧ sC σ σ' := by
  have hf := h.1.2.2.2.1
  have two : ∃ r σ', D_X6_orders_17 p σ = some (r, σ') ∧ sC σ σ' := by
    obtain ⟨σ', e1, e2⟩ := over_tot h hf.2.1 1
    simp only [D_X6_orders_17.eq_1, bnd_e, e1, bd1_e]
    obtain ⟨r, hr⟩ := pl57 (σ' 0) (σ' 1 10 6) p
    rw [hr]
    simp only [bd0_e]
    repeat' split
    all_goals first
      | exact ⟨_, _, rfl, sC_rf _⟩
      | exact ⟨_, _, rfl, e2⟩
  rw [D_X6_orders.eq_1]
  simp only [bnd_e]
  repeat' split
  all_goals first
    | exact ⟨_, _, rfl, sC_rf _⟩
    | exact two
