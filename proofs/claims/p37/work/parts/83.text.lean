/-! the drafts at first, and what is kept of them -/
def fdc (i : Nat) : Int := if 20 ≤ i ∧ i ≤ 24 then (i : Int) - 20 else 0
theorem fd23 : ∀ (k w : Nat) (M0 M : Lo), 5 < k + w → w ≤ 5 → (∀ r, r ≠ 43 → M r = M0 r) → (∀ i, i < 59 → M 43 i = if 20 ≤ i ∧ i < 20 + w then (i : Int) - 20 else 0) → ∃ M' : Lo, D_X7_firstDraft_23 k M w = some M' ∧ (∀ r, r ≠ 17 → r ≠ 43 → M' r = M0 r) ∧ (∀ i, (i < 5 ∨ 8 < i) → M' 17 i = M0 17 i) ∧ (∀ i, i < 59 → M' 43 i = fdc i) ∧ M' 17 5 = 0 ∧ M' 17 6 = 0 ∧ M' 17 7 = 0 ∧ M' 17 8 = -4 := by
  intro k
  induction k with
  | zero => intro w M0 M a b; omega
  | succ k ih =>
    intro w M0 M hk hw hr hc
    rw [D_X7_firstDraft_23.eq_2]
    simp only [bnd_e, bns_e]
    rw [show (20 + (w : Int)).toNat = 20 + w by omega]
    by_cases c : (w : Int) < 5
    · rw [if_pos c, nc1]
      refine ih (w + 1) M0 _ (by omega) (by omega) (fun r a => by rw [wrl_nr _ _ a]; exact hr r a) (fun i hi => ?_)
      rw [wrl_r]
      by_cases z : i = 20 + w
      · rw [z, up1_at, if_pos (by omega)]; omega
      · rw [up1_ne _ _ z, hc i hi]
        by_cases d : 20 ≤ i ∧ i < 20 + w
        · rw [if_pos d, if_pos (by omega)]
        · rw [if_neg d, if_neg (by omega)]
    · rw [if_neg c]
      refine ⟨_, rfl, fun r a b => ?_, fun i a => ?_, fun i hi => ?_, ?_, ?_, ?_, wrl_at _ _ _ _⟩
      · rw [wrl_nr _ _ a, wrl_nr _ _ a, wrl_nr _ _ a, wrl_nr _ _ a]; exact hr r b
      · rw [wrl_ni _ _ (by omega), wrl_ni _ _ (by omega), wrl_ni _ _ (by omega), wrl_ni _ _ (by omega), hr 17 (by decide)]
      · rw [wrl_nr _ _ (by decide), wrl_nr _ _ (by decide), wrl_nr _ _ (by decide), wrl_nr _ _ (by decide), hc i hi]
        unfold fdc
        by_cases d : 20 ≤ i ∧ i < 20 + w
        · rw [if_pos d, if_pos (by omega)]
        · rw [if_neg d, if_neg (by omega)]
      · rw [wrl_ni _ _ (by decide), wrl_ni _ _ (by decide), wrl_ni _ _ (by decide), wrl_at]
      · rw [wrl_ni _ _ (by decide), wrl_ni _ _ (by decide), wrl_at]
      · rw [wrl_ni _ _ (by decide), wrl_at]
theorem gd59_0 (i : Nat) : gd59 i 0 := by unfold gd59; omega
theorem fd2 : ∀ (k i : Nat) (M0 M : Lo), 59 < k + i → i ≤ 59 → (∀ r, r ≠ 43 → M r = M0 r) → (∀ j, j < i → M 43 j = 0) → ∃ M' : Lo, D_X7_firstDraft_2 k M i = some M' ∧ (∀ r, r ≠ 17 → r ≠ 43 → M' r = M0 r) ∧ (∀ i, (i < 5 ∨ 8 < i) → M' 17 i = M0 17 i) ∧ (∀ i, i < 59 → M' 43 i = fdc i) ∧ M' 17 5 = 0 ∧ M' 17 6 = 0 ∧ M' 17 7 = 0 ∧ M' 17 8 = -4 := by
  intro k
  induction k with
  | zero => intro i M0 M a b; omega
  | succ k ih =>
    intro i M0 M hk hi hr hc
    rw [D_X7_firstDraft_2.eq_2]
    simp only [bnd_e, bns_e]
    rw [tn]
    by_cases c : (i : Int) < 59
    · rw [if_pos c, nc1, chk_e (gd59_0 i)]
      refine ih (i + 1) M0 _ (by omega) (by omega) (fun r a => by rw [wrl_nr _ _ a]; exact hr r a) (fun j hj => ?_)
      rw [wrl_r]
      by_cases z : j = i
      · rw [z, up1_at]
      · rw [up1_ne _ _ z]; exact hc j (by omega)
    · rw [if_neg c]
      generalize hk : (5000 : Nat) = n
      refine fd23 n 0 M0 M (by omega) (by omega) hr (fun j hj => ?_)
      rw [if_neg (by omega)]
      exact hc j (by omega)
theorem D_fd (M : Lo) : ∃ M' : Lo, D_X7_firstDraft M = some M' ∧ (∀ r, r ≠ 17 → r ≠ 43 → M' r = M r) ∧ (∀ i, (i < 5 ∨ 8 < i) → M' 17 i = M 17 i) ∧ (∀ i, i < 59 → M' 43 i = fdc i) ∧ M' 17 5 = 0 ∧ M' 17 6 = 0 ∧ M' 17 7 = 0 ∧ M' 17 8 = -4 := by
  rw [D_X7_firstDraft.eq_1]
  simp only [bnd_e]
  generalize hk : (5000 : Nat) = n
  exact fd2 n 0 M M (by omega) (by omega) (fun _ _ => rfl) (fun j hj => absurd hj (Nat.not_lt_zero _))
theorem kd2 : ∀ (k i : Nat) (M0 M : Lo), 59 < k + i → i ≤ 59 → (∀ r, r ≠ 40 → M r = M0 r) → (∀ j, j < i → M 40 j = M0 43 j) → ∃ M' : Lo, D_X7_keepDraft_2 k M i = some M' ∧ (∀ r, r ≠ 40 → r ≠ 17 → r ≠ 42 → M' r = M0 r) ∧ (∀ i, i ≠ 3 → M' 17 i = M0 17 i) ∧ (∀ i, i < 59 → M' 40 i = M0 43 i) ∧ M' 17 3 = M0 17 5 ∧ M' 42 0 = 0 ∧ M' 42 1 = 0 := by
  intro k
  induction k with
  | zero => intro i M0 M a b; omega
  | succ k ih =>
    intro i M0 M hk hi hr hc
    rw [D_X7_keepDraft_2.eq_2]
    simp only [bnd_e, bns_e]
    rw [tn]
    by_cases c : (i : Int) < 59
    · rw [if_pos c, nc1]
      refine ih (i + 1) M0 _ (by omega) (by omega) (fun r a => by rw [wrl_nr _ _ a]; exact hr r a) (fun j hj => ?_)
      rw [wrl_r]
      by_cases z : j = i
      · rw [z, up1_at, hr 43 (by decide)]
      · rw [up1_ne _ _ z]; exact hc j (by omega)
    · rw [if_neg c, show (0 : Int).toNat = 0 from rfl, show (1 : Int).toNat = 1 from rfl]
      refine ⟨_, rfl, fun r a b d => ?_, fun j a => ?_, fun j hj => ?_, ?_, ?_, ?_⟩
      · rw [wrl_nr _ _ d, wrl_nr _ _ d, wrl_nr _ _ b]; exact hr r a
      · rw [wrl_nr _ _ (by decide), wrl_nr _ _ (by decide), wrl_ni _ _ a, hr 17 (by decide)]
      · rw [wrl_nr _ _ (by decide), wrl_nr _ _ (by decide), wrl_nr _ _ (by decide)]; exact hc j (by omega)
      · rw [wrl_nr _ _ (by decide), wrl_nr _ _ (by decide), wrl_at, hr 17 (by decide)]
      · rw [wrl_ni _ _ (by decide), wrl_at]
      · rw [wrl_at]
theorem D_kd (M : Lo) : ∃ M' : Lo, D_X7_keepDraft M = some M' ∧ (∀ r, r ≠ 40 → r ≠ 17 → r ≠ 42 → M' r = M r) ∧ (∀ i, i ≠ 3 → M' 17 i = M 17 i) ∧ (∀ i, i < 59 → M' 40 i = M 43 i) ∧ M' 17 3 = M 17 5 ∧ M' 42 0 = 0 ∧ M' 42 1 = 0 := by
  rw [D_X7_keepDraft.eq_1]
  simp only [bnd_e]
  generalize hk : (5000 : Nat) = n
  exact kd2 n 0 M M (by omega) (by omega) (fun _ _ => rfl) (fun j hj => absurd hj (Nat.not_lt_zero _))
theorem f20l {v : Int} : ∀ (k i : Nat) (φ0 φ : Lo), 5 < k + i → i ≤ 5 → (∀ r, r ≠ 20 → φ r = φ0 r) → (∀ j, j < i → φ 20 j = v) → ∃ φ' : Lo, D_fill20_5 v 5 k φ i = some φ' ∧ (∀ r, r ≠ 20 → φ' r = φ0 r) ∧ (∀ j, j < 5 → φ' 20 j = v) := by
  intro k
  induction k with
  | zero => intro i φ0 φ a b; omega
  | succ k ih =>
    intro i φ0 φ hk hi hr hc
    rw [D_fill20_5.eq_2]
    simp only [bnd_e, bns_e]
    rw [tn]
    by_cases c : (i : Int) < 5
    · rw [if_pos c, nc1]
      refine ih (i + 1) φ0 _ (by omega) (by omega) (fun r a => by rw [wrl_nr _ _ a]; exact hr r a) (fun j hj => ?_)
      rw [wrl_r]
      by_cases z : j = i
      · rw [z, up1_at]
      · rw [up1_ne _ _ z]; exact hc j (by omega)
    · rw [if_neg c]
      exact ⟨φ, rfl, hr, fun j hj => hc j (by omega)⟩
theorem D_emp (φ : Lo) : ∃ φ' : Lo, D_X0_empty φ = some φ' ∧ φ' 14 = φ 14 ∧ φ' 30 = φ 30 ∧ φ' 11 8 = 0 ∧ φ' 11 9 = 0 ∧ (∀ w, w < 5 → φ' 20 w = 0) ∧ φ' 10 6 = 0 ∧ φ' 10 7 = 0 := by
  obtain ⟨φ1, h1, h2, h3⟩ : ∃ φ1 : Lo, D_fill20 (wrl (wrl φ 11 8 0) 11 9 0) 0 = some φ1 ∧ (∀ r, r ≠ 20 → φ1 r = wrl (wrl φ 11 8 0) 11 9 0 r) ∧ (∀ j, j < 5 → φ1 20 j = 0) := by
    rw [D_fill20.eq_1]
    simp only [bnd_e]
    generalize hk : (5000 : Nat) = n
    exact f20l n 0 _ _ (by omega) (by omega) (fun _ _ => rfl) (fun j hj => absurd hj (Nat.not_lt_zero _))
  refine ⟨wrl (wrl φ1 10 6 0) 10 7 0, ?_, ?_, ?_, ?_, ?_, fun w hw => ?_, ?_, wrl_at _ _ _ _⟩
  · rw [D_X0_empty.eq_1]
    simp only [bnd_e, bns_e]
    rw [h1]
    simp only [bd1_e]
  · rw [wrl_nr _ _ (by decide), wrl_nr _ _ (by decide), h2 14 (by decide), wrl_nr _ _ (by decide), wrl_nr _ _ (by decide)]
  · rw [wrl_nr _ _ (by decide), wrl_nr _ _ (by decide), h2 30 (by decide), wrl_nr _ _ (by decide), wrl_nr _ _ (by decide)]
  · rw [wrl_nr _ _ (by decide), wrl_nr _ _ (by decide), h2 11 (by decide), wrl_ni _ _ (by decide), wrl_at]
  · rw [wrl_nr _ _ (by decide), wrl_nr _ _ (by decide), h2 11 (by decide), wrl_at]
  · rw [wrl_nr _ _ (by decide), wrl_nr _ _ (by decide)]; exact h3 w hw
  · rw [wrl_ni _ _ (by decide), wrl_at]
/-- the drafts of nobody -/
theorem DR_0 {φ M : Lo} (a8 : φ 11 8 = 0) (a9 : φ 11 9 = 0) (a20 : ∀ w, w < 5 → φ 20 w = 0) (a6 : φ 10 6 = 0) (a7 : φ 10 7 = 0) (p9 : φ 14 9 = 0) (m43 : ∀ i, i < 59 → M 43 i = fdc i) (m5 : M 17 5 = 0) (m6 : M 17 6 = 0) (m7 : M 17 7 = 0) (m8 : M 17 8 = -4) : DR φ M := by
  have z : ∀ i, i < 59 → ¬ (20 ≤ i ∧ i ≤ 24) → M 43 i = 0 := fun i hi hn => by rw [m43 i hi]; exact if_neg hn
  have kz : kcn φ = 0 := by
    unfold kcn
    rw [a20 0 (by decide), a20 1 (by decide), a20 2 (by decide), a20 3 (by decide), a20 4 (by decide)]
    decide
  refine ⟨⟨0, by decide, a8, m5, fun m hm => absurd hm (Nat.not_lt_zero _), fun m hm => ⟨z _ (by omega) (by omega), ?_⟩, a9, z 30 (by decide) (by decide)⟩, ⟨fun w hw => ?_, by rw [m6, kz], by rw [kz]; decide, by rw [m8]; decide, fun n hn => ⟨fun _ w hw => ⟨fun _ => ?_, fun _ => a20 w hw⟩, fun _ => by rw [m8]; omega⟩⟩, ⟨⟨by rw [p9, m7], Or.inl m7⟩, ⟨by rw [a6, z 31 (by decide) (by decide)], by rw [a6]; decide, by rw [a6]; decide⟩, fun _ => a6, fun i hi => ?_, a7, z 40 (by decide) (by decide)⟩⟩
  · rw [m43 _ (by omega)]
    unfold fdc
    rw [if_pos (by omega)]
    omega
  · rw [a20 w hw, z _ (by omega) (by omega)]; decide
  · rw [a20 w hw]; exact Int.pow_pos (by decide)
  · rw [a6] at hi; omega
/-- what is told becomes what there is -/
theorem DR_FE {φ M : Lo} (hd : DR φ M) : ∃ n : Nat, n ≤ 5 ∧ φ 11 8 = n ∧ M 17 5 = n ∧ FF n φ (M 43) ∧ EE n φ (M 43) := by
  obtain ⟨⟨n, g1, g2, g3, g4, g5, g6, g7⟩, ⟨k1, k2, k3, k4, k5⟩, ⟨p1, p2, p3, p4, p5, p6⟩⟩ := hd
  refine ⟨n, g1, g2, g3, ⟨⟨g2, g1⟩, fun m hm => ?_, ⟨by rw [g6, g7], by rw [g6]; decide, by rw [g6]; decide⟩, fun m hm => ?_, fun a b hab hb => ?_⟩, ⟨k1, p2, p4, ⟨by rw [p5, p6], by rw [p5]; decide, by rw [p5]; decide⟩, fun i hi => ?_, k3⟩⟩
  · obtain ⟨a, b, c, d, e⟩ := g4 m hm
    obtain ⟨f, g⟩ := g5 m (by omega)
    exact ⟨a.1, b.1, c.1, by rw [d, f], by rw [e, g]⟩
  · obtain ⟨a, b, c, d, e⟩ := g4 m hm
    refine ⟨a.2, b.2, c.2, by rw [d]; decide, by rw [e]; omega⟩
  · rw [(g4 a (by omega)).2.2.2.2, (g4 b hb).2.2.2.2]; omega
  · rw [p5] at hi; omega
theorem tx_a {L : Nat} {φ M : Lo} (h : TP L φ M) : TE M (D_X4_wholeText φ) (D_X7_text M) := by
  obtain ⟨φ1, a1, a14, a30, a8, a9, a20, a6, a7⟩ := D_emp φ
  obtain ⟨M1, m1, mr, m17, m43, m5, m6, m7, m8⟩ := D_fd (wrl (wrl M 17 15 0) 17 11 0)
  generalize hφ2 : wrl (wrl (wrl (wrl φ1 14 3 0) 14 4 0) 14 5 0) 14 9 0 = φ2
  have kr : ∀ r, r ≠ 14 → φ2 r = φ1 r := fun r a => by rw [← hφ2, wrl_nr _ _ a, wrl_nr _ _ a, wrl_nr _ _ a, wrl_nr _ _ a]
  have e2 : φ2 14 2 = φ 14 2 := by rw [← hφ2, wrl_ni _ _ (by decide), wrl_ni _ _ (by decide), wrl_ni _ _ (by decide), wrl_ni _ _ (by decide), a14]
  have e3 : φ2 14 3 = 0 := by rw [← hφ2, wrl_ni _ _ (by decide), wrl_ni _ _ (by decide), wrl_ni _ _ (by decide), wrl_at]
  have e5 : φ2 14 5 = ((0 : Nat) : Int) := by rw [← hφ2, wrl_ni _ _ (by decide), wrl_at]; rfl
  have e9 : φ2 14 9 = 0 := by rw [← hφ2, wrl_at]
  have t10 : M1 17 10 = M 17 10 := by rw [m17 10 (by decide), wrl_ni _ _ (by decide), wrl_ni _ _ (by decide)]
  have t11 : M1 17 11 = ((0 : Nat) : Int) := by rw [m17 11 (by decide), wrl_at]; rfl
  have t15 : M1 17 15 = 0 := by rw [m17 15 (by decide), wrl_ni _ _ (by decide), wrl_at]
  have t44 : M1 44 = M 44 := by rw [mr 44 (by decide) (by decide), wrl_nr _ _ (by decide), wrl_nr _ _ (by decide)]
  have km : KM M M1 := ⟨fun r a b => by rw [mr r a b, wrl_nr _ _ a, wrl_nr _ _ a], fun i a => by rw [m17 i (by omega), wrl_ni _ _ (by omega), wrl_ni _ _ (by omega)]⟩
  have tp : TP L φ2 M1 := TP_c (TP_m h t10 t44) e2 (by rw [kr 30 (by decide), a30])
  have d1 : DR φ2 M1 := DR_0 (by rw [kr 11 (by decide)]; exact a8) (by rw [kr 11 (by decide)]; exact a9) (by rw [kr 20 (by decide)]; exact a20) (by rw [kr 10 (by decide)]; exact a6) (by rw [kr 10 (by decide)]; exact a7) e9 m43 m5 m6 m7 m8
  obtain ⟨φ', M', q, hn, hh⟩ := lex tp (Nat.zero_le L) e5 t11 t15
  have ax : AX L 0 φ2 M' ∧ K17 M1 M' := by
    rcases hh with ⟨e', k, ha, kφ, kM, a3, a4, a5, a6, a7, b11, b12, b13, b15, c1, c2, c3, c4⟩ | ⟨ha, kφ, kM, a3, a4, b15, b16⟩
    · refine ⟨⟨Nat.zero_le L, Or.inl ⟨φ', q, e', k, ha, kφ, ⟨TP_K tp kφ kM, a3.trans e3, a5, b11, b15, c3, a7.trans b12.symm⟩, a6, a7, b13, c1, c2, ?_⟩⟩, kM⟩
      rw [kφ.1 30 (by decide)]
      rcases c4 with ⟨x, y, z⟩ | x | x | x
      · exact Or.inl ⟨x, y⟩
      · exact Or.inr (Or.inl x)
      · exact Or.inr (Or.inr (Or.inl x))
      · exact Or.inr (Or.inr (Or.inr x))
    · exact ⟨⟨Nat.zero_le L, Or.inr ⟨φ', ha, a3.trans b15.symm, a4.trans b16.symm, by rw [b15]; decide⟩⟩, kM⟩
  rw [D_X4_wholeText.eq_1, a1, D_X7_text.eq_1]
  simp only [bd1_e, bnd_e, bns_e]
  rw [m1]
  simp only [bd1_e]
  rw [hn, hφ2]
  simp only [bd1_e]
  generalize hk : (5000 : Nat) = n
  have L160 := h.2.2.1
  have fin := tx_l L160 (M0 := M) n n 0 0 φ2 M' ax.1 (DR_K d1 (K8_rf φ2) ax.2) (KM_tr (KM_K ax.2) km) (Nat.le_refl _) (by omega) (by omega)
  exact fin
theorem rl_tx {N N' : Nat} {σ σ' : Sg} (h : rlS N σ) (hF : RFl N' (σ' 1) (σ' 13)) (hI : RIm N' (σ' 0) (σ' 3) (σ' 4) (σ' 13)) (e2 : σ' 2 14 2 = 0) (es : ∀ k, k < 4 → σ' (20 + k) = σ (20 + k)) (e7 : σ' 0 16 7 = σ' 13 17 15) (e8 : σ' 0 16 8 = σ 0 16 8) (m10 : σ' 13 17 10 = 0) (m24 : σ' 13 17 24 = σ 13 17 24) (m47 : σ' 13 47 = σ 13 47) (m48 : σ' 13 48 = σ 13 48) (m49 : σ' 13 49 = σ 13 49) : rlS N' σ' := by
  obtain ⟨-, -, -, d, e⟩ := h
  refine ⟨hF, hI, ⟨⟨by rw [e2, m10], by rw [e2]; decide, by rw [e2]; decide⟩, fun i hi => ?_⟩, ⟨e7, by rw [e8, m24]; exact d.2⟩, fun k hk => ?_⟩
  · rw [e2] at hi; omega
  · have := e k hk
    unfold RSh at this ⊢
    rw [es k hk, m47, m48, m49]
    exact this
theorem tx61 (σ : Sg) (y : Int) : D_X6_text_61 y 5000 σ 0 = some (y, wr (wr σ 0 33 0 0) 0 33 1 0) := by
  obtain ⟨n, hn⟩ : ∃ n, (5000 : Nat) = n + 1 + 1 + 1 := ⟨4997, rfl⟩
  rw [hn, D_X6_text_61.eq_2]
  simp only [bnd_e, bns_e]
  rw [if_pos (by decide), show (0 : Int) + 1 = 1 from rfl, D_X6_text_61.eq_2]
  simp only [bnd_e, bns_e]
  rw [if_pos (by decide), show (1 : Int) + 1 = 2 from rfl, D_X6_text_61.eq_2]
  simp only [bnd_e, bns_e]
  rw [if_neg (by decide)]
  rfl
theorem wr_sw (σ : Sg) (φ ψ : Lo) (v : Int) : wr (gset (gset σ 2 φ) 0 ψ) 2 14 2 v = gset (gset σ 2 (wrl φ 14 2 v)) 0 ψ := by
  rw [wr_0, gset_ne _ _ (show (2 : Nat) ≠ 0 by decide), gset_at]
  funext o
  by_cases q2 : o = 2
  · subst q2
    rw [gset_at, gset_ne _ _ (by decide), gset_at]
  · rw [gset_ne _ _ q2]
    by_cases q0 : o = 0
    · subst q0
      rw [gset_at, gset_at]
    · rw [gset_ne _ _ q0, gset_ne _ _ q0, gset_ne _ _ q2, gset_ne _ _ q2]
theorem cl_text {N : Nat} {σ : Sg} (h : rlS N σ) : CS σ (D_X6_text σ) (D_X7_text (σ 13)) := by
  obtain ⟨hA, hI, ⟨⟨t1, t2, t3⟩, t4⟩, hT, hS⟩ := h
  have h : rlS N σ := ⟨hA, hI, ⟨⟨t1, t2, t3⟩, t4⟩, hT, hS⟩
  obtain ⟨L, hL, eL⟩ := nat_of (x := σ 2 14 2) (b := 161) t2 (by omega)
  have tp : TP L (σ 2) (σ 13) := ⟨eL, by rw [← t1]; exact eL, by omega, fun i hi => by
    have := t4 i (by omega)
    exact ⟨this.1.symm, this.2⟩⟩
  obtain ⟨y, φ', c1, hh⟩ := tx_a tp
  have n20 : ∀ (φa φb φc : Lo) (o : Nat), o ≠ 13 → o ≠ 0 → o ≠ 2 → gset (gset (gset σ 2 φa) 0 φb) 13 φc o = σ o := fun φa φb φc o a b c => by rw [gset_ne _ _ a, gset_ne _ _ b, gset_ne _ _ c]
  rcases hh with ⟨f0, M', m1, km, m15⟩ | ⟨f0, M', m1, km, m15, hd⟩
  · have e1 : D_X6_text σ = some (-10 - φ' 14 4, gset (gset σ 2 (wrl φ' 14 2 0)) 0 (wrl (σ 0) 16 7 (φ' 14 3))) := by
      rw [D_X6_text.eq_1, c1]
      simp only [bd2_e, bns_e, bnd_e]
      rw [gset_at, wr_0 (gset σ 2 φ'), gset_ne σ φ' (show (0 : Nat) ≠ 2 by decide)]
      have ex : wr (gset (gset σ 2 φ') 0 (wrl (σ 0) 16 7 (φ' 14 3))) 2 14 2 0 = gset (gset σ 2 (wrl φ' 14 2 0)) 0 (wrl (σ 0) 16 7 (φ' 14 3)) := by
        exact wr_sw _ _ _ _
      rw [ex, gset_at, wrl_at, if_neg f0, gset_ne _ _ (show (2 : Nat) ≠ 0 by decide), gset_at, wrl_ni _ _ (show (4 : Nat) ≠ 2 by decide)]
    refine ⟨_, _, _, N, e1, by rw [gset_ne _ _ (by decide), gset_ne _ _ (by decide)], m1, ?_⟩
    have w17 : ∀ i, i ≠ 10 → wrl M' 17 10 0 17 i = M' 17 i := fun i a => wrl_ni _ _ a
    have wr' : ∀ r, r ≠ 17 → wrl M' 17 10 0 r = M' r := fun r a => wrl_nr _ _ a
    refine rl_tx h ?_ ?_ ?_ (fun k hk => n20 _ _ _ _ (by omega) (by omega) (by omega)) ?_ ?_ ?_ ?_ ?_ ?_ ?_
    · rw [n20 _ _ _ 1 (by decide) (by decide) (by decide), gset_at]
      exact RFl_c hA (by rw [w17 3 (by decide), km.2 3 (by decide)]) (fun i _ => by rw [wr' 40 (by decide), km.1 40 (by decide) (by decide)])
    · rw [n20 _ _ _ 3 (by decide) (by decide) (by decide), n20 _ _ _ 4 (by decide) (by decide) (by decide), gset_at, gset_ne _ _ (show (0 : Nat) ≠ 13 by decide), gset_at]
      unfold RIm
      rw [wrl_nr (σ 0) _ (show (33 : Nat) ≠ 16 by decide), wr' 42 (by decide), wr' 40 (by decide), km.1 42 (by decide) (by decide), km.1 40 (by decide) (by decide)]
      exact hI
    · rw [gset_ne _ _ (by decide), gset_ne _ _ (by decide), gset_at, wrl_at]
    · rw [gset_ne _ _ (by decide), gset_at, wrl_at, gset_at, w17 15 (by decide)]; exact m15.symm
    · rw [gset_ne _ _ (by decide), gset_at, wrl_ni _ _ (by decide)]
    · rw [gset_at, wrl_at]
    · rw [gset_at, w17 24 (by decide), km.2 24 (by decide)]
    · rw [gset_at, wr' 47 (by decide), km.1 47 (by decide) (by decide)]
    · rw [gset_at, wr' 48 (by decide), km.1 48 (by decide) (by decide)]
    · rw [gset_at, wr' 49 (by decide), km.1 49 (by decide) (by decide)]
  · obtain ⟨n, n5, n8, n17, hF, hE⟩ := DR_FE hd
    obtain ⟨M2, k1, k2, k3, k4, k5, k6, k7⟩ := D_kd (wrl M' 17 10 0)
    rw [k1] at m1
    simp only [bd1_e] at m1
    generalize hσ1 : gset (gset σ 2 (wrl φ' 14 2 0)) 0 (wrl (σ 0) 16 7 (φ' 14 3)) = σ1
    have s2 : σ1 2 = wrl φ' 14 2 0 := by rw [← hσ1, gset_ne _ _ (by decide), gset_at]
    have s0 : σ1 0 = wrl (σ 0) 16 7 (φ' 14 3) := by rw [← hσ1, gset_at]
    have sr : ∀ o, o ≠ 0 → o ≠ 2 → σ1 o = σ o := fun o a b => by rw [← hσ1, gset_ne _ _ a, gset_ne _ _ b]
    obtain ⟨φ1, c2, c3⟩ := D_ce (σ := σ1) (o := 1) (a := 2) (N := n) (by decide) n5 (by rw [s2, wrl_nr _ _ (by decide)]; exact n8)
    have e1 : D_X6_text σ = some (y, wr (wr (gset σ1 1 φ1) 0 33 0 0) 0 33 1 0) := by
      rw [D_X6_text.eq_1, c1]
      simp only [bd2_e, bns_e, bnd_e]
      rw [gset_at, wr_0 (gset σ 2 φ'), gset_ne σ φ' (show (0 : Nat) ≠ 2 by decide)]
      have ex : wr (gset (gset σ 2 φ') 0 (wrl (σ 0) 16 7 (φ' 14 3))) 2 14 2 0 = σ1 := by
        rw [← hσ1]
        exact wr_sw _ _ _ _
      rw [ex, s0, wrl_at, if_pos f0, c2]
      simp only [bd1_e]
      exact tx61 _ _
    have z0 : wr (wr (gset σ1 1 φ1) 0 33 0 0) 0 33 1 0 = gset (gset σ1 1 φ1) 0 (wrl (wrl (σ1 0) 33 0 0) 33 1 0) := by
      rw [wr_0 (gset σ1 1 φ1), wr_g, gset_ne _ _ (show (0 : Nat) ≠ 1 by decide)]
    rw [z0] at e1
    refine ⟨_, _, _, n, e1, by rw [gset_ne _ _ (by decide), gset_ne _ _ (by decide), sr 13 (by decide) (by decide)], m1, ?_⟩
    have w17 : ∀ i, i ≠ 10 → wrl M' 17 10 0 17 i = M' 17 i := fun i a => wrl_ni _ _ a
    have wr' : ∀ r, r ≠ 17 → wrl M' 17 10 0 r = M' r := fun r a => wrl_nr _ _ a
    have fe := cpe_FE (φ' := φ1) (ψ := σ1 2) (N := n) (μ := M' 43) (by
      rw [s2]
      exact FF_cg hF (by rw [wrl_nr _ _ (by decide)]) (by rw [wrl_nr _ _ (by decide)]) (fun m hm => ⟨by rw [wrl_nr _ _ (by decide)], by rw [wrl_nr _ _ (by decide)], by rw [wrl_nr _ _ (by decide)], by rw [wrl_nr _ _ (by decide)], by rw [wrl_nr _ _ (by decide)]⟩) (fun _ _ => rfl)) (by
      rw [s2]
      refine EE_cg hE (fun w hw => ?_) ?_ (fun i hi => ?_) ?_ (fun i hi => ⟨?_, ?_, ?_⟩) (fun _ _ _ _ => rfl) <;> rw [wrl_nr _ _ (by decide)]) c3
    have e40 : ∀ i, i < 59 → M2 40 i = M' 43 i := fun i hi => by rw [k4 i hi, wr' 43 (by decide)]
    refine rl_tx h ⟨?_, ?_, ?_⟩ ?_ ?_ (fun k hk => ?_) ?_ ?_ ?_ ?_ ?_ ?_ ?_
    · rw [gset_at, k5, w17 5 (by decide)]; exact n17
    · rw [gset_ne _ _ (by decide), gset_ne _ _ (by decide), gset_at, gset_at]
      exact FF_cg fe.1 rfl rfl (fun _ _ => ⟨rfl, rfl, rfl, rfl, rfl⟩) (fun i hi => e40 i (by omega))
    · rw [gset_ne _ _ (by decide), gset_ne _ _ (by decide), gset_at, gset_at]
      exact EE_cg fe.2 (fun _ _ => rfl) rfl (fun _ _ => rfl) rfl (fun _ _ => ⟨rfl, rfl, rfl⟩) (fun i a b c => e40 i b)
    · rw [gset_at, gset_ne _ _ (show (0 : Nat) ≠ 13 by decide), gset_at]
      refine ⟨⟨?_, Or.inl k6⟩, ⟨?_, Or.inl k7⟩, fun q => ?_, fun q => ?_⟩
      · rw [wrl_ni _ _ (by decide), wrl_at, k6]
      · rw [wrl_at, k7]
      · rw [k6] at q; exact absurd q (by decide)
      · rw [k7] at q; exact absurd q (by decide)
    · rw [gset_ne _ _ (by decide), gset_ne _ _ (by decide), gset_ne _ _ (by decide), s2, wrl_at]
    · rw [gset_ne _ _ (by omega), gset_ne _ _ (by omega), gset_ne _ _ (by omega), sr _ (by omega) (by omega)]
    · rw [gset_ne _ _ (by decide), gset_at, wrl_nr _ _ (by decide), wrl_nr _ _ (by decide), s0, wrl_at, gset_at, k3 15 (by decide), w17 15 (by decide), m15]; exact f0
    · rw [gset_ne _ _ (by decide), gset_at, wrl_nr _ _ (by decide), wrl_nr _ _ (by decide), s0, wrl_ni _ _ (by decide)]
    · rw [gset_at, k3 10 (by decide), wrl_at]
    · rw [gset_at, k3 24 (by decide), w17 24 (by decide), km.2 24 (by decide)]
    · rw [gset_at, k2 47 (by decide) (by decide) (by decide), wr' 47 (by decide), km.1 47 (by decide) (by decide)]
    · rw [gset_at, k2 48 (by decide) (by decide) (by decide), wr' 48 (by decide), km.1 48 (by decide) (by decide)]
    · rw [gset_at, k2 49 (by decide) (by decide) (by decide), wr' 49 (by decide), km.1 49 (by decide) (by decide)]
