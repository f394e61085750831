/-! one TOKEN on both sides -/
def K14 (φ φ' : Lo) : Prop := (∀ r, r ≠ 14 → φ' r = φ r) ∧ (∀ i, i ≠ 3 → i ≠ 4 → i ≠ 5 → i ≠ 6 → i ≠ 7 → φ' 14 i = φ 14 i)
def K17 (M M' : Lo) : Prop := (∀ r, r ≠ 17 → M' r = M r) ∧ (∀ i, (i < 11 ∨ 16 < i) → M' 17 i = M 17 i)
theorem K14_rf (φ : Lo) : K14 φ φ := ⟨fun _ _ => rfl, fun _ _ _ _ _ _ => rfl⟩
theorem K17_rf (M : Lo) : K17 M M := ⟨fun _ _ => rfl, fun _ _ => rfl⟩
theorem K14_tr {φ φ' φ'' : Lo} (h2 : K14 φ' φ'') (h : K14 φ φ') : K14 φ φ'' := ⟨fun r x => (h2.1 r x).trans (h.1 r x), fun i a b c d e => (h2.2 i a b c d e).trans (h.2 i a b c d e)⟩
theorem K17_tr {M M' M'' : Lo} (h2 : K17 M' M'') (h : K17 M M') : K17 M M'' := ⟨fun r x => (h2.1 r x).trans (h.1 r x), fun i a => (h2.2 i a).trans (h.2 i a)⟩
theorem K14_w {φ φ' : Lo} (h : K14 φ φ') {i : Nat} (hi : 3 ≤ i ∧ i ≤ 7) (v : Int) : K14 φ (wrl φ' 14 i v) := ⟨fun r x => by rw [wrl_nr _ _ x]; exact h.1 r x, fun j a b c d e => by rw [wrl_ni _ _ (by omega)]; exact h.2 j a b c d e⟩
theorem K17_w {M M' : Lo} (h : K17 M M') {i : Nat} (hi : 11 ≤ i ∧ i ≤ 16) (v : Int) : K17 M (wrl M' 17 i v) := ⟨fun r x => by rw [wrl_nr _ _ x]; exact h.1 r x, fun j a => by rw [wrl_ni _ _ (by omega)]; exact h.2 j a⟩
theorem TP_K {L : Nat} {φ φ' M M' : Lo} (h : TP L φ M) (h1 : K14 φ φ') (h2 : K17 M M') : TP L φ' M' := ⟨by rw [h1.2 2 (by decide) (by decide) (by decide) (by decide) (by decide)]; exact h.1, by rw [h2.2 10 (by decide)]; exact h.2.1, h.2.2.1, by rw [h1.1 30 (by decide), h2.1 44 (by decide)]; exact h.2.2.2⟩
/-- a TOKEN that is taken by both: from q to e, of kind k -/
def LXo (L p : Nat) (φ M φ' M' : Lo) (q e : Nat) (k : Int) : Prop := K14 φ φ' ∧ K17 M M' ∧ φ' 14 3 = φ 14 3 ∧ φ' 14 4 = φ 14 4 ∧ φ' 14 5 = e ∧ φ' 14 6 = k ∧ φ' 14 7 = q ∧ M' 17 11 = e ∧ M' 17 12 = q ∧ M' 17 13 = k ∧ M' 17 15 = 0 ∧ p ≤ q ∧ q ≤ e ∧ e ≤ L ∧ ((k = 0 ∧ q = L ∧ e = L) ∨ (k = 1 ∧ q < e) ∨ (k = 2 ∧ q < e ∧ e ≤ q + 2 ∧ M' 17 14 = dvl (φ 30) q (e - q) ∧ ∀ j, q ≤ j → j < e → 48 ≤ φ 30 j ∧ φ 30 j ≤ 57) ∨ (k = 3 ∧ q < e))
/-- one that both refuse -/
def LXb (φ M φ' M' : Lo) (q : Nat) : Prop := K14 φ φ' ∧ K17 M M' ∧ φ' 14 3 = 1 ∧ φ' 14 4 = q ∧ M' 17 15 = 1 ∧ M' 17 16 = q
theorem adv158 {φ : Lo} {k : Int} (hk : φ 14 6 = k) {q e : Nat} (h7 : φ 14 7 = q) (h5 : φ 14 5 = e) : (¬ (k = 2 ∧ q + 2 < e) → D_X4_advance_158 φ = some (1, φ)) ∧ ((k = 2 ∧ q + 2 < e) → D_X4_advance_158 φ = some (0, wrl (wrl φ 14 3 1) 14 4 q)) := by
  constructor
  · intro h
    rw [D_X4_advance_158.eq_1, D_X4_advance_191.eq_1]
    simp only [bnd_e]
    rw [hk, h7, h5]
    by_cases c : k = 2
    · rw [if_pos c, if_neg (by omega)]
    · rw [if_neg c]
  · intro h
    rw [D_X4_advance_158.eq_1, D_X4_advance_191.eq_1]
    simp only [bnd_e, D_X4_refuse.eq_1, bns_e]
    rw [hk, h7, h5, if_pos h.1, if_pos (by omega)]
    simp only [bd2_e, if_true]
theorem adv93a {φ : Lo} (h : φ 14 6 = 1 ∨ φ 14 6 = 2) : D_X4_advance_93 φ = D_X4_advance_115 1 5000 φ := by
  rw [D_X4_advance_93.eq_1]
  simp only [bnd_e, D_X4_advance_109.eq_1, D_X4_advance_114.eq_1]
  rcases h with c | c
  · rw [if_pos c]
  · rw [if_neg (by omega), if_pos c]
theorem adv93b {φ : Lo} (h1 : φ 14 6 ≠ 1) (h2 : φ 14 6 ≠ 2) : D_X4_advance_93 φ = D_X4_advance_158 φ := by
  rw [D_X4_advance_93.eq_1]
  simp only [bnd_e, D_X4_advance_109.eq_1, D_X4_advance_114.eq_1]
  rw [if_neg h1, if_neg h2]
  generalize hk : (5000 : Nat) = n
  obtain ⟨m, rfl⟩ : ∃ m, n = m + 1 := ⟨n - 1, by omega⟩
  rw [D_X4_advance_115.eq_2, if_pos rfl]
theorem need1 (M : Lo) (v : Int) : D_X7_needs M 1 v = some M := by rw [D_X7_needs.eq_1, if_neg (by decide)]
theorem need0 {M : Lo} (v : Int) (h : M 17 15 = 0) : D_X7_needs M 0 v = some (wrl (wrl M 17 15 v) 17 16 (M 17 12)) := by
  rw [D_X7_needs.eq_1, if_pos rfl]
  simp only [bnd_e, bns_e]
  rw [if_pos h, wrl_ni M v (show (12 : Nat) ≠ 15 by decide)]
theorem lex {L p : Nat} {φ M : Lo} (h : TP L φ M) (hp : p ≤ L) (e1 : φ 14 5 = p) (e2 : M 17 11 = p) (e15 : M 17 15 = 0) : ∃ (φ' M' : Lo) (q : Nat), D_X7_next M = some M' ∧ ((∃ (e : Nat) (k : Int), D_X4_advance φ = some (1, φ') ∧ LXo L p φ M φ' M' q e k) ∨ (D_X4_advance φ = some (0, φ') ∧ LXb φ M φ' M' q)) := by
  have L160 := h.2.2.1
  obtain ⟨q, q1, q2, q3, q4, q5⟩ : ∃ q, p ≤ q ∧ q ≤ L ∧ (q < L → φ 30 q ≠ 32) ∧ D_X4_advance_0 5000 φ = D_X4_advance_38 (wrl φ 14 5 q) ∧ D_X7_next_8 5000 M = D_X7_next_8 1 (wrl M 17 11 q) := by
    generalize hk : (5000 : Nat) = n
    exact lex_bl n p φ M h (by omega) hp e1 e2
  rw [D_X7_next.eq_1, D_X4_advance.eq_1]
  simp only [bnd_e]
  rw [e15, if_neg (by decide), q4, q5]
  generalize hφ2 : wrl (wrl φ 14 5 q) 14 7 q = φ2
  generalize hM2 : wrl (wrl M 17 11 q) 17 12 q = M2
  have kφ : K14 φ φ2 := by rw [← hφ2]; exact K14_w (K14_w (K14_rf _) (by decide) _) (by decide) _
  have kM : K17 M M2 := by rw [← hM2]; exact K17_w (K17_w (K17_rf _) (by decide) _) (by decide) _
  have h2 : TP L φ2 M2 := TP_K h kφ kM
  have a5 : φ2 14 5 = q := by rw [← hφ2, wrl_ni _ _ (by decide), wrl_at]
  have a7 : φ2 14 7 = q := by rw [← hφ2, wrl_at]
  have a3 : φ2 14 3 = φ 14 3 := by rw [← hφ2, wrl_ni _ _ (by decide), wrl_ni _ _ (by decide)]
  have a4 : φ2 14 4 = φ 14 4 := by rw [← hφ2, wrl_ni _ _ (by decide), wrl_ni _ _ (by decide)]
  have b11 : M2 17 11 = q := by rw [← hM2, wrl_ni _ _ (by decide), wrl_at]
  have b12 : M2 17 12 = q := by rw [← hM2, wrl_at]
  have b15 : M2 17 15 = 0 := by rw [← hM2, wrl_ni _ _ (by decide), wrl_ni _ _ (by decide)]; exact e15
  have a30 : φ2 30 = φ 30 := kφ.1 30 (by decide)
  have c1 : ∀ k : Int, (if q < L then kd (φ 30 q) else 0) = k → (k ≠ 0 → q < L) → D_X4_advance_38 (wrl φ 14 5 q) = (if k = 4 then some (0, wrl (wrl (wrl φ2 14 6 k) 14 3 1) 14 4 q) else if k = 0 then D_X4_advance_93 (wrl φ2 14 6 k) else D_X4_advance_93 (wrl (wrl φ2 14 6 k) 14 5 ((q + 1 : Nat) : Int))) := fun k hk hk0 => by
    rw [D_X4_advance_38.eq_1]
    simp only [bnd_e, bns_e]
    rw [wrl_at φ 14 5 q, hφ2, a7, D_tok h2, a30, hk]
    simp only [bd0_e]
    rw [wrl_at φ2 14 6 k, wrl_ni φ2 k (show (7 : Nat) ≠ 6 by decide), a7, wrl_ni φ2 k (show (5 : Nat) ≠ 6 by decide), a5]
    simp only [D_X4_refuse.eq_1, bnd_e, bns_e, bd2_e]
    by_cases c : k = 4
    · rw [if_pos c, if_pos c]
    · rw [if_neg c, if_neg c]
      by_cases d : k = 0
      · rw [if_pos d, if_pos d]
      · have := hk0 d
        rw [if_neg d, if_neg d, chk_e (by omega), nc1]
  have m1 : D_X7_byteAt (wrl M 17 11 q) q = some (if q < L then φ 30 q else -1) := D_byt (TP_K h (K14_rf φ) (K17_w (K17_rf M) (by decide) _)) q
  have m2 : D_X7_byteAt M2 q = some (if q < L then φ 30 q else -1) := by rw [← a30]; exact D_byt h2 q
  by_cases hq : q < L
  · have hb := h.2.2.2 q hq
    have n32 := q3 hq
    rw [if_pos hq] at m1 m2
    have nx : D_X7_next_8 1 (wrl M 17 11 q) = bd0 (D_X7_in (φ 30 q) 97 122) (fun r71 => if r71 = 0 then bd0 (D_X7_in (φ 30 q) 48 57) (fun r124 => if r124 = 0 then (if φ 30 q = 59 then D_X7_next_260 (wrl M2 17 13 3) 1 else D_X7_next_260 (wrl M2 17 13 3) 0) else D_X7_next_140 5000 (wrl (wrl M2 17 13 2) 17 14 0)) else D_X7_next_82 5000 (wrl M2 17 13 1)) := by
      rw [D_X7_next_8.eq_2]
      simp only [bnd_e, bns_e]
      rw [wrl_at M 17 11 q, m1]
      simp only [bd0_e]
      rw [if_neg n32, hM2, b11, m2]
      simp only [bd0_e]
      rw [if_neg (by omega)]
    rw [nx]
    by_cases cl : 97 ≤ φ 30 q ∧ φ 30 q ≤ 122
    · have k : kd (φ 30 q) = 1 := if_pos cl
      obtain ⟨e, f1, f2, f3, f4⟩ : ∃ e, q + 1 ≤ e ∧ e ≤ L ∧ D_X4_advance_115 1 5000 (wrl (wrl φ2 14 6 1) 14 5 ((q + 1 : Nat) : Int)) = D_X4_advance_158 (wrl (wrl (wrl φ2 14 6 1) 14 5 ((q + 1 : Nat) : Int)) 14 5 e) ∧ (∀ n', L < n' + (q + 1) → D_X7_next_82 n' (wrl (wrl M2 17 13 1) 17 11 ((q + 1 : Nat) : Int)) = some (wrl (wrl (wrl M2 17 13 1) 17 11 ((q + 1 : Nat) : Int)) 17 11 e)) := by
        generalize hk : (5000 : Nat) = n
        exact lex_na n (q + 1) _ _ (TP_w (TP_w h2 (by decide) (by decide) _ _) (by decide) (by decide) _ _) (by omega) (by omega) (wrl_at _ _ _ _) (wrl_at _ _ _ _) (by rw [wrl_ni _ _ (by decide), wrl_at])
      have f5 : D_X7_next_82 5000 (wrl M2 17 13 1) = some (wrl (wrl M2 17 13 1) 17 11 e) := by
        generalize hk : (5000 : Nat) = n
        obtain ⟨m, rfl⟩ : ∃ m, n = m + 1 := ⟨n - 1, by omega⟩
        rw [D_X7_next_82.eq_2]
        simp only [bnd_e, bns_e]
        rw [wrl_ni M2 _ (show (11 : Nat) ≠ 13 by decide), b11, D_byt (TP_K h2 (K14_rf φ2) (K17_w (K17_rf M2) (by decide) 1)) q, if_pos hq, a30]
        simp only [bd0_e]
        rw [D_in1 cl.1 cl.2]
        simp only [bd0_e, i10]
        rw [chk_e (by omega), nc1, f4 m (by omega), wrl_wrl]
      rw [wrl_wrl] at f3
      refine ⟨wrl (wrl φ2 14 6 1) 14 5 e, wrl (wrl M2 17 13 1) 17 11 e, q, ?_, Or.inl ⟨e, 1, ?_, ?_⟩⟩
      · rw [D_in1 cl.1 cl.2]
        simp only [bd0_e, i10]
        exact f5
      · rw [c1 1 (by rw [if_pos hq, k]) (fun _ => hq), if_neg (by decide), if_neg (by decide), adv93a (Or.inl (by rw [wrl_ni _ _ (by decide), wrl_at])), f3]
        exact (adv158 (k := 1) (q := q) (e := e) (by rw [wrl_ni _ _ (by decide), wrl_at]) (by rw [wrl_ni _ _ (by decide), wrl_ni _ _ (by decide)]; exact a7) (wrl_at _ _ _ _)).1 (fun z => absurd z.1 (by decide))
      · refine ⟨K14_w (K14_w kφ (by decide) _) (by decide) _, K17_w (K17_w kM (by decide) _) (by decide) _, ?_, ?_, wrl_at _ _ _ _, ?_, ?_, wrl_at _ _ _ _, ?_, ?_, ?_, q1, by omega, f2, Or.inr (Or.inl ⟨rfl, by omega⟩)⟩
        · rw [wrl_ni _ _ (by decide), wrl_ni _ _ (by decide)]; exact a3
        · rw [wrl_ni _ _ (by decide), wrl_ni _ _ (by decide)]; exact a4
        · rw [wrl_ni _ _ (by decide), wrl_at]
        · rw [wrl_ni _ _ (by decide), wrl_ni _ _ (by decide)]; exact a7
        · rw [wrl_ni _ _ (by decide), wrl_ni _ _ (by decide)]; exact b12
        · rw [wrl_ni _ _ (by decide), wrl_at]
        · rw [wrl_ni _ _ (by decide), wrl_ni _ _ (by decide)]; exact b15
    · by_cases cd : 48 ≤ φ 30 q ∧ φ 30 q ≤ 57
      · have k : kd (φ 30 q) = 2 := by
          unfold kd
          rw [if_neg cl, if_pos cd]
        generalize hφ4 : wrl (wrl φ2 14 6 2) 14 5 ((q + 1 : Nat) : Int) = φ4
        generalize hM4 : wrl (wrl (wrl (wrl M2 17 13 2) 17 14 0) 17 14 (φ 30 q - 48)) 17 11 ((q + 1 : Nat) : Int) = M4
        have kφ4 : K14 φ φ4 := by rw [← hφ4]; exact K14_w (K14_w kφ (by decide) _) (by decide) _
        have kM4 : K17 M M4 := by rw [← hM4]; exact K17_w (K17_w (K17_w (K17_w kM (by decide) _) (by decide) _) (by decide) _) (by decide) _
        have e30 : φ4 30 = φ 30 := kφ4.1 30 (by decide)
        have x5 : φ4 14 5 = ((q + 1 : Nat) : Int) := by rw [← hφ4, wrl_at]
        have x6 : φ4 14 6 = 2 := by rw [← hφ4, wrl_ni _ _ (by decide), wrl_at]
        have x7 : φ4 14 7 = q := by rw [← hφ4, wrl_ni _ _ (by decide), wrl_ni _ _ (by decide)]; exact a7
        have x3 : φ4 14 3 = φ 14 3 := by rw [← hφ4, wrl_ni _ _ (by decide), wrl_ni _ _ (by decide)]; exact a3
        have x4 : φ4 14 4 = φ 14 4 := by rw [← hφ4, wrl_ni _ _ (by decide), wrl_ni _ _ (by decide)]; exact a4
        have y11 : M4 17 11 = ((q + 1 : Nat) : Int) := by rw [← hM4, wrl_at]
        have y12 : M4 17 12 = q := by rw [← hM4, wrl_ni _ _ (by decide), wrl_ni _ _ (by decide), wrl_ni _ _ (by decide), wrl_ni _ _ (by decide)]; exact b12
        have y13 : M4 17 13 = 2 := by rw [← hM4, wrl_ni _ _ (by decide), wrl_ni _ _ (by decide), wrl_ni _ _ (by decide), wrl_at]
        have y14 : M4 17 14 = φ 30 q - 48 := by rw [← hM4, wrl_ni _ _ (by decide), wrl_at]
        have y15 : M4 17 15 = 0 := by rw [← hM4, wrl_ni _ _ (by decide), wrl_ni _ _ (by decide), wrl_ni _ _ (by decide), wrl_ni _ _ (by decide)]; exact b15
        obtain ⟨e, f1, f2, f3, f3', f4, f5⟩ : ∃ e, q + 1 ≤ e ∧ e ≤ L ∧ (∀ j, q ≤ j → j < e → 48 ≤ φ4 30 j ∧ φ4 30 j ≤ 57) ∧ ¬ (e < L ∧ 48 ≤ φ4 30 e ∧ φ4 30 e ≤ 57) ∧ D_X4_advance_115 1 5000 φ4 = D_X4_advance_158 (wrl φ4 14 5 e) ∧ (∀ n', L < n' + (q + 1) → D_X7_next_140 n' M4 = D_X7_next_236 (wrl (wrl M4 17 14 (dvl (φ4 30) q (e - q))) 17 11 e) (if 2 < e - q then 0 else 1)) := by
          generalize hk : (5000 : Nat) = n
          refine lex_nu n (q + 1) φ4 M4 (TP_K h kφ4 kM4) (by omega) (by omega) (by omega) x5 y11 y12 x6 ?_ (fun j z1 z2 => ?_)
          · rw [y14, e30]
            unfold dvl
            rw [if_neg (by omega), if_pos (by omega)]
          · rw [e30, show j = q by omega]; exact cd
        rw [e30] at f3 f5
        have r1 : D_X7_next_140 5000 (wrl (wrl M2 17 13 2) 17 14 0) = D_X7_next_236 (wrl (wrl M4 17 14 (dvl (φ 30) q (e - q))) 17 11 e) (if 2 < e - q then 0 else 1) := by
          generalize hk : (5000 : Nat) = n
          obtain ⟨m, rfl⟩ : ∃ m, n = m + 1 := ⟨n - 1, by omega⟩
          have z11 : wrl (wrl M2 17 13 2) 17 14 0 17 11 = q := by rw [wrl_ni _ _ (by decide), wrl_ni _ _ (by decide)]; exact b11
          have z12 : wrl (wrl M2 17 13 2) 17 14 0 17 12 = q := by rw [wrl_ni _ _ (by decide), wrl_ni _ _ (by decide)]; exact b12
          rw [← f5 m (by omega), D_X7_next_140.eq_2]
          simp only [bnd_e, bns_e, D_X7_next_201.eq_1]
          rw [z11, z12, D_byt (TP_K h2 (K14_rf φ2) (K17_w (K17_w (K17_rf M2) (by decide) 2) (by decide) 0)) q, if_pos hq, a30]
          simp only [bd0_e]
          rw [D_in1 cd.1 cd.2]
          simp only [bd0_e, i10]
          rw [if_pos (by omega), wrl_at (wrl M2 17 13 2) 17 14 0, show 10 * (0 : Int) + φ 30 q - 48 = φ 30 q - 48 by omega, chk_e (by omega), wrl_ni _ _ (show (11 : Nat) ≠ 14 by decide), z11, chk_e (by omega), nc1, hM4]
        have cc : D_X4_advance_38 (wrl φ 14 5 q) = D_X4_advance_158 (wrl φ4 14 5 e) := by
          rw [c1 2 (by rw [if_pos hq, k]) (fun _ => hq), if_neg (by decide), if_neg (by decide), hφ4, adv93a (Or.inr x6), f4]
        have ad := adv158 (φ := wrl φ4 14 5 e) (k := 2) (q := q) (e := e) (by rw [wrl_ni _ _ (by decide)]; exact x6) (by rw [wrl_ni _ _ (by decide)]; exact x7) (wrl_at _ _ _ _)
        have rr1 : (bd0 (D_X7_in (φ 30 q) 97 122) (fun r71 => if r71 = 0 then bd0 (D_X7_in (φ 30 q) 48 57) (fun r124 => if r124 = 0 then (if φ 30 q = 59 then D_X7_next_260 (wrl M2 17 13 3) 1 else D_X7_next_260 (wrl M2 17 13 3) 0) else D_X7_next_140 5000 (wrl (wrl M2 17 13 2) 17 14 0)) else D_X7_next_82 5000 (wrl M2 17 13 1))) = D_X7_next_236 (wrl (wrl M4 17 14 (dvl (φ 30) q (e - q))) 17 11 e) (if 2 < e - q then 0 else 1) := by
          rw [D_in0 (by omega)]
          simp only [bd0_e, if_true]
          rw [D_in1 cd.1 cd.2]
          simp only [bd0_e, i10]
          exact r1
        rw [rr1, cc]
        by_cases d : 2 < e - q
        · refine ⟨wrl (wrl (wrl φ4 14 5 e) 14 3 1) 14 4 q, wrl (wrl (wrl (wrl M4 17 14 (dvl (φ 30) q (e - q))) 17 11 e) 17 15 1) 17 16 q, q, ?_, Or.inr ⟨ad.2 ⟨rfl, by omega⟩, ?_⟩⟩
          · rw [if_pos d, D_X7_next_236.eq_1]
            simp only [bnd_e]
            rw [need0 1 (by rw [wrl_ni _ _ (by decide), wrl_ni _ _ (by decide)]; exact y15), wrl_ni _ _ (show (12 : Nat) ≠ 11 by decide), wrl_ni M4 _ (show (12 : Nat) ≠ 14 by decide), y12]
            simp only [bd1_e]
          · refine ⟨K14_w (K14_w (K14_w kφ4 (by decide) _) (by decide) _) (by decide) _, K17_w (K17_w (K17_w (K17_w kM4 (by decide) _) (by decide) _) (by decide) _) (by decide) _, ?_, wrl_at _ _ _ _, ?_, wrl_at _ _ _ _⟩
            · rw [wrl_ni _ _ (by decide), wrl_at]
            · rw [wrl_ni _ _ (by decide), wrl_at]
        · refine ⟨wrl φ4 14 5 e, wrl (wrl M4 17 14 (dvl (φ 30) q (e - q))) 17 11 e, q, ?_, Or.inl ⟨e, 2, ad.1 (fun z => d (by omega)), ?_⟩⟩
          · rw [if_neg d, D_X7_next_236.eq_1]
            simp only [bnd_e, need1, bd1_e]
          · refine ⟨K14_w kφ4 (by decide) _, K17_w (K17_w kM4 (by decide) _) (by decide) _, ?_, ?_, wrl_at _ _ _ _, ?_, ?_, wrl_at _ _ _ _, ?_, ?_, ?_, q1, by omega, f2, Or.inr (Or.inr (Or.inl ⟨rfl, by omega, by omega, ?_, f3⟩))⟩
            · rw [wrl_ni _ _ (by decide)]; exact x3
            · rw [wrl_ni _ _ (by decide)]; exact x4
            · rw [wrl_ni _ _ (by decide)]; exact x6
            · rw [wrl_ni _ _ (by decide)]; exact x7
            · rw [wrl_ni _ _ (by decide), wrl_ni _ _ (by decide)]; exact y12
            · rw [wrl_ni _ _ (by decide), wrl_ni _ _ (by decide)]; exact y13
            · rw [wrl_ni _ _ (by decide), wrl_ni _ _ (by decide)]; exact y15
            · rw [wrl_ni _ _ (by decide), wrl_at]
      · by_cases c59 : φ 30 q = 59
        · have k : kd (φ 30 q) = 3 := by
            unfold kd
            rw [if_neg cl, if_neg cd, if_pos c59]
          refine ⟨wrl (wrl φ2 14 6 3) 14 5 ((q + 1 : Nat) : Int), wrl (wrl M2 17 13 3) 17 11 ((q + 1 : Nat) : Int), q, ?_, Or.inl ⟨q + 1, 3, ?_, ?_⟩⟩
          · rw [D_in0 (by omega)]
            simp only [bd0_e, if_true]
            rw [D_in0 (by omega)]
            simp only [bd0_e, if_true]
            rw [if_pos c59, D_X7_next_260.eq_1]
            simp only [bnd_e, need1, bd1_e, bns_e]
            rw [wrl_ni M2 _ (show (11 : Nat) ≠ 13 by decide), b11, chk_e (by omega), nc1]
          · rw [c1 3 (by rw [if_pos hq, k]) (fun _ => hq), if_neg (by decide), if_neg (by decide), adv93b (by rw [wrl_ni _ _ (by decide), wrl_at]; decide) (by rw [wrl_ni _ _ (by decide), wrl_at]; decide)]
            exact (adv158 (k := 3) (q := q) (e := q + 1) (by rw [wrl_ni _ _ (by decide), wrl_at]) (by rw [wrl_ni _ _ (by decide), wrl_ni _ _ (by decide)]; exact a7) (wrl_at _ _ _ _)).1 (fun z => absurd z.1 (by decide))
          · refine ⟨K14_w (K14_w kφ (by decide) _) (by decide) _, K17_w (K17_w kM (by decide) _) (by decide) _, ?_, ?_, wrl_at _ _ _ _, ?_, ?_, wrl_at _ _ _ _, ?_, ?_, ?_, q1, by omega, by omega, Or.inr (Or.inr (Or.inr ⟨rfl, by omega⟩))⟩
            · rw [wrl_ni _ _ (by decide), wrl_ni _ _ (by decide)]; exact a3
            · rw [wrl_ni _ _ (by decide), wrl_ni _ _ (by decide)]; exact a4
            · rw [wrl_ni _ _ (by decide), wrl_at]
            · rw [wrl_ni _ _ (by decide), wrl_ni _ _ (by decide)]; exact a7
            · rw [wrl_ni _ _ (by decide), wrl_ni _ _ (by decide)]; exact b12
            · rw [wrl_ni _ _ (by decide), wrl_at]
            · rw [wrl_ni _ _ (by decide), wrl_ni _ _ (by decide)]; exact b15
        · have k : kd (φ 30 q) = 4 := by
            unfold kd
            rw [if_neg cl, if_neg cd, if_neg c59]
          refine ⟨wrl (wrl (wrl φ2 14 6 4) 14 3 1) 14 4 q, wrl (wrl (wrl (wrl M2 17 13 3) 17 15 1) 17 16 q) 17 11 ((q + 1 : Nat) : Int), q, ?_, Or.inr ⟨?_, ?_⟩⟩
          · rw [D_in0 (by omega)]
            simp only [bd0_e, if_true]
            rw [D_in0 (by omega)]
            simp only [bd0_e, if_true]
            rw [if_neg c59, D_X7_next_260.eq_1]
            simp only [bnd_e, bns_e]
            rw [need0 1 (by rw [wrl_ni _ _ (by decide)]; exact b15), wrl_ni M2 _ (show (12 : Nat) ≠ 13 by decide), b12]
            simp only [bd1_e]
            rw [wrl_ni _ _ (show (11 : Nat) ≠ 16 by decide), wrl_ni _ _ (show (11 : Nat) ≠ 15 by decide), wrl_ni M2 _ (show (11 : Nat) ≠ 13 by decide), b11, chk_e (by omega), nc1]
          · rw [c1 4 (by rw [if_pos hq, k]) (fun _ => hq), if_pos rfl]
          · refine ⟨K14_w (K14_w (K14_w kφ (by decide) _) (by decide) _) (by decide) _, K17_w (K17_w (K17_w (K17_w kM (by decide) _) (by decide) _) (by decide) _) (by decide) _, ?_, wrl_at _ _ _ _, ?_, ?_⟩
            · rw [wrl_ni _ _ (by decide), wrl_at]
            · rw [wrl_ni _ _ (by decide), wrl_ni _ _ (by decide), wrl_at]
            · rw [wrl_ni _ _ (by decide), wrl_at]
  · have eq : q = L := by omega
    rw [if_neg hq] at m1 m2
    refine ⟨wrl φ2 14 6 0, wrl M2 17 13 0, q, ?_, Or.inl ⟨q, 0, ?_, ?_⟩⟩
    · rw [D_X7_next_8.eq_2]
      simp only [bnd_e, bns_e]
      rw [wrl_at M 17 11 q, m1]
      simp only [bd0_e]
      rw [if_neg (by decide), hM2, b11, m2]
      simp only [bd0_e]
      rw [if_pos (by decide)]
    · rw [c1 0 (if_neg hq) (fun z => absurd rfl z), if_neg (by decide), if_pos rfl, adv93b (by rw [wrl_at]; decide) (by rw [wrl_at]; decide)]
      exact (adv158 (k := 0) (q := q) (e := q) (wrl_at _ _ _ _) (by rw [wrl_ni _ _ (by decide)]; exact a7) (by rw [wrl_ni _ _ (by decide)]; exact a5)).1 (fun z => absurd z.1 (by decide))
    · refine ⟨K14_w kφ (by decide) _, K17_w kM (by decide) _, ?_, ?_, ?_, wrl_at _ _ _ _, ?_, ?_, ?_, wrl_at _ _ _ _, ?_, q1, by omega, by omega, Or.inl ⟨rfl, eq, eq⟩⟩
      · rw [wrl_ni _ _ (by decide)]; exact a3
      · rw [wrl_ni _ _ (by decide)]; exact a4
      · rw [wrl_ni _ _ (by decide)]; exact a5
      · rw [wrl_ni _ _ (by decide)]; exact a7
      · rw [wrl_ni _ _ (by decide)]; exact b11
      · rw [wrl_ni _ _ (by decide)]; exact b12
      · rw [wrl_ni _ _ (by decide)]; exact b15
