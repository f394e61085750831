/-! the two drafts -/
def DM (φ M : Lo) : Prop := ∃ n : Nat, n ≤ 5 ∧ φ 11 8 = n ∧ M 17 5 = n ∧ (∀ m, m < n → (φ 51 m = M 43 (4 * m) ∧ 0 ≤ φ 51 m ∧ φ 51 m ≤ 3) ∧ (φ 52 m = M 43 (4 * m + 1) ∧ 0 ≤ φ 52 m ∧ φ 52 m ≤ 9) ∧ (φ 53 m = M 43 (4 * m + 2) ∧ 0 ≤ φ 53 m ∧ φ 53 m ≤ 9) ∧ φ 54 m = 0 ∧ φ 27 m = m) ∧ (∀ m : Nat, m < 5 → M 43 (4 * m + 3) = 0 ∧ M 43 (20 + m) = m) ∧ φ 11 9 = 0 ∧ M 43 30 = 0
def DK (φ M : Lo) : Prop := (∀ w, w < 5 → φ 20 w = M 43 (25 + w) ∧ 0 ≤ φ 20 w ∧ φ 20 w ≤ 31) ∧ M 17 6 = kcn φ ∧ kcn φ ≤ 6 ∧ (-4 ≤ M 17 8 ∧ M 17 8 ≤ 4) ∧ ∀ n : Nat, n ≤ 5 → (M 17 8 < n ↔ ∀ w, w < 5 → (w < n → φ 20 w < 2 ^ n) ∧ (n ≤ w → φ 20 w = 0))
def DP (φ M : Lo) : Prop := (φ 14 9 = M 17 7 ∧ (M 17 7 = 0 ∨ M 17 7 = 1)) ∧ (φ 10 6 = M 43 31 ∧ 0 ≤ φ 10 6 ∧ φ 10 6 ≤ 8) ∧ (M 17 7 = 0 → φ 10 6 = 0) ∧ (∀ i : Nat, (i : Int) < φ 10 6 → φ 21 i = M 43 (32 + i)) ∧ φ 10 7 = 0 ∧ M 43 40 = 0
def DR (φ M : Lo) : Prop := DM φ M ∧ DK φ M ∧ DP φ M
theorem DM_cg {φ φ' M M' : Lo} (h : DM φ M) (e11 : φ' 11 = φ 11) (e51 : φ' 51 = φ 51) (e52 : φ' 52 = φ 52) (e53 : φ' 53 = φ 53) (e54 : φ' 54 = φ 54) (e27 : φ' 27 = φ 27) (m5 : M' 17 5 = M 17 5) (m43 : ∀ i, (i < 25 ∨ i = 30) → M' 43 i = M 43 i) : DM φ' M' := by
  obtain ⟨n, h1, h2, h3, h4, h5, h6, h7⟩ := h
  refine ⟨n, h1, by rw [e11]; exact h2, by rw [m5]; exact h3, fun m hm => ?_, fun m hm => ?_, by rw [e11]; exact h6, by rw [m43 30 (by decide)]; exact h7⟩
  · rw [e51, e52, e53, e54, e27, m43 _ (by omega), m43 _ (by omega), m43 _ (by omega)]; exact h4 m hm
  · rw [m43 _ (by omega), m43 _ (by omega)]; exact h5 m hm
theorem DK_cg {φ φ' M M' : Lo} (h : DK φ M) (e20 : φ' 20 = φ 20) (m6 : M' 17 6 = M 17 6) (m8 : M' 17 8 = M 17 8) (m43 : ∀ i, 25 ≤ i → i < 30 → M' 43 i = M 43 i) : DK φ' M' := by
  have ek : kcn φ' = kcn φ := by unfold kcn; rw [e20]
  obtain ⟨h1, h2, h3, h4, h5⟩ := h
  refine ⟨fun w hw => ?_, by rw [ek, m6]; exact h2, by rw [ek]; exact h3, by rw [m8]; exact h4, by rw [m8, e20]; exact h5⟩
  rw [e20, m43 _ (by omega) (by omega)]; exact h1 w hw
theorem DP_cg {φ φ' M M' : Lo} (h : DP φ M) (e9 : φ' 14 9 = φ 14 9) (e10 : φ' 10 = φ 10) (e21 : φ' 21 = φ 21) (m7 : M' 17 7 = M 17 7) (m43 : ∀ i, 31 ≤ i → M' 43 i = M 43 i) : DP φ' M' := by
  unfold DP
  rw [e9, e10, e21, m7, m43 31 (by decide), m43 40 (by decide)]
  exact ⟨h.1, h.2.1, h.2.2.1, fun i hi => by rw [m43 _ (by omega)]; exact h.2.2.2.1 i hi, h.2.2.2.2⟩
theorem DR_cg {φ φ' M M' : Lo} (h : DR φ M) (k : K8 φ φ') (m43 : M' 43 = M 43) (m17 : ∀ i, 5 ≤ i → i ≤ 8 → M' 17 i = M 17 i) : DR φ' M' :=
  ⟨DM_cg h.1 (k.1 11 (by decide)) (k.1 51 (by decide)) (k.1 52 (by decide)) (k.1 53 (by decide)) (k.1 54 (by decide)) (k.1 27 (by decide)) (m17 5 (by decide) (by decide)) (fun i _ => by rw [m43]), DK_cg h.2.1 (k.1 20 (by decide)) (m17 6 (by decide) (by decide)) (m17 8 (by decide) (by decide)) (fun i _ _ => by rw [m43]), DP_cg h.2.2 k.2 (k.1 10 (by decide)) (k.1 21 (by decide)) (m17 7 (by decide) (by decide)) (fun i _ => by rw [m43])⟩
theorem DR_K {φ φ' M M' : Lo} (h : DR φ M) (k : K8 φ φ') (m : K17 M M') : DR φ' M' := DR_cg h k (m.1 43 (by decide)) (fun i _ _ => m.2 i (by omega))
/-- a line's outcome on both sides -/
def OL (L p : Nat) (M : Lo) (dc : Option (Int × Lo)) (dm : Option Lo) : Prop := (∃ (φ' M' : Lo) (e : Nat), dc = some (1, φ') ∧ dm = some M' ∧ AX L e φ' M' ∧ DR φ' M' ∧ p ≤ e ∧ KM M M') ∨ (∃ φ' M' : Lo, dc = some (0, φ') ∧ dm = some M' ∧ FT φ' M' ∧ KM M M')
theorem OL_pre {L p p' : Nat} {M M1 : Lo} {dc : Option (Int × Lo)} {dm : Option Lo} (h : OL L p' M1 dc dm) (hp : p ≤ p') (hk : KM M M1) : OL L p M dc dm := by
  rcases h with ⟨φ', M', e, a, b, c, d, f, g⟩ | ⟨φ', M', a, b, c, g⟩
  · exact Or.inl ⟨φ', M', e, a, b, c, d, by omega, KM_tr g hk⟩
  · exact Or.inr ⟨φ', M', a, b, c, KM_tr g hk⟩
theorem rl163_f {M : Lo} (h : 1 ≤ M 17 15) : D_X7_readLine_163 M = some M := by
  rw [D_X7_readLine_163.eq_1]
  simp only [bnd_e, D_X7_readLine_188.eq_1]
  rw [if_neg (by omega), nx_f h]
  simp only [bd1_e]
theorem rl163_3 {M : Lo} (h15 : M 17 15 = 0) (h13 : M 17 13 = 3) : D_X7_readLine_163 M = D_X7_next M := by
  rw [D_X7_readLine_163.eq_1]
  simp only [bnd_e, D_X7_readLine_184.eq_1, D_X7_readLine_188.eq_1, need1, bd1_e]
  rw [if_pos h15, if_pos h13]
  cases D_X7_next M <;> rfl
theorem rl163_n {M : Lo} (h15 : M 17 15 = 0) (h13 : M 17 13 ≠ 3) : D_X7_readLine_163 M = some (fl M 2) := by
  rw [D_X7_readLine_163.eq_1]
  simp only [bnd_e, D_X7_readLine_184.eq_1, D_X7_readLine_188.eq_1]
  rw [if_pos h15, if_neg h13, need_0 2 h15]
  simp only [bd1_e]
  rw [nx_f (by rw [fl_15]; decide)]
  simp only [bd1_e]
theorem semi {L p : Nat} {φ M : Lo} (h : AX L p φ M) (hd : DR φ M) : OL L p M (D_X4_semicolon φ) (D_X7_readLine_163 M) := by
  rcases h.2 with ⟨φ1, q, e, k, ha, b1, b2, b3, b4, b5, b6, b7, b8⟩ | ⟨φ1, ha, hf⟩
  · have h15 : M 17 15 = 0 := b2.2.2.2.2.1
    by_cases c : k = 3
    · obtain ⟨M', n1, n2, n3⟩ := sy_nx b2
      refine Or.inl ⟨φ1, M', e, ?_, by rw [rl163_3 h15 (b5.trans c)]; exact n1, n3, DR_K hd (K8_K b1) n2, by omega, KM_K n2⟩
      rw [D_X4_semicolon.eq_1, ha]
      simp only [bd2_e, i10, bnd_e, D_X4_semicolon_29.eq_1]
      rw [if_pos (b3.trans c)]
    · refine Or.inr ⟨_, _, ?_, rl163_n h15 (by rw [b5]; exact c), ref_FT b2 (by decide), KM_K (fl_K _ _)⟩
      rw [D_X4_semicolon.eq_1, ha]
      simp only [bd2_e, i10, bnd_e, D_ref, if_true]
      rw [if_neg (by rw [b3]; exact c)]
  · refine Or.inr ⟨φ1, M, ?_, rl163_f hf.2.2, hf, KM_rf M⟩
    rw [D_X4_semicolon.eq_1, ha]
    simp only [bd2_e, bnd_e, if_true]
/-! the reference's line behind a FAULT -/
theorem rl119_f {M : Lo} (h : 1 ≤ M 17 15) (k t : Int) : D_X7_readLine_119 k M t = some (wrl M 17 7 t) := by
  have h' : 1 ≤ wrl M 17 7 t 17 15 := by rw [wrl_ni _ _ (by decide)]; exact h
  rw [D_X7_readLine_119.eq_1]
  simp only [bns_e]
  rw [nx_f h']
  simp only [bd1_e, bnd_e]
  rw [if_pos (by omega)]
theorem rl97_f {M : Lo} (h : 1 ≤ M 17 15) (k t : Int) : ∃ M', D_X7_readLine_97 k M t = some M' ∧ KD M M' := by
  rw [D_X7_readLine_97.eq_1]
  simp only [bnd_e]
  rw [need_f h]
  simp only [bd1_e, D_X7_readLine_114.eq_1, bnd_e, rl119_f h]
  have g : ∀ x : Int, ∃ M', some (wrl M 17 7 x) = some M' ∧ KD M M' := fun x => ⟨_, rfl, KD_17 (KD_rf M) (by decide) x⟩
  by_cases c : M 17 7 = 0
  · rw [if_pos c]
    by_cases d : k = 5
    · rw [if_pos d]; exact g 1
    · rw [if_neg d]; exact g 0
  · rw [if_neg c]; exact g 1
theorem rl75_f {M : Lo} (h : 1 ≤ M 17 15) (k t : Int) : ∃ M', D_X7_readLine_75 k M t = some M' ∧ KD M M' := by
  rw [D_X7_readLine_75.eq_1]
  simp only [bnd_e]
  rw [need_f h]
  simp only [bd1_e, D_X7_readLine_92.eq_1, bnd_e]
  by_cases c : k = 5
  · rw [if_pos c]
    by_cases d : M 17 7 = 0
    · rw [if_pos d]; exact rl97_f h _ _
    · rw [if_neg d]; exact rl97_f h _ _
  · rw [if_neg c]; exact rl97_f h _ _
theorem rl75_0 {M : Lo} (h : M 17 15 = 0) (k : Int) : ∃ M', D_X7_readLine_75 k M 0 = some M' ∧ KD (fl M 5) M' := by
  obtain ⟨M', h1, h2⟩ := rl75_f (M := fl M 5) (by rw [fl_15]; decide) k 1
  refine ⟨M', ?_, h2⟩
  rw [← h1, D_X7_readLine_75.eq_1, D_X7_readLine_75.eq_1]
  simp only [bnd_e]
  rw [need_0 5 h, need1]
/-- a line that begins well, and is no program -/
theorem rl75_1 {M : Lo} {k : Int} (hk : k ≠ 5) (h7 : M 17 7 = 0 ∨ M 17 7 = 1) : D_X7_readLine_75 k M 1 = D_X7_readLine_119 k M (M 17 7) := by
  rw [D_X7_readLine_75.eq_1]
  simp only [bnd_e, need1, bd1_e, D_X7_readLine_92.eq_1, D_X7_readLine_97.eq_1, D_X7_readLine_114.eq_1]
  rw [if_neg hk, if_neg hk]
  rcases h7 with e | e
  · rw [if_pos e, e]
  · rw [if_neg (by omega), e]
theorem rl119_s (M : Lo) (k : Int) : D_X7_readLine_119 k M (M 17 7) = bd1 (D_X7_next M) (fun φ => if 0 < φ 17 15 then some φ else if k = 4 then bd1 (D_X7_readCousins φ) (fun φ => D_X7_readLine_163 φ) else if k = 5 then bd1 (D_X7_readProgram φ) (fun φ => D_X7_readLine_163 φ) else bd1 (D_X7_readMan φ k) (fun φ => D_X7_readLine_163 φ)) := by
  rw [D_X7_readLine_119.eq_1, wrl_id]
  simp only [bns_e, bnd_e]
theorem rl17_m {M : Lo} {k : Nat} (hk : k < 4) : D_X7_readLine_17 M k = (if M 17 5 < 5 then D_X7_readLine_75 k M 1 else D_X7_readLine_75 k M 0) := by
  rw [D_X7_readLine_17.eq_1]
  simp only [bnd_e, D_X7_readLine_30.eq_1, need1, bd1_e, D_X7_readLine_70.eq_1]
  rw [if_neg (by omega), if_neg (by omega), if_neg (by omega)]
/-! a MAN's line -/
theorem rm {M M2 M4 : Lo} {n k : Nat} {r1 r2 : Int} (h5 : M 17 5 = n) (hn : n < 5) (hk : k < 4) (e1 : D_X7_readNumber (wrl M 43 (4 * n) k) 0 9 = some (r1, M2)) (b1 : 0 ≤ r1 ∧ r1 ≤ 9) (e2 : D_X7_readNumber (wrl M2 43 (4 * n + 1) r1) 0 9 = some (r2, M4)) (b2 : 0 ≤ r2 ∧ r2 ≤ 9) (h5' : M4 17 5 = n) : D_X7_readMan M k = some (wrl (wrl M4 43 (4 * n + 2) r2) 17 5 ((n + 1 : Nat) : Int)) := by
  rw [D_X7_readMan.eq_1]
  simp only [bnd_e, bns_e]
  rw [h5, show (4 * (n : Int) + 0).toNat = 4 * n by omega, show (4 * (n : Int) + 1).toNat = 4 * n + 1 by omega, show (4 * (n : Int) + 2).toNat = 4 * n + 2 by omega, chk_e (gd59_m19 (by omega) ⟨by omega, by omega⟩), e1]
  simp only [bd2_e]
  rw [chk_e (gd59_m19 (by omega) b1), e2]
  simp only [bd2_e]
  rw [chk_e (gd59_m19 (by omega) b2), wrl_nr M4 r2 (show (17 : Nat) ≠ 43 by decide), h5', chk_e ⟨by omega, by omega⟩, nc1]
theorem D_am {φ : Lo} {n : Nat} (hn : n < 5) (h8 : φ 11 8 = n) (k t v : Int) : D_X1_addMan φ k t v = some (wrl (wrl (wrl (wrl (wrl (wrl φ 51 n k) 52 n t) 53 n v) 54 n 0) 27 n n) 11 8 ((n + 1 : Nat) : Int)) := by
  have e1 : ∀ x, wrl φ 51 n x 11 8 = n := fun x => by rw [wrl_nr _ _ (by decide)]; exact h8
  rw [D_X1_addMan.eq_1]
  simp only [bnd_e, bns_e, wrl_nr _ _ (show (11 : Nat) ≠ 51 by decide), wrl_nr _ _ (show (11 : Nat) ≠ 52 by decide), wrl_nr _ _ (show (11 : Nat) ≠ 53 by decide), wrl_nr _ _ (show (11 : Nat) ≠ 54 by decide), wrl_nr _ _ (show (11 : Nat) ≠ 27 by decide)]
  rw [h8, if_pos (by omega), tn, chk_e ⟨by omega, by omega⟩, chk_e ⟨by omega, by omega⟩, chk_e ⟨by omega, by omega⟩, chk_e ⟨by omega, by omega⟩, chk_e ⟨by omega, by omega⟩, chk_e ⟨by omega, by omega⟩, chk_e ⟨by omega, by omega⟩, nc1]
theorem DR_man {φ M : Lo} {n : Nat} (hd : DR φ M) (hn : n < 5) (h8 : φ 11 8 = n) {k t v : Int} (hk : 0 ≤ k ∧ k ≤ 3) (ht : 0 ≤ t ∧ t ≤ 9) (hv : 0 ≤ v ∧ v ≤ 9) {M' : Lo} (m43 : M' 43 = up1 (up1 (up1 (M 43) (4 * n) k) (4 * n + 1) t) (4 * n + 2) v) (m5 : M' 17 5 = ((n + 1 : Nat) : Int)) (m17 : ∀ i, 6 ≤ i → i ≤ 8 → M' 17 i = M 17 i) : DR (wrl (wrl (wrl (wrl (wrl (wrl φ 51 n k) 52 n t) 53 n v) 54 n 0) 27 n n) 11 8 ((n + 1 : Nat) : Int)) M' := by
  have ot : ∀ i, (i ≠ 4 * n ∧ i ≠ 4 * n + 1 ∧ i ≠ 4 * n + 2) → M' 43 i = M 43 i := fun i hi => by rw [m43, up1_ne _ _ hi.2.2, up1_ne _ _ hi.2.1, up1_ne _ _ hi.1]
  have c0 : M' 43 (4 * n) = k := by rw [m43, up1_ne _ _ (by omega), up1_ne _ _ (by omega), up1_at]
  have c1 : M' 43 (4 * n + 1) = t := by rw [m43, up1_ne _ _ (by omega), up1_at]
  have c2 : M' 43 (4 * n + 2) = v := by rw [m43, up1_at]
  have kr : ∀ r, r ≠ 51 → r ≠ 52 → r ≠ 53 → r ≠ 54 → r ≠ 27 → r ≠ 11 → wrl (wrl (wrl (wrl (wrl (wrl φ 51 n k) 52 n t) 53 n v) 54 n 0) 27 n n) 11 8 ((n + 1 : Nat) : Int) r = φ r := fun r a b c d e f => by rw [wrl_nr _ _ f, wrl_nr _ _ e, wrl_nr _ _ d, wrl_nr _ _ c, wrl_nr _ _ b, wrl_nr _ _ a]
  have f51 : wrl (wrl (wrl (wrl (wrl (wrl φ 51 n k) 52 n t) 53 n v) 54 n 0) 27 n n) 11 8 ((n + 1 : Nat) : Int) 51 = up1 (φ 51) n k := by rw [wrl_nr _ _ (by decide), wrl_nr _ _ (by decide), wrl_nr _ _ (by decide), wrl_nr _ _ (by decide), wrl_nr _ _ (by decide), wrl_r]
  have f52 : wrl (wrl (wrl (wrl (wrl (wrl φ 51 n k) 52 n t) 53 n v) 54 n 0) 27 n n) 11 8 ((n + 1 : Nat) : Int) 52 = up1 (φ 52) n t := by rw [wrl_nr _ _ (by decide), wrl_nr _ _ (by decide), wrl_nr _ _ (by decide), wrl_nr _ _ (by decide), wrl_r, wrl_nr _ _ (by decide)]
  have f53 : wrl (wrl (wrl (wrl (wrl (wrl φ 51 n k) 52 n t) 53 n v) 54 n 0) 27 n n) 11 8 ((n + 1 : Nat) : Int) 53 = up1 (φ 53) n v := by rw [wrl_nr _ _ (by decide), wrl_nr _ _ (by decide), wrl_nr _ _ (by decide), wrl_r, wrl_nr _ _ (by decide), wrl_nr _ _ (by decide)]
  have f54 : wrl (wrl (wrl (wrl (wrl (wrl φ 51 n k) 52 n t) 53 n v) 54 n 0) 27 n n) 11 8 ((n + 1 : Nat) : Int) 54 = up1 (φ 54) n 0 := by rw [wrl_nr _ _ (by decide), wrl_nr _ _ (by decide), wrl_r, wrl_nr _ _ (by decide), wrl_nr _ _ (by decide), wrl_nr _ _ (by decide)]
  have f27 : wrl (wrl (wrl (wrl (wrl (wrl φ 51 n k) 52 n t) 53 n v) 54 n 0) 27 n n) 11 8 ((n + 1 : Nat) : Int) 27 = up1 (φ 27) n n := by rw [wrl_nr _ _ (by decide), wrl_r, wrl_nr _ _ (by decide), wrl_nr _ _ (by decide), wrl_nr _ _ (by decide), wrl_nr _ _ (by decide)]
  have f11 : wrl (wrl (wrl (wrl (wrl (wrl φ 51 n k) 52 n t) 53 n v) 54 n 0) 27 n n) 11 8 ((n + 1 : Nat) : Int) 11 = up1 (φ 11) 8 ((n + 1 : Nat) : Int) := by rw [wrl_r, wrl_nr _ _ (by decide), wrl_nr _ _ (by decide), wrl_nr _ _ (by decide), wrl_nr _ _ (by decide), wrl_nr _ _ (by decide)]
  obtain ⟨⟨n', g1, g2, g3, g4, g5, g6, g7⟩, hK, hP⟩ := hd
  have en : n' = n := by omega
  subst en
  refine ⟨⟨n' + 1, by omega, by rw [f11, up1_at], m5, fun m hm => ?_, fun m hm => ?_, by rw [f11, up1_ne _ _ (by decide)]; exact g6, by rw [ot 30 (by omega)]; exact g7⟩, DK_cg hK (kr 20 (by decide) (by decide) (by decide) (by decide) (by decide) (by decide)) (m17 6 (by decide) (by decide)) (m17 8 (by decide) (by decide)) (fun i _ _ => ot i (by omega)), DP_cg hP (by rw [kr 14 (by decide) (by decide) (by decide) (by decide) (by decide) (by decide)]) (kr 10 (by decide) (by decide) (by decide) (by decide) (by decide) (by decide)) (kr 21 (by decide) (by decide) (by decide) (by decide) (by decide) (by decide)) (m17 7 (by decide) (by decide)) (fun i _ => ot i (by omega))⟩
  · rw [f51, f52, f53, f54, f27]
    by_cases c : m = n'
    · subst c
      rw [up1_at, up1_at, up1_at, up1_at, up1_at, c0, c1, c2]
      exact ⟨⟨rfl, hk⟩, ⟨rfl, ht⟩, ⟨rfl, hv⟩, rfl, rfl⟩
    · rw [up1_ne _ _ c, up1_ne _ _ c, up1_ne _ _ c, up1_ne _ _ c, up1_ne _ _ c, ot _ (by omega), ot _ (by omega), ot _ (by omega)]
      exact g4 m (by omega)
  · rw [ot _ (by omega), ot _ (by omega)]; exact g5 m hm
theorem man_ln {L e : Nat} {φ M : Lo} (h : SY L e φ M) (hd : DR φ M) {k : Nat} (hk : k < 4) : OL L e M (D_X4_manLine φ k) (D_X7_readLine_17 M k) := by
  obtain ⟨n, n5, n8, n17, -⟩ := hd.1
  have h15 : M 17 15 = 0 := h.2.2.2.2.1
  rw [rl17_m hk, D_X4_manLine.eq_1]
  simp only [bnd_e]
  by_cases hn : n < 5
  · rw [if_pos (show M 17 5 < 5 by omega), if_pos (show φ 11 8 < 5 by omega), rl75_1 (by omega) hd.2.2.1.2, rl119_s]
    obtain ⟨M1, s1, s2, s3⟩ := sy_nx h
    rw [s1]
    simp only [bd1_e]
    rw [if_neg (show ¬ (k : Int) = 4 by omega), if_neg (show ¬ (k : Int) = 5 by omega)]
    have m1 : M1 17 5 = n := by rw [s2.2 5 (by decide)]; exact n17
    by_cases hf : 0 < M1 17 15
    · rw [if_pos hf]
      rcases nu s3 9 with ⟨φ1, v, e1, x1, x2, x3, x4, x5, x6, -⟩ | ⟨φ1, M', x1, x2, x3, x4, x5⟩
      · have := x6.2.2.2.2.1; omega
      · have em : M' = M1 := x5 (by omega)
        rw [em] at x3
        refine Or.inr ⟨φ1, M1, ?_, rfl, x3, KM_K s2⟩
        rw [x1]
        simp only [bd2_e, bnd_e, if_true]
    · rw [if_neg hf]
      have kd1 : KD M1 (wrl M1 43 (4 * n) k) := KD_43 (KD_rf M1) _ _
      rcases nu (AX_D s3 kd1) 9 with ⟨φ1, v, e1, x1, x2, x3, x4, x5, x6, x7, x8⟩ | ⟨φ1, M', x1, x2, x3, x4, x5⟩
      · obtain ⟨M3, y1, y2, y3⟩ := sy_nx x6
        have kd2 : KD M3 (wrl M3 43 (4 * n + 1) v) := KD_43 (KD_rf M3) _ _
        have k3 : KM M (wrl M3 43 (4 * n + 1) v) := KM_tr (KM_D kd2) (KM_tr (KM_K y2) (KM_tr (KM_D kd1) (KM_K s2)))
        have m3 : M3 17 5 = n := by rw [y2.2 5 (by decide), wrl_nr _ _ (by decide)]; exact m1
        have r1 := rn_of x2 y1
        rw [x1]
        simp only [bd2_e, i10, bnd_e]
        rcases nu (AX_D y3 kd2) 9 with ⟨φ2, v2, e2, z1, z2, z3, z4, z5, z6, z7, z8⟩ | ⟨φ2, M', z1, z2, z3, z4, z5⟩
        · have k8 : K8 φ φ2 := K8_tr z7 x7
          have a8 : φ2 11 8 = n := by rw [k8.1 11 (by decide)]; exact n8
          have am := D_am hn a8 k v v2
          have hE : KE φ2 (wrl (wrl (wrl (wrl (wrl (wrl φ2 51 n k) 52 n v) 53 n v2) 54 n 0) 27 n n) 11 8 ((n + 1 : Nat) : Int)) := KE_w (KE_w (KE_w (KE_w (KE_w (KE_w (KE_rf _) (by decide) _ _) (by decide) _ _) (by decide) _ _) (by decide) _ _) (by decide) _ _) (by decide) _ _
          obtain ⟨M5, w1, w2, w3⟩ := sy_nx (SY_E z6 hE)
          have r2 := rn_of z2 w1
          have m5 : M5 17 5 = n := by rw [w2.2 5 (by decide), wrl_nr _ _ (by decide)]; exact m3
          have kd5 : KD M5 (wrl (wrl M5 43 (4 * n + 2) v2) 17 5 ((n + 1 : Nat) : Int)) := KD_17 (KD_43 (KD_rf M5) _ _) (by decide) _
          rw [rm m1 hn hk r1 ⟨x4, x5⟩ r2 ⟨z4, z5⟩ m5, z1]
          simp only [bd2_e, i10, bnd_e, bd1_e]
          rw [x3, z3, chk_e ⟨x4, x5⟩, chk_e ⟨z4, z5⟩, am]
          simp only [bd1_e]
          have fin := semi (AX_D w3 kd5) (DR_man (M := M) (φ := φ2) (DR_cg hd k8 rfl (fun _ _ _ => rfl)) hn a8 (k := k) (t := v) (v := v2) ⟨by omega, by omega⟩ ⟨x4, x5⟩ ⟨z4, z5⟩ (by
            rw [wrl_nr _ _ (show (43 : Nat) ≠ 17 by decide), wrl_r, w2.1 43 (by decide), wrl_r, y2.1 43 (by decide), wrl_r, s2.1 43 (by decide)]) (wrl_at _ _ _ _) (fun i a b => by
            rw [wrl_ni _ _ (by omega), wrl_nr _ _ (by decide), w2.2 i (by omega), wrl_nr _ _ (by decide), y2.2 i (by omega), wrl_nr _ _ (by decide), s2.2 i (by omega)]))
          have fin2 := OL_pre fin (show e ≤ e2 by omega) (KM_tr (KM_D kd5) (KM_tr (KM_K w2) k3))
          rw [bd2_id]
          exact fin2
        · have hf' : 1 ≤ M' 17 15 := z3.2.2
          have r2 := rn_of z2 (nx_f hf')
          have m5 : M' 17 5 = n := by rw [z4.2 5 (by decide), wrl_nr _ _ (by decide)]; exact m3
          have kd5 : KD M' (wrl (wrl M' 43 (4 * n + 2) 0) 17 5 ((n + 1 : Nat) : Int)) := KD_17 (KD_43 (KD_rf M') _ _) (by decide) _
          have ft := FT_D z3 kd5
          rw [rm m1 hn hk r1 ⟨x4, x5⟩ r2 ⟨by decide, by decide⟩ m5, z1]
          simp only [bd2_e, bnd_e, bd1_e, if_true]
          exact Or.inr ⟨φ2, _, rfl, rl163_f ft.2.2, ft, KM_tr (KM_D kd5) (KM_tr (KM_K z4) k3)⟩
      · have hf' : 1 ≤ M' 17 15 := x3.2.2
        have r1 := rn_of x2 (nx_f hf')
        have kd2 : KD M' (wrl M' 43 (4 * n + 1) 0) := KD_43 (KD_rf M') _ _
        have hf2 : 1 ≤ wrl M' 43 (4 * n + 1) 0 17 15 := by rw [kd2.2 15 (by decide)]; exact hf'
        have r2 := rn_f hf2 0 9
        have m5 : wrl M' 43 (4 * n + 1) 0 17 5 = n := by rw [wrl_nr _ _ (by decide), x4.2 5 (by decide), wrl_nr _ _ (by decide)]; exact m1
        have kd5 : KD M' (wrl (wrl (wrl M' 43 (4 * n + 1) 0) 43 (4 * n + 2) 0) 17 5 ((n + 1 : Nat) : Int)) := KD_17 (KD_43 kd2 _ _) (by decide) _
        have ft := FT_D x3 kd5
        rw [rm m1 hn hk r1 ⟨by decide, by decide⟩ r2 ⟨by decide, by decide⟩ m5, x1]
        simp only [bd2_e, bnd_e, bd1_e, if_true]
        exact Or.inr ⟨φ1, _, rfl, rl163_f ft.2.2, ft, KM_tr (KM_D kd5) (KM_tr (KM_K x4) (KM_tr (KM_D kd1) (KM_K s2)))⟩
  · rw [if_neg (show ¬ M 17 5 < 5 by omega), if_neg (show ¬ φ 11 8 < 5 by omega)]
    obtain ⟨M', h1, h2⟩ := rl75_0 h15 k
    rw [h1]
    simp only [D_ref, bd2_e]
    exact Or.inr ⟨_, M', rfl, rfl, FT_D (ref_FT h (by decide)) h2, KM_tr (KM_D h2) (KM_K (fl_K _ _))⟩
