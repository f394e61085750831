/-! a line, all lines -/
theorem one17 {L e : Nat} {φ M : Lo} (h : SY L e φ M) (hd : DR φ M) {r : Int} (hr : r = -4 ∨ (0 ≤ r ∧ r ≤ 5)) : OL L e M (D_X4_oneLine_17 φ r) (D_X7_readLine_17 M r) := by
  have h15 : M 17 15 = 0 := h.2.2.2.2.1
  rw [D_X4_oneLine_17.eq_1]
  simp only [bnd_e, D_ref, bd2_e, bd2_id]
  by_cases c : r = -4
  · rw [if_pos c, c, D_X7_readLine_17.eq_1]
    simp only [bnd_e, if_true, D_X7_readLine_30.eq_1, D_X7_readLine_70.eq_1]
    rw [need_0 2 h15]
    simp only [bd1_e]
    rw [if_neg (show ¬ (-4 : Int) = 4 by decide), if_neg (show ¬ (-4 : Int) = 5 by decide)]
    have hf : 1 ≤ fl M 2 17 15 := by rw [fl_15]; decide
    have g : ∀ t : Int, OL L e M (some (0, wrl (wrl φ 14 3 2) 14 4 (φ 14 7))) (D_X7_readLine_75 (-4) (fl M 2) t) := fun t => by
      obtain ⟨M', h1, h2⟩ := rl75_f hf (-4) t
      exact Or.inr ⟨_, M', rfl, h1, FT_D (ref_FT h (by decide)) h2, KM_tr (KM_D h2) (KM_K (fl_K _ _))⟩
    by_cases d : fl M 2 17 5 < 5
    · rw [if_pos d]; exact g 1
    · rw [if_neg d]; exact g 0
  · rw [if_neg c]
    obtain ⟨k, hk, rfl⟩ := nat_of (b := 6) (x := r) (by omega) (by omega)
    by_cases d : (k : Int) < 4
    · rw [if_pos d]
      exact man_ln h hd (by omega)
    · rw [if_neg d]
      by_cases f : (k : Int) = 4
      · rw [if_pos f, f]
        exact kin_ln h hd
      · rw [if_neg f, show (k : Int) = 5 by omega]
        exact prog_ln h hd
theorem one_ln {L p q e : Nat} {k : Int} {φ φ1 M : Lo} (h : TK L p φ φ1 M q e k) (hd : DR φ1 M) : OL L e M (D_X4_oneLine φ1) (D_X7_readLine M) := by
  obtain ⟨b1, b2, b3, b4, b5, b6, b7, b8⟩ := h
  rw [D_X4_oneLine.eq_1, D_X7_readLine.eq_1]
  simp only [bnd_e]
  rw [b3, b5]
  by_cases c : k = 1
  · rw [if_pos c, if_pos c]
    obtain ⟨r, r1, r2, r3⟩ := lw_eq b2.1 b2.2.2.1 b4 b2.2.2.2.1 (by rw [← b2.2.2.2.2.2.2]; exact b4) b7 b2.2.2.2.2.2.1
    rw [r1, r2]
    simp only [bd0_e]
    exact one17 b2 hd r3
  · rw [if_neg c, if_neg c]
    exact one17 b2 hd (Or.inl rfl)
theorem hsb : ∀ x : Nat, x < 32 → (b_and x (b_xor 0 (-1)) = 0 ↔ (x : Int) = 0) ∧ ∀ n : Nat, n < 6 → (b_and x (b_xor (b_shl 1 n - 1) (-1)) = 0 ↔ (x : Int) < 2 ^ n) := by decide +kernel
theorem D_hsl {φ : Lo} {n : Nat} (h8 : φ 11 8 = n) (hn : n ≤ 5) (hk : ∀ w, w < 5 → 0 ≤ φ 20 w ∧ φ 20 w ≤ 31) : ∀ (k w : Nat), 5 < k + w → w ≤ 5 → (∀ u, u < w → (u < n → φ 20 u < 2 ^ n) ∧ (n ≤ u → φ 20 u = 0)) → ∃ r, D_X0_hasStrangers_2 φ k w = some r ∧ ((r = 0 ∧ ∀ u, u < 5 → (u < n → φ 20 u < 2 ^ n) ∧ (n ≤ u → φ 20 u = 0)) ∨ (r = 1 ∧ ¬ ∀ u, u < 5 → (u < n → φ 20 u < 2 ^ n) ∧ (n ≤ u → φ 20 u = 0))) := by
  intro k
  induction k with
  | zero => intro w a b; omega
  | succ k ih =>
    intro w hkw hw hB
    rw [D_X0_hasStrangers_2.eq_2]
    simp only [bnd_e, D_X0_hasStrangers_33.eq_1]
    rw [h8, tn]
    by_cases c : (w : Int) < 5
    · have hb := hk w (by omega)
      obtain ⟨x, hx, ex⟩ := nat_of (x := φ 20 w) (b := 32) hb.1 (by omega)
      have hs := hsb x hx
      rw [← ex] at hs
      rw [if_pos c]
      have go : ((w < n → φ 20 w < 2 ^ n) ∧ (n ≤ w → φ 20 w = 0)) → ∃ r, D_X0_hasStrangers_2 φ k ((w : Int) + 1) = some r ∧ ((r = 0 ∧ ∀ u, u < 5 → (u < n → φ 20 u < 2 ^ n) ∧ (n ≤ u → φ 20 u = 0)) ∨ (r = 1 ∧ ¬ ∀ u, u < 5 → (u < n → φ 20 u < 2 ^ n) ∧ (n ≤ u → φ 20 u = 0))) := fun hg => by
        rw [nc1]
        refine ih (w + 1) (by omega) (by omega) (fun u hu => ?_)
        by_cases z : u = w
        · rw [z]; exact hg
        · exact hB u (by omega)
      by_cases d : (w : Int) < (n : Int)
      · rw [if_pos d]
        have h2 := hs.2 n (by omega)
        by_cases f : b_and (φ 20 w) (b_xor (b_shl 1 n - 1) (-1)) = 0
        · rw [if_pos f]
          exact go ⟨fun _ => h2.1 f, fun z => by omega⟩
        · rw [if_neg f]
          exact ⟨1, rfl, Or.inr ⟨rfl, fun z => f (h2.2 ((z w (by omega)).1 (by omega)))⟩⟩
      · rw [if_neg d]
        by_cases f : b_and (φ 20 w) (b_xor 0 (-1)) = 0
        · rw [if_pos f]
          exact go ⟨fun z => by omega, fun _ => hs.1.1 f⟩
        · rw [if_neg f]
          exact ⟨1, rfl, Or.inr ⟨rfl, fun z => f (hs.1.2 ((z w (by omega)).2 (by omega)))⟩⟩
    · rw [if_neg c]
      exact ⟨0, rfl, Or.inl ⟨rfl, fun u hu => hB u (by omega)⟩⟩
theorem D_hs {φ M : Lo} (hd : DR φ M) : (M 17 8 < M 17 5 → D_X0_hasStrangers φ = some 0) ∧ (¬ M 17 8 < M 17 5 → D_X0_hasStrangers φ = some 1) := by
  obtain ⟨n, n5, n8, n17, -⟩ := hd.1
  obtain ⟨k1, k2, k3, k4, k5⟩ := hd.2.1
  have key : ∃ r, D_X0_hasStrangers φ = some r ∧ ((r = 0 ∧ ∀ u, u < 5 → (u < n → φ 20 u < 2 ^ n) ∧ (n ≤ u → φ 20 u = 0)) ∨ (r = 1 ∧ ¬ ∀ u, u < 5 → (u < n → φ 20 u < 2 ^ n) ∧ (n ≤ u → φ 20 u = 0))) := by
    rw [D_X0_hasStrangers.eq_1]
    simp only [bnd_e]
    generalize hk : (5000 : Nat) = k
    exact D_hsl n8 n5 (fun w hw => (k1 w hw).2) k 0 (by omega) (by omega) (fun u hu => absurd hu (Nat.not_lt_zero _))
  obtain ⟨r, r1, r2⟩ := key
  have kk := k5 n n5
  rw [n17]
  constructor
  · intro z
    rcases r2 with ⟨a, b⟩ | ⟨a, b⟩
    · rw [r1, a]
    · exact absurd (kk.1 z) b
  · intro z
    rcases r2 with ⟨a, b⟩ | ⟨a, b⟩
    · exact absurd (kk.2 b) z
    · rw [r1, a]
/-- the outcome of all lines -/
def TE (M0 : Lo) (dc dm : Option (Int × Lo)) : Prop := ∃ (y : Int) (φ' : Lo), dc = some (y, φ') ∧ ((φ' 14 3 ≠ 0 ∧ ∃ M' : Lo, dm = some (-10 - φ' 14 4, wrl M' 17 10 0) ∧ KM M0 M' ∧ M' 17 15 = φ' 14 3) ∨ (φ' 14 3 = 0 ∧ ∃ M' : Lo, dm = bd1 (D_X7_keepDraft (wrl M' 17 10 0)) (fun φ => some (y, φ)) ∧ KM M0 M' ∧ M' 17 15 = 0 ∧ DR φ' M'))
theorem tx73_f {M : Lo} (h : 1 ≤ M 17 15) (y : Int) : D_X7_text_73 y M = some (-10 - M 17 16, wrl M 17 10 0) := by
  rw [D_X7_text_73.eq_1]
  simp only [bnd_e, bns_e]
  rw [wrl_ni M 0 (show (15 : Nat) ≠ 10 by decide), wrl_ni M 0 (show (16 : Nat) ≠ 10 by decide), if_pos (by omega)]
theorem tx44_f {M : Lo} (h : 1 ≤ M 17 15) (y : Int) : D_X7_text_44 y M = some (-10 - M 17 16, wrl M 17 10 0) := by
  rw [D_X7_text_44.eq_1]
  simp only [bnd_e]
  rw [if_neg (by omega), tx73_f h]
theorem tx20_f {M : Lo} (h : 1 ≤ M 17 15) (n : Nat) (y : Int) : D_X7_text_20 (n + 1) M y = some (-10 - M 17 16, wrl M 17 10 0) := by
  rw [D_X7_text_20.eq_2]
  simp only [bnd_e]
  rw [if_neg (by omega), tx44_f h]
theorem wt65_f {φ : Lo} (h : φ 14 3 ≠ 0) (y : Int) : D_X4_wholeText_65 y φ = some (y, φ) := by
  rw [D_X4_wholeText_65.eq_1]
  simp only [bnd_e]
  rw [if_neg h]
theorem FT_TE {M0 φ M : Lo} {dc dm : Option (Int × Lo)} {y : Int} (h : FT φ M) (hk : KM M0 M) (h1 : dc = some (y, φ)) (h2 : dm = some (-10 - M 17 16, wrl M 17 10 0)) : TE M0 dc dm := by
  refine ⟨y, φ, h1, Or.inl ⟨?_, M, ?_, hk, h.1.symm⟩⟩
  · have := h.1
    have := h.2.2
    omega
  · rw [h2, h.2.1]
theorem tx_l {L : Nat} (hL : L ≤ 160) {M0 : Lo} : ∀ (n n' y p : Nat) (φ M : Lo), AX L p φ M → DR φ M → KM M0 M → y ≤ p → L + 1 < n + y → L + 1 < n' + y → TE M0 (D_X4_wholeText_29 n φ y) (D_X7_text_20 n' M y) := by
  intro n
  induction n with
  | zero => intro n' y p φ M h a b c d; have := h.1; omega
  | succ n ih =>
    intro n' y p φ M h hd hk hy hn hn'
    have hp := h.1
    obtain ⟨n2, rfl⟩ : ∃ m, n' = m + 1 := ⟨n' - 1, by omega⟩
    rw [D_X4_wholeText_29.eq_2]
    simp only [bnd_e]
    rw [if_neg (show ¬ (160 : Int) < (y : Int) by omega)]
    rcases h.2 with ⟨φ1, q, e, k, ha, b⟩ | ⟨φ1, ha, hf⟩
    · have b' := b
      obtain ⟨b1, b2, b3, b4, b5, b6, b7, b8⟩ := b'
      have h15 : M 17 15 = 0 := b2.2.2.2.2.1
      have d1 : DR φ1 M := DR_K hd (K8_K b1) (K17_rf M)
      rw [ha, D_X7_text_20.eq_2]
      simp only [bd2_e, i10, bnd_e]
      rw [if_pos h15, b3, b5]
      by_cases c : k = 0
      · rw [if_pos c, if_pos c, D_X4_wholeText_65.eq_1, D_X7_text_44.eq_1]
        simp only [bnd_e]
        rw [if_pos b2.2.1, if_pos h15]
        have hs := D_hs d1
        by_cases d : M 17 8 < M 17 5
        · rw [if_pos d, hs.1 d, D_X7_text_68.eq_1]
          simp only [bd0_e, if_true, bnd_e, need1, bd1_e]
          rw [D_X7_text_73.eq_1]
          simp only [bnd_e, bns_e]
          rw [wrl_ni M 0 (show (15 : Nat) ≠ 10 by decide), if_neg (by omega)]
          exact ⟨y, φ1, rfl, Or.inr ⟨b2.2.1, M, rfl, hk, h15, d1⟩⟩
        · rw [if_neg d, hs.2 d, D_X7_text_68.eq_1]
          simp only [bd0_e, i10, bnd_e, D_ref, bd2_e]
          rw [need_0 6 h15]
          simp only [bd1_e]
          rw [tx73_f (by rw [fl_15]; decide)]
          have eL : q = L := by
            rcases b8 with x | x | x | x
            · exact x.2
            · omega
            · omega
            · omega
          refine FT_TE (M := fl M 6) (fl_FT (by decide) (v := 6) ?_ ?_) (KM_tr (KM_K (fl_K M 6)) hk) rfl rfl
          · rw [wrl_ni _ _ (by decide), wrl_at]
          · rw [wrl_at, b2.1.1, ← b2.2.2.2.2.2.2, b4, eL]
      · rw [if_neg c, if_neg c]
        have qe : q < e := by
          rcases b8 with x | x | x | x
          · omega
          · exact x.2
          · exact x.2.1
          · exact x.2
        rcases one_ln b d1 with ⟨φ2, M2, e2, x1, x2, x3, x4, x5, x6⟩ | ⟨φ2, M2, x1, x2, x3, x6⟩
        · rw [x1, x2]
          simp only [bd2_e, bd1_e, i10, bnd_e]
          rw [w32_id (by omega) (by omega), nc1]
          exact ih n2 (y + 1) e2 φ2 M2 x3 x4 (KM_tr x6 hk) (by omega) (by omega) (by omega)
        · rw [x1, x2]
          simp only [bd2_e, bd1_e, bnd_e, if_true]
          obtain ⟨n3, rfl⟩ : ∃ m, n2 = m + 1 := ⟨n2 - 1, by have := b2.2.2.2.2.2.1; omega⟩
          exact FT_TE x3 (KM_tr x6 hk) rfl (tx20_f x3.2.2 _ _)
    · rw [ha, tx20_f hf.2.2]
      simp only [bd2_e, if_true]
      rw [wt65_f (by have := hf.1; have := hf.2.2; omega)]
      exact FT_TE hf hk rfl rfl
