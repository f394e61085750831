/-! the reference's BEST and ORDERS: that they end, and what they leave -/
def IN (N : Nat) (σ : Sg) (M : Lo) : Prop := (∃ ψ, FF N ψ (M 41)) ∧ sM (σ 13) M ∧ (∀ w, w < 5 → 0 ≤ M 41 (25 + w) ∧ M 41 (25 + w) ≤ 31)
theorem IN_st {N : Nat} {σ : Sg} (h : rlS N σ) {M : Lo} (hS : sM (σ 13) M) : ∃ M1, D_X7_starts M = some M1 ∧ IN N σ M1 := by
  have m40 : M 40 = σ 13 40 := hS.1 40 (by decide) (by decide) (by decide) (by decide) (by decide) (by decide)
  obtain ⟨M1, s1, s2, s3⟩ := D_st M
  have e41 : ∀ j, j < 59 → M1 41 j = σ 13 40 j := fun j hj => by rw [s3 j hj, m40]
  refine ⟨M1, s1, ⟨σ 1, FF_st h.1.2.1 e41⟩, sM_tr (sM_st s2) hS, fun w hw => ?_⟩
  have k := h.1.2.2.1 w hw
  rw [e41 _ (by omega), ← k.1]
  exact k.2
theorem IN_dn {N : Nat} {σ : Sg} (h : rlS N σ) {M : Lo} (hI : IN N σ M) (f : Int) : ∃ M1 r, D_X7_danceOn M f = some M1 ∧ D_X7_meetings M1 = some r ∧ IN N σ M1 := by
  obtain ⟨n1, n2, n5⟩ := rlS_N h
  obtain ⟨⟨ψ, hψ⟩, hS, hK⟩ := hI
  have m3 : M 17 3 = N := by rw [hS.2.1]; exact n2
  obtain ⟨ψ', M1, a1, a2, a3, a4, a5⟩ := step_sim hψ m3 f
  have m3' : M1 17 3 = N := by rw [a5.1 17 (by decide) (by decide)]; exact m3
  have hK1 : ∀ w, w < 5 → 0 ≤ M1 41 (25 + w) ∧ M1 41 (25 + w) ≤ 31 := fun w hw => by rw [a5.2 _ (by omega) (by omega)]; exact hK w hw
  refine ⟨M1, _, a2, D_mm n5 m3' (fun w hw => ⟨hK1 w (by omega), ?_⟩), ⟨ψ', a3⟩, sM_tr (sM_kp a5) hS, hK1⟩
  have e := (a3.2.1 w hw).2.2.2.2
  have b := (a3.2.2.2.1 w hw).2.2.2.2
  obtain ⟨p, hp, ep⟩ := nat_of (x := ψ' 27 w) (b := 5) b.1 (by omega)
  exact ⟨p, hp, by rw [← e]; exact ep⟩
theorem IN_rd {N : Nat} {σ : Sg} (h : rlS N σ) {M : Lo} (hI : IN N σ M) : ∃ v r, D_X7_round M = some v ∧ D_X7_bitsOf v = some r := by
  obtain ⟨n1, n2, n5⟩ := rlS_N h
  have m3 : M 17 3 = N := by rw [hI.2.1.2.1]; exact n2
  have r5 := rb_31 (fun i => M 41 (20 + i)) n5
  exact ⟨_, _, D_mr n5 m3, D_bo r5.1 r5.2⟩
theorem pw4 : ∀ P : Nat, P < 5 → D_X7_power 4 P = some ((4 ^ P : Nat) : Int) ∧ 4 ^ P ≤ 256 := by decide +kernel
theorem fgb : ∀ P : Nat, P < 5 → ∀ j : Nat, j < P → D_X7_power 4 (w32 (w32 ((P : Int) - 1) - (j : Int))) = some ((4 ^ (P - 1 - j) : Nat) : Int) ∧ 1 ≤ 4 ^ (P - 1 - j) := by decide +kernel
theorem D_fgi {P j : Nat} (hP : P < 5) (hj : j < P) {y : Int} (hy : 0 ≤ y) : ∃ f, D_X7_figureIn y P j = some f := by
  obtain ⟨e1, e2⟩ := fgb P hP j hj
  simp only [D_X7_figureIn.eq_1, bnd_e]
  rw [e1]
  simp only [bd0_e]
  rw [chk_e hy, chk_e (by omega)]
  exact ⟨_, rfl⟩
theorem mt_best {N : Nat} {σ : Sg} (h : rlS N σ) (p q : Int) : ∃ r M', D_X7_best (σ 13) p q = some (r, M') ∧ sM (σ 13) M' := by
  obtain ⟨n1, n2, n5⟩ := rlS_N h
  by_cases hp : 0 ≤ p ∧ p ≤ 4
  · obtain ⟨P, hP, rfl⟩ := nat_of (x := p) (b := 5) hp.1 (by omega)
    obtain ⟨t1, t2⟩ := pw4 P hP
    have ki : ∀ (r42 : Lo → Int → Int → Int → Option (Int × Lo)) (y3 y4 y5 : Int), 0 ≤ y5 → ∀ (n j : Nat) (M : Lo) (acc : Int), P < n + j → j ≤ P → IN N σ M → ∃ acc' M', D_X7_best_62 r42 P y3 y4 y5 n M acc j = D_X7_best_102 r42 y3 y4 y5 acc' M' ∧ IN N σ M' := by
      intro r42 y3 y4 y5 hy n
      induction n with
      | zero => intro j M acc a b; omega
      | succ n ih =>
        intro j M acc hn hj hI
        rw [D_X7_best_62.eq_2]
        simp only [bnd_e]
        by_cases c : (j : Int) < (P : Int)
        · rw [if_pos c]
          by_cases d : 0 < M 17 3
          · obtain ⟨f, hf⟩ := D_fgi hP (show j < P by omega) hy
            obtain ⟨M1, r, d1, d2, d3⟩ := IN_dn h hI f
            rw [if_pos d, hf]
            simp only [bd0_e]
            rw [d1]
            simp only [bd1_e]
            rw [d2]
            simp only [bd0_e]
            rw [nc1]
            exact ih (j + 1) M1 _ (by omega) (by omega) d3
          · rw [if_neg d]
            exact ⟨acc, M, rfl, hI⟩
        · rw [if_neg c]
          exact ⟨acc, M, rfl, hI⟩
    have k2 : ∀ (r42 : Lo → Int → Int → Int → Option (Int × Lo)) (y3 y4 y5 acc : Int) (M : Lo), IN N σ M → ∃ y3' y4', D_X7_best_102 r42 y3 y4 y5 acc M = r42 M y3' y4' (w32 (y5 + 1)) ∧ (y4' = y4 ∨ y4' = y5) := by
      intro r42 y3 y4 y5 acc M hI
      obtain ⟨v, b, v1, v2⟩ := IN_rd h hI
      simp only [D_X7_best_102.eq_1, D_X7_best_122.eq_1, D_X7_best_123.eq_1, D_X7_best_137.eq_1, D_X7_best_155.eq_1, bnd_e, v1, v2, bd0_e, if_true, i10]
      repeat' split
      all_goals first
        | exact ⟨_, _, rfl, Or.inl rfl⟩
        | exact ⟨_, _, rfl, Or.inr rfl⟩
    have key : (q = 0 ∨ (0 ≤ w32 (q - 10) ∧ w32 (q - 10) ≤ 3)) → ∀ (n k : Nat) (M : Lo) (y3 y4 : Int), 4 ^ P < n + k → k ≤ 4 ^ P → sM (σ 13) M → (y4 = -4 ∨ 0 ≤ y4) → ∃ r M', D_X7_best_42 P q n M y3 y4 k = some (r, M') ∧ sM (σ 13) M' := by
      intro hq n
      induction n with
      | zero => intro k M y3 y4 a b; omega
      | succ n ih =>
        intro k M y3 y4 hn hk hS hy
        rw [D_X7_best_42.eq_2]
        simp only [bnd_e]
        rw [t1]
        simp only [bd0_e]
        by_cases c : (k : Int) < ((4 ^ P : Nat) : Int)
        · obtain ⟨M1, s1, s2⟩ := IN_st h hS
          rw [if_pos c, s1]
          simp only [bd1_e]
          obtain ⟨acc, M2, e1, e2⟩ : ∃ acc' M', D_X7_best_62 (D_X7_best_42 P q n) P y3 y4 k 5000 M1 0 0 = D_X7_best_102 (D_X7_best_42 P q n) y3 y4 k acc' M' ∧ IN N σ M' := by
            generalize hk : (5000 : Nat) = m
            exact ki (D_X7_best_42 P q n) y3 y4 k (by omega) m 0 M1 0 (by omega) (Nat.zero_le _) s2
          obtain ⟨y3', y4', f1, f2⟩ := k2 (D_X7_best_42 P q n) y3 y4 k acc M2 e2
          rw [e1, f1, w32_id (by omega) (by omega), nc1]
          exact ih (k + 1) M2 y3' y4' (by omega) (by omega) e2.2.1 (by omega)
        · rw [if_neg c, D_X7_best_173.eq_1]
          simp only [bnd_e]
          by_cases d : y4 = -4
          · rw [if_pos d, if_pos d]
            exact ⟨_, _, rfl, hS⟩
          · rw [if_neg d, if_neg d]
            by_cases e : q = 0
            · rw [if_pos e]
              exact ⟨_, _, rfl, hS⟩
            · rw [if_neg e]
              by_cases f : w32 (q - 10) < P
              · obtain ⟨j, hj, ej⟩ := nat_of (x := w32 (q - 10)) (b := P) (by omega) f
                rw [if_pos f, ej]
                obtain ⟨g, hg⟩ := D_fgi hP hj (y := y4) (by omega)
                rw [hg]
                simp only [bd0_e]
                exact ⟨_, _, rfl, hS⟩
              · rw [if_neg f]
                exact ⟨_, _, rfl, hS⟩
    have go : (q = 0 ∨ (0 ≤ w32 (q - 10) ∧ w32 (q - 10) ≤ 3)) → ∃ r M', D_X7_best_33 P q (σ 13) = some (r, M') ∧ sM (σ 13) M' := fun hq => by
      rw [D_X7_best_33.eq_1]
      simp only [bnd_e]
      generalize hk : (5000 : Nat) = m
      exact key hq m 0 (σ 13) (-1) (-4) (by omega) (Nat.zero_le _) (sM_rf _) (Or.inl rfl)
    rw [D_X7_best.eq_1]
    simp only [bnd_e]
    rw [D_in1 hp.1 hp.2]
    simp only [bd0_e, i10]
    by_cases e : q = 0
    · rw [if_pos e]; exact go (Or.inl e)
    · rw [if_neg e]
      by_cases f : 0 ≤ w32 (q - 10) ∧ w32 (q - 10) ≤ 3
      · rw [D_in1 f.1 f.2]
        simp only [bd0_e, i10]
        exact go (Or.inr f)
      · rw [D_in0 (by omega)]
        simp only [bd0_e, if_true]
        exact ⟨_, _, rfl, sM_rf _⟩
  · rw [D_X7_best.eq_1]
    simp only [bnd_e]
    rw [D_in0 (by omega)]
    simp only [bd0_e, if_true]
    exact ⟨_, _, rfl, sM_rf _⟩
theorem sM_46 (M : Lo) (i : Nat) (v : Int) : sM M (wrl M 46 i v) := ⟨fun r _ _ _ _ e _ => wrl_nr _ _ e, by rw [wrl_nr _ _ (by decide)], by rw [wrl_nr _ _ (by decide)], by rw [wrl_nr _ _ (by decide)], by rw [wrl_nr _ _ (by decide)]⟩
theorem D_iso {F : Nat} (h5 : F ≤ 5) {M : Lo} (h31 : M 40 31 = F) {y : Int} (hy : 0 ≤ y) : ∃ r M', D_X7_isOrder M y = some (r, M') ∧ sM M M' := by
  have key : ∀ (n i : Nat) (M1 : Lo) (y b : Int), i < n → i ≤ F → 0 ≤ y → sM M M1 → ∃ r M', D_X7_isOrder_18 F n M1 y b ((i : Int) - 1) = some (r, M') ∧ sM M M' := by
    intro n
    induction n with
    | zero => intro i M1 y b a; omega
    | succ n ih =>
      intro i M1 y b hn hi hy hS
      rw [D_X7_isOrder_18.eq_2]
      simp only [bnd_e, bns_e]
      by_cases c : (i : Int) - 1 < 0
      · rw [if_pos c]
        repeat' split
        all_goals exact ⟨_, _, rfl, hS⟩
      · have hm : 0 ≤ y % (F : Int) ∧ y % (F : Int) < F := ⟨Int.emod_nonneg _ (by omega), Int.emod_lt_of_pos _ (by omega)⟩
        rw [if_neg c, chk_e hy, chk_e (by omega), chk_e (by omega), chk_e (by omega)]
        obtain ⟨m, rfl⟩ : ∃ m, i = m + 1 := ⟨i - 1, by omega⟩
        rw [show ((m + 1 : Nat) : Int) - 1 + (-1) = (m : Int) - 1 by omega]
        exact ih m _ _ _ (by omega) (by omega) (Int.ediv_nonneg hy (by omega)) (sM_tr (sM_46 _ _ _) hS)
  rw [D_X7_isOrder.eq_1]
  simp only [bnd_e]
  rw [show (31 : Int).toNat = 31 from rfl, h31]
  generalize hk : (5000 : Nat) = n
  exact key n F M y 0 (by omega) (Nat.le_refl _) hy (sM_rf _)
theorem pwF : ∀ F : Nat, F < 6 → D_X7_power F F = some ((F ^ F : Nat) : Int) ∧ F ^ F ≤ 3125 := by decide +kernel
theorem D_flt2 (t : Int) : ∃ r, D_X7_flag t = some r := by
  rw [D_X7_flag.eq_1]
  simp only [bnd_e]
  split
  all_goals exact ⟨_, rfl⟩
theorem mt_orders {N : Nat} {σ : Sg} (h : rlS N σ) (p : Int) : ∃ r M', D_X7_orders (σ 13) p = some (r, M') ∧ sM (σ 13) M' := by
  obtain ⟨n1, n2, n5⟩ := rlS_N h
  obtain ⟨k1, ⟨f1, f2, f3⟩, f4, f5, f6, f7⟩ := h.1.2.2
  obtain ⟨F, hF9, hf⟩ := nat_of (b := 9) f2 (by omega)
  have h31 : ∀ M, sM (σ 13) M → M 40 31 = F := fun M hS => by
    rw [hS.1 40 (by decide) (by decide) (by decide) (by decide) (by decide) (by decide), ← f1]; exact hf
  have go : ((0 ≤ p ∧ p ≤ 1) ∨ (0 ≤ w32 (p - 10) ∧ w32 (p - 10) ≤ 4)) → ∃ r M', D_X7_orders_24 p (σ 13) = some (r, M') ∧ sM (σ 13) M' := fun hp => by
    rw [D_X7_orders_24.eq_1]
    simp only [bnd_e]
    rw [show (31 : Int).toNat = 31 from rfl, h31 _ (sM_rf _)]
    by_cases c5 : (5 : Int) < (F : Int)
    · rw [if_pos c5]; exact ⟨_, _, rfl, sM_rf _⟩
    · rw [if_neg c5]
      obtain ⟨t1, t2⟩ := pwF F (by omega)
      have ki : ∀ (r53 : Lo → Int → Int → Int → Int → Option (Int × Lo)) (y3 y4 y5 y6 : Int) (n j : Nat) (M : Lo) (acc : Int), F < n + j → j ≤ F → IN N σ M → ∃ acc' M', D_X7_orders_82 r53 F y3 y4 y5 y6 n M acc j = D_X7_orders_129 r53 y3 y4 y5 y6 acc' M' ∧ IN N σ M' := by
        intro r53 y3 y4 y5 y6 n
        induction n with
        | zero => intro j M acc a b; omega
        | succ n ih =>
          intro j M acc hn hj hI
          rw [D_X7_orders_82.eq_2]
          simp only [bnd_e]
          by_cases c : (j : Int) < (F : Int)
          · rw [if_pos c]
            by_cases d : 0 < M 17 3
            · obtain ⟨M1, r, d1, d2, d3⟩ := IN_dn h hI (M 41 (32 + M 46 (j : Int).toNat).toNat)
              rw [if_pos d, d1]
              simp only [bd1_e]
              rw [d2]
              simp only [bd0_e]
              rw [nc1]
              exact ih (j + 1) M1 _ (by omega) (by omega) d3
            · rw [if_neg d]
              exact ⟨acc, M, rfl, hI⟩
          · rw [if_neg c]
            exact ⟨acc, M, rfl, hI⟩
      have k2 : ∀ (r53 : Lo → Int → Int → Int → Int → Option (Int × Lo)) (y3 y4 y5 y6 acc : Int) (M : Lo), IN N σ M → ∃ y3' y4' y5', D_X7_orders_129 r53 y3 y4 y5 y6 acc M = r53 M y3' y4' y5' (w32 (y6 + 1)) ∧ (y5' = y5 ∨ y5' = y6) := by
        intro r53 y3 y4 y5 y6 acc M hI
        obtain ⟨v, b, v1, v2⟩ := IN_rd h hI
        simp only [D_X7_orders_129.eq_1, D_X7_orders_143.eq_1, D_X7_orders_145.eq_1, D_X7_orders_174.eq_1, D_X7_orders_176.eq_1, D_X7_orders_189.eq_1, D_X7_orders_194.eq_1, bnd_e, v1, v2, bd0_e, D_fl0, D_fl1]
        repeat' split
        all_goals first
          | exact ⟨_, _, _, rfl, Or.inl rfl⟩
          | exact ⟨_, _, _, rfl, Or.inr rfl⟩
      have key : ∀ (n k : Nat) (M : Lo) (y3 y4 y5 : Int), F ^ F < n + k → k ≤ F ^ F → sM (σ 13) M → (y5 = -4 ∨ 0 ≤ y5) → ∃ r M', D_X7_orders_53 p F n M y3 y4 y5 k = some (r, M') ∧ sM (σ 13) M' := by
        intro n
        induction n with
        | zero => intro k M y3 y4 y5 a b; omega
        | succ n ih =>
          intro k M y3 y4 y5 hn hk hS hy
          rw [D_X7_orders_53.eq_2]
          simp only [bnd_e]
          rw [t1]
          simp only [bd0_e]
          by_cases c : (k : Int) < ((F ^ F : Nat) : Int)
          · obtain ⟨r, M1, o1, o2⟩ := D_iso (F := F) (by omega) (h31 M hS) (y := k) (by omega)
            have hS1 : sM (σ 13) M1 := sM_tr o2 hS
            rw [if_pos c, o1]
            simp only [bd2_e]
            by_cases d : r = 0
            · rw [if_pos d, D_X7_orders_194.eq_1]
              simp only [bnd_e]
              rw [w32_id (by omega) (by omega), nc1]
              exact ih (k + 1) M1 y3 y4 y5 (by omega) (by omega) hS1 hy
            · obtain ⟨M2, s1, s2⟩ := IN_st h hS1
              rw [if_neg d, s1]
              simp only [bd1_e]
              obtain ⟨acc, M3, e1, e2⟩ : ∃ acc' M', D_X7_orders_82 (D_X7_orders_53 p F n) F y3 y4 y5 k 5000 M2 0 0 = D_X7_orders_129 (D_X7_orders_53 p F n) y3 y4 y5 k acc' M' ∧ IN N σ M' := by
                generalize hk : (5000 : Nat) = m
                exact ki (D_X7_orders_53 p F n) y3 y4 y5 k m 0 M2 0 (by omega) (Nat.zero_le _) s2
              obtain ⟨y3', y4', y5', g1, g2⟩ := k2 (D_X7_orders_53 p F n) y3 y4 y5 k acc M3 e2
              rw [e1, g1, w32_id (by omega) (by omega), nc1]
              exact ih (k + 1) M3 y3' y4' y5' (by omega) (by omega) e2.2.1 (by omega)
          · rw [if_neg c]
            by_cases d : 0 ≤ p ∧ p ≤ 1
            · rw [D_prt1 d]
              simp only [bd0_e, i10]
              split
              all_goals exact ⟨_, _, rfl, hS⟩
            · rw [D_prt0 d]
              simp only [bd0_e, if_true]
              by_cases e : y5 = -4
              · rw [if_pos e]; exact ⟨_, _, rfl, hS⟩
              · rw [if_neg e]
                by_cases g : w32 (p - 10) < F
                · obtain ⟨r, M1, o1, o2⟩ := D_iso (F := F) (by omega) (h31 M hS) (y := y5) (by omega)
                  rw [if_pos g, o1]
                  simp only [bd2_e]
                  rw [chk_e (by omega)]
                  exact ⟨_, _, rfl, sM_tr o2 hS⟩
                · rw [if_neg g]; exact ⟨_, _, rfl, hS⟩
      generalize hk : (5000 : Nat) = m
      exact key m 0 (σ 13) 0 (-4) (-4) (by omega) (Nat.zero_le _) (sM_rf _) (Or.inl rfl)
  rw [D_X7_orders.eq_1]
  simp only [bnd_e]
  by_cases d : 0 ≤ p ∧ p ≤ 1
  · rw [D_prt1 d]
    simp only [bd0_e, i10]
    exact go (Or.inl d)
  · rw [D_prt0 d]
    simp only [bd0_e, if_true]
    by_cases f : 0 ≤ w32 (p - 10) ∧ w32 (p - 10) ≤ 4
    · rw [D_in1 f.1 f.2]
      simp only [bd0_e, i10]
      exact go (Or.inr f)
    · rw [D_in0 (by omega)]
      simp only [bd0_e, if_true]
      exact ⟨_, _, rfl, sM_rf _⟩
