/-! FIGURES danced twice -/
theorem step_0 {φ : Lo} (h8 : φ 11 8 = ((0 : Nat) : Int)) (h9 : 0 ≤ φ 11 9 ∧ φ 11 9 ≤ 999) (f : Int) : ∃ φ', D_X1_step φ f = some φ' ∧ φ' 11 8 = ((0 : Nat) : Int) ∧ (0 ≤ φ' 11 9 ∧ φ' 11 9 ≤ 999) := by
  have hF : FF 0 φ ((fun (r : Nat) (_ : Nat) => if r = 17 then (0 : Int) else φ 11 9) 41) := ⟨⟨h8, by decide⟩, fun m hm => absurd hm (Nat.not_lt_zero _), ⟨rfl, h9⟩, fun m hm => absurd hm (Nat.not_lt_zero _), fun a b _ hb => absurd hb (Nat.not_lt_zero _)⟩
  obtain ⟨φ', M', a1, a2, a3, a4, a5⟩ := step_sim hF (M := fun (r : Nat) (_ : Nat) => if r = 17 then (0 : Int) else φ 11 9) rfl f
  exact ⟨φ', a1, a3.1.1, a3.2.2.1.2⟩
theorem rr {N : Nat} {σ : Sg} (h : rlS N σ) (φ M' : Lo) (hs : sM (σ 13) M') (set : Int) : ∃ (v : Int) (φ' M'' : Lo), D_X6_roundRepeating (gset σ 5 φ) set = some (v, gset σ 5 φ') ∧ D_X7_programTwice M' set = some M'' ∧ sM (σ 13) M'' ∧ D_X7_round M'' = some v ∧ (0 ≤ v ∧ v ≤ 31) ∧ v < 2 ^ N := by
  obtain ⟨n1, n2, n5⟩ := rlS_N h
  obtain ⟨k1, ⟨f1, f2, f3⟩, f4, f5, f6, f7⟩ := h.1.2.2
  obtain ⟨F, hF9, hf⟩ := nat_of (b := 9) f2 (by omega)
  have m40 : M' 40 = σ 13 40 := hs.1 40 (by decide) (by decide) (by decide) (by decide) (by decide) (by decide)
  have m3 : M' 17 3 = N := by rw [hs.2.1]; exact n2
  obtain ⟨M1, s1, s2, s3⟩ := D_st M'
  have n3 : M1 17 3 = N := by rw [s2 17 (by decide)]; exact m3
  have hS1 : sM (σ 13) M1 := sM_tr (sM_st s2) hs
  have hF1 : FF N (σ 1) (M1 41) := FF_cg h.1.2.1 rfl rfl (fun _ _ => ⟨rfl, rfl, rfl, rfl, rfl⟩) (fun i hi => by rw [s3 i (by omega), m40])
  obtain ⟨φ0, c1, c2⟩ := D_cf (σ := gset σ 5 φ) (o := 5) (a := 1) (N := N) (by decide) n5 (by rw [gset_ne _ _ (by decide)]; exact n1)
  rw [gset_gset] at c1
  rw [gset_ne σ φ (show (1 : Nat) ≠ 5 by decide)] at c2
  have hF0 : FF N φ0 (M1 41) := FF_cpd hF1 c2
  have pl : ∀ i, i < F → M1 41 (32 + i) = σ 1 21 i := fun i hi => by rw [s3 _ (by omega), m40, f4 i (by omega)]
  have p31 : M1 41 31 = F := by rw [s3 _ (by omega), m40, ← f1]; exact hf
  by_cases h0 : N = 0
  · subst h0
    have key : ∀ (n k : Nat) (ψ : Lo), F < n + k → k ≤ F → ψ 11 8 = ((0 : Nat) : Int) → (0 ≤ ψ 11 9 ∧ ψ 11 9 ≤ 999) → ∃ ψ', D_X6_roundRepeating_21 set n (gset σ 5 ψ) k = some (0, gset σ 5 ψ') := by
      intro n
      induction n with
      | zero => intro k ψ a b; omega
      | succ n ih =>
        intro k ψ hn hk h8 h9
        rw [D_X6_roundRepeating_21.eq_2]
        simp only [bnd_e, bns_e, tn, gset_at, D_X6_roundRepeating_67.eq_1, gset_ne σ _ (show (1 : Nat) ≠ 5 by decide)]
        rw [hf]
        by_cases c : (k : Int) < (F : Int)
        · obtain ⟨ψ1, a1, a2, a3⟩ := step_0 h8 h9 (σ 1 21 k)
          rw [if_pos c, a1]
          simp only [bd1_e, gset_gset, gset_at, gset_ne σ _ (show (1 : Nat) ≠ 5 by decide)]
          by_cases d : b_and (b_shr set k) 1 = 1
          · obtain ⟨ψ2, b1, b2, b3⟩ := step_0 a2 a3 (σ 1 21 k)
            rw [if_pos d, b1]
            simp only [bd1_e, gset_gset]
            rw [nc1]
            exact ih (k + 1) ψ2 (by omega) (by omega) b2 b3
          · rw [if_neg d, nc1]
            exact ih (k + 1) ψ1 (by omega) (by omega) a2 a3
        · rw [if_neg c, D_rb (N := 0) (by decide) h8]
          simp only [bd0_e]
          exact ⟨ψ, rfl⟩
    obtain ⟨ψ', e1⟩ : ∃ ψ', D_X6_roundRepeating_21 set 5000 (gset σ 5 φ0) 0 = some (0, gset σ 5 ψ') := by
      generalize hk : (5000 : Nat) = n
      exact key n 0 φ0 (by omega) (Nat.zero_le _) hF0.1.1 hF0.2.2.1.2
    refine ⟨0, ψ', M1, ?_, ?_, hS1, ?_, ⟨by decide, by decide⟩, by decide⟩
    · rw [D_X6_roundRepeating.eq_1, c1]
      simp only [bd1_e, bnd_e]
      exact e1
    · rw [D_X7_programTwice.eq_1, s1]
      simp only [bd1_e, bnd_e]
      generalize hk : (5000 : Nat) = n
      obtain ⟨m, rfl⟩ : ∃ m, n = m + 1 := ⟨n - 1, by omega⟩
      rw [D_X7_programTwice_6.eq_2]
      simp only [bnd_e]
      rw [n3]
      by_cases c : (0 : Int) < M1 41 (31 : Int).toNat
      · rw [if_pos c, if_neg (by decide)]
      · rw [if_neg c]
    · rw [D_mr (N := 0) (by decide) n3]; rfl
  · have key : ∀ (n k : Nat) (ψ M : Lo), F < n + k → k ≤ F → FF N ψ (M 41) → M 17 3 = N → kpM M1 M → ∃ ψ' M2, D_X6_roundRepeating_21 set n (gset σ 5 ψ) k = some (rb (ψ' 27) N, gset σ 5 ψ') ∧ (∀ n', F < n' + k → D_X7_programTwice_6 set n' M k = some M2) ∧ FF N ψ' (M2 41) ∧ kpM M1 M2 := by
      intro n
      induction n with
      | zero => intro k ψ M a b; omega
      | succ n ih =>
        intro k ψ M hn hk hFF hM hK
        rw [D_X6_roundRepeating_21.eq_2]
        simp only [bnd_e, bns_e, tn, gset_at, D_X6_roundRepeating_67.eq_1, gset_ne σ _ (show (1 : Nat) ≠ 5 by decide)]
        rw [hf]
        by_cases c : (k : Int) < (F : Int)
        · obtain ⟨ψ1, Ma, a1, a2, a3, a4, a5⟩ := step_sim hFF hM (σ 1 21 k)
          have hMa : Ma 17 3 = N := by rw [a5.1 17 (by decide) (by decide)]; exact hM
          have hKa : kpM M1 Ma := kpM_tr a5 hK
          rw [if_pos c, a1]
          simp only [bd1_e, gset_gset, gset_at, gset_ne σ _ (show (1 : Nat) ≠ 5 by decide)]
          have ms : ∀ m, D_X7_programTwice_6 set (m + 1) M k = (if b_and (b_shr set k) 1 = 1 then bd1 (D_X7_danceOn Ma (σ 1 21 k)) (fun φ => D_X7_programTwice_6 set m φ ((k + 1 : Nat) : Int)) else D_X7_programTwice_6 set m Ma ((k + 1 : Nat) : Int)) := fun m => by
            rw [D_X7_programTwice_6.eq_2]
            simp only [bnd_e, D_X7_programTwice_59.eq_1]
            rw [show (31 : Int).toNat = 31 from rfl, hK.2 31 (by decide) (by decide), p31, if_pos c, hM, if_pos (by omega), show (32 + (k : Int)).toNat = 32 + k by omega, hK.2 (32 + k) (by omega) (by omega), pl k (by omega), a2]
            simp only [bd1_e]
            rw [hKa.2 (32 + k) (by omega) (by omega), pl k (by omega), nc1]
          by_cases d : b_and (b_shr set k) 1 = 1
          · obtain ⟨ψ2, Mb, b1, b2, b3, b4, b5⟩ := step_sim a3 hMa (σ 1 21 k)
            rw [if_pos d, b1]
            simp only [bd1_e, gset_gset]
            rw [nc1]
            obtain ⟨ψ', M2, r1, r2, r3, r4⟩ := ih (k + 1) ψ2 Mb (by omega) (by omega) b3 (by rw [b5.1 17 (by decide) (by decide)]; exact hMa) (kpM_tr b5 hKa)
            refine ⟨ψ', M2, r1, fun n' hn' => ?_, r3, r4⟩
            obtain ⟨m, rfl⟩ : ∃ m, n' = m + 1 := ⟨n' - 1, by omega⟩
            rw [ms m, if_pos d, b2]
            simp only [bd1_e]
            exact r2 m (by omega)
          · rw [if_neg d, nc1]
            obtain ⟨ψ', M2, r1, r2, r3, r4⟩ := ih (k + 1) ψ1 Ma (by omega) (by omega) a3 hMa hKa
            refine ⟨ψ', M2, r1, fun n' hn' => ?_, r3, r4⟩
            obtain ⟨m, rfl⟩ : ∃ m, n' = m + 1 := ⟨n' - 1, by omega⟩
            rw [ms m, if_neg d]
            exact r2 m (by omega)
        · rw [if_neg c, D_rb n5 hFF.1.1]
          simp only [bd0_e]
          refine ⟨ψ, M, rfl, fun n' hn' => ?_, hFF, hK⟩
          obtain ⟨m, rfl⟩ : ∃ m, n' = m + 1 := ⟨n' - 1, by omega⟩
          rw [D_X7_programTwice_6.eq_2]
          simp only [bnd_e]
          rw [show (31 : Int).toNat = 31 from rfl, hK.2 31 (by decide) (by decide), p31, if_neg c]
    obtain ⟨ψ', M2, e1, e2, e3, e4⟩ : ∃ ψ' M2, D_X6_roundRepeating_21 set 5000 (gset σ 5 φ0) 0 = some (rb (ψ' 27) N, gset σ 5 ψ') ∧ D_X7_programTwice_6 set 5000 M1 0 = some M2 ∧ FF N ψ' (M2 41) ∧ kpM M1 M2 := by
      generalize hk : (5000 : Nat) = n
      obtain ⟨ψ', M2, e1, e2, e3, e4⟩ := key n 0 φ0 M1 (by omega) (Nat.zero_le _) hF0 n3 (kpM_rf M1)
      exact ⟨ψ', M2, e1, e2 n (by omega), e3, e4⟩
    refine ⟨rb (ψ' 27) N, ψ', M2, ?_, ?_, sM_tr (sM_kp e4) hS1, ?_, rb_31 _ n5, (rb_in _ N n5).2⟩
    · rw [D_X6_roundRepeating.eq_1, c1]
      simp only [bd1_e, bnd_e]
      exact e1
    · rw [D_X7_programTwice.eq_1, s1]
      simp only [bd1_e, bnd_e]
      exact e2
    · rw [D_mr n5 (by rw [e4.1 17 (by decide) (by decide)]; exact n3), rb_cg (Q := ψ' 27) N (fun i hi => (e3.2.1 i hi).2.2.2.2.symm)]
theorem cl_again {N : Nat} {σ : Sg} (h : rlS N σ) (p : Int) : CS σ (D_X6_again σ p) (D_X7_again (σ 13) p) := by
  obtain ⟨k1, ⟨f1, f2, f3⟩, f4, f5, f6, f7⟩ := h.1.2.2
  obtain ⟨F, hF9, hf⟩ := nat_of (b := 9) f2 (by omega)
  by_cases hp : 0 ≤ p ∧ p ≤ 1
  · have key : ∀ (n k : Nat) (φ M : Lo) (most place : Int), F < n + k → k ≤ F → sM (σ 13) M → ∃ (r : Int) (φ' M' : Lo), D_X6_again_26 p n (gset σ 5 φ) most place k = some (r, gset σ 5 φ') ∧ (∀ n', F < n' + k → D_X7_again_28 p n' M most place k = some (r, M')) ∧ sM (σ 13) M' := by
      intro n
      induction n with
      | zero => intro k φ M a b c d; omega
      | succ n ih =>
        intro k φ M most place hn hk hS
        have m40 : M 40 = σ 13 40 := hS.1 40 (by decide) (by decide) (by decide) (by decide) (by decide) (by decide)
        rw [D_X6_again_26.eq_2]
        simp only [bnd_e, D_X6_again_63.eq_1, D_X6_again_79.eq_1]
        rw [gset_ne _ _ (by decide), hf]
        by_cases c : (k : Int) < (F : Int)
        · obtain ⟨v, φ', M2, r1, r2, r3, r4, r5, -⟩ := rr h φ M hS (b_shl 1 k)
          have ms : ∀ m, D_X7_again_28 p (m + 1) M most place k = D_X7_again_28 p m M2 (if most < pc v then pc v else most) (if most < pc v then (k : Int) else place) ((k + 1 : Nat) : Int) := fun m => by
            rw [D_X7_again_28.eq_2]
            simp only [bnd_e, D_X7_again_69.eq_1, D_X7_again_82.eq_1]
            rw [show (31 : Int).toNat = 31 from rfl, m40, ← f1, hf, if_pos c, r2]
            simp only [bd1_e]
            rw [r4]
            simp only [bd0_e]
            rw [D_bo r5.1 r5.2]
            simp only [bd0_e]
            rw [nc1]
            by_cases d : most < pc v
            · simp only [if_pos d]
            · simp only [if_neg d]
          obtain ⟨r, φ2, M3, q1, q2, q3⟩ := ih (k + 1) φ' M2 (if most < pc v then pc v else most) (if most < pc v then (k : Int) else place) (by omega) (by omega) r3
          refine ⟨r, φ2, M3, ?_, fun n' hn' => ?_, q3⟩
          · rw [if_pos c, r1]
            simp only [bd2_e]
            rw [D_bc r5.1 r5.2]
            simp only [bd0_e]
            rw [nc1]
            by_cases d : most < pc v
            · simp only [if_pos d] at q1 ⊢; exact q1
            · simp only [if_neg d] at q1 ⊢; exact q1
          · obtain ⟨m, rfl⟩ : ∃ m, n' = m + 1 := ⟨n' - 1, by omega⟩
            rw [ms m]
            exact q2 m (by omega)
        · refine ⟨if place = -4 then -4 else if p = 0 then place else most, φ, M, ?_, fun n' hn' => ?_, hS⟩
          · rw [if_neg c]
            by_cases d : place = -4
            · rw [if_pos d, if_pos d, d]
            · rw [if_neg d, if_neg d]
              by_cases e : p = 0
              · rw [if_pos e, if_pos e]
              · rw [if_neg e, if_neg e]
          · obtain ⟨m, rfl⟩ : ∃ m, n' = m + 1 := ⟨n' - 1, by omega⟩
            rw [D_X7_again_28.eq_2]
            simp only [bnd_e]
            rw [show (31 : Int).toNat = 31 from rfl, m40, ← f1, hf, if_neg c]
            by_cases d : place = -4
            · rw [if_pos d, if_pos d]
            · rw [if_neg d, if_neg d]
              by_cases e : p = 0
              · rw [if_pos e, if_pos e]
              · rw [if_neg e, if_neg e]
    obtain ⟨v, φ', M2, r1, r2, r3, r4, r5, -⟩ := rr h (σ 5) (σ 13) (sM_rf _) 0
    rw [gset_self] at r1
    obtain ⟨r, φ2, M3, q1, q2, q3⟩ : ∃ (r : Int) (φ2 M3 : Lo), D_X6_again_26 p 5000 (gset σ 5 φ') (pc v) (-4) 0 = some (r, gset σ 5 φ2) ∧ D_X7_again_28 p 5000 M2 (pc v) (-4) 0 = some (r, M3) ∧ sM (σ 13) M3 := by
      generalize hk : (5000 : Nat) = n
      obtain ⟨r, φ2, M3, q1, q2, q3⟩ := key n 0 φ' M2 (pc v) (-4) (by omega) (Nat.zero_le _) r3
      exact ⟨r, φ2, M3, q1, q2 n (by omega), q3⟩
    refine CS_scr h r ?_ ?_ (sC_g (o := 5) (φ := φ2) (by decide)) q3
    · simp only [D_X6_again.eq_1, bnd_e]
      rw [if_neg (by omega), if_neg (by omega), r1]
      simp only [bd2_e]
      rw [D_bc r5.1 r5.2]
      simp only [bd0_e]
      exact q1
    · simp only [D_X7_again.eq_1, D_prt1 hp, bd0_e, i10, bnd_e, r2, bd1_e, r4]
      rw [D_bo r5.1 r5.2]
      simp only [bd0_e]
      exact q2
  · refine CS_same h (-1) ?_ ?_
    · simp only [D_X6_again.eq_1, bnd_e]
      by_cases c : p < 0
      · rw [if_pos c]
      · rw [if_neg c, if_pos (by omega)]
    · simp only [D_X7_again.eq_1, D_prt0 hp, bd0_e, if_true, bnd_e]
