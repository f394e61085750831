/-! DRIFT -/
theorem dsh (x : Int) : b_and (b_ushr x 16) 32767 = b_and (b_shr x 16) 32767 := by
  unfold b_and b_ushr b_shr
  rw [Int32.ofInt_toInt, Int32.ofInt_toInt]
  generalize Int32.ofInt x = X
  have h1 := pk_ushr X (Int32.ofInt 16) 16 (by decide)
  have h2 := pk_shr X (Int32.ofInt 16 &&& 31) 16 (by decide)
  rw [pk_and _ 15 (by decide), pk_and _ 15 (by decide), h1]
  generalize X >>> (Int32.ofInt 16 &&& 31) = Y at h2
  have h3 : Y.toBitVec.toInt = X.toBitVec.toInt >>> 16 := h2
  rw [BitVec.toInt_eq_toNat_cond, BitVec.toInt_eq_toNat_cond, Int.shiftRight_eq_div_pow] at h3
  have hx := X.toBitVec.isLt
  have hy := Y.toBitVec.isLt
  have e : X.toBitVec.toNat / 2 ^ 16 % 2 ^ 15 = Y.toBitVec.toNat % 2 ^ 15 := by
    generalize X.toBitVec.toNat = a at *
    generalize Y.toBitVec.toNat = b at *
    split at h3 <;> split at h3 <;> omega
  rw [e]
theorem cl_drift {N : Nat} {σ : Sg} (h : rlS N σ) (p q s : Int) : CS σ (D_X6_drift σ p q s) (D_X7_drift (σ 13) p q s) := by
  obtain ⟨n1, n2, n5⟩ := rlS_N h
  by_cases hq : 1 ≤ q ∧ q ≤ 60
  · by_cases hs : 0 ≤ s ∧ s ≤ 1
    · by_cases h0 : N = 0
      · refine CS_same h (-2) ?_ ?_
        · simp only [D_X6_drift.eq_1, bnd_e]
          rw [if_neg (by omega), if_neg (by omega), if_neg (by omega), if_neg (by omega), n1, if_pos (by omega)]
        · simp only [D_X7_drift.eq_1, bnd_e]
          rw [D_in1 hq.1 hq.2, D_prt1 hs, n2]
          simp only [bd0_e, i10]
          rw [if_pos (by omega)]
      · obtain ⟨M1, s1, s2, s3⟩ := D_st (σ 13)
        have n3 : M1 17 3 = N := by rw [s2 17 (by decide)]; exact n2
        have hF1 : FF N (σ 1) (M1 41) := FF_st h.1.2.1 (fun j hj => s3 j (by omega))
        obtain ⟨φ0, c1, c2⟩ := D_cf (σ := σ) (o := 5) (a := 1) (N := N) (by decide) n5 n1
        have hF0 : FF N φ0 (M1 41) := FF_cpd hF1 c2
        obtain ⟨Q, hQ, rfl⟩ := nat_of (x := q) (b := 61) (by omega) (by omega)
        have key : ∀ (n k : Nat) (ψ M : Lo) (y t : Int), Q < n + k → k ≤ Q → FF N ψ (M 41) → M 17 3 = N → kpM M1 M → ∃ (r : Int) (ψ' M' : Lo), D_X6_drift_68 Q s n (gset σ 5 ψ) y t k = some (r, gset σ 5 ψ') ∧ (∀ n', Q < n' + k → D_X7_drift_44 Q s n' M y t k = some (r, M')) ∧ kpM M1 M' := by
          intro n
          induction n with
          | zero => intro k ψ M y t a b; omega
          | succ n ih =>
            intro k ψ M y t hn hk hFF hM hK
            rw [D_X6_drift_68.eq_2]
            simp only [bnd_e, bns_e, gset_at, gset_gset]
            by_cases c : (k : Int) < (Q : Int)
            · rw [if_pos c, dsh]
              generalize hg : b_and (b_shr (w32 (w32 (y * 1103515245) + 12345)) 16) 32767 % 4 = g
              obtain ⟨ψ1, Ma, a1, a2, a3, a4, a5⟩ := step_sim hFF hM g
              have hMa : Ma 17 3 = N := by rw [a5.1 17 (by decide) (by decide)]; exact hM
              have hKa : kpM M1 Ma := kpM_tr a5 hK
              have r5 := rb_31 (ψ1 27) n5
              rw [a1]
              simp only [bd1_e, gset_at, gset_gset]
              rw [D_rb n5 a3.1.1]
              simp only [bd0_e]
              rw [D_bc r5.1 r5.2]
              simp only [bd0_e]
              rw [nc1]
              obtain ⟨r, ψ', M', q1, q2, q3⟩ := ih (k + 1) ψ1 Ma (w32 (w32 (y * 1103515245) + 12345)) (w32 (t + pc (rb (ψ1 27) N))) (by omega) (by omega) a3 hMa hKa
              refine ⟨r, ψ', M', q1, fun n' hn' => ?_, q3⟩
              obtain ⟨m, rfl⟩ : ∃ m, n' = m + 1 := ⟨n' - 1, by omega⟩
              rw [D_X7_drift_44.eq_2]
              simp only [bnd_e]
              rw [if_pos c, hg, a2]
              simp only [bd1_e]
              rw [D_mr n5 hMa, rb_cg (Q := ψ1 27) N (fun i hi => (a3.2.1 i hi).2.2.2.2.symm)]
              simp only [bd0_e]
              rw [D_bo r5.1 r5.2]
              simp only [bd0_e]
              rw [nc1]
              exact q2 m (by omega)
            · rw [if_neg c]
              have e0 : ψ 27 0 = M 41 20 := (hFF.2.1 0 (by omega)).2.2.2.2
              refine ⟨if s = 0 then t else ψ 27 0, ψ, M, ?_, fun n' hn' => ?_, hK⟩
              · by_cases d : s = 0
                · rw [if_pos d, if_pos d]
                · rw [if_neg d, if_neg d]; rfl
              · obtain ⟨m, rfl⟩ : ∃ m, n' = m + 1 := ⟨n' - 1, by omega⟩
                rw [D_X7_drift_44.eq_2]
                simp only [bnd_e]
                rw [if_neg c]
                by_cases d : s = 0
                · rw [if_pos d, if_pos d]
                · rw [if_neg d, if_neg d, show (20 : Int).toNat = 20 from rfl, e0]
        obtain ⟨r, φ2, M3, q1, q2, q3⟩ : ∃ (r : Int) (φ2 M3 : Lo), D_X6_drift_68 Q s 5000 (gset σ 5 φ0) p 0 0 = some (r, gset σ 5 φ2) ∧ D_X7_drift_44 Q s 5000 M1 p 0 0 = some (r, M3) ∧ kpM M1 M3 := by
          generalize hk : (5000 : Nat) = n
          obtain ⟨r, φ2, M3, q1, q2, q3⟩ := key n 0 φ0 M1 p 0 (by omega) (Nat.zero_le _) hF0 n3 (kpM_rf _)
          exact ⟨r, φ2, M3, q1, q2 n (by omega), q3⟩
        refine CS_scr h r ?_ ?_ (sC_g (o := 5) (φ := φ2) (by decide)) (sM_tr (sM_kp q3) (sM_st s2))
        · simp only [D_X6_drift.eq_1, bnd_e]
          rw [if_neg (by omega), if_neg (by omega), if_neg (by omega), if_neg (by omega), n1, if_neg (by omega), c1]
          simp only [bd1_e]
          exact q1
        · simp only [D_X7_drift.eq_1, bnd_e]
          rw [D_in1 hq.1 hq.2, D_prt1 hs, n2]
          simp only [bd0_e, i10]
          rw [if_neg (by omega), s1]
          simp only [bd1_e]
          exact q2
    · refine CS_same h (-1) ?_ ?_
      · simp only [D_X6_drift.eq_1, bnd_e]
        rw [if_neg (by omega), if_neg (by omega)]
        by_cases c : s < 0
        · rw [if_pos c]
        · rw [if_neg c, if_pos (by omega)]
      · simp only [D_X7_drift.eq_1, bnd_e]
        rw [D_in1 hq.1 hq.2, D_prt0 hs]
        simp only [bd0_e, i10, if_true]
  · refine CS_same h (-1) ?_ ?_
    · simp only [D_X6_drift.eq_1, bnd_e]
      by_cases c : q < 1
      · rw [if_pos c]
      · rw [if_neg c, if_pos (by omega)]
    · simp only [D_X7_drift.eq_1, bnd_e]
      rw [D_in0 (by omega)]
      simp only [bd0_e, if_true]
