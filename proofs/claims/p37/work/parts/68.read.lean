/-! READ -/
def JR (N : Nat) (σ : Sg) (ψ M : Lo) : Prop := FF N ψ (M 40) ∧ (∀ r, r ≠ 40 → r ≠ 41 → r ≠ 45 → r ≠ 50 → M r = σ 13 r) ∧ (∀ i, 25 ≤ i → i ≠ 30 → M 40 i = σ 13 40 i) ∧ (∀ j, j < 59 → M 50 j = σ 13 40 j)
theorem read_fin {N : Nat} {σ : Sg} (h : rlS N σ) {ψ M : Lo} (hJ : JR N σ ψ M) (v k : Int) : CS σ (D_X6_read_139 k (gset σ 5 ψ) v) (D_X7_read_209 v k M) := by
  obtain ⟨n1, n2, n5⟩ := rlS_N h
  obtain ⟨hF, hr, h40, -⟩ := hJ
  obtain ⟨φ1, c1, c2⟩ := D_cf (σ := gset σ 5 ψ) (o := 1) (a := 5) (N := N) (by decide) n5 (by rw [gset_at]; exact hF.1.1)
  rw [gset_at, gset_ne σ ψ (show (1 : Nat) ≠ 5 by decide)] at c2
  have hF1 : FF N φ1 (M 40) := FF_cpd hF c2
  have w : wr (gset (gset σ 5 ψ) 1 φ1) 0 16 8 v = gset (gset (gset σ 5 ψ) 1 φ1) 0 (wrl (σ 0) 16 8 v) := by
    rw [wr_0, gset_ne _ _ (show (0 : Nat) ≠ 1 by decide), gset_ne _ _ (show (0 : Nat) ≠ 5 by decide)]
  have m17 : ∀ i, i ≠ 24 → wrl M 17 24 v 17 i = σ 13 17 i := fun i hi => by rw [wrl_ni _ _ hi, hr 17 (by decide) (by decide) (by decide) (by decide)]
  have mr : ∀ r, r ≠ 17 → wrl M 17 24 v r = M r := fun r x => wrl_nr _ _ x
  refine ⟨k, gset (gset (gset σ 5 ψ) 1 φ1) 0 (wrl (σ 0) 16 8 v), wrl M 17 24 v, N, ?_, ?_, ?_, ?_⟩
  · rw [D_X6_read_139.eq_1, c1]
    simp only [bd1_e, bns_e]
    rw [w]
  · rw [gset_ne _ _ (by decide), gset_ne _ _ (by decide), gset_ne _ _ (by decide)]
  · rw [D_X7_read_209.eq_1]
    simp only [bns_e]
  · obtain ⟨⟨a1, a2, a3⟩, ⟨b1, b2, b3, b4⟩, ⟨c1', c2'⟩, d, e⟩ := h
    generalize hσ : gset (gset (gset (gset σ 5 ψ) 1 φ1) 0 (wrl (σ 0) 16 8 v)) 13 (wrl M 17 24 v) = σ'
    have e13 : σ' 13 = wrl M 17 24 v := by rw [← hσ, gset_at]
    have e0 : σ' 0 = wrl (σ 0) 16 8 v := by rw [← hσ, gset_ne _ _ (by decide), gset_at]
    have e1 : σ' 1 = φ1 := by rw [← hσ, gset_ne _ _ (by decide), gset_ne _ _ (by decide), gset_at]
    have eo : ∀ o, o ≠ 13 → o ≠ 0 → o ≠ 1 → o ≠ 5 → σ' o = σ o := fun o x1 x2 x3 x4 => by rw [← hσ, gset_ne _ _ x1, gset_ne _ _ x2, gset_ne _ _ x3, gset_ne _ _ x4]
    unfold rlS RFl RIm RTp RFt
    rw [e13, e0, e1, eo 2 (by decide) (by decide) (by decide) (by decide), eo 3 (by decide) (by decide) (by decide) (by decide), eo 4 (by decide) (by decide) (by decide) (by decide), mr 40 (by decide), mr 42 (by decide), mr 44 (by decide), hr 42 (by decide) (by decide) (by decide) (by decide), hr 44 (by decide) (by decide) (by decide) (by decide), m17 3 (by decide), m17 10 (by decide), m17 15 (by decide), wrl_at M 17 24 v, wrl_at (σ 0) 16 8 v, wrl_ni (σ 0) v (show (7 : Nat) ≠ 8 by decide), wrl_nr (σ 0) v (show (33 : Nat) ≠ 16 by decide)]
    refine ⟨⟨a1, hF1, ?_⟩, ⟨b1, b2, ?_, ?_⟩, ⟨c1', c2'⟩, ⟨d.1, rfl⟩, fun k hk => ?_⟩
    · have z : ∀ r, r = 10 ∨ r = 20 ∨ r = 21 ∨ r = 22 ∨ r = 25 ∨ r = 26 → φ1 r = σ 1 r := fun r q => c2.1 r (by omega) (by omega) (by omega) (by omega) (by omega) (by omega)
      exact EE_cg a3 (fun w _ => by rw [z 20 (by omega)]) (by rw [z 10 (by omega)]) (fun i _ => by rw [z 21 (by omega)]) (by rw [z 10 (by omega)]) (fun i _ => ⟨by rw [z 25 (by omega)], by rw [z 26 (by omega)], by rw [z 22 (by omega)]⟩) (fun i x _ y => h40 i x y)
    · exact RI1_c b3 rfl (fun i hi => h40 _ (by omega) (by omega))
    · exact RI1_c b4 rfl (fun i hi => h40 _ (by omega) (by omega))
    · have h1 := e k hk
      unfold RSh at h1 ⊢
      rw [eo (20 + k) (by omega) (by omega) (by omega) (by omega), mr 47 (by decide), mr 48 (by decide), mr 49 (by decide), hr 47 (by decide) (by decide) (by decide) (by decide), hr 48 (by decide) (by decide) (by decide) (by decide), hr 49 (by decide) (by decide) (by decide) (by decide)]
      exact h1
theorem D_rest {N : Nat} {σ : Sg} (k : Int) : ∀ (n i : Nat) (M : Lo), 59 < n + i → i ≤ 59 → (∀ r, r ≠ 40 → r ≠ 41 → r ≠ 45 → r ≠ 50 → M r = σ 13 r) → (∀ j, (j < i ∨ 59 ≤ j) → M 40 j = σ 13 40 j) → (∀ j, j < 59 → M 50 j = σ 13 40 j) → ∃ M' : Lo, D_X7_read_167 k n M i = some (-20 - k, M') ∧ sM (σ 13) M' := by
  intro n
  induction n with
  | zero => intro i M a b; omega
  | succ n ih =>
    intro i M hn hi hr hj h50
    rw [D_X7_read_167.eq_2]
    simp only [bnd_e, bns_e]
    rw [tn, nc1]
    by_cases c : (i : Int) < 59
    · rw [if_pos c]
      refine ih (i + 1) _ (by omega) (by omega) (fun r a b c d => by rw [wrl_nr _ _ a]; exact hr r a b c d) (fun j hj2 => ?_) (fun j hj2 => by rw [wrl_nr _ _ (by decide)]; exact h50 j hj2)
      rw [wrl_r]
      by_cases q : j = i
      · rw [q, up1_at, h50 i (by omega)]
      · rw [up1_ne _ _ q]; exact hj j (by omega)
    · rw [if_neg c]
      refine ⟨M, rfl, fun r a b c d e f => ?_, ?_, ?_, ?_, ?_⟩
      · by_cases q : r = 40
        · rw [q]
          funext j
          exact hj j (by omega)
        · exact hr r q b d f
      all_goals rw [hr 17 (by decide) (by decide) (by decide) (by decide)]
theorem D_had {σ : Sg} (p1 p2 p3 p4 : Int) : ∀ (n i : Nat) (M : Lo), 59 < n + i → i ≤ 59 → (∀ r, r ≠ 50 → M r = σ 13 r) → (∀ j, j < i → M 50 j = σ 13 40 j) → ∃ M' : Lo, D_X7_read_26 p1 p2 p3 p4 n M i = D_X7_read_62 p1 p2 p3 p4 5000 M' 0 0 0 ∧ (∀ r, r ≠ 50 → M' r = σ 13 r) ∧ (∀ j, j < 59 → M' 50 j = σ 13 40 j) := by
  intro n
  induction n with
  | zero => intro i M a b; omega
  | succ n ih =>
    intro i M hn hi hr hj
    rw [D_X7_read_26.eq_2]
    simp only [bnd_e, bns_e]
    rw [tn, nc1]
    by_cases c : (i : Int) < 59
    · rw [if_pos c]
      refine ih (i + 1) _ (by omega) (by omega) (fun r a => by rw [wrl_nr _ _ a]; exact hr r a) (fun j hj2 => ?_)
      rw [wrl_r]
      by_cases q : j = i
      · rw [q, up1_at, hr 40 (by decide)]
      · rw [up1_ne _ _ q]; exact hj j (by omega)
    · rw [if_neg c]
      exact ⟨M, rfl, hr, fun j hj2 => hj j (by omega)⟩
theorem cl_read {N : Nat} {σ : Sg} (h : rlS N σ) (p1 p2 p3 p4 : Int) (h3 : -2147483648 ≤ p3 ∧ p3 ≤ 2147483647) : CS σ (D_X6_read σ p1 p2 p3 p4) (D_X7_read (σ 13) p1 p2 p3 p4) := by
  obtain ⟨n1, n2, n5⟩ := rlS_N h
  by_cases hs : 0 ≤ p1 ∧ p1 ≤ 3
  · by_cases hl : 0 ≤ p2 ∧ p2 ≤ 2
    · by_cases hq : 0 ≤ p4 ∧ p4 ≤ 20
      · obtain ⟨s, hs4, rfl⟩ := nat_of (x := p1) (b := 4) hs.1 (by omega)
        obtain ⟨Q, hQ, rfl⟩ := nat_of (x := p4) (b := 21) hq.1 (by omega)
        obtain ⟨l1, ⟨l2, l3, l4⟩, l5⟩ := h.2.2.2.2 s hs4
        have key : ∀ (n k : Nat) (ψ M : Lo), Q < n + k → k ≤ Q → JR N σ ψ M → CS σ (D_X6_read_55 s p2 p3 Q n (gset σ 5 ψ) 0 k) (D_X7_read_62 s p2 p3 Q n M 0 k k) := by
          intro n
          induction n with
          | zero => intro k ψ M a b; omega
          | succ n ih =>
            intro k ψ M hn hk hJ
            have hJ' := hJ
            obtain ⟨hF, hr, h40, h50⟩ := hJ
            have m3 : M 17 3 = N := by rw [hr 17 (by decide) (by decide) (by decide) (by decide)]; exact n2
            rw [D_X6_read_55.eq_2]
            simp only [bnd_e, bns_e, gset_at]
            rw [tn, gset_ne σ ψ (show 20 + s ≠ 5 by omega)]
            by_cases c : (k : Int) < (Q : Int)
            · rw [if_pos c, D_flt, w64_id (v := p3 + (k : Int)) (by omega) (by omega)]
              simp only [bd0_e]
              have ms : ∀ fl : Int, (if σ (20 + s) 13 1 = -1 then 1 else if σ (20 + s) 13 1 = p2 then (if 0 ≤ p3 + (k : Int) ∧ p3 + (k : Int) < σ (20 + s) 13 2 then 0 else 2) else 3) = fl → D_X7_read_62 s p2 p3 Q (n + 1) M 0 k k = D_X7_read_136 (D_X7_read_62 s p2 p3 Q n) s p3 k k M fl := fun fl hfl => by
                rw [D_X7_read_62.eq_2]
                simp only [bnd_e, D_X7_read_131.eq_1, if_true]
                rw [if_pos c, tn, hr 47 (by decide) (by decide) (by decide) (by decide), hr 48 (by decide) (by decide) (by decide) (by decide), w64_id (v := p3 + (k : Int)) (by omega) (by omega), ← hfl, ← l2]
                rcases l1 with ⟨x1, x2⟩ | ⟨x1, x2, x3⟩
                · rw [if_pos x2, if_pos x1]
                · rw [if_neg (show ¬ σ 13 47 s = -4 by omega), if_neg (show ¬ σ (20 + s) 13 1 = -1 by omega), ← x1]
                  by_cases d : σ (20 + s) 13 1 = p2
                  · rw [if_pos d, if_pos d]
                    by_cases e : p3 + (k : Int) < 0
                    · rw [if_pos (lcm_lt e), if_neg (by omega)]
                    · rw [if_neg (lcm_ge (by omega))]
                      by_cases f : p3 + (k : Int) < σ (20 + s) 13 2
                      · rw [if_pos (lcm_lt f), if_pos ⟨by omega, f⟩]
                      · rw [if_neg (lcm_ge (by omega)), if_neg (fun q => f q.2)]
                  · rw [if_neg d, if_neg d]
              generalize hfl : (if σ (20 + s) 13 1 = -1 then (1 : Int) else if σ (20 + s) 13 1 = p2 then (if 0 ≤ p3 + (k : Int) ∧ p3 + (k : Int) < σ (20 + s) 13 2 then 0 else 2) else 3) = fl
              rw [ms fl hfl]
              simp only [D_X7_read_136.eq_1, bnd_e]
              by_cases d : fl = 0
              · have rng : 0 ≤ p3 + (k : Int) ∧ p3 + (k : Int) < σ (20 + s) 13 2 := by
                  by_cases e1 : σ (20 + s) 13 1 = -1
                  · rw [if_pos e1] at hfl; omega
                  · rw [if_neg e1] at hfl
                    by_cases e2 : σ (20 + s) 13 1 = p2
                    · rw [if_pos e2] at hfl
                      by_cases e3 : 0 ≤ p3 + (k : Int) ∧ p3 + (k : Int) < σ (20 + s) 13 2
                      · exact e3
                      · rw [if_neg e3] at hfl; omega
                    · rw [if_neg e2] at hfl; omega
                obtain ⟨i, hi, ei⟩ := nat_of (x := p3 + (k : Int)) (b := 40) rng.1 (by omega)
                rw [if_pos d, if_pos d, w32_id (v := p3 + (k : Int)) (by omega) (by omega), chk_e (by omega), w32_id (v := 40 * (s : Int) + p3) (by omega) (by omega), w32_id (v := 40 * (s : Int) + p3 + (k : Int)) (by omega) (by omega), chk_e (by omega), show (p3 + (k : Int)).toNat = i by omega, show (40 * (s : Int) + p3 + (k : Int)).toNat = 40 * s + i by omega, hr 49 (by decide) (by decide) (by decide) (by decide), ← l5 i hi]
                have bad : ∀ r : Int, r < 0 → D_X7_dance M (σ (20 + s) 23 i) = some (r, M) → CS σ (some (-20 - (k : Int), gset σ 5 ψ)) (bd2 (D_X7_dance M (σ (20 + s) 23 i)) (fun r158 φ => if r158 < 0 then D_X7_read_167 k 5000 φ 0 else D_X7_read_203 (D_X7_read_62 s p2 p3 Q n) fl k φ (w32 ((k : Int) + 1)))) := fun r r0 e => by
                  obtain ⟨M', q1, q2⟩ : ∃ M' : Lo, D_X7_read_167 k 5000 M 0 = some (-20 - (k : Int), M') ∧ sM (σ 13) M' := by
                    generalize hk : (5000 : Nat) = m
                    exact D_rest (N := N) k m 0 M (by omega) (Nat.zero_le _) hr (fun j hj => h40 j (by omega) (by omega)) h50
                  rw [e]
                  simp only [bd2_e]
                  rw [if_pos r0]
                  exact CS_scr h _ rfl q1 (sC_g (o := 5) (φ := ψ) (by decide)) q2
                by_cases hf : 0 ≤ σ (20 + s) 23 i ∧ σ (20 + s) 23 i ≤ 3
                · by_cases h0 : N = 0
                  · rw [D_cfig1 hf, hF.1.1]
                    simp only [bd0_e, i10]
                    rw [if_pos (by omega)]
                    refine bad (-2) (by decide) ?_
                    simp only [D_X7_dance.eq_1, D_mfig1 hf, bd0_e, i10, bnd_e]
                    rw [m3, if_pos (by omega)]
                  · obtain ⟨φ', M', a1, a2, a3, a4, a5, a6⟩ := D_mdn hF m3 h0 hf
                    have pv := pc_in (rb (φ' 27) N)
                    rw [D_cfig1 hf, hF.1.1, a1, a2]
                    simp only [bd0_e, i10, bd1_e, bd2_e, gset_gset]
                    rw [if_neg (by omega), if_neg (by omega), D_X7_read_203.eq_1, w32_id (v := (k : Int) + 1) (by omega) (by omega), d]
                    simp only [bnd_e]
                    rw [nc1]
                    exact ih (k + 1) φ' M' (by omega) (by omega) ⟨a3, fun r x y z u => by rw [a5 r x y z]; exact hr r x y z u, fun i x y => by rw [a6 i x y]; exact h40 i x y, fun j hj => by rw [a5 50 (by decide) (by decide) (by decide)]; exact h50 j hj⟩
                · rw [D_cfig0 hf]
                  simp only [bd0_e, if_true]
                  refine bad (-1) (by decide) ?_
                  simp only [D_X7_dance.eq_1, D_mfig0 hf, bd0_e, if_true, bnd_e]
              · rw [if_neg d, if_neg d, D_X7_read_203.eq_1]
                simp only [bnd_e]
                obtain ⟨m, rfl⟩ : ∃ m, n = m + 1 := ⟨n - 1, by omega⟩
                have e : D_X7_read_62 s p2 p3 Q (m + 1) M fl k ((k : Int) + 1) = D_X7_read_209 fl k M := by
                  rw [D_X7_read_62.eq_2]
                  by_cases u : (k : Int) + 1 < (Q : Int)
                  · rw [if_pos u, if_neg d]
                  · rw [if_neg u]
                rw [e]
                exact read_fin h hJ' fl k
            · rw [if_neg c]
              have e : D_X7_read_62 s p2 p3 Q (n + 1) M 0 k k = D_X7_read_209 0 k M := by
                rw [D_X7_read_62.eq_2, if_neg c]
              rw [e]
              exact read_fin h hJ' 0 k
        obtain ⟨φ0, c1, c2⟩ := D_cf (σ := σ) (o := 5) (a := 1) (N := N) (by decide) n5 n1
        obtain ⟨M0, r1, r2, r3⟩ : ∃ M' : Lo, D_X7_read_26 s p2 p3 Q 5000 (σ 13) 0 = D_X7_read_62 s p2 p3 Q 5000 M' 0 0 0 ∧ (∀ r, r ≠ 50 → M' r = σ 13 r) ∧ (∀ j, j < 59 → M' 50 j = σ 13 40 j) := by
          have q := D_had (σ := σ) s p2 p3 Q 5000 0 (σ 13)
          exact q (by decide) (Nat.zero_le _) (fun _ _ => rfl) (fun j hj => absurd hj (Nat.not_lt_zero _))
        have fin : CS σ (D_X6_read_55 s p2 p3 Q 5000 (gset σ 5 φ0) 0 0) (D_X7_read_62 s p2 p3 Q 5000 M0 0 0 0) := by
          generalize hk : (5000 : Nat) = m
          refine key m 0 φ0 M0 (by omega) (Nat.zero_le _) ⟨?_, fun r _ _ _ x => r2 r x, fun i _ _ => by rw [r2 40 (by decide)], r3⟩
          rw [r2 40 (by decide)]
          exact FF_cpd h.1.2.1 c2
        have ec : D_X6_read σ s p2 p3 Q = D_X6_read_55 s p2 p3 Q 5000 (gset σ 5 φ0) 0 0 := by
          simp only [D_X6_read.eq_1, nosh0 hs, noln0 hl, bd0_e, if_true, bnd_e]
          rw [if_neg (by omega), if_neg (by omega), c1]
          simp only [bd1_e]
        have em : D_X7_read (σ 13) s p2 p3 Q = D_X7_read_62 s p2 p3 Q 5000 M0 0 0 0 := by
          simp only [D_X7_read.eq_1, issh1 hs hl, bd0_e, i10, bnd_e]
          rw [D_in1 hq.1 hq.2]
          simp only [bd0_e, i10]
          exact r1
        rw [ec, em]
        exact fin
      · refine CS_same h (-1) ?_ ?_
        · simp only [D_X6_read.eq_1, nosh0 hs, noln0 hl, bd0_e, if_true, bnd_e]
          by_cases c : p4 < 0
          · rw [if_pos c]
          · rw [if_neg c, if_pos (by omega)]
        · simp only [D_X7_read.eq_1, issh1 hs hl, bd0_e, i10, bnd_e]
          rw [D_in0 (by omega)]
          simp only [bd0_e, if_true]
    · refine CS_same h (-1) ?_ ?_
      · simp only [D_X6_read.eq_1, nosh0 hs, noln1 hl, bd0_e, if_true, i10, bnd_e]
      · simp only [D_X7_read.eq_1, issh0 (Or.inr hl), bd0_e, if_true, bnd_e]
  · refine CS_same h (-1) ?_ ?_
    · simp only [D_X6_read.eq_1, nosh1 hs, bd0_e, i10, bnd_e]
    · simp only [D_X7_read.eq_1, issh0 (Or.inl hs), bd0_e, if_true, bnd_e]
