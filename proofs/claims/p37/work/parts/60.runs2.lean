theorem cl_runs {N : Nat} {σ : Sg} (h : rlS N σ) (p : Int) : CS σ (D_X6_runs σ p) (D_X7_runs (σ 13) p) := by
  obtain ⟨n1, n2, n5⟩ := rlS_N h
  by_cases hp : 0 ≤ p ∧ p ≤ 4
  · obtain ⟨k1, -⟩ := h.1.2.2
    obtain ⟨M1, F, φ5, s1, s2, n3, hF, f1, f8, fc, s3, c1, c2⟩ := walk_start h
    generalize hgd : (fun i => M1 41 (32 + i)) = g at c2
    obtain ⟨f, hf⟩ : ∃ f : Nat → Int, f = fun j => mt (σ 1 20) (fun w => trM g M1 j 41 (20 + w)) N := ⟨_, rfl⟩
    have hfin : ∀ j, 0 ≤ f j ∧ f j ≤ 5 := fun j => by
      have := mt_in (K := σ 1 20) (P := fun w => trM g M1 j 41 (20 + w)) N (fun w hw => ⟨(k1 w (by omega)).2, tr_part hF n3 g j hw⟩)
      have h2 := this.2
      rw [hf]
      dsimp only
      exact ⟨this.1, by omega⟩
    have ham := am_in hfin
    -- the reference
    have hme : ∀ j, D_X7_meetings (trM g M1 j) = some (f j) := fun j => by
      obtain ⟨-, a2, a3, a4⟩ := trM_ok hF n3 g j
      have ek : ∀ w, w < N → trM g M1 j 41 (25 + w) = σ 1 20 w := fun w hw => by rw [a2.2 _ (by omega) (by omega), s3 _ (by omega), (k1 w (by omega)).1]
      rw [D_mm n5 a3 (fun w hw => ⟨by rw [ek w hw]; exact (k1 w (by omega)).2, tr_part hF n3 g j hw⟩), hf]
      exact congrArg some (mt_cg N (fun w hw => ⟨ek w hw, rfl⟩))
    have keyM : ∀ (n k : Nat), F < n + k → k ≤ F → D_X7_runs_26 p n (trM g M1 k) (am f k) (fm f k) k = (if p = 0 then bd0 (D_X7_round (trM g M1 F)) (fun r121 => bd0 (D_X7_bitsOf r121) (fun r124 => some (r124, trM g M1 F))) else if p = 1 then bd0 (D_X7_round (trM g M1 F)) (fun r129 => some (r129, trM g M1 F)) else if p = 2 then some (am f F, trM g M1 F) else if p = 3 then some (fm f F, trM g M1 F) else bd0 (D_X7_allOf (trM g M1 F) 2) (fun r139 => some (r139, trM g M1 F))) := by
      intro n
      induction n with
      | zero => intro k a b; omega
      | succ n ih =>
        intro k hn hk
        obtain ⟨-, a2, a3, a4⟩ := trM_ok hF n3 g k
        rw [D_X7_runs_26.eq_2]
        simp only [bnd_e, D_X7_runs_72.eq_1, D_X7_runs_73.eq_1, show (31 : Int).toNat = 31 from rfl]
        rw [a2.2 31 (by decide) (by decide), f1, show (32 + (k : Int)).toNat = 32 + k by omega, a2.2 (32 + k) (by omega) (by omega), show M1 41 (32 + k) = g k by rw [← hgd], a4]
        simp only [bd1_e]
        by_cases c : (k : Int) < (F : Int)
        · have ih' := ih (k + 1) (by omega) (by omega)
          have ea : am f (k + 1) = am f k + f (k + 1) := rfl
          have ef : fm f (k + 1) = if 0 < f (k + 1) ∧ fm f k = -4 then ((k + 1 : Nat) : Int) else fm f k := rfl
          have h1 := ham k
          have h2 := hfin (k + 1)
          rw [if_pos c, hme (k + 1)]
          simp only [bd0_e]
          rw [w32_id (by omega) (by omega), ← ea, nc1]
          by_cases c1 : 0 < f (k + 1)
          · rw [if_pos c1]
            by_cases c2 : fm f k = -4
            · rw [if_pos ⟨c1, c2⟩] at ef
              rw [ef] at ih'
              rw [if_pos c2]
              exact ih'
            · rw [if_neg (fun q => c2 q.2)] at ef
              rw [if_neg c2, ← ef]
              exact ih'
          · rw [if_neg (fun q => c1 q.1)] at ef
            rw [if_neg c1, ← ef]
            exact ih'
        · rw [if_neg c]
          have e : k = F := by omega
          subst e
          rfl
    -- the class
    have hmb : ∀ j, j ≤ F → D_X6_meetingsBehind (gset σ 5 φ5) j = some (f j) := fun j hj => by
      have := D_mb (k := j) (σ := gset σ 5 φ5) (g := g) (M := M1) (F := F) n5 (by rw [gset_ne _ _ (by decide)]; exact n1) (fun w hw => by rw [gset_ne _ _ (by decide)]; exact (k1 w hw).2) hF n3 (by rw [gset_at]; exact c2)
      rw [gset_ne _ _ (by decide), show min j F = j by omega] at this
      rw [this, hf]
    have keyA : ∀ (n k : Nat), F < n + k → k ≤ F → D_X6_allMeetings_4 (gset σ 5 φ5) n (am f k) ((k + 1 : Nat) : Int) = some (am f F) := by
      intro n
      induction n with
      | zero => intro k a b; omega
      | succ n ih =>
        intro k hn hk
        rw [D_X6_allMeetings_4.eq_2]
        simp only [bnd_e, gset_at]
        rw [c2.1]
        by_cases c : (F : Int) < ((k + 1 : Nat) : Int)
        · rw [if_pos c, show k = F by omega]
        · have h1 := ham k
          have h2 := hfin (k + 1)
          rw [if_neg c, hmb (k + 1) (by omega)]
          simp only [bd0_e]
          rw [w32_id (by omega) (by omega), nc1]
          exact ih (k + 1) (by omega) (by omega)
    have keyB : ∀ (n k : Nat), F < n + k → k ≤ F → fm f k = -4 → D_X6_firstMeeting_2 (gset σ 5 φ5) n ((k + 1 : Nat) : Int) = some (fm f F) := by
      intro n
      induction n with
      | zero => intro k a b; omega
      | succ n ih =>
        intro k hn hk hm
        rw [D_X6_firstMeeting_2.eq_2]
        simp only [bnd_e, gset_at]
        rw [c2.1]
        by_cases c : (F : Int) < ((k + 1 : Nat) : Int)
        · rw [if_pos c, show F = k by omega, hm]
        · have ef : fm f (k + 1) = if 0 < f (k + 1) ∧ fm f k = -4 then ((k + 1 : Nat) : Int) else fm f k := rfl
          rw [if_neg c, hmb (k + 1) (by omega)]
          simp only [bd0_e]
          by_cases c1 : 0 < f (k + 1)
          · rw [if_pos ⟨c1, hm⟩] at ef
            have hst := fm_st (f := f) (i := k + 1) (by rw [ef]; omega) (F - (k + 1))
            rw [show k + 1 + (F - (k + 1)) = F by omega, ef] at hst
            rw [if_pos c1, hst]
          · rw [if_neg (fun q => c1 q.1)] at ef
            rw [if_neg c1, nc1]
            exact ih (k + 1) (by omega) (by omega) (ef.trans hm)
    have eM : D_X7_runs (σ 13) p = (if p = 0 then bd0 (D_X7_round (trM g M1 F)) (fun r121 => bd0 (D_X7_bitsOf r121) (fun r124 => some (r124, trM g M1 F))) else if p = 1 then bd0 (D_X7_round (trM g M1 F)) (fun r129 => some (r129, trM g M1 F)) else if p = 2 then some (am f F, trM g M1 F) else if p = 3 then some (fm f F, trM g M1 F) else bd0 (D_X7_allOf (trM g M1 F) 2) (fun r139 => some (r139, trM g M1 F))) := by
      simp only [D_X7_runs.eq_1, bnd_e, D_in1 hp.1 hp.2, bd0_e, i10, s1, bd1_e]
      generalize hk : (5000 : Nat) = n
      exact keyM n 0 (by omega) (Nat.zero_le _)
    have eC : D_X6_runs σ p = (if p = 0 then bd0 (D_X1_roundBits φ5) (fun r55 => bd0 (D_bitCount r55) (fun r58 => some (r58, gset σ 5 φ5))) else if p = 1 then bd0 (D_X1_roundBits φ5) (fun r69 => some (r69, gset σ 5 φ5)) else if p = 2 then bd0 (D_X6_allMeetings (gset σ 5 φ5)) (fun r => some (r, gset σ 5 φ5)) else if p = 3 then bd0 (D_X6_firstMeeting (gset σ 5 φ5)) (fun r => some (r, gset σ 5 φ5)) else bd0 (D_sum53 φ5 (φ5 11 8)) (fun r => some (r, gset σ 5 φ5))) := by
      simp only [D_X6_runs.eq_1, bnd_e, c1, bd1_e, gset_at]
      rw [if_neg (by omega), if_neg (by omega)]
    obtain ⟨-, a2, a3, a4⟩ := trM_ok hF n3 g F
    have hFF := c2.2.1
    have hr := rb_31 (φ5 27) (w := N) n5
    have eR : D_X7_round (trM g M1 F) = some (rb (φ5 27) N) := by
      rw [D_mr n5 a3, rb_cg (Q := φ5 27) N (fun i hi => (hFF.2.1 i hi).2.2.2.2.symm)]
    have go : ∀ r : Int, D_X6_runs σ p = some (r, gset σ 5 φ5) → D_X7_runs (σ 13) p = some (r, trM g M1 F) → CS σ (D_X6_runs σ p) (D_X7_runs (σ 13) p) := fun r a b => CS_scr h r a b (sC_g (o := 5) (φ := φ5) (by decide)) (sM_tr2 (k := F) (g := g) s2 hF n3)
    by_cases p0 : p = 0
    · refine go (pc (rb (φ5 27) N)) ?_ ?_
      · rw [eC, if_pos p0, D_rb n5 hFF.1.1]; simp only [bd0_e]; rw [D_bc hr.1 hr.2]; simp only [bd0_e]
      · rw [eM, if_pos p0, eR]; simp only [bd0_e]; rw [D_bo hr.1 hr.2]; simp only [bd0_e]
    · by_cases p1 : p = 1
      · refine go (rb (φ5 27) N) ?_ ?_
        · rw [eC, if_neg p0, if_pos p1, D_rb n5 hFF.1.1]; simp only [bd0_e]
        · rw [eM, if_neg p0, if_pos p1, eR]; simp only [bd0_e]
      · by_cases p2 : p = 2
        · refine go (am f F) ?_ ?_
          · rw [eC, if_neg p0, if_neg p1, if_pos p2]
            have : D_X6_allMeetings (gset σ 5 φ5) = some (am f F) := by
              rw [D_X6_allMeetings.eq_1]
              simp only [bnd_e]
              generalize hk : (5000 : Nat) = n
              exact keyA n 0 (by omega) (Nat.zero_le _)
            rw [this]; simp only [bd0_e]
          · rw [eM, if_neg p0, if_neg p1, if_pos p2]
        · by_cases p3 : p = 3
          · refine go (fm f F) ?_ ?_
            · rw [eC, if_neg p0, if_neg p1, if_neg p2, if_pos p3]
              have : D_X6_firstMeeting (gset σ 5 φ5) = some (fm f F) := by
                rw [D_X6_firstMeeting.eq_1]
                simp only [bnd_e]
                generalize hk : (5000 : Nat) = n
                exact keyB n 0 (by omega) (Nat.zero_le _) rfl
              rw [this]; simp only [bd0_e]
            · rw [eM, if_neg p0, if_neg p1, if_neg p2, if_pos p3]
          · have ee := D_alo (M := trM g M1 F) (j := 2) n5 a3 (by decide) (fun i hi => by rw [← (hFF.2.1 i hi).2.2.1]; exact (hFF.2.2.2.1 i hi).2.2.1)
            refine go (sm (φ5 53) N) ?_ ?_
            · rw [eC, if_neg p0, if_neg p1, if_neg p2, if_neg p3, hFF.1.1, D_s53 n5 (fun i hi => (hFF.2.2.2.1 i hi).2.2.1)]; simp only [bd0_e]
            · rw [eM, if_neg p0, if_neg p1, if_neg p2, if_neg p3, show (2 : Int) = ((2 : Nat) : Int) from rfl, ee, sm_cg (g := φ5 53) N (fun i hi => (hFF.2.1 i hi).2.2.1.symm)]; simp only [bd0_e]
  · refine CS_same h (-1) ?_ ?_
    · simp only [D_X6_runs.eq_1, bnd_e]
      by_cases c : p < 0
      · rw [if_pos c]
      · rw [if_neg c, if_pos (by omega)]
    · simp only [D_X7_runs.eq_1, bnd_e]
      rw [D_in0 (by omega)]
      simp only [bd0_e, if_true]
/-! changes alone: nothing wears, no HEAT -/
def rkd (N : Nat) (φ : Lo) (μ : Nat → Int) : Prop := ∀ j, j < N → φ 28 (rk (mS μ) (mT μ) j N) = j ∧ φ 29 j = (rk (mS μ) (mT μ) j N : Int)
theorem chg_sim {N : Nat} {φ M : Lo} (hF : FF N φ (M 41)) (hM : M 17 3 = N) (hR : rkd N φ (M 41)) (f : Int) : ∃ φ' M' : Lo, D_X1_change φ f = some φ' ∧ D_X7_changes M f = some M' ∧ FF N φ' (M' 41) ∧ rkd N φ' (M' 41) ∧ kpM M M' := by
  obtain ⟨⟨h8, h5⟩, hq, hd, hr, hi⟩ := id hF
  have h29 : ∀ j, j < N → 0 ≤ φ 29 j ∧ φ 29 j < N := fun j hj => by
    have := rk_lt (mS (M 41)) (mT (M 41)) j N hj
    rw [(hR j hj).2]; omega
  obtain ⟨φ2, b1, b2, b3⟩ := D_chg (φ := φ) f h5 h8 (fun w hw => (hr w hw).2.2.2.2) h29
  obtain ⟨M', β, m1, m2, m3, m4, m5⟩ := D_mch (φ := M) f h5 hM (fun w hw => by rw [← (hq w hw).2.2.2.2]; exact (hr w hw).2.2.2.2)
  have new : ∀ w, w < N → φ2 27 w = M' 41 (20 + w) ∧ 0 ≤ φ2 27 w ∧ φ2 27 w < N ∧ ∃ j : Nat, j < N ∧ φ2 27 w = j ∧ (rk (mS (M 41)) (mT (M 41)) j N : Int) = nxt N f (rk (mS (M 41)) (mT (M 41)) (φ 27 w).toNat N : Int) := fun w hw => by
    have hw27 := (hr w hw).2.2.2.2
    have hj := hR (φ 27 w).toNat (by omega)
    have hk := rk_lt (mS (M 41)) (mT (M 41)) (φ 27 w).toNat N (by omega)
    have hx := nxt_in (N := N) (f := f) (r := (rk (mS (M 41)) (mT (M 41)) (φ 27 w).toNat N : Int)) (by omega) (by omega) (by omega)
    obtain ⟨j, j1, j2⟩ := rk_onto (S := mS (M 41)) (T := mT (M 41)) (M := N) (i := (nxt N f (rk (mS (M 41)) (mT (M 41)) (φ 27 w).toNat N : Int)).toNat) (by omega)
    have v1 : φ2 27 w = j := by rw [b3 w hw, hj.2, ← j2, (hR j j1).1]
    have v2 : M' 41 (20 + w) = j := by rw [m5 w hw, ← (hq w hw).2.2.2.2, ← j2, m4 j j1]
    exact ⟨by rw [v1, v2], by omega, by omega, j, j1, v1, by omega⟩
  have same : ∀ j, j < N → rk (mS (M' 41)) (mT (M' 41)) j N = rk (mS (M 41)) (mT (M 41)) j N := fun j hj => rk_cg (by unfold mS mT; rw [m3 (4 * j) (by omega), m3 (4 * j + 1) (by omega), m3 (4 * j + 2) (by omega), m3 (4 * j + 3) (by omega)]; exact ⟨rfl, rfl⟩) N (fun o ho => by unfold mS mT; rw [m3 (4 * o) (by omega), m3 (4 * o + 1) (by omega), m3 (4 * o + 2) (by omega), m3 (4 * o + 3) (by omega)]; exact ⟨rfl, rfl⟩)
  refine ⟨φ2, M', b1, m1, ⟨⟨by rw [b2 11 (by decide)]; exact h8, h5⟩, fun m hm => ?_, by rw [b2 11 (by decide), m3 30 (by omega)]; exact hd, fun m hm => ?_, fun a b hab hb e => ?_⟩, fun j hj => ?_, m2, fun i a b => m3 i (by omega)⟩
  · rw [b2 51 (by decide), b2 52 (by decide), b2 53 (by decide), b2 54 (by decide), (new m hm).1, m3 _ (by omega), m3 _ (by omega), m3 _ (by omega), m3 _ (by omega)]
    exact ⟨(hq m hm).1, (hq m hm).2.1, (hq m hm).2.2.1, (hq m hm).2.2.2.1, rfl⟩
  · rw [b2 51 (by decide), b2 52 (by decide), b2 53 (by decide), b2 54 (by decide)]
    obtain ⟨r1, r2, r3, r4, r5⟩ := hr m hm
    exact ⟨r1, r2, r3, r4, (new m hm).2.1, (new m hm).2.2.1⟩
  · obtain ⟨-, -, -, j, j1, j2, j3⟩ := new a (by omega)
    obtain ⟨-, -, -, k, k1, k2, k3⟩ := new b hb
    have hjk : j = k := by omega
    subst hjk
    have ha := (hr a (by omega)).2.2.2.2
    have hb2 := (hr b hb).2.2.2.2
    have ka := rk_lt (mS (M 41)) (mT (M 41)) (φ 27 a).toNat N (by omega)
    have kb := rk_lt (mS (M 41)) (mT (M 41)) (φ 27 b).toNat N (by omega)
    have e2 := nxt_inj (N := N) (f := f) (by omega) (by omega) (by omega) (by omega) (by omega) (by omega) (j3.symm.trans k3)
    have e3 : (φ 27 a).toNat = (φ 27 b).toNat := by
      by_cases q : (φ 27 a).toNat = (φ 27 b).toNat
      · exact q
      · exact absurd (show rk (mS (M 41)) (mT (M 41)) (φ 27 a).toNat N = rk (mS (M 41)) (mT (M 41)) (φ 27 b).toNat N by omega) (rk_inj (by omega) (by omega) q)
    exact hi a b hab hb (by omega)
  · rw [b2 28 (by decide), b2 29 (by decide), same j hj]; exact hR j hj
theorem D_pa {N : Nat} {σ : Sg} {o a : Nat} (n5 : N ≤ 5) (hN : σ o 11 8 = N) : ((∀ w, w < N → σ o 27 w = σ a 27 w) → D_X1_isPairedAs o a σ = some 1) ∧ (¬ (∀ w, w < N → σ o 27 w = σ a 27 w) → D_X1_isPairedAs o a σ = some 0) := by
  have key : ∀ (n w : Nat), N < n + w → w ≤ N → ((∀ i, w ≤ i → i < N → σ o 27 i = σ a 27 i) → D_X1_isPairedAs_2 o a σ n w = some 1) ∧ (¬ (∀ i, w ≤ i → i < N → σ o 27 i = σ a 27 i) → D_X1_isPairedAs_2 o a σ n w = some 0) := by
    intro n
    induction n with
    | zero => intro w h1 h2; omega
    | succ n ih =>
      intro w hn hw
      rw [D_X1_isPairedAs_2.eq_2]
      simp only [bnd_e, tn]
      rw [hN]
      by_cases c : (w : Int) < (N : Int)
      · have ih' := ih (w + 1) (by omega) (by omega)
        rw [if_pos c]
        by_cases q : σ o 27 w = σ a 27 w
        · rw [if_pos q, nc1]
          refine ⟨fun h => ih'.1 (fun i x y => h i (by omega) y), fun h => ih'.2 (fun h2 => h (fun i x y => ?_))⟩
          by_cases e : i = w
          · rw [e]; exact q
          · exact h2 i (by omega) y
        · rw [if_neg q]
          exact ⟨fun h => absurd (h w (Nat.le_refl _) (by omega)) q, fun _ => rfl⟩
      · rw [if_neg c]
        exact ⟨fun _ => rfl, fun h => absurd (fun i x y => absurd y (by omega)) h⟩
  rw [D_X1_isPairedAs.eq_1]
  simp only [bnd_e]
  generalize hk : (5000 : Nat) = n
  have := key n 0 (by omega) (Nat.zero_le _)
  exact ⟨fun h => this.1 (fun i _ y => h i y), fun h => this.2 (fun h2 => h (fun i y => h2 i (Nat.zero_le _) y))⟩
theorem D_mpa {N : Nat} {M : Lo} (n5 : N ≤ 5) (hN : M 17 3 = N) (r15 : Lo → Int → Option (Int × Lo)) (y : Int) : ((∀ w, w < N → M 41 (20 + w) = M 40 (20 + w)) → D_X7_period_38 r15 y 5000 M 1 0 = some (y, M)) ∧ (¬ (∀ w, w < N → M 41 (20 + w) = M 40 (20 + w)) → D_X7_period_38 r15 y 5000 M 1 0 = r15 M (y + 1)) := by
  have key0 : ∀ (n w : Nat), N < n + w → w ≤ N → D_X7_period_38 r15 y n M 0 w = r15 M (y + 1) := by
    intro n
    induction n with
    | zero => intro w h1 h2; omega
    | succ n ih =>
      intro w hn hw
      rw [D_X7_period_38.eq_2]
      simp only [bnd_e, D_X7_period_78.eq_1, D_X7_period_79.eq_1, if_true]
      rw [hN]
      by_cases c : (w : Int) < (N : Int)
      · rw [if_pos c, nc1]
        exact ih (w + 1) (by omega) (by omega)
      · rw [if_neg c]
  have key : ∀ (n w : Nat), N < n + w → w ≤ N → ((∀ i, w ≤ i → i < N → M 41 (20 + i) = M 40 (20 + i)) → D_X7_period_38 r15 y n M 1 w = some (y, M)) ∧ (¬ (∀ i, w ≤ i → i < N → M 41 (20 + i) = M 40 (20 + i)) → D_X7_period_38 r15 y n M 1 w = r15 M (y + 1)) := by
    intro n
    induction n with
    | zero => intro w h1 h2; omega
    | succ n ih =>
      intro w hn hw
      rw [D_X7_period_38.eq_2]
      simp only [bnd_e, D_X7_period_78.eq_1, D_X7_period_79.eq_1, i10]
      rw [hN, show (20 + (w : Int)).toNat = 20 + w by omega, nc1]
      by_cases c : (w : Int) < (N : Int)
      · have ih' := ih (w + 1) (by omega) (by omega)
        rw [if_pos c]
        by_cases q : M 41 (20 + w) = M 40 (20 + w)
        · rw [if_pos q]
          refine ⟨fun h => ih'.1 (fun i x y => h i (by omega) y), fun h => ih'.2 (fun h2 => h (fun i x y => ?_))⟩
          by_cases e : i = w
          · rw [e]; exact q
          · exact h2 i (by omega) y
        · rw [if_neg q]
          exact ⟨fun h => absurd (h w (Nat.le_refl _) (by omega)) q, fun _ => key0 n (w + 1) (by omega) (by omega)⟩
      · rw [if_neg c]
        exact ⟨fun _ => rfl, fun h => absurd (fun i x y => absurd y (by omega)) h⟩
  generalize hk : (5000 : Nat) = n
  have := key n 0 (by omega) (Nat.zero_le _)
  exact ⟨fun h => this.1 (fun i _ y => h i y), fun h => this.2 (fun h2 => h (fun i y => h2 i (Nat.zero_le _) y))⟩
theorem cl_period {N : Nat} {σ : Sg} (h : rlS N σ) (f : Int) : CS σ (D_X6_period σ f) (D_X7_period (σ 13) f) := by
  obtain ⟨n1, n2, n5⟩ := rlS_N h
  by_cases hf : 0 ≤ f ∧ f ≤ 3
  · obtain ⟨M1, s1, s2, s3⟩ := D_st (σ 13)
    have hF := FF_st h.1.2.1 s3
    have n3 : M1 17 3 = N := by rw [s2 17 (by decide)]; exact n2
    by_cases h0 : N = 0
    · refine CS_scr h (-4) ?_ ?_ (sC_rf σ) (M' := M1) (sM_st s2)
      · simp only [D_X6_period.eq_1, D_cfig1 hf, bd0_e, i10, bnd_e]
        rw [n1, if_pos (by omega)]
      · simp only [D_X7_period.eq_1, D_mfig1 hf, bd0_e, i10, bnd_e, s1, bd1_e]
        generalize hk : (5000 : Nat) = n
        obtain ⟨m, rfl⟩ : ∃ m, n = m + 1 := ⟨n - 1, by omega⟩
        rw [D_X7_period_15.eq_2]
        simp only [bnd_e]
        rw [n3, if_neg (by decide), if_neg (by omega)]
    · obtain ⟨φ', c1, c2⟩ := D_cf (σ := σ) (o := 5) (a := 1) (N := N) (by decide) n5 n1
      have hF5 := FF_cpd hF c2
      obtain ⟨φ1, a1, a2, a3⟩ := lineUp_FF hF5
      have hF1 : FF N φ1 (M1 41) := FF_cg hF5 (by rw [a2 11 (by decide) (by decide) (by decide)]) (by rw [a2 11 (by decide) (by decide) (by decide)]) (fun m _ => ⟨by rw [a2 51 (by decide) (by decide) (by decide)], by rw [a2 52 (by decide) (by decide) (by decide)], by rw [a2 53 (by decide) (by decide) (by decide)], by rw [a2 54 (by decide) (by decide) (by decide)], by rw [a2 27 (by decide) (by decide) (by decide)]⟩) (fun _ _ => rfl)
      have hq0 := h.1.2.1.2.1
      have key : ∀ (n k : Nat) (φ M : Lo), 61 < n + k → 1 ≤ k → k ≤ 61 → FF N φ (M 41) → M 17 3 = N → rkd N φ (M 41) → sM (σ 13) M → ∃ (r : Int) (ψ M' : Lo), D_X6_period_50 f n (gset σ 5 φ) k = some (r, gset σ 5 ψ) ∧ (∀ n', 61 < n' + k → D_X7_period_15 f n' M k = some (r, M')) ∧ sM (σ 13) M' := by
        intro n
        induction n with
        | zero => intro k φ M a b c; omega
        | succ n ih =>
          intro k φ M hn hk1 hk hFF hM hR hS
          rw [D_X6_period_50.eq_2]
          simp only [bnd_e, gset_at]
          by_cases c : (60 : Int) < (k : Int)
          · refine ⟨-4, φ, M, ?_, fun n' hn' => ?_, hS⟩
            · rw [if_pos c]
            · obtain ⟨m, rfl⟩ : ∃ m, n' = m + 1 := ⟨n' - 1, by omega⟩
              rw [D_X7_period_15.eq_2]
              simp only [bnd_e]
              rw [if_pos c]
          · obtain ⟨φ2, M2, b1, b2, b3, b4, b5⟩ := chg_sim hFF hM hR f
            have hS2 : sM (σ 13) M2 := sM_tr (sM_kp b5) hS
            have hM2 : M2 17 3 = N := by rw [b5.1 17 (by decide) (by decide)]; exact hM
            have e40 : M2 40 = σ 13 40 := hS2.1 40 (by decide) (by decide) (by decide) (by decide) (by decide) (by decide)
            rw [if_neg c, b1]
            simp only [bd1_e, bns_e, gset_gset]
            obtain ⟨pa1, pa0⟩ := D_pa (σ := gset σ 5 φ2) (o := 5) (a := 1) n5 (by rw [gset_at]; exact b3.1.1)
            rw [gset_at, gset_ne _ _ (by decide)] at pa1 pa0
            have hiff : (∀ w, w < N → φ2 27 w = σ 1 27 w) ↔ (∀ w, w < N → M2 41 (20 + w) = M2 40 (20 + w)) := by
              constructor
              · intro q w hw
                rw [← (b3.2.1 w hw).2.2.2.2, q w hw, e40, (hq0 w hw).2.2.2.2]
              · intro q w hw
                rw [(b3.2.1 w hw).2.2.2.2, q w hw, e40, (hq0 w hw).2.2.2.2]
            have mstep : ∀ m, D_X7_period_15 f (m + 1) M k = D_X7_period_38 (D_X7_period_15 f m) k 5000 M2 1 0 := fun m => by
              rw [D_X7_period_15.eq_2]
              simp only [bnd_e]
              rw [if_neg c, hM, if_pos (by omega), b2]
              simp only [bd1_e]
            rcases Classical.em (∀ w, w < N → φ2 27 w = σ 1 27 w) with q | q
            · refine ⟨k, φ2, M2, ?_, fun n' hn' => ?_, hS2⟩
              · rw [pa1 q]
                simp only [bd0_e, i10]
              · obtain ⟨m, rfl⟩ : ∃ m, n' = m + 1 := ⟨n' - 1, by omega⟩
                rw [mstep m]
                exact (D_mpa n5 hM2 _ _).1 (hiff.mp q)
            · obtain ⟨r, ψ, M', r1, r2, r3⟩ := ih (k + 1) φ2 M2 (by omega) (by omega) (by omega) b3 hM2 b4 hS2
              refine ⟨r, ψ, M', ?_, fun n' hn' => ?_, r3⟩
              · rw [pa0 q]
                simp only [bd0_e, if_true]
                rw [nc1]; exact r1
              · obtain ⟨m, rfl⟩ : ∃ m, n' = m + 1 := ⟨n' - 1, by omega⟩
                rw [mstep m, (D_mpa n5 hM2 _ _).2 (fun e => q (hiff.mpr e)), nc1]
                exact r2 m (by omega)
      obtain ⟨r, ψ, M', r1, r2, r3⟩ : ∃ (r : Int) (ψ M' : Lo), D_X6_period_50 f 5000 (gset σ 5 φ1) 1 = some (r, gset σ 5 ψ) ∧ D_X7_period_15 f 5000 M1 1 = some (r, M') ∧ sM (σ 13) M' := by
        generalize hk : (5000 : Nat) = n
        obtain ⟨r, ψ, M', r1, r2, r3⟩ := key n 1 φ1 M1 (by omega) (by omega) (by omega) hF1 n3 a3 (sM_st s2)
        exact ⟨r, ψ, M', r1, r2 n (by omega), r3⟩
      refine CS_scr h r ?_ ?_ (sC_g (o := 5) (φ := ψ) (by decide)) r3
      · simp only [D_X6_period.eq_1, D_cfig1 hf, bd0_e, i10, bnd_e]
        rw [n1, if_neg (by omega), c1]
        simp only [bd1_e, gset_at]
        rw [a1]
        simp only [bd1_e, bns_e, gset_gset]
        exact r1
      · simp only [D_X7_period.eq_1, D_mfig1 hf, bd0_e, i10, bnd_e, s1, bd1_e]
        exact r2
  · refine CS_same h (-1) ?_ ?_
    · simp only [D_X6_period.eq_1, D_cfig0 hf, bd0_e, if_true, bnd_e]
    · simp only [D_X7_period.eq_1, D_mfig0 hf, bd0_e, if_true, bnd_e]
