theorem wr_0 (σ : Sg) (o r i : Nat) (v : Int) : wr σ o r i v = gset σ o (wrl (σ o) r i v) := rfl
theorem gset_gset (σ : Sg) (o : Nat) (φ ψ : Lo) : gset (gset σ o φ) o ψ = gset σ o ψ := by
  funext o'
  by_cases h : o' = o
  · subst h; rw [gset_at, gset_at]
  · rw [gset_ne _ _ h, gset_ne _ _ h, gset_ne _ _ h]
theorem wr_g (σ : Sg) (o : Nat) (φ : Lo) (r i : Nat) (v : Int) : wr (gset σ o φ) o r i v = gset σ o (wrl φ r i v) := by
  unfold wr
  rw [gset_at, gset_gset]
theorem RFl_m {N : Nat} {φ M M' : Lo} (h : RFl N φ M) (e17 : M' 17 3 = M 17 3) (e40 : M' 40 = M 40) : RFl N φ M' := by
  unfold RFl at h ⊢; rw [e17, e40]; exact h
theorem RIm_m {N : Nat} {φ0 φ3 φ4 M M' : Lo} (h : RIm N φ0 φ3 φ4 M) (e42 : M' 42 = M 42) (e40 : M' 40 = M 40) : RIm N φ0 φ3 φ4 M' := by
  unfold RIm at h ⊢; rw [e42, e40]; exact h
theorem RTp_m {φ M M' : Lo} (h : RTp φ M) (e : M' 17 10 = M 17 10) (e44 : M' 44 = M 44) : RTp φ M' := by
  unfold RTp at h ⊢; rw [e, e44]; exact h
theorem RFt_m {φ M M' : Lo} (h : RFt φ M) (e : M' 17 15 = M 17 15) (e2 : M' 17 24 = M 17 24) : RFt φ M' := by
  unfold RFt at h ⊢; rw [e, e2]; exact h
theorem RSh_m {k : Nat} {φ M M' : Lo} (h : RSh k φ M) (e47 : M' 47 = M 47) (e48 : M' 48 = M 48) (e49 : M' 49 = M 49) : RSh k φ M' := by
  unfold RSh at h ⊢; rw [e47, e48, e49]; exact h
theorem g2 {σ : Sg} {a : Nat} {φ M : Lo} (o : Nat) (h : o ≠ 13) (h2 : o ≠ a) : gset (gset σ a φ) 13 M o = σ o := by rw [gset_ne _ _ h, gset_ne _ _ h2]
theorem g2a {σ : Sg} {a : Nat} {φ M : Lo} (h : a ≠ 13) : gset (gset σ a φ) 13 M a = φ := by rw [gset_ne _ _ h, gset_at]
/-! THE TAPE -/
theorem rl_tape {N : Nat} {σ : Sg} {φ M' : Lo} (h : rlS N σ) (hM : (∀ r, r ≠ 17 → r ≠ 44 → M' r = σ 13 r) ∧ (∀ i, i ≠ 10 → M' 17 i = σ 13 17 i)) (hT : RTp φ M') : rlS N (gset (gset σ 2 φ) 13 M') := by
  obtain ⟨a, b, c, d, e⟩ := h
  obtain ⟨m1, m2⟩ := hM
  unfold rlS
  rw [gset_at, g2a (by decide), g2 1 (by decide) (by decide), g2 0 (by decide) (by decide), g2 3 (by decide) (by decide), g2 4 (by decide) (by decide)]
  refine ⟨RFl_m a (m2 3 (by decide)) (m1 40 (by decide) (by decide)), RIm_m b (m1 42 (by decide) (by decide)) (m1 40 (by decide) (by decide)), hT, RFt_m d (m2 15 (by decide)) (m2 24 (by decide)), fun k hk => ?_⟩
  rw [g2 (20 + k) (by omega) (by omega)]
  exact RSh_m (e k hk) (m1 47 (by decide) (by decide)) (m1 48 (by decide) (by decide)) (m1 49 (by decide) (by decide))
theorem cl_feed {N : Nat} {σ : Sg} (h : rlS N σ) (c : Int) : CS σ (D_X6_feed σ c) (D_X7_feed (σ 13) c) := by
  obtain ⟨⟨t1, t2, t3⟩, t4⟩ := h.2.2.1
  by_cases hc : 0 ≤ c ∧ c ≤ 127
  · by_cases hf : σ 2 14 2 < 160
    · obtain ⟨t, ht⟩ : ∃ t : Nat, σ 2 14 2 = t := ⟨(σ 2 14 2).toNat, by omega⟩
      have e1 : D_X6_feed σ c = some ((t : Int) + 1, gset σ 2 (wrl (wrl (σ 2) 30 t c) 14 2 ((t : Int) + 1))) := by
        unfold D_X6_feed bnd chk bns
        dsimp only
        rw [if_neg (by omega), if_neg (by omega), if_pos hf, if_pos ⟨by omega, by omega⟩, ht, tn, wr_0, gset_at, wrl_nr _ _ (by decide), ht, if_pos ⟨by omega, by omega⟩, wr_g, gset_at, wrl_at]
      have e2 : D_X7_feed (σ 13) c = some ((t : Int) + 1, wrl (wrl (σ 13) 44 t c) 17 10 ((t : Int) + 1)) := by
        unfold D_X7_feed bnd chk bns
        dsimp only
        rw [D_in1 hc.1 hc.2]
        unfold bd0
        dsimp only
        rw [if_neg (by decide), ← t1, if_neg (by omega), if_pos ⟨by omega, by omega⟩, ht, tn, wrl_nr _ _ (by decide), ← t1, ht, if_pos ⟨by omega, by omega⟩, wrl_at]
      refine ⟨_, _, _, N, e1, gset_ne _ _ (by decide), e2, rl_tape h ⟨fun r a b => by rw [wrl_nr _ _ a, wrl_nr _ _ b], fun i hi => by rw [wrl_ni _ _ hi, wrl_nr _ _ (by decide)]⟩ ⟨⟨by rw [wrl_at, wrl_at], by rw [wrl_at]; omega, by rw [wrl_at]; omega⟩, fun i hi => ?_⟩⟩
      rw [wrl_at] at hi
      rw [wrl_nr _ _ (by decide), wrl_r, wrl_nr _ _ (by decide), wrl_r]
      by_cases q : i = t
      · rw [q, up1_at, up1_at]; exact ⟨rfl, hc⟩
      · rw [up1_ne _ _ q, up1_ne _ _ q]; exact t4 i (by omega)
    · refine CS_same h (-3) ?_ ?_
      · unfold D_X6_feed bnd
        dsimp only
        rw [if_neg (by omega), if_neg (by omega), if_neg hf]
      · unfold D_X7_feed bnd
        dsimp only
        rw [D_in1 hc.1 hc.2]
        unfold bd0
        dsimp only
        rw [if_neg (by decide), ← t1, if_pos (by omega)]
  · refine CS_same h (-1) ?_ ?_
    · unfold D_X6_feed bnd
      dsimp only
      by_cases q : c < 0
      · rw [if_pos q]
      · rw [if_neg q, if_pos (by omega)]
    · unfold D_X7_feed bnd
      dsimp only
      rw [D_in0 (by omega)]
      rfl
theorem cl_end {N : Nat} {σ : Sg} (h : rlS N σ) (n : Int) : CS σ (D_X6_end σ n) (D_X7_end (σ 13) n) := by
  obtain ⟨⟨t1, t2, t3⟩, t4⟩ := h.2.2.1
  by_cases hn : 0 ≤ n ∧ n ≤ σ 2 14 2
  · have e1 : D_X6_end σ n = some (σ 2 14 2, gset σ 2 (wrl (σ 2) 14 2 n)) := by
      unfold D_X6_end bnd bns
      dsimp only
      rw [if_neg (by omega), if_neg (by omega)]; rfl
    have e2 : D_X7_end (σ 13) n = some (σ 2 14 2, wrl (σ 13) 17 10 n) := by
      unfold D_X7_end bnd bns
      dsimp only
      rw [← t1, D_in1 hn.1 hn.2]
      rfl
    refine ⟨_, _, _, N, e1, gset_ne _ _ (by decide), e2, rl_tape h ⟨fun r a b => by rw [wrl_nr _ _ a], fun i hi => by rw [wrl_ni _ _ hi]⟩ ⟨⟨by rw [wrl_at, wrl_at], by rw [wrl_at]; omega, by rw [wrl_at]; omega⟩, fun i hi => ?_⟩⟩
    rw [wrl_at] at hi
    rw [wrl_nr _ _ (by decide), wrl_nr _ _ (by decide)]
    exact t4 i (by omega)
  · refine CS_same h (-1) ?_ ?_
    · unfold D_X6_end bnd
      dsimp only
      by_cases q : n < 0
      · rw [if_pos q]
      · rw [if_neg q, if_pos (by omega)]
    · unfold D_X7_end bnd
      dsimp only
      rw [← t1, D_in0 (by omega)]
      rfl
/-! readers -/
def CR (dc dm : Option Int) : Prop := ∃ r, dc = some r ∧ dm = some r
theorem cl_fault {N : Nat} {σ : Sg} (h : rlS N σ) : CR (D_X6_fault σ) (D_X7_fault (σ 13)) := ⟨_, rfl, by rw [h.2.2.2.1.1]; rfl⟩
theorem cl_torn {N : Nat} {σ : Sg} (h : rlS N σ) : CR (D_X6_torn σ) (D_X7_torn (σ 13)) := ⟨_, rfl, by rw [h.2.2.2.1.2]; rfl⟩
theorem cl_woman {N : Nat} {σ : Sg} (h : rlS N σ) (p : Int) : CR (D_X6_woman σ p) (D_X7_woman (σ 13) p) := by
  obtain ⟨n1, n2, n5⟩ := rlS_N h
  unfold D_X6_woman D_X7_woman
  by_cases hp : 0 ≤ p ∧ p < N
  · obtain ⟨w, rfl⟩ : ∃ w : Nat, p = w := ⟨p.toNat, by omega⟩
    refine ⟨σ 1 27 w, ?_, ?_⟩
    · rw [D_nob0 n1 hp]; rfl
    · rw [D_one1 n2 hp]
      unfold bd0 bnd
      dsimp only
      rw [if_neg (by decide), show (20 + (w : Int)).toNat = 20 + w by omega, (h.1.2.1.2.1 w (by omega)).2.2.2.2]
  · refine ⟨-1, ?_, ?_⟩
    · rw [D_nob1 n1 hp]; rfl
    · rw [D_one0 n2 hp]; rfl
theorem cl_cousins {N : Nat} {σ : Sg} (h : rlS N σ) (p : Int) : CR (D_X6_cousins σ p) (D_X7_cousins (σ 13) p) := by
  obtain ⟨n1, n2, n5⟩ := rlS_N h
  unfold D_X6_cousins D_X7_cousins
  by_cases hp : 0 ≤ p ∧ p < N
  · obtain ⟨w, rfl⟩ : ∃ w : Nat, p = w := ⟨p.toNat, by omega⟩
    refine ⟨σ 1 20 w, ?_, ?_⟩
    · rw [D_nob0 n1 hp]; rfl
    · rw [D_one1 n2 hp]
      unfold bd0 bnd
      dsimp only
      rw [if_neg (by decide), show (25 + (w : Int)).toNat = 25 + w by omega, (h.1.2.2.1 w (by omega)).1]
  · refine ⟨-1, ?_, ?_⟩
    · rw [D_nob1 n1 hp]; rfl
    · rw [D_one0 n2 hp]; rfl
theorem cl_figure {N : Nat} {σ : Sg} (h : rlS N σ) (p : Int) : CR (D_X6_figure σ p) (D_X7_figure (σ 13) p) := by
  obtain ⟨-, ⟨f1, f2, f3⟩, f4, -, -, -⟩ := h.1.2.2
  unfold D_X6_figure D_X6_figure_15 D_X7_figure bnd
  dsimp only
  rw [show (31 : Int).toNat = 31 from rfl, ← f1]
  by_cases hp : 0 ≤ p ∧ p < σ 1 10 6
  · obtain ⟨w, rfl⟩ : ∃ w : Nat, p = w := ⟨p.toNat, by omega⟩
    refine ⟨σ 1 21 w, ?_, ?_⟩
    · rw [if_neg (by omega), if_pos hp.2]; rfl
    · rw [D_in1 hp.1 (by omega)]
      unfold bd0
      dsimp only
      rw [if_neg (by decide), show (32 + (w : Int)).toNat = 32 + w by omega, f4 w hp.2]
  · refine ⟨-1, ?_, ?_⟩
    · by_cases q : p < 0
      · rw [if_pos q]
      · rw [if_neg q, if_neg (by omega)]
    · rw [D_in0 (by omega)]; rfl
/-! THE PROGRAM, SEEN -/
theorem kcn_k {φ φ' : Lo} (h : kcn φ ≤ 6) (e : φ' 20 = φ 20) : kcn φ' ≤ 6 := by
  unfold kcn at h ⊢; rw [e]; exact h
theorem GD_w {M : Lo} {i : Nat} (hi : i < 59) {v : Int} (h : gd59 i v) : gd177 i v := gd177_m hi h
theorem ckdp {α : Type} {p : Prop} {i : Decidable p} {k : Option α} (h : p) : @chk α p i k = k := by unfold chk; exact if_pos h
theorem cl_cut {N : Nat} {σ : Sg} (h : rlS N σ) (n : Int) : CS σ (D_X6_cut σ n) (D_X7_cut (σ 13) n) := by
  obtain ⟨k1, ⟨f1, f2, f3⟩, f4, f5, f6, f7⟩ := h.1.2.2
  by_cases hn : 0 ≤ n ∧ n ≤ σ 1 10 6
  · have e1 : D_X6_cut σ n = some (σ 1 10 6, gset σ 1 (wrl (σ 1) 10 6 n)) := by
      unfold D_X6_cut bnd bns
      dsimp only
      rw [if_neg (by omega), if_neg (by omega)]; rfl
    have e2 : D_X7_cut (σ 13) n = some (σ 1 10 6, wrl (σ 13) 40 31 n) := by
      unfold D_X7_cut D_X7_becomes bnd
      dsimp only
      rw [show (31 : Int).toNat = 31 from rfl, ← f1, D_in1 hn.1 hn.2]
      unfold bd0
      dsimp only
      rw [if_neg (by decide), ckdp (GD_w (M := σ 13) (by decide) (gd59_m31 rfl ⟨by omega, by omega⟩))]
      rfl
    refine ⟨_, _, _, N, e1, gset_ne _ _ (by decide), e2, rlS_w h ⟨fun r a => wrl_nr _ _ a, fun i hi => by rw [wrl_ni _ _ (by omega)]⟩ ?_ ?_⟩
    · rw [wrl_r]
      refine FF_cg h.1.2.1 ?_ ?_ (fun m hm => ⟨?_, ?_, ?_, ?_, ?_⟩) (fun i hi => up1_ne _ _ (by omega)) <;> rw [wrl_nr _ _ (by decide)]
    · rw [wrl_r]
      refine ⟨fun w hw => ?_, ?_, fun i hi => ?_, ?_, fun i hi => ?_, ?_⟩
      · rw [wrl_nr _ _ (by decide), up1_ne _ _ (by omega)]; exact k1 w hw
      · rw [wrl_at, up1_at]; exact ⟨rfl, by omega, by omega⟩
      · rw [wrl_at] at hi
        rw [wrl_nr _ _ (by decide), up1_ne _ _ (by omega)]; exact f4 i (by omega)
      · rw [wrl_ni _ _ (by decide), up1_ne _ _ (by omega)]; exact f5
      · rw [wrl_ni _ _ (by decide)] at hi
        rw [wrl_nr _ _ (by decide), wrl_nr _ _ (by decide), wrl_nr _ _ (by decide), up1_ne _ _ (by omega), up1_ne _ _ (by omega), up1_ne _ _ (by omega)]; exact f6 i hi
      · exact kcn_k f7 (wrl_nr _ _ (by decide))
  · refine CS_same h (-1) ?_ ?_
    · unfold D_X6_cut bnd
      dsimp only
      by_cases q : n < 0
      · rw [if_pos q]
      · rw [if_neg q, if_pos (by omega)]
    · unfold D_X7_cut bnd
      dsimp only
      rw [show (31 : Int).toNat = 31 from rfl, ← f1, D_in0 (by omega)]
      rfl
theorem cl_forget {N : Nat} {σ : Sg} (h : rlS N σ) (n : Int) : CS σ (D_X6_forget σ n) (D_X7_forget (σ 13) n) := by
  obtain ⟨k1, f1, f4, ⟨f5, g5, g6⟩, f6, f7⟩ := h.1.2.2
  by_cases hn : 0 ≤ n ∧ n ≤ σ 1 10 7
  · have e1 : D_X6_forget σ n = some (σ 1 10 7, gset σ 1 (wrl (σ 1) 10 7 n)) := by
      unfold D_X6_forget bnd bns
      dsimp only
      rw [if_neg (by omega), if_neg (by omega)]; rfl
    have e2 : D_X7_forget (σ 13) n = some (σ 1 10 7, wrl (σ 13) 40 40 n) := by
      unfold D_X7_forget D_X7_becomes bnd
      dsimp only
      rw [show (40 : Int).toNat = 40 from rfl, ← f5, D_in1 hn.1 hn.2]
      unfold bd0
      dsimp only
      rw [if_neg (by decide), ckdp (GD_w (M := σ 13) (by decide) (gd59_m40 rfl ⟨by omega, by omega⟩))]
      rfl
    refine ⟨_, _, _, N, e1, gset_ne _ _ (by decide), e2, rlS_w h ⟨fun r a => wrl_nr _ _ a, fun i hi => by rw [wrl_ni _ _ (by omega)]⟩ ?_ ?_⟩
    · rw [wrl_r]
      refine FF_cg h.1.2.1 ?_ ?_ (fun m hm => ⟨?_, ?_, ?_, ?_, ?_⟩) (fun i hi => up1_ne _ _ (by omega)) <;> rw [wrl_nr _ _ (by decide)]
    · rw [wrl_r]
      refine ⟨fun w hw => ?_, ?_, fun i hi => ?_, ?_, fun i hi => ?_, ?_⟩
      · rw [wrl_nr _ _ (by decide), up1_ne _ _ (by omega)]; exact k1 w hw
      · rw [wrl_ni _ _ (by decide), up1_ne _ _ (by omega)]; exact f1
      · rw [wrl_ni _ _ (by decide)] at hi
        rw [wrl_nr _ _ (by decide), up1_ne _ _ (by omega)]; exact f4 i hi
      · rw [wrl_at, up1_at]; exact ⟨rfl, by omega, by omega⟩
      · rw [wrl_at] at hi
        rw [wrl_nr _ _ (by decide), wrl_nr _ _ (by decide), wrl_nr _ _ (by decide), up1_ne _ _ (by omega), up1_ne _ _ (by omega), up1_ne _ _ (by omega)]; exact f6 i (by omega)
      · exact kcn_k f7 (wrl_nr _ _ (by decide))
  · refine CS_same h (-1) ?_ ?_
    · unfold D_X6_forget bnd
      dsimp only
      by_cases q : n < 0
      · rw [if_pos q]
      · rw [if_neg q, if_pos (by omega)]
    · unfold D_X7_forget bnd
      dsimp only
      rw [show (40 : Int).toNat = 40 from rfl, ← f5, D_in0 (by omega)]
      rfl
theorem cl_plan {N : Nat} {σ : Sg} (h : rlS N σ) (f : Int) : CS σ (D_X6_plan σ f) (D_X7_plan (σ 13) f) := by
  obtain ⟨k1, ⟨f1, f2, f3⟩, f4, f5, f6, f7⟩ := h.1.2.2
  by_cases hf : 0 ≤ f ∧ f ≤ 3
  · by_cases h8 : σ 1 10 6 < 8
    · obtain ⟨t, ht⟩ : ∃ t : Nat, σ 1 10 6 = t := ⟨(σ 1 10 6).toNat, by omega⟩
      have e1 : D_X6_plan σ f = some ((t : Int) + 1, gset σ 1 (wrl (wrl (σ 1) 21 t f) 10 6 ((t : Int) + 1))) := by
        unfold D_X6_plan
        rw [D_cfig1 hf]
        unfold bd0 bnd
        dsimp only
        rw [if_neg (by decide), if_pos h8]
        unfold D_X0_addFigure bnd chk bns
        dsimp only
        rw [if_pos h8, if_pos ⟨by omega, by omega⟩, ht, tn, wrl_nr _ _ (by decide), ht, if_pos ⟨by omega, by omega⟩]
        unfold bd1
        dsimp only
        rw [gset_at, wrl_at]
      have e2 : D_X7_plan (σ 13) f = some ((t : Int) + 1, wrl (wrl (σ 13) 40 (32 + t) f) 40 31 ((t : Int) + 1)) := by
        unfold D_X7_plan
        rw [D_mfig1 hf]
        unfold bd0 bnd bns
        dsimp only
        rw [if_neg (by decide), show (31 : Int).toNat = 31 from rfl, ← f1, if_neg (by omega), ht, show (32 + (t : Int)).toNat = 32 + t by omega, ckdp (GD_w (M := σ 13) (by omega) (gd59_mf (Or.inr ⟨by omega, by omega⟩))), wrl_ni _ _ (by omega), ← f1, ht, ckdp (GD_w (M := σ 13) (by decide) (gd59_m31 rfl ⟨by omega, by omega⟩)), wrl_at]
      refine ⟨_, _, _, N, e1, gset_ne _ _ (by decide), e2, rlS_w h ⟨fun r a => by rw [wrl_nr _ _ a, wrl_nr _ _ a], fun i hi => by rw [wrl_ni _ _ (by omega), wrl_ni _ _ (by omega)]⟩ ?_ ?_⟩
      · rw [wrl_r, wrl_r]
        refine FF_cg h.1.2.1 ?_ ?_ (fun m hm => ⟨?_, ?_, ?_, ?_, ?_⟩) (fun i hi => by rw [up1_ne _ _ (by omega), up1_ne _ _ (by omega)]) <;> rw [wrl_nr _ _ (by decide), wrl_nr _ _ (by decide)]
      · rw [wrl_r, wrl_r]
        refine ⟨fun w hw => ?_, ?_, fun i hi => ?_, ?_, fun i hi => ?_, ?_⟩
        · rw [wrl_nr _ _ (by decide), wrl_nr _ _ (by decide), up1_ne _ _ (by omega), up1_ne _ _ (by omega)]; exact k1 w hw
        · rw [wrl_at, up1_at]; exact ⟨rfl, by omega, by omega⟩
        · rw [wrl_at] at hi
          rw [wrl_nr _ _ (by decide), wrl_r]
          by_cases q : i = t
          · rw [q, up1_at, up1_ne _ _ (by omega), up1_at]
          · rw [up1_ne _ _ q, up1_ne _ _ (by omega), up1_ne _ _ (by omega)]; exact f4 i (by omega)
        · rw [wrl_ni _ _ (by decide), wrl_nr _ _ (by decide), up1_ne _ _ (by omega), up1_ne _ _ (by omega)]; exact f5
        · rw [wrl_ni _ _ (by decide), wrl_nr _ _ (by decide)] at hi
          have hz := f5.2.2
          rw [wrl_nr _ _ (by decide), wrl_nr _ _ (by decide), wrl_nr _ _ (by decide), wrl_nr _ _ (by decide), wrl_nr _ _ (by decide), wrl_nr _ _ (by decide), up1_ne _ _ (by omega), up1_ne _ _ (by omega), up1_ne _ _ (by omega), up1_ne _ _ (by omega), up1_ne _ _ (by omega), up1_ne _ _ (by omega)]; exact f6 i hi
        · exact kcn_k f7 (by rw [wrl_nr _ _ (by decide), wrl_nr _ _ (by decide)])
    · refine CS_same h (-3) ?_ ?_
      · unfold D_X6_plan
        rw [D_cfig1 hf]
        unfold bd0 bnd
        dsimp only
        rw [if_neg (by decide), if_neg h8]
      · unfold D_X7_plan
        rw [D_mfig1 hf]
        unfold bd0 bnd
        dsimp only
        rw [if_neg (by decide), show (31 : Int).toNat = 31 from rfl, ← f1, if_pos (by omega)]
  · refine CS_same h (-1) ?_ ?_
    · unfold D_X6_plan
      rw [D_cfig0 hf]; rfl
    · unfold D_X7_plan
      rw [D_mfig0 hf]; rfl
