/-! both sides between two TOKENS -/
/-- both have taken the TOKEN that ends at e -/
def SY (L e : Nat) (φ M : Lo) : Prop := TP L φ M ∧ φ 14 3 = 0 ∧ φ 14 5 = e ∧ M 17 11 = e ∧ M 17 15 = 0 ∧ e ≤ L ∧ φ 14 7 = M 17 12
/-- both refuse alike -/
def FT (φ M : Lo) : Prop := φ 14 3 = M 17 15 ∧ φ 14 4 = M 17 16 ∧ 1 ≤ M 17 15
/-- the TOKEN that the class takes is the one that the reference has read -/
def TK (L p : Nat) (φ φ' M : Lo) (q e : Nat) (k : Int) : Prop := K14 φ φ' ∧ SY L e φ' M ∧ φ' 14 6 = k ∧ φ' 14 7 = q ∧ M 17 13 = k ∧ p ≤ q ∧ q ≤ e ∧ ((k = 0 ∧ q = L) ∨ (k = 1 ∧ q < e) ∨ (k = 2 ∧ q < e ∧ e ≤ q + 2 ∧ M 17 14 = dvl (φ' 30) q (e - q) ∧ ∀ j, q ≤ j → j < e → 48 ≤ φ' 30 j ∧ φ' 30 j ≤ 57) ∨ (k = 3 ∧ q < e))
def AX (L p : Nat) (φ M : Lo) : Prop := p ≤ L ∧ ((∃ (φ' : Lo) (q e : Nat) (k : Int), D_X4_advance φ = some (1, φ') ∧ TK L p φ φ' M q e k) ∨ (∃ φ' : Lo, D_X4_advance φ = some (0, φ') ∧ FT φ' M))
theorem bd2_id {S : Type} (d : Option (Int × S)) : bd2 d (fun r φ => some (r, φ)) = d := by
  cases d <;> rfl
theorem sy_nx {L e : Nat} {φ M : Lo} (h : SY L e φ M) : ∃ M' : Lo, D_X7_next M = some M' ∧ K17 M M' ∧ AX L e φ M' := by
  obtain ⟨h1, h3, h5, h11, h15, he, h7⟩ := h
  obtain ⟨φ', M', q, hn, hh⟩ := lex h1 he h5 h11 h15
  rcases hh with ⟨e', k, ha, kφ, kM, a3, a4, a5, a6, a7, b11, b12, b13, b15, c1, c2, c3, c4⟩ | ⟨ha, kφ, kM, a3, a4, b15, b16⟩
  · refine ⟨M', hn, kM, he, Or.inl ⟨φ', q, e', k, ha, kφ, ⟨TP_K h1 kφ kM, a3.trans h3, a5, b11, b15, c3, a7.trans b12.symm⟩, a6, a7, b13, c1, c2, ?_⟩⟩
    rw [kφ.1 30 (by decide)]
    rcases c4 with ⟨x, y, z⟩ | x | x | x
    · exact Or.inl ⟨x, y⟩
    · exact Or.inr (Or.inl x)
    · exact Or.inr (Or.inr (Or.inl x))
    · exact Or.inr (Or.inr (Or.inr x))
  · exact ⟨M', hn, kM, he, Or.inr ⟨φ', ha, a3.trans b15.symm, a4.trans b16.symm, by rw [b15]; decide⟩⟩
/-- the reference's draft is written -/
def KD (M M' : Lo) : Prop := (∀ r, r ≠ 17 → r ≠ 43 → M' r = M r) ∧ (∀ i, (i < 5 ∨ 8 < i) → M' 17 i = M 17 i)
theorem KD_rf (M : Lo) : KD M M := ⟨fun _ _ _ => rfl, fun _ _ => rfl⟩
theorem KD_tr {M M' M'' : Lo} (h2 : KD M' M'') (h : KD M M') : KD M M'' := ⟨fun r a b => (h2.1 r a b).trans (h.1 r a b), fun i a => (h2.2 i a).trans (h.2 i a)⟩
theorem KD_43 {M M' : Lo} (h : KD M M') (i : Nat) (v : Int) : KD M (wrl M' 43 i v) := ⟨fun r a b => by rw [wrl_nr _ _ b]; exact h.1 r a b, fun j a => by rw [wrl_nr _ _ (by decide)]; exact h.2 j a⟩
theorem KD_17 {M M' : Lo} (h : KD M M') {i : Nat} (hi : 5 ≤ i ∧ i ≤ 8) (v : Int) : KD M (wrl M' 17 i v) := ⟨fun r a b => by rw [wrl_nr _ _ a]; exact h.1 r a b, fun j a => by rw [wrl_ni _ _ (by omega)]; exact h.2 j a⟩
theorem TP_D {L : Nat} {φ M M' : Lo} (h : TP L φ M) (hd : KD M M') : TP L φ M' := TP_m h (hd.2 10 (by decide)) (hd.1 44 (by decide) (by decide))
theorem SY_D {L e : Nat} {φ M M' : Lo} (h : SY L e φ M) (hd : KD M M') : SY L e φ M' := by
  obtain ⟨h1, h3, h5, h11, h15, he, h7⟩ := h
  exact ⟨TP_D h1 hd, h3, h5, by rw [hd.2 11 (by decide)]; exact h11, by rw [hd.2 15 (by decide)]; exact h15, he, by rw [hd.2 12 (by decide)]; exact h7⟩
theorem FT_D {φ M M' : Lo} (h : FT φ M) (hd : KD M M') : FT φ M' := by
  unfold FT
  rw [hd.2 15 (by decide), hd.2 16 (by decide)]
  exact h
theorem AX_D {L p : Nat} {φ M M' : Lo} (h : AX L p φ M) (hd : KD M M') : AX L p φ M' := by
  rcases h with ⟨hp, ⟨φ', q, e, k, ha, b1, b2, b3, b4, b5, b6⟩ | ⟨φ', ha, b⟩⟩
  · refine ⟨hp, Or.inl ⟨φ', q, e, k, ha, b1, SY_D b2 hd, b3, b4, ?_⟩⟩
    rw [hd.2 13 (by decide), hd.2 14 (by decide)]
    exact ⟨b5, b6⟩
  · exact ⟨hp, Or.inr ⟨φ', ha, FT_D b hd⟩⟩
/-- the class's draft is written -/
def KE (φ φ' : Lo) : Prop := φ' 30 = φ 30 ∧ (∀ i, i ≠ 8 → i ≠ 9 → φ' 14 i = φ 14 i)
theorem KE_rf (φ : Lo) : KE φ φ := ⟨rfl, fun _ _ _ => rfl⟩
theorem KE_w {φ φ' : Lo} (h : KE φ φ') {r : Nat} (hr : r ≠ 14 ∧ r ≠ 30) (i : Nat) (v : Int) : KE φ (wrl φ' r i v) := ⟨by rw [wrl_nr _ _ hr.2.symm]; exact h.1, fun j a b => by rw [wrl_nr _ _ hr.1.symm]; exact h.2 j a b⟩
theorem KE_14 {φ φ' : Lo} (h : KE φ φ') {i : Nat} (hi : i = 8 ∨ i = 9) (v : Int) : KE φ (wrl φ' 14 i v) := ⟨by rw [wrl_nr _ _ (by decide)]; exact h.1, fun j a b => by rw [wrl_ni _ _ (by omega)]; exact h.2 j a b⟩
theorem SY_E {L e : Nat} {φ φ' M : Lo} (h : SY L e φ M) (hd : KE φ φ') : SY L e φ' M := by
  obtain ⟨h1, h3, h5, h11, h15, he, h7⟩ := h
  exact ⟨TP_c h1 (hd.2 2 (by decide) (by decide)) hd.1, by rw [hd.2 3 (by decide) (by decide)]; exact h3, by rw [hd.2 5 (by decide) (by decide)]; exact h5, h11, h15, he, by rw [hd.2 7 (by decide) (by decide)]; exact h7⟩
/-- what the whole reading keeps of the reference -/
def KM (M M' : Lo) : Prop := (∀ r, r ≠ 17 → r ≠ 43 → M' r = M r) ∧ (∀ i, (i < 5 ∨ i = 9 ∨ i = 10 ∨ 16 < i) → M' 17 i = M 17 i)
theorem KM_rf (M : Lo) : KM M M := ⟨fun _ _ _ => rfl, fun _ _ => rfl⟩
theorem KM_tr {M M' M'' : Lo} (h2 : KM M' M'') (h : KM M M') : KM M M'' := ⟨fun r a b => (h2.1 r a b).trans (h.1 r a b), fun i a => (h2.2 i a).trans (h.2 i a)⟩
theorem KM_D {M M' : Lo} (h : KD M M') : KM M M' := ⟨h.1, fun i a => h.2 i (by omega)⟩
theorem KM_K {M M' : Lo} (h : K17 M M') : KM M M' := ⟨fun r a b => h.1 r a, fun i a => h.2 i (by omega)⟩
/-! the reference behind a FAULT -/
theorem nx_f {M : Lo} (h : 1 ≤ M 17 15) : D_X7_next M = some M := by
  rw [D_X7_next.eq_1]
  simp only [bnd_e]
  rw [if_pos (by omega)]
theorem need_f {M : Lo} (h : 1 ≤ M 17 15) (t v : Int) : D_X7_needs M t v = some M := by
  rw [D_X7_needs.eq_1]
  simp only [bnd_e]
  by_cases c : t = 0
  · rw [if_pos c, if_neg (by omega)]
  · rw [if_neg c]
theorem lk49_f {M : Lo} (h : 1 ≤ M 17 15) : D_X7_looked_49 M = some (0, M) := by
  rw [D_X7_looked_49.eq_1]
  simp only [bnd_e]
  rw [if_neg (by omega)]
theorem lk25_f {M : Lo} (h : 1 ≤ M 17 15) (a b : Int) : D_X7_looked_25 a b M = some (0, M) := by
  rw [D_X7_looked_25.eq_1]
  simp only [bnd_e]
  rw [if_neg (by omega), lk49_f h]
theorem lk_f {M : Lo} (h : 1 ≤ M 17 15) (a b : Int) : D_X7_looked M a b = some (0, M) := by
  rw [D_X7_looked.eq_1]
  simp only [bnd_e]
  rw [if_neg (by omega), lk25_f h]
theorem rn_of {M M1 M' : Lo} {a b v : Int} (h1 : D_X7_looked M a b = some (v, M1)) (h2 : D_X7_next M1 = some M') : D_X7_readNumber M a b = some (v, M') := by
  rw [D_X7_readNumber.eq_1, h1]
  simp only [bd2_e]
  rw [h2]
  simp only [bd1_e]
theorem rn_f {M : Lo} (h : 1 ≤ M 17 15) (a b : Int) : D_X7_readNumber M a b = some (0, M) := rn_of (lk_f h a b) (nx_f h)
/-- a FAULT that is set -/
def fl (M : Lo) (v : Int) : Lo := wrl (wrl M 17 15 v) 17 16 (M 17 12)
theorem fl_15 (M : Lo) (v : Int) : fl M v 17 15 = v := by unfold fl; rw [wrl_ni _ _ (by decide), wrl_at]
theorem fl_16 (M : Lo) (v : Int) : fl M v 17 16 = M 17 12 := by unfold fl; rw [wrl_at]
theorem fl_K (M : Lo) (v : Int) : K17 M (fl M v) := K17_w (K17_w (K17_rf M) (by decide) _) (by decide) _
theorem need_0 {M : Lo} (v : Int) (h : M 17 15 = 0) : D_X7_needs M 0 v = some (fl M v) := need0 v h
theorem fl_FT {φ M : Lo} {v : Int} (hv : 1 ≤ v) (h3 : φ 14 3 = v) (h4 : φ 14 4 = M 17 12) : FT φ (fl M v) := ⟨by rw [fl_15]; exact h3, by rw [fl_16]; exact h4, by rw [fl_15]; exact hv⟩
theorem ref_FT {L e : Nat} {φ M : Lo} {v : Int} (h : SY L e φ M) (hv : 1 ≤ v) : FT (wrl (wrl φ 14 3 v) 14 4 (φ 14 7)) (fl M v) := fl_FT hv (by rw [wrl_ni _ _ (by decide), wrl_at]) (by rw [wrl_at]; exact h.2.2.2.2.2.2)
theorem D_ref (φ : Lo) (a b : Int) : D_X4_refuse φ a b = some (0, wrl (wrl φ 14 3 a) 14 4 b) := by
  rw [D_X4_refuse.eq_1]
  simp only [bns_e, bnd_e]
theorem lk_2 {M : Lo} (h15 : M 17 15 = 0) (h13 : M 17 13 = 2) (b : Int) : (0 ≤ M 17 14 → M 17 14 ≤ b → D_X7_looked M 0 b = some (M 17 14, M)) ∧ (b < M 17 14 → D_X7_looked M 0 b = some (0, fl M 3)) := by
  have e : D_X7_looked M 0 b = bd0 (D_X7_in (M 17 14) 0 b) (fun r42 => bd1 (D_X7_needs M r42 3) (fun φ => D_X7_looked_49 φ)) := by
    rw [D_X7_looked.eq_1]
    simp only [bnd_e, D_X7_looked_21.eq_1, need1, bd1_e, D_X7_looked_25.eq_1]
    rw [if_pos h15, if_pos h13, if_pos h15]
  rw [e]
  constructor
  · intro h0 h1
    rw [D_in1 h0 h1]
    simp only [bd0_e, need1, bd1_e, D_X7_looked_49.eq_1, bnd_e]
    rw [if_pos h15]
  · intro h1
    rw [D_in0 (Or.inr h1)]
    simp only [bd0_e]
    rw [need_0 3 h15]
    simp only [bd1_e]
    rw [lk49_f (by rw [fl_15]; decide)]
theorem lk_n2 {M : Lo} (h15 : M 17 15 = 0) (h13 : M 17 13 ≠ 2) (b : Int) : D_X7_looked M 0 b = some (0, fl M 2) := by
  rw [D_X7_looked.eq_1]
  simp only [bnd_e, D_X7_looked_21.eq_1]
  rw [if_pos h15, if_neg h13, need_0 2 h15]
  simp only [bd1_e]
  rw [lk25_f (by rw [fl_15]; decide)]
/-- what a NUMBER's reading leaves of the class -/
def K8 (φ φ' : Lo) : Prop := (∀ r, r ≠ 14 → φ' r = φ r) ∧ φ' 14 9 = φ 14 9
theorem K8_rf (φ : Lo) : K8 φ φ := ⟨fun _ _ => rfl, rfl⟩
theorem K8_tr {φ φ' φ'' : Lo} (h2 : K8 φ' φ'') (h : K8 φ φ') : K8 φ φ'' := ⟨fun r a => (h2.1 r a).trans (h.1 r a), h2.2.trans h.2⟩
theorem K8_K {φ φ' : Lo} (h : K14 φ φ') : K8 φ φ' := ⟨h.1, h.2 9 (by decide) (by decide) (by decide) (by decide) (by decide)⟩
theorem K8_w {φ φ' : Lo} (h : K8 φ φ') {i : Nat} (hi : i ≠ 9) (v : Int) : K8 φ (wrl φ' 14 i v) := ⟨fun r a => by rw [wrl_nr _ _ a]; exact h.1 r a, by rw [wrl_ni _ _ hi.symm]; exact h.2⟩
theorem nu {L p : Nat} {φ M : Lo} (h : AX L p φ M) (b : Int) : (∃ (φ' : Lo) (v : Int) (e : Nat), D_X4_number φ b = some (1, φ') ∧ D_X7_looked M 0 b = some (v, M) ∧ φ' 14 8 = v ∧ 0 ≤ v ∧ v ≤ b ∧ SY L e φ' M ∧ K8 φ φ' ∧ p ≤ e) ∨ (∃ φ' M' : Lo, D_X4_number φ b = some (0, φ') ∧ D_X7_looked M 0 b = some (0, M') ∧ FT φ' M' ∧ K17 M M' ∧ (1 ≤ M 17 15 → M' = M)) := by
  rcases h.2 with ⟨φ1, q, e, k, ha, b1, b2, b3, b4, b5, b6, b7, b8⟩ | ⟨φ1, ha, hf⟩
  · have h15 : M 17 15 = 0 := b2.2.2.2.2.1
    have h5 : φ1 14 5 = e := b2.2.2.1
    have h12 : M 17 12 = q := by rw [← b2.2.2.2.2.2.2]; exact b4
    by_cases c : k = 2
    · have hk : q < e ∧ e ≤ q + 2 ∧ M 17 14 = dvl (φ1 30) q (e - q) ∧ ∀ j, q ≤ j → j < e → 48 ≤ φ1 30 j ∧ φ1 30 j ≤ 57 := by
        rcases b8 with x | x | x | x
        · omega
        · omega
        · exact x.2
        · omega
      obtain ⟨k1, k2, k3, k4⟩ := hk
      have hv := dvl_in k1 k2 k4
      have hc : D_X4_number φ b = (if b < dvl (φ1 30) q (e - q) then some (0, wrl (wrl (wrl φ1 14 8 (dvl (φ1 30) q (e - q))) 14 3 3) 14 4 q) else some (1, wrl φ1 14 8 (dvl (φ1 30) q (e - q)))) := by
        rw [D_X4_number.eq_1, ha]
        simp only [bd2_e, i10, bnd_e, bns_e]
        rw [if_pos (b3.trans c), wrl_ni φ1 0 (show (7 : Nat) ≠ 8 by decide), b4]
        exact D_nm b h5 b4 k1 k2 k4
      have hl := lk_2 h15 (b5.trans c) b
      rw [k3] at hl
      by_cases d : b < dvl (φ1 30) q (e - q)
      · rw [if_pos d] at hc
        refine Or.inr ⟨_, _, hc, hl.2 d, fl_FT (by decide) ?_ ?_, fl_K _ _, fun z => by omega⟩
        · rw [wrl_ni _ _ (by decide), wrl_at]
        · rw [wrl_at, h12]
      · rw [if_neg d] at hc
        refine Or.inl ⟨_, _, e, hc, hl.1 hv.1 (by omega), wrl_at _ _ _ _, hv.1, by omega, SY_E b2 (KE_14 (KE_rf _) (Or.inl rfl) _), K8_w (K8_K b1) (by decide) _, by omega⟩
    · refine Or.inr ⟨wrl (wrl φ1 14 3 2) 14 4 (φ1 14 7), _, ?_, lk_n2 h15 (by rw [b5]; exact c) b, ref_FT b2 (by decide), fl_K _ _, fun z => by omega⟩
      rw [D_X4_number.eq_1, ha]
      simp only [bd2_e, i10, bnd_e, D_ref]
      rw [if_neg (by rw [b3]; exact c)]
  · refine Or.inr ⟨φ1, M, ?_, lk_f hf.2.2 0 b, hf, K17_rf M, fun _ => rfl⟩
    rw [D_X4_number.eq_1, ha]
    simp only [bd2_e, bnd_e, if_true]
