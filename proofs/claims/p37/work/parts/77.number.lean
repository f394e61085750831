/-! the NUMBER's value in the class -/
theorem nm_st {φ : Lo} {e y : Nat} {v p : Int} (h5 : φ 14 5 = e) (hy : y < e) (n : Nat) (hv : 0 ≤ v * 10 + φ 30 y - 48 ∧ v * 10 + φ 30 y - 48 ≤ 999) : D_X4_number_37 p (n + 1) (wrl φ 14 8 v) y = D_X4_number_37 p n (wrl φ 14 8 (v * 10 + φ 30 y - 48)) ((y + 1 : Nat) : Int) := by
  rw [D_X4_number_37.eq_2]
  simp only [bnd_e, bns_e]
  rw [wrl_ni φ v (show (5 : Nat) ≠ 8 by decide), h5, if_pos (by omega), wrl_at φ 14 8 v, wrl_nr φ v (show (30 : Nat) ≠ 14 by decide), tn, chk_e hv, wrl_wrl, nc1]
theorem nm_end {φ : Lo} {e q : Nat} {v p : Int} (h5 : φ 14 5 = e) (h7 : φ 14 7 = q) (n : Nat) : D_X4_number_37 p (n + 1) (wrl φ 14 8 v) e = (if p < v then some (0, wrl (wrl (wrl φ 14 8 v) 14 3 3) 14 4 q) else some (1, wrl φ 14 8 v)) := by
  rw [D_X4_number_37.eq_2]
  simp only [bnd_e, bns_e, D_X4_refuse.eq_1, D_X4_number_92.eq_1, bd2_e, if_true]
  rw [wrl_ni φ v (show (5 : Nat) ≠ 8 by decide), h5, if_neg (by omega), wrl_at φ 14 8 v, wrl_ni φ v (show (7 : Nat) ≠ 8 by decide), h7]
theorem D_nm {φ : Lo} {q e : Nat} (p : Int) (h5 : φ 14 5 = e) (h7 : φ 14 7 = q) (h1 : q < e) (h2 : e ≤ q + 2) (hd : ∀ j, q ≤ j → j < e → 48 ≤ φ 30 j ∧ φ 30 j ≤ 57) : D_X4_number_37 p 5000 (wrl φ 14 8 0) q = (if p < dvl (φ 30) q (e - q) then some (0, wrl (wrl (wrl φ 14 8 (dvl (φ 30) q (e - q))) 14 3 3) 14 4 q) else some (1, wrl φ 14 8 (dvl (φ 30) q (e - q)))) := by
  obtain ⟨n, hn⟩ : ∃ n, (5000 : Nat) = n + 1 + 1 + 1 := ⟨4997, rfl⟩
  rw [hn]
  have d0 := hd q (Nat.le_refl _) h1
  rcases (show e = q + 1 ∨ e = q + 2 by omega) with rfl | rfl
  · have ev : dvl (φ 30) q (q + 1 - q) = 0 * 10 + φ 30 q - 48 := by
      unfold dvl
      rw [if_neg (by omega), if_pos (by omega)]
      omega
    rw [nm_st h5 (by omega) _ (by omega), nm_end h5 h7, ev]
  · have d1 := hd (q + 1) (by omega) (by omega)
    have ev : dvl (φ 30) q (q + 2 - q) = (0 * 10 + φ 30 q - 48) * 10 + φ 30 (q + 1) - 48 := by
      unfold dvl
      rw [if_neg (by omega), if_neg (by omega)]
      omega
    rw [nm_st h5 (by omega) _ (by omega), nm_st h5 (by omega) _ (by omega), nm_end h5 h7, ev]
theorem dvl_in {B : Nat → Int} {q e : Nat} (h1 : q < e) (h2 : e ≤ q + 2) (hd : ∀ j, q ≤ j → j < e → 48 ≤ B j ∧ B j ≤ 57) : 0 ≤ dvl B q (e - q) ∧ dvl B q (e - q) ≤ 99 := by
  have d0 := hd q (Nat.le_refl _) h1
  unfold dvl
  rcases (show e = q + 1 ∨ e = q + 2 by omega) with rfl | rfl
  · rw [if_neg (by omega), if_pos (by omega)]; omega
  · have d1 := hd (q + 1) (by omega) (by omega)
    rw [if_neg (by omega), if_neg (by omega)]; omega
