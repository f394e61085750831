def obG (k : Nat) : Bool := [0, 30, 31, 32, 33, 34, 35, 36, 37, 38, 39, 40, 41, 52, 53, 54, 55, 56].contains k
set_option maxHeartbeats 4000000 in
theorem eOK_ga {z : Zt} {ga ga' go : Nat → Int} {ct : Nat → Int32} {r : Nat × Nat} {a : Nat} {e : va_E} (h : eOK z ga go ct r a e) (hg : ∀ k, obG k = true → ga k = ga' k) : eOK z ga' go ct r a e := by
  obtain ⟨n, o⟩ := r
  unfold eOK at h ⊢
  dsimp only at h ⊢
  split at h
  · unfold eEvening at h ⊢
    simp only [hg 36 rfl, hg 37 rfl] at h
    exact h
  · unfold eFloor at h ⊢
    simp only [hg 0 rfl] at h
    exact h
  · exact h
  · unfold eSheet at h ⊢
    simp only [hg 34 rfl, hg 35 rfl] at h
    exact h
  · unfold eTape at h ⊢
    simp only [hg 30 rfl, hg 31 rfl, hg 32 rfl, hg 33 rfl, hg 39 rfl] at h
    exact h
  · unfold eWalk at h ⊢
    simp only [hg 38 rfl] at h
    exact h
  · exact h
  · unfold eModel at h ⊢
    simp only [hg 41 rfl, hg 55 rfl, hg 40 rfl, hg 52 rfl, hg 53 rfl, hg 56 rfl, hg 54 rfl] at h
    exact h
  · exact h
  · exact h
  · exact h
  · exact h
  · exact h
  · exact h
  · exact h
  · exact h
  · exact h
  · exact h
  · exact h
  · exact h
  · exact h
  · exact h
  · exact h
  · exact h
  · exact h
  · exact h
  · exact h
  · exact h
  · exact h
  · exact h
  · exact h
  · exact h
  · exact h
  · exact h
  · exact h
set_option maxHeartbeats 4000000 in
theorem eOK_n27 {z : Zt} {ga go go' : Nat → Int} {ct : Nat → Int32} {r : Nat × Nat} {a : Nat} {e : va_E} {j : Nat} (hj : j = 1 ∨ j = 2) (hn : r.1 ≠ 27) (hg : ∀ k, k ≠ j → go k = go' k) (h : eOK z ga go ct r a e) : eOK z ga go' ct r a e := by
  obtain ⟨n, o⟩ := r
  unfold eOK at h ⊢
  dsimp only at h hn ⊢
  split at h
  · exact h
  · exact h
  · exact h
  · exact h
  · exact h
  · exact h
  · exact h
  · exact h
  · exact h
  · exact h
  · exact h
  · exact h
  · exact h
  · exact h
  · exact h
  · exact absurd rfl hn
  · exact h
  · exact h
  · exact h
  · exact h
  · obtain ⟨f, h1, hc, h2⟩ := h
    refine ⟨f, h1, hc, fun i hi => ?_⟩
    have h3 := h2 i hi
    unfold p40 at h3 ⊢
    rw [← hg 42 (by omega), ← hg 43 (by omega), ← hg 46 (by omega), ← hg 47 (by omega)]
    exact h3
  · obtain ⟨f, h1, hc, h2⟩ := h
    refine ⟨f, h1, hc, fun i hi => ?_⟩
    have h3 := h2 i hi
    unfold p41 at h3 ⊢
    rw [← hg 48 (by omega), ← hg 49 (by omega)]
    exact h3
  · obtain ⟨f, h1, h2⟩ := h
    refine ⟨f, h1, fun i hi => ?_⟩
    have h3 := h2 i hi
    unfold p42 at h3 ⊢
    rw [← hg 44 (by omega), ← hg 45 (by omega)]
    exact h3
  · exact h
  · exact h
  · exact h
  · exact h
  · obtain ⟨f, h1, h2⟩ := h
    refine ⟨f, h1, fun i hi => ?_⟩
    have h3 := h2 i hi
    unfold p47 at h3 ⊢
    rw [← hg (60 + i) (by omega)]
    exact h3
  · obtain ⟨f, h1, h2⟩ := h
    refine ⟨f, h1, fun i hi => ?_⟩
    have h3 := h2 i hi
    unfold p48 at h3 ⊢
    rw [← hg (64 + i) (by omega)]
    exact h3
  · exact h
  · obtain ⟨f, h1, h2⟩ := h
    refine ⟨f, h1, fun i hi => ?_⟩
    have h3 := h2 i hi
    unfold p50 at h3 ⊢
    rw [← hg 50 (by omega), ← hg 51 (by omega)]
    exact h3
  · exact h
  · exact h
  · exact h
  · exact h
set_option maxHeartbeats 4000000 in
theorem eOK_n41 {z : Zt} {ga go go' : Nat → Int} {ct : Nat → Int32} {r : Nat × Nat} {a : Nat} {e : va_E} {j : Nat} (hj : j = 48 ∨ j = 49) (hn : r.1 ≠ 41) (hg : ∀ k, k ≠ j → go k = go' k) (h : eOK z ga go ct r a e) : eOK z ga go' ct r a e := by
  obtain ⟨n, o⟩ := r
  unfold eOK at h ⊢
  dsimp only at h hn ⊢
  split at h
  · exact h
  · exact h
  · exact h
  · exact h
  · exact h
  · exact h
  · exact h
  · exact h
  · exact h
  · exact h
  · exact h
  · exact h
  · exact h
  · exact h
  · exact h
  · obtain ⟨f, h1, h2⟩ := h
    refine ⟨f, h1, fun i hi => ?_⟩
    have h3 := h2 i hi
    unfold p27 at h3 ⊢
    rw [← hg 1 (by omega), ← hg 2 (by omega)]
    exact h3
  · exact h
  · exact h
  · exact h
  · exact h
  · obtain ⟨f, h1, hc, h2⟩ := h
    refine ⟨f, h1, hc, fun i hi => ?_⟩
    have h3 := h2 i hi
    unfold p40 at h3 ⊢
    rw [← hg 42 (by omega), ← hg 43 (by omega), ← hg 46 (by omega), ← hg 47 (by omega)]
    exact h3
  · exact absurd rfl hn
  · obtain ⟨f, h1, h2⟩ := h
    refine ⟨f, h1, fun i hi => ?_⟩
    have h3 := h2 i hi
    unfold p42 at h3 ⊢
    rw [← hg 44 (by omega), ← hg 45 (by omega)]
    exact h3
  · exact h
  · exact h
  · exact h
  · exact h
  · obtain ⟨f, h1, h2⟩ := h
    refine ⟨f, h1, fun i hi => ?_⟩
    have h3 := h2 i hi
    unfold p47 at h3 ⊢
    rw [← hg (60 + i) (by omega)]
    exact h3
  · obtain ⟨f, h1, h2⟩ := h
    refine ⟨f, h1, fun i hi => ?_⟩
    have h3 := h2 i hi
    unfold p48 at h3 ⊢
    rw [← hg (64 + i) (by omega)]
    exact h3
  · exact h
  · obtain ⟨f, h1, h2⟩ := h
    refine ⟨f, h1, fun i hi => ?_⟩
    have h3 := h2 i hi
    unfold p50 at h3 ⊢
    rw [← hg 50 (by omega), ← hg 51 (by omega)]
    exact h3
  · exact h
  · exact h
  · exact h
  · exact h
set_option maxHeartbeats 4000000 in
theorem eOK_n40 {z : Zt} {ga go go' : Nat → Int} {ct : Nat → Int32} {r : Nat × Nat} {a : Nat} {e : va_E} {j : Nat} (hj : j = 42 ∨ j = 43 ∨ j = 46 ∨ j = 47) (hn : r.1 ≠ 40) (hg : ∀ k, k ≠ j → go k = go' k) (h : eOK z ga go ct r a e) : eOK z ga go' ct r a e := by
  obtain ⟨n, o⟩ := r
  unfold eOK at h ⊢
  dsimp only at h hn ⊢
  split at h
  · exact h
  · exact h
  · exact h
  · exact h
  · exact h
  · exact h
  · exact h
  · exact h
  · exact h
  · exact h
  · exact h
  · exact h
  · exact h
  · exact h
  · exact h
  · obtain ⟨f, h1, h2⟩ := h
    refine ⟨f, h1, fun i hi => ?_⟩
    have h3 := h2 i hi
    unfold p27 at h3 ⊢
    rw [← hg 1 (by omega), ← hg 2 (by omega)]
    exact h3
  · exact h
  · exact h
  · exact h
  · exact h
  · exact absurd rfl hn
  · obtain ⟨f, h1, hc, h2⟩ := h
    refine ⟨f, h1, hc, fun i hi => ?_⟩
    have h3 := h2 i hi
    unfold p41 at h3 ⊢
    rw [← hg 48 (by omega), ← hg 49 (by omega)]
    exact h3
  · obtain ⟨f, h1, h2⟩ := h
    refine ⟨f, h1, fun i hi => ?_⟩
    have h3 := h2 i hi
    unfold p42 at h3 ⊢
    rw [← hg 44 (by omega), ← hg 45 (by omega)]
    exact h3
  · exact h
  · exact h
  · exact h
  · exact h
  · obtain ⟨f, h1, h2⟩ := h
    refine ⟨f, h1, fun i hi => ?_⟩
    have h3 := h2 i hi
    unfold p47 at h3 ⊢
    rw [← hg (60 + i) (by omega)]
    exact h3
  · obtain ⟨f, h1, h2⟩ := h
    refine ⟨f, h1, fun i hi => ?_⟩
    have h3 := h2 i hi
    unfold p48 at h3 ⊢
    rw [← hg (64 + i) (by omega)]
    exact h3
  · exact h
  · obtain ⟨f, h1, h2⟩ := h
    refine ⟨f, h1, fun i hi => ?_⟩
    have h3 := h2 i hi
    unfold p50 at h3 ⊢
    rw [← hg 50 (by omega), ← hg 51 (by omega)]
    exact h3
  · exact h
  · exact h
  · exact h
  · exact h
set_option maxHeartbeats 4000000 in
theorem eOK_n50 {z : Zt} {ga go go' : Nat → Int} {ct : Nat → Int32} {r : Nat × Nat} {a : Nat} {e : va_E} {j : Nat} (hj : j = 50 ∨ j = 51) (hn : r.1 ≠ 50) (hg : ∀ k, k ≠ j → go k = go' k) (h : eOK z ga go ct r a e) : eOK z ga go' ct r a e := by
  obtain ⟨n, o⟩ := r
  unfold eOK at h ⊢
  dsimp only at h hn ⊢
  split at h
  · exact h
  · exact h
  · exact h
  · exact h
  · exact h
  · exact h
  · exact h
  · exact h
  · exact h
  · exact h
  · exact h
  · exact h
  · exact h
  · exact h
  · exact h
  · obtain ⟨f, h1, h2⟩ := h
    refine ⟨f, h1, fun i hi => ?_⟩
    have h3 := h2 i hi
    unfold p27 at h3 ⊢
    rw [← hg 1 (by omega), ← hg 2 (by omega)]
    exact h3
  · exact h
  · exact h
  · exact h
  · exact h
  · obtain ⟨f, h1, hc, h2⟩ := h
    refine ⟨f, h1, hc, fun i hi => ?_⟩
    have h3 := h2 i hi
    unfold p40 at h3 ⊢
    rw [← hg 42 (by omega), ← hg 43 (by omega), ← hg 46 (by omega), ← hg 47 (by omega)]
    exact h3
  · obtain ⟨f, h1, hc, h2⟩ := h
    refine ⟨f, h1, hc, fun i hi => ?_⟩
    have h3 := h2 i hi
    unfold p41 at h3 ⊢
    rw [← hg 48 (by omega), ← hg 49 (by omega)]
    exact h3
  · obtain ⟨f, h1, h2⟩ := h
    refine ⟨f, h1, fun i hi => ?_⟩
    have h3 := h2 i hi
    unfold p42 at h3 ⊢
    rw [← hg 44 (by omega), ← hg 45 (by omega)]
    exact h3
  · exact h
  · exact h
  · exact h
  · exact h
  · obtain ⟨f, h1, h2⟩ := h
    refine ⟨f, h1, fun i hi => ?_⟩
    have h3 := h2 i hi
    unfold p47 at h3 ⊢
    rw [← hg (60 + i) (by omega)]
    exact h3
  · obtain ⟨f, h1, h2⟩ := h
    refine ⟨f, h1, fun i hi => ?_⟩
    have h3 := h2 i hi
    unfold p48 at h3 ⊢
    rw [← hg (64 + i) (by omega)]
    exact h3
  · exact h
  · exact absurd rfl hn
  · exact h
  · exact h
  · exact h
  · exact h
set_option maxHeartbeats 4000000 in
theorem eOK_n47 {z : Zt} {ga go go' : Nat → Int} {ct : Nat → Int32} {r : Nat × Nat} {a : Nat} {e : va_E} {j : Nat} (hj : j = 60 ∨ j = 61 ∨ j = 62 ∨ j = 63) (hn : r.1 ≠ 47) (hg : ∀ k, k ≠ j → go k = go' k) (h : eOK z ga go ct r a e) : eOK z ga go' ct r a e := by
  obtain ⟨n, o⟩ := r
  unfold eOK at h ⊢
  dsimp only at h hn ⊢
  split at h
  · exact h
  · exact h
  · exact h
  · exact h
  · exact h
  · exact h
  · exact h
  · exact h
  · exact h
  · exact h
  · exact h
  · exact h
  · exact h
  · exact h
  · exact h
  · obtain ⟨f, h1, h2⟩ := h
    refine ⟨f, h1, fun i hi => ?_⟩
    have h3 := h2 i hi
    unfold p27 at h3 ⊢
    rw [← hg 1 (by omega), ← hg 2 (by omega)]
    exact h3
  · exact h
  · exact h
  · exact h
  · exact h
  · obtain ⟨f, h1, hc, h2⟩ := h
    refine ⟨f, h1, hc, fun i hi => ?_⟩
    have h3 := h2 i hi
    unfold p40 at h3 ⊢
    rw [← hg 42 (by omega), ← hg 43 (by omega), ← hg 46 (by omega), ← hg 47 (by omega)]
    exact h3
  · obtain ⟨f, h1, hc, h2⟩ := h
    refine ⟨f, h1, hc, fun i hi => ?_⟩
    have h3 := h2 i hi
    unfold p41 at h3 ⊢
    rw [← hg 48 (by omega), ← hg 49 (by omega)]
    exact h3
  · obtain ⟨f, h1, h2⟩ := h
    refine ⟨f, h1, fun i hi => ?_⟩
    have h3 := h2 i hi
    unfold p42 at h3 ⊢
    rw [← hg 44 (by omega), ← hg 45 (by omega)]
    exact h3
  · exact h
  · exact h
  · exact h
  · exact h
  · exact absurd rfl hn
  · obtain ⟨f, h1, h2⟩ := h
    refine ⟨f, h1, fun i hi => ?_⟩
    have h3 := h2 i hi
    unfold p48 at h3 ⊢
    rw [← hg (64 + i) (by omega)]
    exact h3
  · exact h
  · obtain ⟨f, h1, h2⟩ := h
    refine ⟨f, h1, fun i hi => ?_⟩
    have h3 := h2 i hi
    unfold p50 at h3 ⊢
    rw [← hg 50 (by omega), ← hg 51 (by omega)]
    exact h3
  · exact h
  · exact h
  · exact h
  · exact h
set_option maxHeartbeats 4000000 in
theorem eOK_n48 {z : Zt} {ga go go' : Nat → Int} {ct : Nat → Int32} {r : Nat × Nat} {a : Nat} {e : va_E} {j : Nat} (hj : j = 64 ∨ j = 65 ∨ j = 66 ∨ j = 67) (hn : r.1 ≠ 48) (hg : ∀ k, k ≠ j → go k = go' k) (h : eOK z ga go ct r a e) : eOK z ga go' ct r a e := by
  obtain ⟨n, o⟩ := r
  unfold eOK at h ⊢
  dsimp only at h hn ⊢
  split at h
  · exact h
  · exact h
  · exact h
  · exact h
  · exact h
  · exact h
  · exact h
  · exact h
  · exact h
  · exact h
  · exact h
  · exact h
  · exact h
  · exact h
  · exact h
  · obtain ⟨f, h1, h2⟩ := h
    refine ⟨f, h1, fun i hi => ?_⟩
    have h3 := h2 i hi
    unfold p27 at h3 ⊢
    rw [← hg 1 (by omega), ← hg 2 (by omega)]
    exact h3
  · exact h
  · exact h
  · exact h
  · exact h
  · obtain ⟨f, h1, hc, h2⟩ := h
    refine ⟨f, h1, hc, fun i hi => ?_⟩
    have h3 := h2 i hi
    unfold p40 at h3 ⊢
    rw [← hg 42 (by omega), ← hg 43 (by omega), ← hg 46 (by omega), ← hg 47 (by omega)]
    exact h3
  · obtain ⟨f, h1, hc, h2⟩ := h
    refine ⟨f, h1, hc, fun i hi => ?_⟩
    have h3 := h2 i hi
    unfold p41 at h3 ⊢
    rw [← hg 48 (by omega), ← hg 49 (by omega)]
    exact h3
  · obtain ⟨f, h1, h2⟩ := h
    refine ⟨f, h1, fun i hi => ?_⟩
    have h3 := h2 i hi
    unfold p42 at h3 ⊢
    rw [← hg 44 (by omega), ← hg 45 (by omega)]
    exact h3
  · exact h
  · exact h
  · exact h
  · exact h
  · obtain ⟨f, h1, h2⟩ := h
    refine ⟨f, h1, fun i hi => ?_⟩
    have h3 := h2 i hi
    unfold p47 at h3 ⊢
    rw [← hg (60 + i) (by omega)]
    exact h3
  · exact absurd rfl hn
  · exact h
  · obtain ⟨f, h1, h2⟩ := h
    refine ⟨f, h1, fun i hi => ?_⟩
    have h3 := h2 i hi
    unfold p50 at h3 ⊢
    rw [← hg 50 (by omega), ← hg 51 (by omega)]
    exact h3
  · exact h
  · exact h
  · exact h
  · exact h
set_option maxHeartbeats 4000000 in
theorem eOK_n42 {z : Zt} {ga go go' : Nat → Int} {ct : Nat → Int32} {r : Nat × Nat} {a : Nat} {e : va_E} {j : Nat} (hj : j = 44 ∨ j = 45) (hn : r.1 ≠ 42) (hg : ∀ k, k ≠ j → go k = go' k) (h : eOK z ga go ct r a e) : eOK z ga go' ct r a e := by
  obtain ⟨n, o⟩ := r
  unfold eOK at h ⊢
  dsimp only at h hn ⊢
  split at h
  · exact h
  · exact h
  · exact h
  · exact h
  · exact h
  · exact h
  · exact h
  · exact h
  · exact h
  · exact h
  · exact h
  · exact h
  · exact h
  · exact h
  · exact h
  · obtain ⟨f, h1, h2⟩ := h
    refine ⟨f, h1, fun i hi => ?_⟩
    have h3 := h2 i hi
    unfold p27 at h3 ⊢
    rw [← hg 1 (by omega), ← hg 2 (by omega)]
    exact h3
  · exact h
  · exact h
  · exact h
  · exact h
  · obtain ⟨f, h1, hc, h2⟩ := h
    refine ⟨f, h1, hc, fun i hi => ?_⟩
    have h3 := h2 i hi
    unfold p40 at h3 ⊢
    rw [← hg 42 (by omega), ← hg 43 (by omega), ← hg 46 (by omega), ← hg 47 (by omega)]
    exact h3
  · obtain ⟨f, h1, hc, h2⟩ := h
    refine ⟨f, h1, hc, fun i hi => ?_⟩
    have h3 := h2 i hi
    unfold p41 at h3 ⊢
    rw [← hg 48 (by omega), ← hg 49 (by omega)]
    exact h3
  · exact absurd rfl hn
  · exact h
  · exact h
  · exact h
  · exact h
  · obtain ⟨f, h1, h2⟩ := h
    refine ⟨f, h1, fun i hi => ?_⟩
    have h3 := h2 i hi
    unfold p47 at h3 ⊢
    rw [← hg (60 + i) (by omega)]
    exact h3
  · obtain ⟨f, h1, h2⟩ := h
    refine ⟨f, h1, fun i hi => ?_⟩
    have h3 := h2 i hi
    unfold p48 at h3 ⊢
    rw [← hg (64 + i) (by omega)]
    exact h3
  · exact h
  · obtain ⟨f, h1, h2⟩ := h
    refine ⟨f, h1, fun i hi => ?_⟩
    have h3 := h2 i hi
    unfold p50 at h3 ⊢
    rw [← hg 50 (by omega), ← hg 51 (by omega)]
    exact h3
  · exact h
  · exact h
  · exact h
  · exact h
set_option maxHeartbeats 4000000 in
theorem eOK_s27 {z : Zt} {ga go go' : Nat → Int} {ct : Nat → Int32} {r : Nat × Nat} {a : Nat} {e : va_E} {j : Nat} (hj : j = 1 ∨ j = 2) (hg : ∀ k, k ≠ j → go k = go' k) (hp : ∀ i y, p27 go i y → p27 go' i y) (h : eOK z ga go ct r a e) : eOK z ga go' ct r a e := by
  obtain ⟨n, o⟩ := r
  unfold eOK at h ⊢
  dsimp only at h ⊢
  split at h
  · exact h
  · exact h
  · exact h
  · exact h
  · exact h
  · exact h
  · exact h
  · exact h
  · exact h
  · exact h
  · exact h
  · exact h
  · exact h
  · exact h
  · exact h
  · obtain ⟨f, h1, h2⟩ := h
    refine ⟨f, h1, fun i hi => ?_⟩
    have h3 := h2 i hi
    exact hp i _ h3
  · exact h
  · exact h
  · exact h
  · exact h
  · obtain ⟨f, h1, hc, h2⟩ := h
    refine ⟨f, h1, hc, fun i hi => ?_⟩
    have h3 := h2 i hi
    unfold p40 at h3 ⊢
    rw [← hg 42 (by omega), ← hg 43 (by omega), ← hg 46 (by omega), ← hg 47 (by omega)]
    exact h3
  · obtain ⟨f, h1, hc, h2⟩ := h
    refine ⟨f, h1, hc, fun i hi => ?_⟩
    have h3 := h2 i hi
    unfold p41 at h3 ⊢
    rw [← hg 48 (by omega), ← hg 49 (by omega)]
    exact h3
  · obtain ⟨f, h1, h2⟩ := h
    refine ⟨f, h1, fun i hi => ?_⟩
    have h3 := h2 i hi
    unfold p42 at h3 ⊢
    rw [← hg 44 (by omega), ← hg 45 (by omega)]
    exact h3
  · exact h
  · exact h
  · exact h
  · exact h
  · obtain ⟨f, h1, h2⟩ := h
    refine ⟨f, h1, fun i hi => ?_⟩
    have h3 := h2 i hi
    unfold p47 at h3 ⊢
    rw [← hg (60 + i) (by omega)]
    exact h3
  · obtain ⟨f, h1, h2⟩ := h
    refine ⟨f, h1, fun i hi => ?_⟩
    have h3 := h2 i hi
    unfold p48 at h3 ⊢
    rw [← hg (64 + i) (by omega)]
    exact h3
  · exact h
  · obtain ⟨f, h1, h2⟩ := h
    refine ⟨f, h1, fun i hi => ?_⟩
    have h3 := h2 i hi
    unfold p50 at h3 ⊢
    rw [← hg 50 (by omega), ← hg 51 (by omega)]
    exact h3
  · exact h
  · exact h
  · exact h
  · exact h
theorem gw_27 {z : Zt} {A : Nat → Prop} {gh : Gh} {H : Heap} {o j : Nat} {v : Int} (hT : TY z A gh H) (hj : j = 1 ∨ j = 2) (hp : ∀ i y, p27 (gh.1 o) i y → p27 ((gs gh o j v).1 o) i y) : TY z A (gs gh o j v) H := by
  obtain ⟨E, hP, hD, hm, hE⟩ := hT
  refine ⟨E, hP, hD, hm, fun b hb => ?_⟩
  have h := hE b hb
  have hob : ∀ k, obG k = true → gh.1 b k = (gs gh o j v).1 b k := fun k hk => by
    by_cases q : k = j
    · subst q
      rcases hj with rfl | rfl <;> cases hk
    · exact (gs_nk gh o j v q).symm
  have h1 := eOK_ga h hob
  by_cases q : (zG z b).2 = o
  · exact eOK_s27 hj (fun k hk => (gs_nk gh o j v hk).symm) (by rw [q]; exact hp) h1
  · rw [show (gs gh o j v).1 (zG z b).2 = gh.1 (zG z b).2 from gs_fn gh o j v q]
    exact h1
theorem as_27g {p : Program} {l : Launch} {e : Env} {R : Room} {s : State} {m : MethodId} {args : Array Value} {below : List Frame} {meth : Method} {c : Code} {H H0 : Heap} {locs : List Loc} {cells slots : Nat} {Q : State → Prop} {cc : ByteArray} {pc : Nat} {ls : Array Slot} {rest : List Value} {z : Zt} {A : Nat → Prop} {a o : Nat} {gh : Gh} {i x : Int32} {j : Nat} {v : Int} (hx : p.tables.exec = Jvm.exec) (hb : c.code = cc) (hK : va_K (zD z) vwCl (zT z) s) (hT : TY z A gh H) (hS : va_S A H0 H locs) (ha : zG z a = (27, o)) (hu : ∀ b, zG z b = (27, o) → b = a) (h0 : 0 ≤ i.toInt) (h1 : i.toInt < 5) (hj : j = 1 ∨ j = 2) (hv : p27 ((gs gh o j v).1 o) i.toNatClampNeg x.toInt) (hp : ∀ k y, k ≠ i.toNatClampNeg → p27 (gh.1 o) k y → p27 ((gs gh o j v).1 o) k y) (hdg : decode cc pc = .ok (.iastore, 1)) (kk : ∀ (H1 : Heap) (locs1 : List Loc), TY z A (gs gh o j v) H1 → va_S A H0 H1 locs1 → W p l e R s m args below meth c H1 locs1 cells slots Q (F0 m (pc + 1) ls (rest))) : W p l e R s m args below meth c H locs cells slots Q (F0 m pc ls (.int x :: .int i :: .ref a :: rest)) := by
  obtain ⟨E, hP, hD, hm, hE⟩ := hT
  have hL : a ∈ zL z := hm a (by rw [ha]; exact Nat.succ_ne_zero _)
  obtain ⟨k, hk0⟩ := va_pl_get (X := []) (f := E) hL
  have he := hE a hL
  rw [ha] at he
  obtain ⟨f, h9, hf⟩ : a27 z (gh.1 o) (gh.2 a) (E a) := he
  have hk := hk0
  rw [h9] at hk
  refine va_iast hx hb hK hP hD hS k 0 hk rfl (ix_in (n := 5) h0 h1) hdg (fun H1 locs1 hP1 hD1 hS1 => ?_)
  refine kk H1 locs1 (ty_up (gh := gh) (gh' := (gs gh o j v)) hP1 hD1 hD hm hE hL hk0 ?_ ?_) hS1
  · rw [ha]
    refine (⟨upd f i.toNatClampNeg x, rfl, fun q hq => ?_⟩ : a27 z ((gs gh o j v).1 o) _ _)
    by_cases hj2 : q = i.toNatClampNeg
    · subst hj2
      rw [show upd f i.toNatClampNeg x i.toNatClampNeg = x from if_pos rfl]
      exact hv
    · rw [show upd f i.toNatClampNeg x q = f q from if_neg hj2]
      exact hp q _ hj2 (hf q hq)
  · intro b hba e1 h
    have hob : ∀ k, obG k = true → gh.1 b k = (gs gh o j v).1 b k := fun k hk => by
      by_cases q : k = j
      · subst q
        rcases hj with rfl | rfl <;> cases hk
      · exact (gs_nk gh o j v q).symm
    have h2 := eOK_ga h hob
    by_cases q : (zG z b).2 = o
    · have hn : (zG z b).1 ≠ 27 := fun q2 => hba (hu b (Prod.ext q2 q))
      exact eOK_n27 hj hn (fun k hk => (gs_nk gh o j v hk).symm) h2
    · show eOK z ((gs gh o j v).1 b) ((gs gh o j v).1 (zG z b).2) _ _ b e1
      rw [show (gs gh o j v).1 (zG z b).2 = gh.1 (zG z b).2 from gs_fn gh o j v q]
      exact h2
set_option maxHeartbeats 4000000 in
theorem eOK_s41 {z : Zt} {ga go go' : Nat → Int} {ct : Nat → Int32} {r : Nat × Nat} {a : Nat} {e : va_E} {j : Nat} (hj : j = 48 ∨ j = 49) (hg : ∀ k, k ≠ j → go k = go' k) (hp : ∀ i y, p41 go i y → p41 go' i y) (h : eOK z ga go ct r a e) : eOK z ga go' ct r a e := by
  obtain ⟨n, o⟩ := r
  unfold eOK at h ⊢
  dsimp only at h ⊢
  split at h
  · exact h
  · exact h
  · exact h
  · exact h
  · exact h
  · exact h
  · exact h
  · exact h
  · exact h
  · exact h
  · exact h
  · exact h
  · exact h
  · exact h
  · exact h
  · obtain ⟨f, h1, h2⟩ := h
    refine ⟨f, h1, fun i hi => ?_⟩
    have h3 := h2 i hi
    unfold p27 at h3 ⊢
    rw [← hg 1 (by omega), ← hg 2 (by omega)]
    exact h3
  · exact h
  · exact h
  · exact h
  · exact h
  · obtain ⟨f, h1, hc, h2⟩ := h
    refine ⟨f, h1, hc, fun i hi => ?_⟩
    have h3 := h2 i hi
    unfold p40 at h3 ⊢
    rw [← hg 42 (by omega), ← hg 43 (by omega), ← hg 46 (by omega), ← hg 47 (by omega)]
    exact h3
  · obtain ⟨f, h1, hc, h2⟩ := h
    refine ⟨f, h1, hc, fun i hi => ?_⟩
    have h3 := h2 i hi
    exact hp i _ h3
  · obtain ⟨f, h1, h2⟩ := h
    refine ⟨f, h1, fun i hi => ?_⟩
    have h3 := h2 i hi
    unfold p42 at h3 ⊢
    rw [← hg 44 (by omega), ← hg 45 (by omega)]
    exact h3
  · exact h
  · exact h
  · exact h
  · exact h
  · obtain ⟨f, h1, h2⟩ := h
    refine ⟨f, h1, fun i hi => ?_⟩
    have h3 := h2 i hi
    unfold p47 at h3 ⊢
    rw [← hg (60 + i) (by omega)]
    exact h3
  · obtain ⟨f, h1, h2⟩ := h
    refine ⟨f, h1, fun i hi => ?_⟩
    have h3 := h2 i hi
    unfold p48 at h3 ⊢
    rw [← hg (64 + i) (by omega)]
    exact h3
  · exact h
  · obtain ⟨f, h1, h2⟩ := h
    refine ⟨f, h1, fun i hi => ?_⟩
    have h3 := h2 i hi
    unfold p50 at h3 ⊢
    rw [← hg 50 (by omega), ← hg 51 (by omega)]
    exact h3
  · exact h
  · exact h
  · exact h
  · exact h
theorem gw_41 {z : Zt} {A : Nat → Prop} {gh : Gh} {H : Heap} {o j : Nat} {v : Int} (hT : TY z A gh H) (hj : j = 48 ∨ j = 49) (hp : ∀ i y, p41 (gh.1 o) i y → p41 ((gs gh o j v).1 o) i y) : TY z A (gs gh o j v) H := by
  obtain ⟨E, hP, hD, hm, hE⟩ := hT
  refine ⟨E, hP, hD, hm, fun b hb => ?_⟩
  have h := hE b hb
  have hob : ∀ k, obG k = true → gh.1 b k = (gs gh o j v).1 b k := fun k hk => by
    by_cases q : k = j
    · subst q
      rcases hj with rfl | rfl <;> cases hk
    · exact (gs_nk gh o j v q).symm
  have h1 := eOK_ga h hob
  by_cases q : (zG z b).2 = o
  · exact eOK_s41 hj (fun k hk => (gs_nk gh o j v hk).symm) (by rw [q]; exact hp) h1
  · rw [show (gs gh o j v).1 (zG z b).2 = gh.1 (zG z b).2 from gs_fn gh o j v q]
    exact h1
theorem as_41g {p : Program} {l : Launch} {e : Env} {R : Room} {s : State} {m : MethodId} {args : Array Value} {below : List Frame} {meth : Method} {c : Code} {H H0 : Heap} {locs : List Loc} {cells slots : Nat} {Q : State → Prop} {cc : ByteArray} {pc : Nat} {ls : Array Slot} {rest : List Value} {z : Zt} {A : Nat → Prop} {a o : Nat} {gh : Gh} {i x : Int32} {j : Nat} {v : Int} (hx : p.tables.exec = Jvm.exec) (hb : c.code = cc) (hK : va_K (zD z) vwCl (zT z) s) (hT : TY z A gh H) (hS : va_S A H0 H locs) (ha : zG z a = (41, o)) (hu : ∀ b, zG z b = (41, o) → b = a) (h0 : 0 ≤ i.toInt) (h1 : i.toInt < 59) (hj : j = 48 ∨ j = 49) (hv : p41 ((gs gh o j v).1 o) i.toNatClampNeg x.toInt) (hp : ∀ k y, k ≠ i.toNatClampNeg → p41 (gh.1 o) k y → p41 ((gs gh o j v).1 o) k y) (hdg : decode cc pc = .ok (.iastore, 1)) (kk : ∀ (H1 : Heap) (locs1 : List Loc), TY z A (gc (gs gh o j v) a (upd (gh.2 a) i.toNatClampNeg x)) H1 → va_S A H0 H1 locs1 → W p l e R s m args below meth c H1 locs1 cells slots Q (F0 m (pc + 1) ls (rest))) : W p l e R s m args below meth c H locs cells slots Q (F0 m pc ls (.int x :: .int i :: .ref a :: rest)) := by
  obtain ⟨E, hP, hD, hm, hE⟩ := hT
  have hL : a ∈ zL z := hm a (by rw [ha]; exact Nat.succ_ne_zero _)
  obtain ⟨k, hk0⟩ := va_pl_get (X := []) (f := E) hL
  have he := hE a hL
  rw [ha] at he
  obtain ⟨f, h9, hct, hf⟩ : a41 z (gh.1 o) (gh.2 a) (E a) := he
  have hk := hk0
  rw [h9] at hk
  refine va_iast hx hb hK hP hD hS k 0 hk rfl (ix_in (n := 59) h0 h1) hdg (fun H1 locs1 hP1 hD1 hS1 => ?_)
  refine kk H1 locs1 (ty_up (gh := gh) (gh' := (gc (gs gh o j v) a (upd (gh.2 a) i.toNatClampNeg x))) hP1 hD1 hD hm hE hL hk0 ?_ ?_) hS1
  · rw [ha]
    subst hct
    refine (⟨upd (gh.2 a) i.toNatClampNeg x, rfl, (gc_at _ _ _).symm, fun q hq => ?_⟩ : a41 z ((gs gh o j v).1 o) ((gc (gs gh o j v) a (upd (gh.2 a) i.toNatClampNeg x)).2 a) _)
    by_cases hj2 : q = i.toNatClampNeg
    · subst hj2
      rw [show upd (gh.2 a) i.toNatClampNeg x i.toNatClampNeg = x from if_pos rfl]
      exact hv
    · rw [show upd (gh.2 a) i.toNatClampNeg x q = (gh.2 a) q from if_neg hj2]
      exact hp q _ hj2 (hf q hq)
  · intro b hba e1 h
    have hob : ∀ k, obG k = true → gh.1 b k = (gs gh o j v).1 b k := fun k hk => by
      by_cases q : k = j
      · subst q
        rcases hj with rfl | rfl <;> cases hk
      · exact (gs_nk gh o j v q).symm
    have h2 := eOK_ga h hob
    rw [show (gc (gs gh o j v) a (upd (gh.2 a) i.toNatClampNeg x)).2 b = gh.2 b from gc_na _ _ _ hba]
    by_cases q : (zG z b).2 = o
    · have hn : (zG z b).1 ≠ 41 := fun q2 => hba (hu b (Prod.ext q2 q))
      exact eOK_n41 hj hn (fun k hk => (gs_nk gh o j v hk).symm) h2
    · show eOK z ((gs gh o j v).1 b) ((gs gh o j v).1 (zG z b).2) _ _ b e1
      rw [show (gs gh o j v).1 (zG z b).2 = gh.1 (zG z b).2 from gs_fn gh o j v q]
      exact h2
set_option maxHeartbeats 4000000 in
theorem eOK_s40 {z : Zt} {ga go go' : Nat → Int} {ct : Nat → Int32} {r : Nat × Nat} {a : Nat} {e : va_E} {j : Nat} (hj : j = 42 ∨ j = 43 ∨ j = 46 ∨ j = 47) (hg : ∀ k, k ≠ j → go k = go' k) (hp : ∀ i y, p40 go i y → p40 go' i y) (h : eOK z ga go ct r a e) : eOK z ga go' ct r a e := by
  obtain ⟨n, o⟩ := r
  unfold eOK at h ⊢
  dsimp only at h ⊢
  split at h
  · exact h
  · exact h
  · exact h
  · exact h
  · exact h
  · exact h
  · exact h
  · exact h
  · exact h
  · exact h
  · exact h
  · exact h
  · exact h
  · exact h
  · exact h
  · obtain ⟨f, h1, h2⟩ := h
    refine ⟨f, h1, fun i hi => ?_⟩
    have h3 := h2 i hi
    unfold p27 at h3 ⊢
    rw [← hg 1 (by omega), ← hg 2 (by omega)]
    exact h3
  · exact h
  · exact h
  · exact h
  · exact h
  · obtain ⟨f, h1, hc, h2⟩ := h
    refine ⟨f, h1, hc, fun i hi => ?_⟩
    have h3 := h2 i hi
    exact hp i _ h3
  · obtain ⟨f, h1, hc, h2⟩ := h
    refine ⟨f, h1, hc, fun i hi => ?_⟩
    have h3 := h2 i hi
    unfold p41 at h3 ⊢
    rw [← hg 48 (by omega), ← hg 49 (by omega)]
    exact h3
  · obtain ⟨f, h1, h2⟩ := h
    refine ⟨f, h1, fun i hi => ?_⟩
    have h3 := h2 i hi
    unfold p42 at h3 ⊢
    rw [← hg 44 (by omega), ← hg 45 (by omega)]
    exact h3
  · exact h
  · exact h
  · exact h
  · exact h
  · obtain ⟨f, h1, h2⟩ := h
    refine ⟨f, h1, fun i hi => ?_⟩
    have h3 := h2 i hi
    unfold p47 at h3 ⊢
    rw [← hg (60 + i) (by omega)]
    exact h3
  · obtain ⟨f, h1, h2⟩ := h
    refine ⟨f, h1, fun i hi => ?_⟩
    have h3 := h2 i hi
    unfold p48 at h3 ⊢
    rw [← hg (64 + i) (by omega)]
    exact h3
  · exact h
  · obtain ⟨f, h1, h2⟩ := h
    refine ⟨f, h1, fun i hi => ?_⟩
    have h3 := h2 i hi
    unfold p50 at h3 ⊢
    rw [← hg 50 (by omega), ← hg 51 (by omega)]
    exact h3
  · exact h
  · exact h
  · exact h
  · exact h
theorem gw_40 {z : Zt} {A : Nat → Prop} {gh : Gh} {H : Heap} {o j : Nat} {v : Int} (hT : TY z A gh H) (hj : j = 42 ∨ j = 43 ∨ j = 46 ∨ j = 47) (hp : ∀ i y, p40 (gh.1 o) i y → p40 ((gs gh o j v).1 o) i y) : TY z A (gs gh o j v) H := by
  obtain ⟨E, hP, hD, hm, hE⟩ := hT
  refine ⟨E, hP, hD, hm, fun b hb => ?_⟩
  have h := hE b hb
  have hob : ∀ k, obG k = true → gh.1 b k = (gs gh o j v).1 b k := fun k hk => by
    by_cases q : k = j
    · subst q
      rcases hj with rfl | rfl | rfl | rfl <;> cases hk
    · exact (gs_nk gh o j v q).symm
  have h1 := eOK_ga h hob
  by_cases q : (zG z b).2 = o
  · exact eOK_s40 hj (fun k hk => (gs_nk gh o j v hk).symm) (by rw [q]; exact hp) h1
  · rw [show (gs gh o j v).1 (zG z b).2 = gh.1 (zG z b).2 from gs_fn gh o j v q]
    exact h1
theorem as_40g {p : Program} {l : Launch} {e : Env} {R : Room} {s : State} {m : MethodId} {args : Array Value} {below : List Frame} {meth : Method} {c : Code} {H H0 : Heap} {locs : List Loc} {cells slots : Nat} {Q : State → Prop} {cc : ByteArray} {pc : Nat} {ls : Array Slot} {rest : List Value} {z : Zt} {A : Nat → Prop} {a o : Nat} {gh : Gh} {i x : Int32} {j : Nat} {v : Int} (hx : p.tables.exec = Jvm.exec) (hb : c.code = cc) (hK : va_K (zD z) vwCl (zT z) s) (hT : TY z A gh H) (hS : va_S A H0 H locs) (ha : zG z a = (40, o)) (hu : ∀ b, zG z b = (40, o) → b = a) (h0 : 0 ≤ i.toInt) (h1 : i.toInt < 177) (hj : j = 42 ∨ j = 43 ∨ j = 46 ∨ j = 47) (hv : p40 ((gs gh o j v).1 o) i.toNatClampNeg x.toInt) (hp : ∀ k y, k ≠ i.toNatClampNeg → p40 (gh.1 o) k y → p40 ((gs gh o j v).1 o) k y) (hdg : decode cc pc = .ok (.iastore, 1)) (kk : ∀ (H1 : Heap) (locs1 : List Loc), TY z A (gc (gs gh o j v) a (upd (gh.2 a) i.toNatClampNeg x)) H1 → va_S A H0 H1 locs1 → W p l e R s m args below meth c H1 locs1 cells slots Q (F0 m (pc + 1) ls (rest))) : W p l e R s m args below meth c H locs cells slots Q (F0 m pc ls (.int x :: .int i :: .ref a :: rest)) := by
  obtain ⟨E, hP, hD, hm, hE⟩ := hT
  have hL : a ∈ zL z := hm a (by rw [ha]; exact Nat.succ_ne_zero _)
  obtain ⟨k, hk0⟩ := va_pl_get (X := []) (f := E) hL
  have he := hE a hL
  rw [ha] at he
  obtain ⟨f, h9, hct, hf⟩ : a40 z (gh.1 o) (gh.2 a) (E a) := he
  have hk := hk0
  rw [h9] at hk
  refine va_iast hx hb hK hP hD hS k 0 hk rfl (ix_in (n := 177) h0 h1) hdg (fun H1 locs1 hP1 hD1 hS1 => ?_)
  refine kk H1 locs1 (ty_up (gh := gh) (gh' := (gc (gs gh o j v) a (upd (gh.2 a) i.toNatClampNeg x))) hP1 hD1 hD hm hE hL hk0 ?_ ?_) hS1
  · rw [ha]
    subst hct
    refine (⟨upd (gh.2 a) i.toNatClampNeg x, rfl, (gc_at _ _ _).symm, fun q hq => ?_⟩ : a40 z ((gs gh o j v).1 o) ((gc (gs gh o j v) a (upd (gh.2 a) i.toNatClampNeg x)).2 a) _)
    by_cases hj2 : q = i.toNatClampNeg
    · subst hj2
      rw [show upd (gh.2 a) i.toNatClampNeg x i.toNatClampNeg = x from if_pos rfl]
      exact hv
    · rw [show upd (gh.2 a) i.toNatClampNeg x q = (gh.2 a) q from if_neg hj2]
      exact hp q _ hj2 (hf q hq)
  · intro b hba e1 h
    have hob : ∀ k, obG k = true → gh.1 b k = (gs gh o j v).1 b k := fun k hk => by
      by_cases q : k = j
      · subst q
        rcases hj with rfl | rfl | rfl | rfl <;> cases hk
      · exact (gs_nk gh o j v q).symm
    have h2 := eOK_ga h hob
    rw [show (gc (gs gh o j v) a (upd (gh.2 a) i.toNatClampNeg x)).2 b = gh.2 b from gc_na _ _ _ hba]
    by_cases q : (zG z b).2 = o
    · have hn : (zG z b).1 ≠ 40 := fun q2 => hba (hu b (Prod.ext q2 q))
      exact eOK_n40 hj hn (fun k hk => (gs_nk gh o j v hk).symm) h2
    · show eOK z ((gs gh o j v).1 b) ((gs gh o j v).1 (zG z b).2) _ _ b e1
      rw [show (gs gh o j v).1 (zG z b).2 = gh.1 (zG z b).2 from gs_fn gh o j v q]
      exact h2
set_option maxHeartbeats 4000000 in
theorem eOK_s50 {z : Zt} {ga go go' : Nat → Int} {ct : Nat → Int32} {r : Nat × Nat} {a : Nat} {e : va_E} {j : Nat} (hj : j = 50 ∨ j = 51) (hg : ∀ k, k ≠ j → go k = go' k) (hp : ∀ i y, p50 go i y → p50 go' i y) (h : eOK z ga go ct r a e) : eOK z ga go' ct r a e := by
  obtain ⟨n, o⟩ := r
  unfold eOK at h ⊢
  dsimp only at h ⊢
  split at h
  · exact h
  · exact h
  · exact h
  · exact h
  · exact h
  · exact h
  · exact h
  · exact h
  · exact h
  · exact h
  · exact h
  · exact h
  · exact h
  · exact h
  · exact h
  · obtain ⟨f, h1, h2⟩ := h
    refine ⟨f, h1, fun i hi => ?_⟩
    have h3 := h2 i hi
    unfold p27 at h3 ⊢
    rw [← hg 1 (by omega), ← hg 2 (by omega)]
    exact h3
  · exact h
  · exact h
  · exact h
  · exact h
  · obtain ⟨f, h1, hc, h2⟩ := h
    refine ⟨f, h1, hc, fun i hi => ?_⟩
    have h3 := h2 i hi
    unfold p40 at h3 ⊢
    rw [← hg 42 (by omega), ← hg 43 (by omega), ← hg 46 (by omega), ← hg 47 (by omega)]
    exact h3
  · obtain ⟨f, h1, hc, h2⟩ := h
    refine ⟨f, h1, hc, fun i hi => ?_⟩
    have h3 := h2 i hi
    unfold p41 at h3 ⊢
    rw [← hg 48 (by omega), ← hg 49 (by omega)]
    exact h3
  · obtain ⟨f, h1, h2⟩ := h
    refine ⟨f, h1, fun i hi => ?_⟩
    have h3 := h2 i hi
    unfold p42 at h3 ⊢
    rw [← hg 44 (by omega), ← hg 45 (by omega)]
    exact h3
  · exact h
  · exact h
  · exact h
  · exact h
  · obtain ⟨f, h1, h2⟩ := h
    refine ⟨f, h1, fun i hi => ?_⟩
    have h3 := h2 i hi
    unfold p47 at h3 ⊢
    rw [← hg (60 + i) (by omega)]
    exact h3
  · obtain ⟨f, h1, h2⟩ := h
    refine ⟨f, h1, fun i hi => ?_⟩
    have h3 := h2 i hi
    unfold p48 at h3 ⊢
    rw [← hg (64 + i) (by omega)]
    exact h3
  · exact h
  · obtain ⟨f, h1, h2⟩ := h
    refine ⟨f, h1, fun i hi => ?_⟩
    have h3 := h2 i hi
    exact hp i _ h3
  · exact h
  · exact h
  · exact h
  · exact h
theorem gw_50 {z : Zt} {A : Nat → Prop} {gh : Gh} {H : Heap} {o j : Nat} {v : Int} (hT : TY z A gh H) (hj : j = 50 ∨ j = 51) (hp : ∀ i y, p50 (gh.1 o) i y → p50 ((gs gh o j v).1 o) i y) : TY z A (gs gh o j v) H := by
  obtain ⟨E, hP, hD, hm, hE⟩ := hT
  refine ⟨E, hP, hD, hm, fun b hb => ?_⟩
  have h := hE b hb
  have hob : ∀ k, obG k = true → gh.1 b k = (gs gh o j v).1 b k := fun k hk => by
    by_cases q : k = j
    · subst q
      rcases hj with rfl | rfl <;> cases hk
    · exact (gs_nk gh o j v q).symm
  have h1 := eOK_ga h hob
  by_cases q : (zG z b).2 = o
  · exact eOK_s50 hj (fun k hk => (gs_nk gh o j v hk).symm) (by rw [q]; exact hp) h1
  · rw [show (gs gh o j v).1 (zG z b).2 = gh.1 (zG z b).2 from gs_fn gh o j v q]
    exact h1
theorem as_50g {p : Program} {l : Launch} {e : Env} {R : Room} {s : State} {m : MethodId} {args : Array Value} {below : List Frame} {meth : Method} {c : Code} {H H0 : Heap} {locs : List Loc} {cells slots : Nat} {Q : State → Prop} {cc : ByteArray} {pc : Nat} {ls : Array Slot} {rest : List Value} {z : Zt} {A : Nat → Prop} {a o : Nat} {gh : Gh} {i x : Int32} {j : Nat} {v : Int} (hx : p.tables.exec = Jvm.exec) (hb : c.code = cc) (hK : va_K (zD z) vwCl (zT z) s) (hT : TY z A gh H) (hS : va_S A H0 H locs) (ha : zG z a = (50, o)) (hu : ∀ b, zG z b = (50, o) → b = a) (h0 : 0 ≤ i.toInt) (h1 : i.toInt < 59) (hj : j = 50 ∨ j = 51) (hv : p50 ((gs gh o j v).1 o) i.toNatClampNeg x.toInt) (hp : ∀ k y, k ≠ i.toNatClampNeg → p50 (gh.1 o) k y → p50 ((gs gh o j v).1 o) k y) (hdg : decode cc pc = .ok (.iastore, 1)) (kk : ∀ (H1 : Heap) (locs1 : List Loc), TY z A (gs gh o j v) H1 → va_S A H0 H1 locs1 → W p l e R s m args below meth c H1 locs1 cells slots Q (F0 m (pc + 1) ls (rest))) : W p l e R s m args below meth c H locs cells slots Q (F0 m pc ls (.int x :: .int i :: .ref a :: rest)) := by
  obtain ⟨E, hP, hD, hm, hE⟩ := hT
  have hL : a ∈ zL z := hm a (by rw [ha]; exact Nat.succ_ne_zero _)
  obtain ⟨k, hk0⟩ := va_pl_get (X := []) (f := E) hL
  have he := hE a hL
  rw [ha] at he
  obtain ⟨f, h9, hf⟩ : a50 z (gh.1 o) (gh.2 a) (E a) := he
  have hk := hk0
  rw [h9] at hk
  refine va_iast hx hb hK hP hD hS k 0 hk rfl (ix_in (n := 59) h0 h1) hdg (fun H1 locs1 hP1 hD1 hS1 => ?_)
  refine kk H1 locs1 (ty_up (gh := gh) (gh' := (gs gh o j v)) hP1 hD1 hD hm hE hL hk0 ?_ ?_) hS1
  · rw [ha]
    refine (⟨upd f i.toNatClampNeg x, rfl, fun q hq => ?_⟩ : a50 z ((gs gh o j v).1 o) _ _)
    by_cases hj2 : q = i.toNatClampNeg
    · subst hj2
      rw [show upd f i.toNatClampNeg x i.toNatClampNeg = x from if_pos rfl]
      exact hv
    · rw [show upd f i.toNatClampNeg x q = f q from if_neg hj2]
      exact hp q _ hj2 (hf q hq)
  · intro b hba e1 h
    have hob : ∀ k, obG k = true → gh.1 b k = (gs gh o j v).1 b k := fun k hk => by
      by_cases q : k = j
      · subst q
        rcases hj with rfl | rfl <;> cases hk
      · exact (gs_nk gh o j v q).symm
    have h2 := eOK_ga h hob
    by_cases q : (zG z b).2 = o
    · have hn : (zG z b).1 ≠ 50 := fun q2 => hba (hu b (Prod.ext q2 q))
      exact eOK_n50 hj hn (fun k hk => (gs_nk gh o j v hk).symm) h2
    · show eOK z ((gs gh o j v).1 b) ((gs gh o j v).1 (zG z b).2) _ _ b e1
      rw [show (gs gh o j v).1 (zG z b).2 = gh.1 (zG z b).2 from gs_fn gh o j v q]
      exact h2
set_option maxHeartbeats 4000000 in
theorem eOK_s47 {z : Zt} {ga go go' : Nat → Int} {ct : Nat → Int32} {r : Nat × Nat} {a : Nat} {e : va_E} {j : Nat} (hj : j = 60 ∨ j = 61 ∨ j = 62 ∨ j = 63) (hg : ∀ k, k ≠ j → go k = go' k) (hp : ∀ i y, p47 go i y → p47 go' i y) (h : eOK z ga go ct r a e) : eOK z ga go' ct r a e := by
  obtain ⟨n, o⟩ := r
  unfold eOK at h ⊢
  dsimp only at h ⊢
  split at h
  · exact h
  · exact h
  · exact h
  · exact h
  · exact h
  · exact h
  · exact h
  · exact h
  · exact h
  · exact h
  · exact h
  · exact h
  · exact h
  · exact h
  · exact h
  · obtain ⟨f, h1, h2⟩ := h
    refine ⟨f, h1, fun i hi => ?_⟩
    have h3 := h2 i hi
    unfold p27 at h3 ⊢
    rw [← hg 1 (by omega), ← hg 2 (by omega)]
    exact h3
  · exact h
  · exact h
  · exact h
  · exact h
  · obtain ⟨f, h1, hc, h2⟩ := h
    refine ⟨f, h1, hc, fun i hi => ?_⟩
    have h3 := h2 i hi
    unfold p40 at h3 ⊢
    rw [← hg 42 (by omega), ← hg 43 (by omega), ← hg 46 (by omega), ← hg 47 (by omega)]
    exact h3
  · obtain ⟨f, h1, hc, h2⟩ := h
    refine ⟨f, h1, hc, fun i hi => ?_⟩
    have h3 := h2 i hi
    unfold p41 at h3 ⊢
    rw [← hg 48 (by omega), ← hg 49 (by omega)]
    exact h3
  · obtain ⟨f, h1, h2⟩ := h
    refine ⟨f, h1, fun i hi => ?_⟩
    have h3 := h2 i hi
    unfold p42 at h3 ⊢
    rw [← hg 44 (by omega), ← hg 45 (by omega)]
    exact h3
  · exact h
  · exact h
  · exact h
  · exact h
  · obtain ⟨f, h1, h2⟩ := h
    refine ⟨f, h1, fun i hi => ?_⟩
    have h3 := h2 i hi
    exact hp i _ h3
  · obtain ⟨f, h1, h2⟩ := h
    refine ⟨f, h1, fun i hi => ?_⟩
    have h3 := h2 i hi
    unfold p48 at h3 ⊢
    rw [← hg (64 + i) (by omega)]
    exact h3
  · exact h
  · obtain ⟨f, h1, h2⟩ := h
    refine ⟨f, h1, fun i hi => ?_⟩
    have h3 := h2 i hi
    unfold p50 at h3 ⊢
    rw [← hg 50 (by omega), ← hg 51 (by omega)]
    exact h3
  · exact h
  · exact h
  · exact h
  · exact h
theorem gw_47 {z : Zt} {A : Nat → Prop} {gh : Gh} {H : Heap} {o j : Nat} {v : Int} (hT : TY z A gh H) (hj : j = 60 ∨ j = 61 ∨ j = 62 ∨ j = 63) (hp : ∀ i y, p47 (gh.1 o) i y → p47 ((gs gh o j v).1 o) i y) : TY z A (gs gh o j v) H := by
  obtain ⟨E, hP, hD, hm, hE⟩ := hT
  refine ⟨E, hP, hD, hm, fun b hb => ?_⟩
  have h := hE b hb
  have hob : ∀ k, obG k = true → gh.1 b k = (gs gh o j v).1 b k := fun k hk => by
    by_cases q : k = j
    · subst q
      rcases hj with rfl | rfl | rfl | rfl <;> cases hk
    · exact (gs_nk gh o j v q).symm
  have h1 := eOK_ga h hob
  by_cases q : (zG z b).2 = o
  · exact eOK_s47 hj (fun k hk => (gs_nk gh o j v hk).symm) (by rw [q]; exact hp) h1
  · rw [show (gs gh o j v).1 (zG z b).2 = gh.1 (zG z b).2 from gs_fn gh o j v q]
    exact h1
theorem as_47g {p : Program} {l : Launch} {e : Env} {R : Room} {s : State} {m : MethodId} {args : Array Value} {below : List Frame} {meth : Method} {c : Code} {H H0 : Heap} {locs : List Loc} {cells slots : Nat} {Q : State → Prop} {cc : ByteArray} {pc : Nat} {ls : Array Slot} {rest : List Value} {z : Zt} {A : Nat → Prop} {a o : Nat} {gh : Gh} {i x : Int32} {j : Nat} {v : Int} (hx : p.tables.exec = Jvm.exec) (hb : c.code = cc) (hK : va_K (zD z) vwCl (zT z) s) (hT : TY z A gh H) (hS : va_S A H0 H locs) (ha : zG z a = (47, o)) (hu : ∀ b, zG z b = (47, o) → b = a) (h0 : 0 ≤ i.toInt) (h1 : i.toInt < 4) (hj : j = 60 ∨ j = 61 ∨ j = 62 ∨ j = 63) (hv : p47 ((gs gh o j v).1 o) i.toNatClampNeg x.toInt) (hp : ∀ k y, k ≠ i.toNatClampNeg → p47 (gh.1 o) k y → p47 ((gs gh o j v).1 o) k y) (hdg : decode cc pc = .ok (.iastore, 1)) (kk : ∀ (H1 : Heap) (locs1 : List Loc), TY z A (gs gh o j v) H1 → va_S A H0 H1 locs1 → W p l e R s m args below meth c H1 locs1 cells slots Q (F0 m (pc + 1) ls (rest))) : W p l e R s m args below meth c H locs cells slots Q (F0 m pc ls (.int x :: .int i :: .ref a :: rest)) := by
  obtain ⟨E, hP, hD, hm, hE⟩ := hT
  have hL : a ∈ zL z := hm a (by rw [ha]; exact Nat.succ_ne_zero _)
  obtain ⟨k, hk0⟩ := va_pl_get (X := []) (f := E) hL
  have he := hE a hL
  rw [ha] at he
  obtain ⟨f, h9, hf⟩ : a47 z (gh.1 o) (gh.2 a) (E a) := he
  have hk := hk0
  rw [h9] at hk
  refine va_iast hx hb hK hP hD hS k 0 hk rfl (ix_in (n := 4) h0 h1) hdg (fun H1 locs1 hP1 hD1 hS1 => ?_)
  refine kk H1 locs1 (ty_up (gh := gh) (gh' := (gs gh o j v)) hP1 hD1 hD hm hE hL hk0 ?_ ?_) hS1
  · rw [ha]
    refine (⟨upd f i.toNatClampNeg x, rfl, fun q hq => ?_⟩ : a47 z ((gs gh o j v).1 o) _ _)
    by_cases hj2 : q = i.toNatClampNeg
    · subst hj2
      rw [show upd f i.toNatClampNeg x i.toNatClampNeg = x from if_pos rfl]
      exact hv
    · rw [show upd f i.toNatClampNeg x q = f q from if_neg hj2]
      exact hp q _ hj2 (hf q hq)
  · intro b hba e1 h
    have hob : ∀ k, obG k = true → gh.1 b k = (gs gh o j v).1 b k := fun k hk => by
      by_cases q : k = j
      · subst q
        rcases hj with rfl | rfl | rfl | rfl <;> cases hk
      · exact (gs_nk gh o j v q).symm
    have h2 := eOK_ga h hob
    by_cases q : (zG z b).2 = o
    · have hn : (zG z b).1 ≠ 47 := fun q2 => hba (hu b (Prod.ext q2 q))
      exact eOK_n47 hj hn (fun k hk => (gs_nk gh o j v hk).symm) h2
    · show eOK z ((gs gh o j v).1 b) ((gs gh o j v).1 (zG z b).2) _ _ b e1
      rw [show (gs gh o j v).1 (zG z b).2 = gh.1 (zG z b).2 from gs_fn gh o j v q]
      exact h2
set_option maxHeartbeats 4000000 in
theorem eOK_s48 {z : Zt} {ga go go' : Nat → Int} {ct : Nat → Int32} {r : Nat × Nat} {a : Nat} {e : va_E} {j : Nat} (hj : j = 64 ∨ j = 65 ∨ j = 66 ∨ j = 67) (hg : ∀ k, k ≠ j → go k = go' k) (hp : ∀ i y, p48 go i y → p48 go' i y) (h : eOK z ga go ct r a e) : eOK z ga go' ct r a e := by
  obtain ⟨n, o⟩ := r
  unfold eOK at h ⊢
  dsimp only at h ⊢
  split at h
  · exact h
  · exact h
  · exact h
  · exact h
  · exact h
  · exact h
  · exact h
  · exact h
  · exact h
  · exact h
  · exact h
  · exact h
  · exact h
  · exact h
  · exact h
  · obtain ⟨f, h1, h2⟩ := h
    refine ⟨f, h1, fun i hi => ?_⟩
    have h3 := h2 i hi
    unfold p27 at h3 ⊢
    rw [← hg 1 (by omega), ← hg 2 (by omega)]
    exact h3
  · exact h
  · exact h
  · exact h
  · exact h
  · obtain ⟨f, h1, hc, h2⟩ := h
    refine ⟨f, h1, hc, fun i hi => ?_⟩
    have h3 := h2 i hi
    unfold p40 at h3 ⊢
    rw [← hg 42 (by omega), ← hg 43 (by omega), ← hg 46 (by omega), ← hg 47 (by omega)]
    exact h3
  · obtain ⟨f, h1, hc, h2⟩ := h
    refine ⟨f, h1, hc, fun i hi => ?_⟩
    have h3 := h2 i hi
    unfold p41 at h3 ⊢
    rw [← hg 48 (by omega), ← hg 49 (by omega)]
    exact h3
  · obtain ⟨f, h1, h2⟩ := h
    refine ⟨f, h1, fun i hi => ?_⟩
    have h3 := h2 i hi
    unfold p42 at h3 ⊢
    rw [← hg 44 (by omega), ← hg 45 (by omega)]
    exact h3
  · exact h
  · exact h
  · exact h
  · exact h
  · obtain ⟨f, h1, h2⟩ := h
    refine ⟨f, h1, fun i hi => ?_⟩
    have h3 := h2 i hi
    unfold p47 at h3 ⊢
    rw [← hg (60 + i) (by omega)]
    exact h3
  · obtain ⟨f, h1, h2⟩ := h
    refine ⟨f, h1, fun i hi => ?_⟩
    have h3 := h2 i hi
    exact hp i _ h3
  · exact h
  · obtain ⟨f, h1, h2⟩ := h
    refine ⟨f, h1, fun i hi => ?_⟩
    have h3 := h2 i hi
    unfold p50 at h3 ⊢
    rw [← hg 50 (by omega), ← hg 51 (by omega)]
    exact h3
  · exact h
  · exact h
  · exact h
  · exact h
theorem gw_48 {z : Zt} {A : Nat → Prop} {gh : Gh} {H : Heap} {o j : Nat} {v : Int} (hT : TY z A gh H) (hj : j = 64 ∨ j = 65 ∨ j = 66 ∨ j = 67) (hp : ∀ i y, p48 (gh.1 o) i y → p48 ((gs gh o j v).1 o) i y) : TY z A (gs gh o j v) H := by
  obtain ⟨E, hP, hD, hm, hE⟩ := hT
  refine ⟨E, hP, hD, hm, fun b hb => ?_⟩
  have h := hE b hb
  have hob : ∀ k, obG k = true → gh.1 b k = (gs gh o j v).1 b k := fun k hk => by
    by_cases q : k = j
    · subst q
      rcases hj with rfl | rfl | rfl | rfl <;> cases hk
    · exact (gs_nk gh o j v q).symm
  have h1 := eOK_ga h hob
  by_cases q : (zG z b).2 = o
  · exact eOK_s48 hj (fun k hk => (gs_nk gh o j v hk).symm) (by rw [q]; exact hp) h1
  · rw [show (gs gh o j v).1 (zG z b).2 = gh.1 (zG z b).2 from gs_fn gh o j v q]
    exact h1
theorem as_48g {p : Program} {l : Launch} {e : Env} {R : Room} {s : State} {m : MethodId} {args : Array Value} {below : List Frame} {meth : Method} {c : Code} {H H0 : Heap} {locs : List Loc} {cells slots : Nat} {Q : State → Prop} {cc : ByteArray} {pc : Nat} {ls : Array Slot} {rest : List Value} {z : Zt} {A : Nat → Prop} {a o : Nat} {gh : Gh} {i x : Int32} {j : Nat} {v : Int} (hx : p.tables.exec = Jvm.exec) (hb : c.code = cc) (hK : va_K (zD z) vwCl (zT z) s) (hT : TY z A gh H) (hS : va_S A H0 H locs) (ha : zG z a = (48, o)) (hu : ∀ b, zG z b = (48, o) → b = a) (h0 : 0 ≤ i.toInt) (h1 : i.toInt < 4) (hj : j = 64 ∨ j = 65 ∨ j = 66 ∨ j = 67) (hv : p48 ((gs gh o j v).1 o) i.toNatClampNeg x.toInt) (hp : ∀ k y, k ≠ i.toNatClampNeg → p48 (gh.1 o) k y → p48 ((gs gh o j v).1 o) k y) (hdg : decode cc pc = .ok (.iastore, 1)) (kk : ∀ (H1 : Heap) (locs1 : List Loc), TY z A (gs gh o j v) H1 → va_S A H0 H1 locs1 → W p l e R s m args below meth c H1 locs1 cells slots Q (F0 m (pc + 1) ls (rest))) : W p l e R s m args below meth c H locs cells slots Q (F0 m pc ls (.int x :: .int i :: .ref a :: rest)) := by
  obtain ⟨E, hP, hD, hm, hE⟩ := hT
  have hL : a ∈ zL z := hm a (by rw [ha]; exact Nat.succ_ne_zero _)
  obtain ⟨k, hk0⟩ := va_pl_get (X := []) (f := E) hL
  have he := hE a hL
  rw [ha] at he
  obtain ⟨f, h9, hf⟩ : a48 z (gh.1 o) (gh.2 a) (E a) := he
  have hk := hk0
  rw [h9] at hk
  refine va_iast hx hb hK hP hD hS k 0 hk rfl (ix_in (n := 4) h0 h1) hdg (fun H1 locs1 hP1 hD1 hS1 => ?_)
  refine kk H1 locs1 (ty_up (gh := gh) (gh' := (gs gh o j v)) hP1 hD1 hD hm hE hL hk0 ?_ ?_) hS1
  · rw [ha]
    refine (⟨upd f i.toNatClampNeg x, rfl, fun q hq => ?_⟩ : a48 z ((gs gh o j v).1 o) _ _)
    by_cases hj2 : q = i.toNatClampNeg
    · subst hj2
      rw [show upd f i.toNatClampNeg x i.toNatClampNeg = x from if_pos rfl]
      exact hv
    · rw [show upd f i.toNatClampNeg x q = f q from if_neg hj2]
      exact hp q _ hj2 (hf q hq)
  · intro b hba e1 h
    have hob : ∀ k, obG k = true → gh.1 b k = (gs gh o j v).1 b k := fun k hk => by
      by_cases q : k = j
      · subst q
        rcases hj with rfl | rfl | rfl | rfl <;> cases hk
      · exact (gs_nk gh o j v q).symm
    have h2 := eOK_ga h hob
    by_cases q : (zG z b).2 = o
    · have hn : (zG z b).1 ≠ 48 := fun q2 => hba (hu b (Prod.ext q2 q))
      exact eOK_n48 hj hn (fun k hk => (gs_nk gh o j v hk).symm) h2
    · show eOK z ((gs gh o j v).1 b) ((gs gh o j v).1 (zG z b).2) _ _ b e1
      rw [show (gs gh o j v).1 (zG z b).2 = gh.1 (zG z b).2 from gs_fn gh o j v q]
      exact h2
set_option maxHeartbeats 4000000 in
theorem eOK_s42 {z : Zt} {ga go go' : Nat → Int} {ct : Nat → Int32} {r : Nat × Nat} {a : Nat} {e : va_E} {j : Nat} (hj : j = 44 ∨ j = 45) (hg : ∀ k, k ≠ j → go k = go' k) (hp : ∀ i y, p42 go i y → p42 go' i y) (h : eOK z ga go ct r a e) : eOK z ga go' ct r a e := by
  obtain ⟨n, o⟩ := r
  unfold eOK at h ⊢
  dsimp only at h ⊢
  split at h
  · exact h
  · exact h
  · exact h
  · exact h
  · exact h
  · exact h
  · exact h
  · exact h
  · exact h
  · exact h
  · exact h
  · exact h
  · exact h
  · exact h
  · exact h
  · obtain ⟨f, h1, h2⟩ := h
    refine ⟨f, h1, fun i hi => ?_⟩
    have h3 := h2 i hi
    unfold p27 at h3 ⊢
    rw [← hg 1 (by omega), ← hg 2 (by omega)]
    exact h3
  · exact h
  · exact h
  · exact h
  · exact h
  · obtain ⟨f, h1, hc, h2⟩ := h
    refine ⟨f, h1, hc, fun i hi => ?_⟩
    have h3 := h2 i hi
    unfold p40 at h3 ⊢
    rw [← hg 42 (by omega), ← hg 43 (by omega), ← hg 46 (by omega), ← hg 47 (by omega)]
    exact h3
  · obtain ⟨f, h1, hc, h2⟩ := h
    refine ⟨f, h1, hc, fun i hi => ?_⟩
    have h3 := h2 i hi
    unfold p41 at h3 ⊢
    rw [← hg 48 (by omega), ← hg 49 (by omega)]
    exact h3
  · obtain ⟨f, h1, h2⟩ := h
    refine ⟨f, h1, fun i hi => ?_⟩
    have h3 := h2 i hi
    exact hp i _ h3
  · exact h
  · exact h
  · exact h
  · exact h
  · obtain ⟨f, h1, h2⟩ := h
    refine ⟨f, h1, fun i hi => ?_⟩
    have h3 := h2 i hi
    unfold p47 at h3 ⊢
    rw [← hg (60 + i) (by omega)]
    exact h3
  · obtain ⟨f, h1, h2⟩ := h
    refine ⟨f, h1, fun i hi => ?_⟩
    have h3 := h2 i hi
    unfold p48 at h3 ⊢
    rw [← hg (64 + i) (by omega)]
    exact h3
  · exact h
  · obtain ⟨f, h1, h2⟩ := h
    refine ⟨f, h1, fun i hi => ?_⟩
    have h3 := h2 i hi
    unfold p50 at h3 ⊢
    rw [← hg 50 (by omega), ← hg 51 (by omega)]
    exact h3
  · exact h
  · exact h
  · exact h
  · exact h
theorem gw_42 {z : Zt} {A : Nat → Prop} {gh : Gh} {H : Heap} {o j : Nat} {v : Int} (hT : TY z A gh H) (hj : j = 44 ∨ j = 45) (hp : ∀ i y, p42 (gh.1 o) i y → p42 ((gs gh o j v).1 o) i y) : TY z A (gs gh o j v) H := by
  obtain ⟨E, hP, hD, hm, hE⟩ := hT
  refine ⟨E, hP, hD, hm, fun b hb => ?_⟩
  have h := hE b hb
  have hob : ∀ k, obG k = true → gh.1 b k = (gs gh o j v).1 b k := fun k hk => by
    by_cases q : k = j
    · subst q
      rcases hj with rfl | rfl <;> cases hk
    · exact (gs_nk gh o j v q).symm
  have h1 := eOK_ga h hob
  by_cases q : (zG z b).2 = o
  · exact eOK_s42 hj (fun k hk => (gs_nk gh o j v hk).symm) (by rw [q]; exact hp) h1
  · rw [show (gs gh o j v).1 (zG z b).2 = gh.1 (zG z b).2 from gs_fn gh o j v q]
    exact h1
theorem as_42g {p : Program} {l : Launch} {e : Env} {R : Room} {s : State} {m : MethodId} {args : Array Value} {below : List Frame} {meth : Method} {c : Code} {H H0 : Heap} {locs : List Loc} {cells slots : Nat} {Q : State → Prop} {cc : ByteArray} {pc : Nat} {ls : Array Slot} {rest : List Value} {z : Zt} {A : Nat → Prop} {a o : Nat} {gh : Gh} {i x : Int32} {j : Nat} {v : Int} (hx : p.tables.exec = Jvm.exec) (hb : c.code = cc) (hK : va_K (zD z) vwCl (zT z) s) (hT : TY z A gh H) (hS : va_S A H0 H locs) (ha : zG z a = (42, o)) (hu : ∀ b, zG z b = (42, o) → b = a) (h0 : 0 ≤ i.toInt) (h1 : i.toInt < 2) (hj : j = 44 ∨ j = 45) (hz0 : 0 ≤ x.toInt) (hz1 : x.toInt ≤ 1) (hv : p42 ((gs gh o j v).1 o) i.toNatClampNeg x.toInt) (hp : ∀ k y, k ≠ i.toNatClampNeg → p42 (gh.1 o) k y → p42 ((gs gh o j v).1 o) k y) (hdg : decode cc pc = .ok (.bastore, 1)) (kk : ∀ (H1 : Heap) (locs1 : List Loc), TY z A (gs gh o j v) H1 → va_S A H0 H1 locs1 → W p l e R s m args below meth c H1 locs1 cells slots Q (F0 m (pc + 1) ls (rest))) : W p l e R s m args below meth c H locs cells slots Q (F0 m pc ls (.int x :: .int i :: .ref a :: rest)) := by
  obtain ⟨E, hP, hD, hm, hE⟩ := hT
  have hL : a ∈ zL z := hm a (by rw [ha]; exact Nat.succ_ne_zero _)
  obtain ⟨k, hk0⟩ := va_pl_get (X := []) (f := E) hL
  have he := hE a hL
  rw [ha] at he
  obtain ⟨f, h9, hf⟩ : a42 z (gh.1 o) (gh.2 a) (E a) := he
  have hk := hk0
  rw [h9] at hk
  refine va_zast hx hb hK hP hD hS k 1 hk rfl (ix_in (n := 2) h0 h1) hdg (fun H1 locs1 hP1 hD1 hS1 => ?_)
  refine kk H1 locs1 (ty_up (gh := gh) (gh' := (gs gh o j v)) hP1 hD1 hD hm hE hL hk0 ?_ ?_) hS1
  · rw [ha]
    refine (⟨upd f i.toNatClampNeg (vp_nar .boolean x), rfl, fun q hq => ?_⟩ : a42 z ((gs gh o j v).1 o) _ _)
    rw [bo_v hz0 hz1]
    by_cases hj2 : q = i.toNatClampNeg
    · subst hj2
      rw [show upd f i.toNatClampNeg x i.toNatClampNeg = x from if_pos rfl]
      exact hv
    · rw [show upd f i.toNatClampNeg x q = f q from if_neg hj2]
      exact hp q _ hj2 (hf q hq)
  · intro b hba e1 h
    have hob : ∀ k, obG k = true → gh.1 b k = (gs gh o j v).1 b k := fun k hk => by
      by_cases q : k = j
      · subst q
        rcases hj with rfl | rfl <;> cases hk
      · exact (gs_nk gh o j v q).symm
    have h2 := eOK_ga h hob
    by_cases q : (zG z b).2 = o
    · have hn : (zG z b).1 ≠ 42 := fun q2 => hba (hu b (Prod.ext q2 q))
      exact eOK_n42 hj hn (fun k hk => (gs_nk gh o j v hk).symm) h2
    · show eOK z ((gs gh o j v).1 b) ((gs gh o j v).1 (zG z b).2) _ _ b e1
      rw [show (gs gh o j v).1 (zG z b).2 = gh.1 (zG z b).2 from gs_fn gh o j v q]
      exact h2
