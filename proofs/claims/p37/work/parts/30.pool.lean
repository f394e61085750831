abbrev zx (z : Zt) (L : List Nat) (G : Ga) : Zt := (z.1, z.2.1, L, G, z.2.2.2.2)
theorem zx_m {z : Zt} {L : List Nat} {G : Ga} (hm : ∀ q, (zG z q).1 ≠ 0 → G q = zG z q) {q n o : Nat} (h : zG z q = (n, o)) (hn : n ≠ 0) : zG (zx z L G) q = (n, o) := by
  show G q = (n, o)
  rw [hm q (by rw [h]; exact hn)]
  exact h
set_option maxHeartbeats 4000000 in
theorem eOK_mono {z : Zt} {L : List Nat} {G : Ga} {ga : Nat → Int} {r : Nat × Nat} {e : va_E} (hm : ∀ q, (zG z q).1 ≠ 0 → G q = zG z q) (h : eOK z ga r e) : eOK (zx z L G) ga r e := by
  obtain ⟨n, o⟩ := r
  unfold eOK at h ⊢
  dsimp only at h ⊢
  split at h
  · obtain ⟨q0, q1, q2, q3, q4, q5, x6, x7, h9, f0, f1, f2, f3, f4, f5, f6, f7⟩ : eEvening z ga o e := h
    exact ⟨q0, q1, q2, q3, q4, q5, x6, x7, h9, zx_m hm f0 (by decide), zx_m hm f1 (by decide), zx_m hm f2 (by decide), zx_m hm f3 (by decide), zx_m hm f4 (by decide), zx_m hm f5 (by decide), f6, f7⟩
  · obtain ⟨q0, q1, q2, q3, q4, q5, q6, q7, x8, x9, h9, f0, f1, f2, f3, f4, f5, f6, f7, f8, f9⟩ : eFloor z ga o e := h
    exact ⟨q0, q1, q2, q3, q4, q5, q6, q7, x8, x9, h9, zx_m hm f0 (by decide), zx_m hm f1 (by decide), zx_m hm f2 (by decide), zx_m hm f3 (by decide), zx_m hm f4 (by decide), zx_m hm f5 (by decide), zx_m hm f6 (by decide), zx_m hm f7 (by decide), f8, f9⟩
  · obtain ⟨q0, q1, q2, q3, x4, x5, x6, x7, h9, f0, f1, f2, f3, f4, f5, f6, f7⟩ : eSearch z ga o e := h
    exact ⟨q0, q1, q2, q3, x4, x5, x6, x7, h9, zx_m hm f0 (by decide), zx_m hm f1 (by decide), zx_m hm f2 (by decide), zx_m hm f3 (by decide), f4, f5, f6, f7⟩
  · obtain ⟨q0, x1, x2, h9, f0, f1, f2⟩ : eSheet z ga o e := h
    exact ⟨q0, x1, x2, h9, zx_m hm f0 (by decide), f1, f2⟩
  · obtain ⟨q0, q1, x2, x3, x4, x5, x6, x7, x8, x9, h9, f0, f1, f2, f3, f4, f5, f6, f7, f8, f9⟩ : eTape z ga o e := h
    exact ⟨q0, q1, x2, x3, x4, x5, x6, x7, x8, x9, h9, zx_m hm f0 (by decide), zx_m hm f1 (by decide), f2, f3, f4, f5, f6, f7, f8, f9⟩
  · obtain ⟨q0, q1, x2, h9, f0, f1, f2⟩ : eWalk z ga o e := h
    exact ⟨q0, q1, x2, h9, zx_m hm f0 (by decide), zx_m hm f1 (by decide), f2⟩
  · obtain ⟨q0, q1, q2, q3, q4, q5, q6, x7, x8, h9, f0, f1, f2, f3, f4, f5, f6, f7, f8⟩ : eHeelDance z ga o e := h
    exact ⟨q0, q1, q2, q3, q4, q5, q6, x7, x8, h9, zx_m hm f0 (by decide), zx_m hm f1 (by decide), zx_m hm f2 (by decide), zx_m hm f3 (by decide), zx_m hm f4 (by decide), zx_m hm f5 (by decide), zx_m hm f6 (by decide), f7, f8⟩
  · obtain ⟨q0, q1, q2, x3, q4, x5, x6, x7, x8, q9, x10, x11, x12, x13, x14, x15, x16, q17, q18, x19, x20, q21, q22, q23, x24, q25, h9, f0, f1, f2, f3, f4, f5, f6, f7, f8, f9, f10, f11, f12, f13, f14, f15, f16, f17, f18, f19, f20, f21, f22, f23, f24, f25⟩ : eModel z ga o e := h
    exact ⟨q0, q1, q2, x3, q4, x5, x6, x7, x8, q9, x10, x11, x12, x13, x14, x15, x16, q17, q18, x19, x20, q21, q22, q23, x24, q25, h9, zx_m hm f0 (by decide), zx_m hm f1 (by decide), zx_m hm f2 (by decide), f3, zx_m hm f4 (by decide), f5, f6, f7, f8, zx_m hm f9 (by decide), f10, f11, f12, f13, f14, f15, f16, zx_m hm f17 (by decide), zx_m hm f18 (by decide), f19, f20, zx_m hm f21 (by decide), zx_m hm f22 (by decide), zx_m hm f23 (by decide), f24, zx_m hm f25 (by decide)⟩
  · exact h
  · exact h
  · exact h
  · exact h
  · exact h
  · exact h
  · exact h
  · exact h
  · exact h
  · exact h
  · exact h
  · exact h
  · exact h
  · exact h
  · exact h
  · exact h
  · exact h
  · exact h
  · exact h
  · exact h
  · exact h
  · exact h
  · exact h
  · exact h
  · exact h
  · exact h
  · exact h
  · exact h
  · exact h
  · exact h
  · exact h
  · obtain ⟨f, h1, h2⟩ := h
    refine ⟨f, h1, fun i hi => ?_⟩
    obtain ⟨q, h3, h4⟩ := h2 i hi
    exact ⟨q, h3, zx_m hm h4 (by decide)⟩
  · obtain ⟨f, h1, h2⟩ := h
    refine ⟨f, h1, fun i hi => ?_⟩
    obtain ⟨q, h3, h4⟩ := h2 i hi
    exact ⟨q, h3, zx_m hm h4 (by decide)⟩
  · obtain ⟨f, h1, h2⟩ := h
    refine ⟨f, h1, fun i hi => ?_⟩
    obtain ⟨q, h3, h4⟩ := h2 i hi
    exact ⟨q, h3, zx_m hm h4 (by decide)⟩
  · exact h
theorem gd59_ini (i : Nat) : gd59 i 0 := by unfold gd59; omega
theorem gd177_ini (i : Nat) : gd177 i 0 := ⟨fun _ => gd59_ini _, fun _ _ => gd59_ini _, fun _ => gd59_ini _⟩
theorem z32 : (0 : Int32).toInt = 0 := by decide
theorem iniS_0 {o r i : Nat} (h1 : r ≠ 13) (h2 : r ≠ 47) : iniS o r i = 0 := by
  unfold iniS
  rw [if_neg (fun q => h1 q.1), if_neg h2]
theorem ia_20 {z : Zt} {o : Nat} : eOK z (iniS o 20) (20, o) (.inl (zI z, 5, .inl (fun _ => 0))) := ⟨_, rfl, fun i hi => ⟨z32.trans (iniS_0 (by decide) (by decide)).symm, trivial⟩⟩
theorem ia_21 {z : Zt} {o : Nat} : eOK z (iniS o 21) (21, o) (.inl (zI z, 8, .inl (fun _ => 0))) := ⟨_, rfl, fun i hi => ⟨z32.trans (iniS_0 (by decide) (by decide)).symm, trivial⟩⟩
theorem ia_22 {z : Zt} {o : Nat} : eOK z (iniS o 22) (22, o) (.inl (zI z, 6, .inl (fun _ => 0))) := ⟨_, rfl, fun i hi => ⟨z32.trans (iniS_0 (by decide) (by decide)).symm, trivial⟩⟩
theorem ia_23 {z : Zt} {o : Nat} : eOK z (iniS o 23) (23, o) (.inl (zI z, 40, .inl (fun _ => 0))) := ⟨_, rfl, fun i hi => ⟨z32.trans (iniS_0 (by decide) (by decide)).symm, trivial⟩⟩
theorem ia_24 {z : Zt} {o : Nat} : eOK z (iniS o 24) (24, o) (.inl (zI z, 45, .inl (fun _ => 0))) := ⟨_, rfl, fun i hi => ⟨z32.trans (iniS_0 (by decide) (by decide)).symm, ⟨by decide, by decide⟩⟩⟩
theorem ia_25 {z : Zt} {o : Nat} : eOK z (iniS o 25) (25, o) (.inl (zI z, 6, .inl (fun _ => 0))) := ⟨_, rfl, fun i hi => ⟨z32.trans (iniS_0 (by decide) (by decide)).symm, ⟨by decide, by decide⟩⟩⟩
theorem ia_26 {z : Zt} {o : Nat} : eOK z (iniS o 26) (26, o) (.inl (zI z, 6, .inl (fun _ => 0))) := ⟨_, rfl, fun i hi => ⟨z32.trans (iniS_0 (by decide) (by decide)).symm, ⟨by decide, by decide⟩⟩⟩
theorem ia_27 {z : Zt} {o : Nat} : eOK z (iniS o 27) (27, o) (.inl (zI z, 5, .inl (fun _ => 0))) := ⟨_, rfl, fun i hi => ⟨z32.trans (iniS_0 (by decide) (by decide)).symm, ⟨by decide, by decide⟩⟩⟩
theorem ia_28 {z : Zt} {o : Nat} : eOK z (iniS o 28) (28, o) (.inl (zI z, 5, .inl (fun _ => 0))) := ⟨_, rfl, fun i hi => ⟨z32.trans (iniS_0 (by decide) (by decide)).symm, ⟨by decide, by decide⟩⟩⟩
theorem ia_29 {z : Zt} {o : Nat} : eOK z (iniS o 29) (29, o) (.inl (zI z, 5, .inl (fun _ => 0))) := ⟨_, rfl, fun i hi => ⟨z32.trans (iniS_0 (by decide) (by decide)).symm, ⟨by decide, by decide⟩⟩⟩
theorem ia_30 {z : Zt} {o : Nat} : eOK z (iniS o 30) (30, o) (.inl (zI z, 160, .inl (fun _ => 0))) := ⟨_, rfl, fun i hi => ⟨z32.trans (iniS_0 (by decide) (by decide)).symm, ⟨by decide, by decide⟩⟩⟩
theorem ia_33 {z : Zt} {o : Nat} : eOK z (iniS o 33) (33, o) (.inl (zZ z, 2, .inl (fun _ => 0))) := ⟨_, rfl, fun i hi => ⟨z32.trans (iniS_0 (by decide) (by decide)).symm, ⟨by decide, by decide⟩⟩⟩
theorem ia_51 {z : Zt} {o : Nat} : eOK z (iniS o 51) (51, o) (.inl (zI z, 5, .inl (fun _ => 0))) := ⟨_, rfl, fun i hi => ⟨z32.trans (iniS_0 (by decide) (by decide)).symm, trivial⟩⟩
theorem ia_52 {z : Zt} {o : Nat} : eOK z (iniS o 52) (52, o) (.inl (zI z, 5, .inl (fun _ => 0))) := ⟨_, rfl, fun i hi => ⟨z32.trans (iniS_0 (by decide) (by decide)).symm, ⟨by decide, by decide⟩⟩⟩
theorem ia_53 {z : Zt} {o : Nat} : eOK z (iniS o 53) (53, o) (.inl (zI z, 5, .inl (fun _ => 0))) := ⟨_, rfl, fun i hi => ⟨z32.trans (iniS_0 (by decide) (by decide)).symm, ⟨by decide, by decide⟩⟩⟩
theorem ia_54 {z : Zt} {o : Nat} : eOK z (iniS o 54) (54, o) (.inl (zI z, 5, .inl (fun _ => 0))) := ⟨_, rfl, fun i hi => ⟨z32.trans (iniS_0 (by decide) (by decide)).symm, ⟨by decide, by decide⟩⟩⟩
theorem ia_55 {z : Zt} {o : Nat} : eOK z (iniS o 55) (55, o) (.inl (zI z, 5, .inl (fun _ => 0))) := ⟨_, rfl, fun i hi => ⟨z32.trans (iniS_0 (by decide) (by decide)).symm, ⟨by decide, by decide⟩⟩⟩
theorem ia_56 {z : Zt} {o : Nat} : eOK z (iniS o 56) (56, o) (.inl (zI z, 5, .inl (fun _ => 0))) := ⟨_, rfl, fun i hi => ⟨z32.trans (iniS_0 (by decide) (by decide)).symm, trivial⟩⟩
theorem ia_57 {z : Zt} {o : Nat} : eOK z (iniS o 57) (57, o) (.inl (zI z, 5, .inl (fun _ => 0))) := ⟨_, rfl, fun i hi => ⟨z32.trans (iniS_0 (by decide) (by decide)).symm, trivial⟩⟩
theorem ia_58 {z : Zt} {o : Nat} : eOK z (iniS o 58) (58, o) (.inl (zI z, 5, .inl (fun _ => 0))) := ⟨_, rfl, fun i hi => ⟨z32.trans (iniS_0 (by decide) (by decide)).symm, trivial⟩⟩
theorem ia_40 {z : Zt} {o : Nat} : eOK z (iniS o 40) (40, o) (.inl (zI z, 177, .inl (fun _ => 0))) := ⟨_, rfl, fun i hi => ⟨z32.trans (iniS_0 (by decide) (by decide)).symm, by rw [z32]; exact gd177_ini i⟩⟩
theorem ia_41 {z : Zt} {o : Nat} : eOK z (iniS o 41) (41, o) (.inl (zI z, 59, .inl (fun _ => 0))) := ⟨_, rfl, fun i hi => ⟨z32.trans (iniS_0 (by decide) (by decide)).symm, by rw [z32]; exact gd59_ini i⟩⟩
theorem ia_42 {z : Zt} {o : Nat} : eOK z (iniS o 42) (42, o) (.inl (zZ z, 2, .inl (fun _ => 0))) := ⟨_, rfl, fun i hi => ⟨z32.trans (iniS_0 (by decide) (by decide)).symm, ⟨by decide, by decide⟩⟩⟩
theorem ia_43 {z : Zt} {o : Nat} : eOK z (iniS o 43) (43, o) (.inl (zI z, 59, .inl (fun _ => 0))) := ⟨_, rfl, fun i hi => ⟨z32.trans (iniS_0 (by decide) (by decide)).symm, by rw [z32]; exact gd59_ini i⟩⟩
theorem ia_44 {z : Zt} {o : Nat} : eOK z (iniS o 44) (44, o) (.inl (zI z, 160, .inl (fun _ => 0))) := ⟨_, rfl, fun i hi => ⟨z32.trans (iniS_0 (by decide) (by decide)).symm, ⟨by decide, by decide⟩⟩⟩
theorem ia_45 {z : Zt} {o : Nat} : eOK z (iniS o 45) (45, o) (.inl (zI z, 5, .inl (fun _ => 0))) := ⟨_, rfl, fun i hi => ⟨z32.trans (iniS_0 (by decide) (by decide)).symm, ⟨by decide, by decide⟩⟩⟩
theorem ia_46 {z : Zt} {o : Nat} : eOK z (iniS o 46) (46, o) (.inl (zI z, 5, .inl (fun _ => 0))) := ⟨_, rfl, fun i hi => ⟨z32.trans (iniS_0 (by decide) (by decide)).symm, ⟨by decide, by decide⟩⟩⟩
theorem ia_48 {z : Zt} {o : Nat} : eOK z (iniS o 48) (48, o) (.inl (zI z, 4, .inl (fun _ => 0))) := ⟨_, rfl, fun i hi => ⟨z32.trans (iniS_0 (by decide) (by decide)).symm, ⟨by decide, by decide⟩⟩⟩
theorem ia_49 {z : Zt} {o : Nat} : eOK z (iniS o 49) (49, o) (.inl (zI z, 160, .inl (fun _ => 0))) := ⟨_, rfl, fun i hi => ⟨z32.trans (iniS_0 (by decide) (by decide)).symm, trivial⟩⟩
theorem ia_50 {z : Zt} {o : Nat} : eOK z (iniS o 50) (50, o) (.inl (zI z, 59, .inl (fun _ => 0))) := ⟨_, rfl, fun i hi => ⟨z32.trans (iniS_0 (by decide) (by decide)).symm, by rw [z32]; exact gd59_ini i⟩⟩
theorem im_47 {z : Zt} {o : Nat} {x0 x1 x2 x3 : Int32} (h0 : x0.toInt = -4) (h1 : x1.toInt = -4) (h2 : x2.toInt = -4) (h3 : x3.toInt = -4) : eOK z (iniS o 47) (47, o) (.inl (zI z, 4, .inl (upd (upd (upd (upd (fun _ => 0) 0 x0) 1 x1) 2 x2) 3 x3))) := ⟨_, rfl, fun i hi => by
  have key : ∀ x : Int32, x.toInt = -4 → ∀ j : Nat, x.toInt = iniS o 47 j ∧ (-4 ≤ x.toInt ∧ x.toInt ≤ 2) := fun x hx j => by
    have e : iniS o 47 j = -4 := rfl
    rw [e, hx]
    exact ⟨rfl, by decide, by decide⟩
  rcases (show i = 0 ∨ i = 1 ∨ i = 2 ∨ i = 3 by omega) with rfl | rfl | rfl | rfl
  · exact key x0 h0 0
  · exact key x1 h1 1
  · exact key x2 h2 2
  · exact key x3 h3 3⟩
def TX (z : Zt) (A : Nat → Prop) (X : va_W) (H : Heap) : Prop := ∃ E : Nat → va_E, va_P (zD z) vwCl (X ++ va_pl (zL z) E) H ∧ va_D A (X ++ va_pl (zL z) E) ∧ (∀ a, (zG z a).1 ≠ 0 → a ∈ zL z) ∧ ∀ a, a ∈ zL z → eOK z (iniS (zG z a).2 (zG z a).1) (zG z a) (E a)
def look (X : va_W) (rl : List (Nat × Nat)) (a : Nat) : Option (Nat × Nat) := match X, rl with
  | p :: X', r :: rl' => if a = p.1 then some r else look X' rl' a
  | _, _ => none
def lookE (X : va_W) (a : Nat) : Option va_E := match X with
  | p :: X' => if a = p.1 then some p.2 else lookE X' a
  | _ => none
theorem look_some : ∀ {X : va_W} {rl : List (Nat × Nat)} {a : Nat} {r : Nat × Nat}, look X rl a = some r → ∃ (i : Nat) (e : va_E), X[i]? = some (a, e) ∧ rl[i]? = some r
  | [], _, a, r, h => by simp [look] at h
  | p :: X', [], a, r, h => by simp [look] at h
  | p :: X', r' :: rl', a, r, h => by
    unfold look at h
    by_cases q : a = p.1
    · rw [if_pos q] at h
      cases h
      exact ⟨0, p.2, by rw [q]; rfl, rfl⟩
    · rw [if_neg q] at h
      obtain ⟨i, e, h1, h2⟩ := look_some h
      exact ⟨i + 1, e, h1, h2⟩
def apart (X : va_W) : Prop := ∀ (i j : Nat) (p q : Nat × va_E), X[i]? = some p → X[j]? = some q → p.1 = q.1 → i = j
theorem apart_tl {p : Nat × va_E} {X : va_W} (h : apart (p :: X)) : apart X := fun i j a b h1 h2 h3 => by
  have := h (i + 1) (j + 1) a b h1 h2 h3
  omega
theorem apart_hd {p : Nat × va_E} {X : va_W} (h : apart (p :: X)) {i : Nat} {q : Nat × va_E} (hi : X[i]? = some q) : q.1 ≠ p.1 := fun e => by
  have := h 0 (i + 1) p q rfl hi e.symm
  omega
theorem look_at : ∀ {X : va_W} {rl : List (Nat × Nat)} (_ : apart X) (i : Nat) {q : Nat} {e : va_E} {r : Nat × Nat}, X[i]? = some (q, e) → rl[i]? = some r → look X rl q = some r
  | [], _, _, i, q, e, r, h, _ => by simp at h
  | p :: X', [], _, i, q, e, r, _, h => by simp at h
  | p :: X', r' :: rl', ha, 0, q, e, r, h1, h2 => by
    cases h1; cases h2
    unfold look
    rw [if_pos rfl]
  | p :: X', r' :: rl', ha, i + 1, q, e, r, h1, h2 => by
    unfold look
    rw [if_neg (apart_hd ha (i := i) h1)]
    exact look_at (apart_tl ha) i h1 h2
theorem lookE_at : ∀ {X : va_W} (_ : apart X) (i : Nat) {q : Nat} {e : va_E}, X[i]? = some (q, e) → lookE X q = some e
  | [], _, i, q, e, h => by simp at h
  | p :: X', ha, 0, q, e, h1 => by
    cases h1
    unfold lookE
    rw [if_pos rfl]
  | p :: X', ha, i + 1, q, e, h1 => by
    unfold lookE
    rw [if_neg (apart_hd ha (i := i) h1)]
    exact lookE_at (apart_tl ha) i h1
theorem look_none : ∀ {X : va_W} {rl : List (Nat × Nat)} {a : Nat}, (∀ (i : Nat) (e : va_E), X[i]? ≠ some (a, e)) → look X rl a = none
  | [], rl, a, h => by unfold look; rfl
  | p :: X', [], a, h => by unfold look; rfl
  | p :: X', r' :: rl', a, h => by
    unfold look
    rw [if_neg (fun q => h 0 p.2 (by rw [q]; rfl))]
    exact look_none (fun i e => h (i + 1) e)
theorem lookE_none : ∀ {X : va_W} {a : Nat}, (∀ (i : Nat) (e : va_E), X[i]? ≠ some (a, e)) → lookE X a = none
  | [], a, h => by unfold lookE; rfl
  | p :: X', a, h => by
    unfold lookE
    rw [if_neg (fun q => h 0 p.2 (by rw [q]; rfl))]
    exact lookE_none (fun i e => h (i + 1) e)
def clG (z : Zt) (X : va_W) (rl : List (Nat × Nat)) : Ga := fun a => (look X rl a).getD (zG z a)
def clZ (z : Zt) (X : va_W) (rl : List (Nat × Nat)) : Zt := zx z (X.map (fun p => p.1) ++ zL z) (clG z X rl)
theorem ap_l {A : Nat → Prop} {X Y : va_W} (h : va_D A (X ++ Y)) : apart X := fun i j p q h1 h2 h3 =>
  h.1 i j p q (by rw [List.getElem?_append_left (List.getElem?_eq_some_iff.mp h1).1]; exact h1) (by rw [List.getElem?_append_left (List.getElem?_eq_some_iff.mp h2).1]; exact h2) h3
theorem ap_x {A : Nat → Prop} {X : va_W} {L : List Nat} {E : Nat → va_E} (h : va_D A (X ++ va_pl L E)) {a : Nat} (ha : a ∈ L) : ∀ (i : Nat) (e : va_E), X[i]? ≠ some (a, e) := fun i e hi => by
  obtain ⟨k, hk⟩ := List.getElem?_of_mem (show (a, E a) ∈ va_pl L E from List.mem_map.mpr ⟨a, ha, rfl⟩)
  have hl := (List.getElem?_eq_some_iff.mp hi).1
  have h1 := h.1 i (X.length + k) (a, e) (a, E a) (by rw [List.getElem?_append_left hl]; exact hi) (by rw [List.getElem?_append_right (Nat.le_add_right _ _), Nat.add_sub_cancel_left]; exact hk) rfl
  omega
theorem cl_at {z : Zt} {A : Nat → Prop} {X : va_W} {H : Heap} (h : TX z A X H) (rl : List (Nat × Nat)) (i : Nat) {q : Nat} {e : va_E} {r : Nat × Nat} (h1 : X[i]? = some (q, e)) (h2 : rl[i]? = some r) : zG (clZ z X rl) q = r := by
  obtain ⟨E, hP, hD, hm, hE⟩ := h
  show (look X rl q).getD _ = r
  rw [look_at (ap_l hD) i h1 h2]
  rfl
theorem cl_old {z : Zt} {A : Nat → Prop} {X : va_W} {H : Heap} (h : TX z A X H) (rl : List (Nat × Nat)) {q n o : Nat} (h1 : zG z q = (n, o)) (hn : n ≠ 0) : zG (clZ z X rl) q = (n, o) := by
  obtain ⟨E, hP, hD, hm, hE⟩ := h
  show (look X rl q).getD _ = _
  rw [look_none (ap_x hD (hm q (by rw [h1]; exact hn)))]
  exact h1
theorem va_pl_app {L1 L2 : List Nat} {E : Nat → va_E} : va_pl (L1 ++ L2) E = va_pl L1 E ++ va_pl L2 E := List.map_append
theorem va_pl_on {L : List Nat} {E F : Nat → va_E} (h : ∀ a, a ∈ L → E a = F a) : va_pl L E = va_pl L F := List.map_congr_left (fun a ha => by rw [h a ha])
theorem pl_self : ∀ {X : va_W} {E : Nat → va_E}, (∀ (i : Nat) (q : Nat) (e : va_E), X[i]? = some (q, e) → E q = e) → va_pl (X.map (fun p => p.1)) E = X
  | [], E, h => rfl
  | (a, e) :: X, E, h => by
    show (a, E a) :: va_pl (X.map (fun p => p.1)) E = (a, e) :: X
    rw [h 0 a e rfl, pl_self (fun i q e hi => h (i + 1) q e hi)]
theorem tx_close {z : Zt} {A : Nat → Prop} {X : va_W} {H : Heap} (h : TX z A X H) (rl : List (Nat × Nat)) (hlen : rl.length = X.length) (hn : ∀ r ∈ rl, r.1 ≠ 0) (he : ∀ (i q : Nat) (e : va_E) (r : Nat × Nat), X[i]? = some (q, e) → rl[i]? = some r → eOK (clZ z X rl) (iniS r.2 r.1) r e) : TX (clZ z X rl) A [] H := by
  have h0 := h
  obtain ⟨E, hP, hD, hm, hE⟩ := h
  have hap := ap_l hD
  have key : X ++ va_pl (zL z) E = [] ++ va_pl (X.map (fun p => p.1) ++ zL z) (fun a => (lookE X a).getD (E a)) := by
    rw [List.nil_append, va_pl_app, pl_self (fun i q e hi => by rw [lookE_at hap i hi]; rfl)]
    congr 1
    exact va_pl_on (fun a ha => by rw [lookE_none (ap_x hD ha)]; rfl)
  refine ⟨fun a => (lookE X a).getD (E a), ?_, ?_, ?_, ?_⟩
  · rw [key] at hP; exact hP
  · rw [key] at hD; exact hD
  · intro a ha
    show a ∈ X.map (fun p => p.1) ++ zL z
    cases hq : look X rl a with
    | none =>
      have h2 : (zG z a).1 ≠ 0 := by
        have h3 : (((look X rl a).getD (zG z a)).1 ≠ 0) := ha
        rw [hq] at h3
        exact h3
      exact List.mem_append_right _ (hm a h2)
    | some r =>
      obtain ⟨i, e, h1, -⟩ := look_some hq
      exact List.mem_append_left _ (List.mem_map.mpr ⟨_, List.mem_of_getElem? h1, rfl⟩)
  · intro a ha
    rcases List.mem_append.mp (show a ∈ X.map (fun p => p.1) ++ zL z from ha) with ha | ha
    · obtain ⟨⟨q, e⟩, h1, rfl⟩ := List.mem_map.mp ha
      obtain ⟨i, hi⟩ := List.getElem?_of_mem h1
      have hl : i < rl.length := by rw [hlen]; exact (List.getElem?_eq_some_iff.mp hi).1
      have hr : rl[i]? = some rl[i] := List.getElem?_eq_some_iff.mpr ⟨hl, rfl⟩
      have h5 := cl_at h0 rl i hi hr
      have h6 := he i q e _ hi hr
      show eOK _ (iniS (zG (clZ z X rl) q).2 (zG (clZ z X rl) q).1) (zG (clZ z X rl) q) ((lookE X q).getD (E q))
      rw [h5, lookE_at hap i hi]
      exact h6
    · have h5 : zG (clZ z X rl) a = zG z a := by
        show (look X rl a).getD _ = _
        rw [look_none (ap_x hD ha)]; rfl
      show eOK _ (iniS (zG (clZ z X rl) a).2 (zG (clZ z X rl) a).1) (zG (clZ z X rl) a) ((lookE X a).getD (E a))
      rw [h5, lookE_none (ap_x hD ha)]
      refine eOK_mono (fun q hq => ?_) (hE a ha)
      show (look X rl q).getD _ = _
      rw [look_none (ap_x hD (hm q hq))]; rfl
noncomputable def jnG (z z1 : Zt) : Ga := fun a => @ite (Nat × Nat) (a ∈ zL z1) (Classical.propDecidable _) (zG z1 a) (zG z a)
noncomputable def jnZ (z z1 : Zt) : Zt := zx z (zL z1 ++ zL z) (jnG z z1)
theorem jnG_in {z z1 : Zt} {a : Nat} (h : a ∈ zL z1) : jnG z z1 a = zG z1 a := by unfold jnG; exact if_pos h
theorem jnG_no {z z1 : Zt} {a : Nat} (h : a ∉ zL z1) : jnG z z1 a = zG z a := by unfold jnG; exact if_neg h
def ids (z : Zt) (S : List (Nat × Nat)) : Prop := ∀ a, (zG z a).1 ≠ 0 → zG z a ∈ S
def bOK (z : Zt) (S : List (Nat × Nat)) : Prop := zu z ∧ ids z S
theorem tx_join {z : Zt} {A : Nat → Prop} {X : va_W} {H : Heap} {L1 : List Nat} {G1 : Ga} (E E1 : Nat → va_E) (hP : va_P (zD z) vwCl ((X ++ va_pl L1 E1) ++ va_pl (zL z) E) H) (hD : va_D A ((X ++ va_pl L1 E1) ++ va_pl (zL z) E)) (hm : ∀ a, (zG z a).1 ≠ 0 → a ∈ zL z) (hm1 : ∀ a, (G1 a).1 ≠ 0 → a ∈ L1)
    (hE : ∀ a, a ∈ zL z → eOK z (iniS (zG z a).2 (zG z a).1) (zG z a) (E a)) (hE1 : ∀ a, a ∈ L1 → eOK (zx z L1 G1) (iniS (G1 a).2 (G1 a).1) (G1 a) (E1 a)) : TX (jnZ z (zx z L1 G1)) A X H := by
  have dis : ∀ a, a ∈ zL z → a ∉ L1 := fun a ha h1 => by
    obtain ⟨i, hi⟩ := List.getElem?_of_mem (show (a, E1 a) ∈ va_pl L1 E1 from List.mem_map.mpr ⟨a, h1, rfl⟩)
    have := ap_x hD ha (X.length + i) (E1 a)
    rw [List.getElem?_append_right (Nat.le_add_right _ _), Nat.add_sub_cancel_left] at this
    exact this hi
  have key : (X ++ va_pl L1 E1) ++ va_pl (zL z) E = X ++ va_pl (L1 ++ zL z) (fun a => @ite va_E (a ∈ L1) (Classical.propDecidable _) (E1 a) (E a)) := by
    rw [List.append_assoc, va_pl_app]
    congr 2
    · exact va_pl_on (fun a ha => (if_pos ha).symm)
    · exact va_pl_on (fun a ha => (if_neg (dis a ha)).symm)
  refine ⟨_, by rw [key] at hP; exact hP, by rw [key] at hD; exact hD, ?_, ?_⟩
  · intro a ha
    by_cases q : a ∈ L1
    · exact List.mem_append_left _ q
    · have h2 : (jnG z (zx z L1 G1) a).1 ≠ 0 := ha
      rw [jnG_no (show a ∉ zL (zx z L1 G1) from q)] at h2
      exact List.mem_append_right _ (hm a h2)
  · intro a ha
    show eOK (zx z (L1 ++ zL z) (jnG z (zx z L1 G1))) (iniS (jnG z (zx z L1 G1) a).2 (jnG z (zx z L1 G1) a).1) (jnG z (zx z L1 G1) a) (@ite va_E (a ∈ L1) (Classical.propDecidable _) (E1 a) (E a))
    by_cases q : a ∈ L1
    · rw [if_pos q, jnG_in (show a ∈ zL (zx z L1 G1) from q)]
      exact eOK_mono (z := zx z L1 G1) (L := L1 ++ zL z) (G := jnG z (zx z L1 G1)) (fun p hp => jnG_in (show p ∈ zL (zx z L1 G1) from hm1 p hp)) (hE1 a q)
    · have hz : a ∈ zL z := by
        rcases List.mem_append.mp (show a ∈ L1 ++ zL z from ha) with h | h
        · exact absurd h q
        · exact h
      rw [if_neg q, jnG_no (show a ∉ zL (zx z L1 G1) from q)]
      exact eOK_mono (L := L1 ++ zL z) (G := jnG z (zx z L1 G1)) (fun p hp => jnG_no (show p ∉ zL (zx z L1 G1) from dis p (hm p hp))) (hE a hz)
theorem tx_ty {z : Zt} {A : Nat → Prop} {H : Heap} (h : TX z A [] H) (hz : zu z) : TY z A iniS H := by
  obtain ⟨E, hP, hD, hm, hE⟩ := h
  exact ⟨E, hP, hD, hm, hz, hE⟩
