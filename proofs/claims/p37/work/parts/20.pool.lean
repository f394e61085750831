abbrev zx (z : Zt) (L : List Nat) (G : Ga) : Zt := (z.1, z.2.1, L, G, z.2.2.2.2)
theorem zx_m {z : Zt} {L : List Nat} {G : Ga} (hm : ∀ q, (zG z q).1 ≠ 0 → G q = zG z q) {q n o : Nat} (h : zG z q = (n, o)) (hn : n ≠ 0) : zG (zx z L G) q = (n, o) := by
  show G q = (n, o)
  rw [hm q (by rw [h]; exact hn)]
  exact h
set_option maxHeartbeats 4000000 in
theorem eOK_mono {z : Zt} {L : List Nat} {G : Ga} {ga go : Nat → Int} {ct : Nat → Int32} {r : Nat × Nat} {a : Nat} {e : va_E} (hm : ∀ q, (zG z q).1 ≠ 0 → G q = zG z q) (h : eOK z ga go ct r a e) : eOK (zx z L G) ga go ct r a e := by
  obtain ⟨n, o⟩ := r
  unfold eOK at h ⊢
  dsimp only at h ⊢
  split at h
  · obtain ⟨q0, q1, q2, q3, q4, q5, x6, x7, h9, h⟩ : eEvening z ga (_, o) a e := h
    refine ⟨q0, q1, q2, q3, q4, q5, x6, x7, h9, ?_⟩
    obtain ⟨f0, f1, f2, f3, f4, f5, f6, f7⟩ := h
    exact ⟨zx_m hm f0 (by decide), zx_m hm f1 (by decide), zx_m hm f2 (by decide), zx_m hm f3 (by decide), zx_m hm f4 (by decide), zx_m hm f5 (by decide), f6, f7⟩
  · obtain ⟨q0, q1, q2, q3, q4, q5, q6, q7, x8, x9, h9, h⟩ : eFloor z ga (_, o) a e := h
    refine ⟨q0, q1, q2, q3, q4, q5, q6, q7, x8, x9, h9, ?_⟩
    obtain ⟨f0, f1, f2, f3, f4, f5, f6, f7, f8, f9⟩ := h
    exact ⟨zx_m hm f0 (by decide), zx_m hm f1 (by decide), zx_m hm f2 (by decide), zx_m hm f3 (by decide), zx_m hm f4 (by decide), zx_m hm f5 (by decide), zx_m hm f6 (by decide), zx_m hm f7 (by decide), f8, f9⟩
  · obtain ⟨q0, q1, q2, q3, x4, x5, x6, x7, h9, h⟩ : eSearch z ga (_, o) a e := h
    refine ⟨q0, q1, q2, q3, x4, x5, x6, x7, h9, ?_⟩
    obtain ⟨f0, f1, f2, f3, f4, f5, f6, f7⟩ := h
    exact ⟨zx_m hm f0 (by decide), zx_m hm f1 (by decide), zx_m hm f2 (by decide), zx_m hm f3 (by decide), f4, f5, f6, f7⟩
  · obtain ⟨q0, x1, x2, h9, h⟩ : eSheet z ga (_, o) a e := h
    refine ⟨q0, x1, x2, h9, ?_⟩
    obtain ⟨f0, f1, f2⟩ := h
    exact ⟨zx_m hm f0 (by decide), f1, f2⟩
  · obtain ⟨q0, q1, x2, x3, x4, x5, x6, x7, x8, x9, h9, h⟩ : eTape z ga (_, o) a e := h
    refine ⟨q0, q1, x2, x3, x4, x5, x6, x7, x8, x9, h9, ?_⟩
    obtain ⟨f0, f1, f2, f3, f4, f5, f6, f7, f8, f9⟩ := h
    exact ⟨zx_m hm f0 (by decide), zx_m hm f1 (by decide), f2, f3, f4, f5, f6, f7, f8, f9⟩
  · obtain ⟨q0, q1, x2, h9, h⟩ : eWalk z ga (_, o) a e := h
    refine ⟨q0, q1, x2, h9, ?_⟩
    obtain ⟨f0, f1, f2⟩ := h
    exact ⟨zx_m hm f0 (by decide), zx_m hm f1 (by decide), f2⟩
  · obtain ⟨q0, q1, q2, q3, q4, q5, q6, x7, x8, h9, h⟩ : eHeelDance z ga (_, o) a e := h
    refine ⟨q0, q1, q2, q3, q4, q5, q6, x7, x8, h9, ?_⟩
    obtain ⟨f0, f1, f2, f3, f4, f5, f6, f7, f8⟩ := h
    exact ⟨zx_m hm f0 (by decide), zx_m hm f1 (by decide), zx_m hm f2 (by decide), zx_m hm f3 (by decide), zx_m hm f4 (by decide), zx_m hm f5 (by decide), zx_m hm f6 (by decide), f7, f8⟩
  · obtain ⟨q0, q1, q2, x3, q4, x5, x6, x7, x8, q9, x10, x11, x12, x13, x14, x15, x16, q17, q18, x19, x20, q21, q22, q23, x24, q25, h9, h⟩ : eModel z ga (_, o) a e := h
    refine ⟨q0, q1, q2, x3, q4, x5, x6, x7, x8, q9, x10, x11, x12, x13, x14, x15, x16, q17, q18, x19, x20, q21, q22, q23, x24, q25, h9, ?_⟩
    obtain ⟨f0, f1, f2, f3, f4, f5, f6, f7, f8, f9, f10, f11, f12, f13, f14, f15, f16, f17, f18, f21, f22, f23, f24, f25⟩ := h
    exact ⟨zx_m hm f0 (by decide), zx_m hm f1 (by decide), zx_m hm f2 (by decide), f3, zx_m hm f4 (by decide), f5, f6, f7, f8, zx_m hm f9 (by decide), f10, f11, f12, f13, f14, f15, f16, zx_m hm f17 (by decide), zx_m hm f18 (by decide), zx_m hm f21 (by decide), zx_m hm f22 (by decide), zx_m hm f23 (by decide), f24, zx_m hm f25 (by decide)⟩
  · exact h
  · exact h
  · exact h
  · exact h
  · exact h
  · exact h
  · exact h
  · exact h
  · exact h
  · exact h
  · exact h
  · exact h
  · exact h
  · exact h
  · exact h
  · exact h
  · exact h
  · exact h
  · exact h
  · exact h
  · exact h
  · exact h
  · exact h
  · obtain ⟨f, h1, h2⟩ := h
    refine ⟨f, h1, fun i hi => ?_⟩
    obtain ⟨q, h3, h4⟩ := h2 i hi
    exact ⟨q, h3, zx_m hm h4 (by decide)⟩
  · obtain ⟨f, h1, h2⟩ := h
    refine ⟨f, h1, fun i hi => ?_⟩
    obtain ⟨q, h3, h4⟩ := h2 i hi
    exact ⟨q, h3, zx_m hm h4 (by decide)⟩
  · obtain ⟨f, h1, h2⟩ := h
    refine ⟨f, h1, fun i hi => ?_⟩
    obtain ⟨q, h3, h4⟩ := h2 i hi
    exact ⟨q, h3, zx_m hm h4 (by decide)⟩
  · exact h
set_option maxHeartbeats 4000000 in
theorem eOK_obj {z : Zt} {ga go go' : Nat → Int} {ct ct' : Nat → Int32} {r : Nat × Nat} {a : Nat} {e : va_E} (hr : r.1 < 20) (h : eOK z ga go ct r a e) : eOK z ga go' ct' r a e := by
  obtain ⟨n, o⟩ := r
  unfold eOK at h ⊢
  dsimp only at h ⊢ hr
  split at h
  · exact h
  · exact h
  · exact h
  · exact h
  · exact h
  · exact h
  · exact h
  · exact h
  · exact absurd hr (by decide)
  · exact absurd hr (by decide)
  · exact absurd hr (by decide)
  · exact absurd hr (by decide)
  · exact absurd hr (by decide)
  · exact absurd hr (by decide)
  · exact absurd hr (by decide)
  · exact absurd hr (by decide)
  · exact absurd hr (by decide)
  · exact absurd hr (by decide)
  · exact absurd hr (by decide)
  · exact absurd hr (by decide)
  · exact absurd hr (by decide)
  · exact absurd hr (by decide)
  · exact absurd hr (by decide)
  · exact absurd hr (by decide)
  · exact absurd hr (by decide)
  · exact absurd hr (by decide)
  · exact absurd hr (by decide)
  · exact absurd hr (by decide)
  · exact absurd hr (by decide)
  · exact absurd hr (by decide)
  · exact absurd hr (by decide)
  · exact absurd hr (by decide)
  · exact absurd hr (by decide)
  · exact absurd hr (by decide)
  · exact h
set_option maxHeartbeats 4000000 in
theorem eOK_arr {z : Zt} {ga ga' go : Nat → Int} {ct : Nat → Int32} {r : Nat × Nat} {a : Nat} {e : va_E} (hr : 20 ≤ r.1) (h : eOK z ga go ct r a e) : eOK z ga' go ct r a e := by
  obtain ⟨n, o⟩ := r
  unfold eOK at h ⊢
  dsimp only at h ⊢ hr
  split at h
  · exact absurd hr (by decide)
  · exact absurd hr (by decide)
  · exact absurd hr (by decide)
  · exact absurd hr (by decide)
  · exact absurd hr (by decide)
  · exact absurd hr (by decide)
  · exact absurd hr (by decide)
  · exact absurd hr (by decide)
  · exact h
  · exact h
  · exact h
  · exact h
  · exact h
  · exact h
  · exact h
  · exact h
  · exact h
  · exact h
  · exact h
  · exact h
  · exact h
  · exact h
  · exact h
  · exact h
  · exact h
  · exact h
  · exact h
  · exact h
  · exact h
  · exact h
  · exact h
  · exact h
  · exact h
  · exact h
  · exact h
def iniG : Gh := (fun _ k => if k = 34 then -1 else 0, fun _ _ => 0)
theorem ia_20 {z : Zt} {q o : Nat} : eOK z (iniG.1 q) (iniG.1 o) (iniG.2 q) (20, o) q (.inl (zI z, 5, .inl (fun _ => 0))) := ⟨_, rfl, trivial⟩
theorem ia_21 {z : Zt} {q o : Nat} : eOK z (iniG.1 q) (iniG.1 o) (iniG.2 q) (21, o) q (.inl (zI z, 8, .inl (fun _ => 0))) := ⟨_, rfl, trivial⟩
theorem ia_22 {z : Zt} {q o : Nat} : eOK z (iniG.1 q) (iniG.1 o) (iniG.2 q) (22, o) q (.inl (zI z, 6, .inl (fun _ => 0))) := ⟨_, rfl, trivial⟩
theorem ia_23 {z : Zt} {q o : Nat} : eOK z (iniG.1 q) (iniG.1 o) (iniG.2 q) (23, o) q (.inl (zI z, 40, .inl (fun _ => 0))) := ⟨_, rfl, trivial⟩
theorem ia_24 {z : Zt} {q o : Nat} : eOK z (iniG.1 q) (iniG.1 o) (iniG.2 q) (24, o) q (.inl (zI z, 45, .inl (fun _ => 0))) := ⟨_, rfl, trivial⟩
theorem ia_25 {z : Zt} {q o : Nat} : eOK z (iniG.1 q) (iniG.1 o) (iniG.2 q) (25, o) q (.inl (zI z, 6, .inl (fun _ => 0))) := ⟨_, rfl, fun i hi => by unfold p25; exact ⟨(by show (0 : Int) ≤ (0 : Int32).toInt; decide), (by show (0 : Int32).toInt ≤ 4; decide)⟩⟩
theorem ia_26 {z : Zt} {q o : Nat} : eOK z (iniG.1 q) (iniG.1 o) (iniG.2 q) (26, o) q (.inl (zI z, 6, .inl (fun _ => 0))) := ⟨_, rfl, fun i hi => by unfold p26; exact ⟨(by show (0 : Int) ≤ (0 : Int32).toInt; decide), (by show (0 : Int32).toInt ≤ 8; decide)⟩⟩
theorem ia_27 {z : Zt} {q o : Nat} : eOK z (iniG.1 q) (iniG.1 o) (iniG.2 q) (27, o) q (.inl (zI z, 5, .inl (fun _ => 0))) := ⟨_, rfl, fun i hi => by unfold p27; exact ⟨(by show (0 : Int) ≤ (0 : Int32).toInt; decide), (by show (0 : Int32).toInt ≤ 4; decide), fun q => absurd q (by show ¬ ((i : Int) < 0); omega)⟩⟩
theorem ia_28 {z : Zt} {q o : Nat} : eOK z (iniG.1 q) (iniG.1 o) (iniG.2 q) (28, o) q (.inl (zI z, 5, .inl (fun _ => 0))) := ⟨_, rfl, rfl, fun i hi => by unfold p28; exact ⟨(by show (0 : Int) ≤ (0 : Int32).toInt; decide), (by show (0 : Int32).toInt ≤ 4; decide)⟩⟩
theorem ia_29 {z : Zt} {q o : Nat} : eOK z (iniG.1 q) (iniG.1 o) (iniG.2 q) (29, o) q (.inl (zI z, 5, .inl (fun _ => 0))) := ⟨_, rfl, rfl, fun i hi => by unfold p29; exact ⟨(by show (0 : Int) ≤ (0 : Int32).toInt; decide), (by show (0 : Int32).toInt ≤ 4; decide)⟩⟩
theorem ia_30 {z : Zt} {q o : Nat} : eOK z (iniG.1 q) (iniG.1 o) (iniG.2 q) (30, o) q (.inl (zI z, 160, .inl (fun _ => 0))) := ⟨_, rfl, rfl, fun i hi => by unfold p30; exact ⟨(by show (0 : Int) ≤ (0 : Int32).toInt; decide), (by show (0 : Int32).toInt ≤ 127; decide)⟩⟩
theorem ia_33 {z : Zt} {q o : Nat} : eOK z (iniG.1 q) (iniG.1 o) (iniG.2 q) (33, o) q (.inl (zZ z, 2, .inl (fun _ => 0))) := ⟨_, rfl, fun i hi => by unfold p33; exact ⟨(by show (0 : Int) ≤ (0 : Int32).toInt; decide), (by show (0 : Int32).toInt ≤ 1; decide)⟩⟩
def TX (z : Zt) (A : Nat → Prop) (gh : Gh) (X : va_W) (H : Heap) : Prop := ∃ E : Nat → va_E, va_P (zD z) vwCl (X ++ va_pl (zL z) E) H ∧ va_D A (X ++ va_pl (zL z) E) ∧ (∀ a, (zG z a).1 ≠ 0 → a ∈ zL z) ∧ ∀ a, a ∈ zL z → eOK z (gh.1 a) (gh.1 (zG z a).2) (gh.2 a) (zG z a) a (E a)
def look (X : va_W) (rl : List (Nat × Nat)) (a : Nat) : Option (Nat × Nat) := match X, rl with
  | p :: X', r :: rl' => if a = p.1 then some r else look X' rl' a
  | _, _ => none
def lookE (X : va_W) (a : Nat) : Option va_E := match X with
  | p :: X' => if a = p.1 then some p.2 else lookE X' a
  | _ => none
theorem look_some : ∀ {X : va_W} {rl : List (Nat × Nat)} {a : Nat} {r : Nat × Nat}, look X rl a = some r → ∃ (i : Nat) (e : va_E), X[i]? = some (a, e) ∧ rl[i]? = some r
  | [], _, a, r, h => by simp [look] at h
  | p :: X', [], a, r, h => by simp [look] at h
  | p :: X', r' :: rl', a, r, h => by
    unfold look at h
    by_cases q : a = p.1
    · rw [if_pos q] at h
      cases h
      exact ⟨0, p.2, by rw [q]; rfl, rfl⟩
    · rw [if_neg q] at h
      obtain ⟨i, e, h1, h2⟩ := look_some h
      exact ⟨i + 1, e, h1, h2⟩
def apart (X : va_W) : Prop := ∀ (i j : Nat) (p q : Nat × va_E), X[i]? = some p → X[j]? = some q → p.1 = q.1 → i = j
theorem apart_tl {p : Nat × va_E} {X : va_W} (h : apart (p :: X)) : apart X := fun i j a b h1 h2 h3 => by
  have := h (i + 1) (j + 1) a b h1 h2 h3
  omega
theorem apart_hd {p : Nat × va_E} {X : va_W} (h : apart (p :: X)) {i : Nat} {q : Nat × va_E} (hi : X[i]? = some q) : q.1 ≠ p.1 := fun e => by
  have := h 0 (i + 1) p q rfl hi e.symm
  omega
theorem look_at : ∀ {X : va_W} {rl : List (Nat × Nat)} (_ : apart X) (i : Nat) {q : Nat} {e : va_E} {r : Nat × Nat}, X[i]? = some (q, e) → rl[i]? = some r → look X rl q = some r
  | [], _, _, i, q, e, r, h, _ => by simp at h
  | p :: X', [], _, i, q, e, r, _, h => by simp at h
  | p :: X', r' :: rl', ha, 0, q, e, r, h1, h2 => by
    cases h1; cases h2
    unfold look
    rw [if_pos rfl]
  | p :: X', r' :: rl', ha, i + 1, q, e, r, h1, h2 => by
    unfold look
    rw [if_neg (apart_hd ha (i := i) h1)]
    exact look_at (apart_tl ha) i h1 h2
theorem lookE_at : ∀ {X : va_W} (_ : apart X) (i : Nat) {q : Nat} {e : va_E}, X[i]? = some (q, e) → lookE X q = some e
  | [], _, i, q, e, h => by simp at h
  | p :: X', ha, 0, q, e, h1 => by
    cases h1
    unfold lookE
    rw [if_pos rfl]
  | p :: X', ha, i + 1, q, e, h1 => by
    unfold lookE
    rw [if_neg (apart_hd ha (i := i) h1)]
    exact lookE_at (apart_tl ha) i h1
theorem look_none : ∀ {X : va_W} {rl : List (Nat × Nat)} {a : Nat}, (∀ (i : Nat) (e : va_E), X[i]? ≠ some (a, e)) → look X rl a = none
  | [], rl, a, h => by unfold look; rfl
  | p :: X', [], a, h => by unfold look; rfl
  | p :: X', r' :: rl', a, h => by
    unfold look
    rw [if_neg (fun q => h 0 p.2 (by rw [q]; rfl))]
    exact look_none (fun i e => h (i + 1) e)
theorem lookE_none : ∀ {X : va_W} {a : Nat}, (∀ (i : Nat) (e : va_E), X[i]? ≠ some (a, e)) → lookE X a = none
  | [], a, h => by unfold lookE; rfl
  | p :: X', a, h => by
    unfold lookE
    rw [if_neg (fun q => h 0 p.2 (by rw [q]; rfl))]
    exact lookE_none (fun i e => h (i + 1) e)
def clG (z : Zt) (X : va_W) (rl : List (Nat × Nat)) : Ga := fun a => (look X rl a).getD (zG z a)
def clZ (z : Zt) (X : va_W) (rl : List (Nat × Nat)) : Zt := zx z (X.map (fun p => p.1) ++ zL z) (clG z X rl)
theorem ap_l {A : Nat → Prop} {X Y : va_W} (h : va_D A (X ++ Y)) : apart X := fun i j p q h1 h2 h3 =>
  h.1 i j p q (by rw [List.getElem?_append_left (List.getElem?_eq_some_iff.mp h1).1]; exact h1) (by rw [List.getElem?_append_left (List.getElem?_eq_some_iff.mp h2).1]; exact h2) h3
theorem ap_x {A : Nat → Prop} {X : va_W} {L : List Nat} {E : Nat → va_E} (h : va_D A (X ++ va_pl L E)) {a : Nat} (ha : a ∈ L) : ∀ (i : Nat) (e : va_E), X[i]? ≠ some (a, e) := fun i e hi => by
  obtain ⟨k, hk⟩ := List.getElem?_of_mem (show (a, E a) ∈ va_pl L E from List.mem_map.mpr ⟨a, ha, rfl⟩)
  have hl := (List.getElem?_eq_some_iff.mp hi).1
  have h1 := h.1 i (X.length + k) (a, e) (a, E a) (by rw [List.getElem?_append_left hl]; exact hi) (by rw [List.getElem?_append_right (Nat.le_add_right _ _), Nat.add_sub_cancel_left]; exact hk) rfl
  omega
theorem cl_at {z : Zt} {A : Nat → Prop} {gh : Gh} {X : va_W} {H : Heap} (h : TX z A gh X H) (rl : List (Nat × Nat)) (i : Nat) {q : Nat} {e : va_E} {r : Nat × Nat} (h1 : X[i]? = some (q, e)) (h2 : rl[i]? = some r) : zG (clZ z X rl) q = r := by
  obtain ⟨E, hP, hD, hm, hE⟩ := h
  show (look X rl q).getD _ = r
  rw [look_at (ap_l hD) i h1 h2]
  rfl
theorem cl_old {z : Zt} {A : Nat → Prop} {gh : Gh} {X : va_W} {H : Heap} (h : TX z A gh X H) (rl : List (Nat × Nat)) {q n o : Nat} (h1 : zG z q = (n, o)) (hn : n ≠ 0) : zG (clZ z X rl) q = (n, o) := by
  obtain ⟨E, hP, hD, hm, hE⟩ := h
  show (look X rl q).getD _ = _
  rw [look_none (ap_x hD (hm q (by rw [h1]; exact hn)))]
  exact h1
theorem va_pl_app {L1 L2 : List Nat} {E : Nat → va_E} : va_pl (L1 ++ L2) E = va_pl L1 E ++ va_pl L2 E := List.map_append
theorem va_pl_on {L : List Nat} {E F : Nat → va_E} (h : ∀ a, a ∈ L → E a = F a) : va_pl L E = va_pl L F := List.map_congr_left (fun a ha => by rw [h a ha])
theorem pl_self : ∀ {X : va_W} {E : Nat → va_E}, (∀ (i : Nat) (q : Nat) (e : va_E), X[i]? = some (q, e) → E q = e) → va_pl (X.map (fun p => p.1)) E = X
  | [], E, h => rfl
  | (a, e) :: X, E, h => by
    show (a, E a) :: va_pl (X.map (fun p => p.1)) E = (a, e) :: X
    rw [h 0 a e rfl, pl_self (fun i q e hi => h (i + 1) q e hi)]
theorem tx_close {z : Zt} {A : Nat → Prop} {gh : Gh} {X : va_W} {H : Heap} (h : TX z A gh X H) (rl : List (Nat × Nat)) (hlen : rl.length = X.length) (hn : ∀ r ∈ rl, r.1 ≠ 0) (he : ∀ (i q : Nat) (e : va_E) (r : Nat × Nat), X[i]? = some (q, e) → rl[i]? = some r → eOK (clZ z X rl) (gh.1 q) (gh.1 r.2) (gh.2 q) r q e) : TY (clZ z X rl) A gh H := by
  have h0 := h
  obtain ⟨E, hP, hD, hm, hE⟩ := h
  have hap := ap_l hD
  have key : X ++ va_pl (zL z) E = [] ++ va_pl (X.map (fun p => p.1) ++ zL z) (fun a => (lookE X a).getD (E a)) := by
    rw [List.nil_append, va_pl_app, pl_self (fun i q e hi => by rw [lookE_at hap i hi]; rfl)]
    congr 1
    exact va_pl_on (fun a ha => by rw [lookE_none (ap_x hD ha)]; rfl)
  refine ⟨fun a => (lookE X a).getD (E a), ?_, ?_, ?_, ?_⟩
  · rw [key] at hP; exact hP
  · rw [key] at hD; exact hD
  · intro a ha
    show a ∈ X.map (fun p => p.1) ++ zL z
    cases hq : look X rl a with
    | none =>
      have h2 : (zG z a).1 ≠ 0 := by
        have h3 : (((look X rl a).getD (zG z a)).1 ≠ 0) := ha
        rw [hq] at h3
        exact h3
      exact List.mem_append_right _ (hm a h2)
    | some r =>
      obtain ⟨i, e, h1, -⟩ := look_some hq
      exact List.mem_append_left _ (List.mem_map.mpr ⟨_, List.mem_of_getElem? h1, rfl⟩)
  · intro a ha
    rcases List.mem_append.mp (show a ∈ X.map (fun p => p.1) ++ zL z from ha) with ha | ha
    · obtain ⟨⟨q, e⟩, h1, rfl⟩ := List.mem_map.mp ha
      obtain ⟨i, hi⟩ := List.getElem?_of_mem h1
      have hl : i < rl.length := by rw [hlen]; exact (List.getElem?_eq_some_iff.mp hi).1
      have hr : rl[i]? = some rl[i] := List.getElem?_eq_some_iff.mpr ⟨hl, rfl⟩
      have h5 := cl_at h0 rl i hi hr
      have h6 := he i q e _ hi hr
      show eOK _ (gh.1 q) (gh.1 (zG (clZ z X rl) q).2) (gh.2 q) (zG (clZ z X rl) q) q ((lookE X q).getD (E q))
      rw [h5, lookE_at hap i hi]
      exact h6
    · have h5 : zG (clZ z X rl) a = zG z a := by
        show (look X rl a).getD _ = _
        rw [look_none (ap_x hD ha)]; rfl
      show eOK _ (gh.1 a) (gh.1 (zG (clZ z X rl) a).2) (gh.2 a) (zG (clZ z X rl) a) a ((lookE X a).getD (E a))
      rw [h5, lookE_none (ap_x hD ha)]
      refine eOK_mono (fun q hq => ?_) (hE a ha)
      show (look X rl q).getD _ = _
      rw [look_none (ap_x hD (hm q hq))]; rfl
/-! joining a made bundle into the pool -/
noncomputable def jnG (z z1 : Zt) : Ga := fun a => @ite (Nat × Nat) (a ∈ zL z1) (Classical.propDecidable _) (zG z1 a) (zG z a)
noncomputable def jnZ (z z1 : Zt) : Zt := zx z (zL z1 ++ zL z) (jnG z z1)
noncomputable def jnH (z1 : Zt) (g g1 : Gh) : Gh := (fun a => @ite (Nat → Int) (a ∈ zL z1) (Classical.propDecidable _) (g1.1 a) (g.1 a), fun a => @ite (Nat → Int32) (a ∈ zL z1) (Classical.propDecidable _) (g1.2 a) (g.2 a))
theorem jnG_in {z z1 : Zt} {a : Nat} (h : a ∈ zL z1) : jnG z z1 a = zG z1 a := by unfold jnG; exact if_pos h
theorem jnG_no {z z1 : Zt} {a : Nat} (h : a ∉ zL z1) : jnG z z1 a = zG z a := by unfold jnG; exact if_neg h
theorem jnH_in {z1 : Zt} {g g1 : Gh} {a : Nat} (h : a ∈ zL z1) : (jnH z1 g g1).1 a = g1.1 a := by unfold jnH; exact if_pos h
theorem jnH_no {z1 : Zt} {g g1 : Gh} {a : Nat} (h : a ∉ zL z1) : (jnH z1 g g1).1 a = g.1 a := by unfold jnH; exact if_neg h
theorem jnH_in2 {z1 : Zt} {g g1 : Gh} {a : Nat} (h : a ∈ zL z1) : (jnH z1 g g1).2 a = g1.2 a := by unfold jnH; exact if_pos h
theorem jnH_no2 {z1 : Zt} {g g1 : Gh} {a : Nat} (h : a ∉ zL z1) : (jnH z1 g g1).2 a = g.2 a := by unfold jnH; exact if_neg h
theorem jnH_same (z1 : Zt) (g : Gh) : jnH z1 g g = g := by
  unfold jnH
  refine Prod.ext ?_ ?_ <;> (funext a; dsimp only; split <;> rfl)
def own (z : Zt) : Prop := ∀ a, 20 ≤ (zG z a).1 → (zG z a).2 ∈ zL z
def ids (z : Zt) (S : List (Nat × Nat)) : Prop := ∀ a, (zG z a).1 ≠ 0 → (zG z a).1 < 20 → zG z a ∈ S
def bOK (z : Zt) (S : List (Nat × Nat)) : Prop := own z ∧ zu z ∧ ids z S
theorem tx_join {z : Zt} {A : Nat → Prop} {g g1 : Gh} {X : va_W} {H : Heap} {L1 : List Nat} {G1 : Ga} (ho : own z) (ho1 : own (zx z L1 G1)) (hg : ∀ a, a ∈ zL z → (zG z a).2 ∈ L1 → 20 ≤ (zG z a).1 → False) (E E1 : Nat → va_E) (hP : va_P (zD z) vwCl ((X ++ va_pl L1 E1) ++ va_pl (zL z) E) H) (hD : va_D A ((X ++ va_pl L1 E1) ++ va_pl (zL z) E)) (hm : ∀ a, (zG z a).1 ≠ 0 → a ∈ zL z) (hm1 : ∀ a, (G1 a).1 ≠ 0 → a ∈ L1)
    (hE : ∀ a, a ∈ zL z → eOK z (g.1 a) (g.1 (zG z a).2) (g.2 a) (zG z a) a (E a)) (hE1 : ∀ a, a ∈ L1 → eOK (zx z L1 G1) (g1.1 a) (g1.1 (G1 a).2) (g1.2 a) (G1 a) a (E1 a)) : TX (jnZ z (zx z L1 G1)) A (jnH (zx z L1 G1) g g1) X H := by
  have dis : ∀ a, a ∈ zL z → a ∉ L1 := fun a ha h1 => by
    obtain ⟨i, hi⟩ := List.getElem?_of_mem (show (a, E1 a) ∈ va_pl L1 E1 from List.mem_map.mpr ⟨a, h1, rfl⟩)
    have := ap_x hD ha (X.length + i) (E1 a)
    rw [List.getElem?_append_right (Nat.le_add_right _ _), Nat.add_sub_cancel_left] at this
    exact this hi
  have key : (X ++ va_pl L1 E1) ++ va_pl (zL z) E = X ++ va_pl (L1 ++ zL z) (fun a => @ite va_E (a ∈ L1) (Classical.propDecidable _) (E1 a) (E a)) := by
    rw [List.append_assoc, va_pl_app]
    congr 2
    · exact va_pl_on (fun a ha => (if_pos ha).symm)
    · exact va_pl_on (fun a ha => (if_neg (dis a ha)).symm)
  refine ⟨_, by rw [key] at hP; exact hP, by rw [key] at hD; exact hD, ?_, ?_⟩
  · intro a ha
    by_cases q : a ∈ L1
    · exact List.mem_append_left _ q
    · have h2 : (jnG z (zx z L1 G1) a).1 ≠ 0 := ha
      rw [jnG_no (show a ∉ zL (zx z L1 G1) from q)] at h2
      exact List.mem_append_right _ (hm a h2)
  · intro a ha
    show eOK (zx z (L1 ++ zL z) (jnG z (zx z L1 G1))) ((jnH (zx z L1 G1) g g1).1 a) ((jnH (zx z L1 G1) g g1).1 (jnG z (zx z L1 G1) a).2) ((jnH (zx z L1 G1) g g1).2 a) (jnG z (zx z L1 G1) a) a (@ite va_E (a ∈ L1) (Classical.propDecidable _) (E1 a) (E a))
    by_cases q : a ∈ L1
    · rw [if_pos q, jnG_in (show a ∈ zL (zx z L1 G1) from q), jnH_in (show a ∈ zL (zx z L1 G1) from q), jnH_in2 (show a ∈ zL (zx z L1 G1) from q)]
      have h1 := eOK_mono (L := L1 ++ zL z) (G := jnG z (zx z L1 G1)) (fun p hp => jnG_in (show p ∈ zL (zx z L1 G1) from hm1 p hp)) (hE1 a q)
      by_cases hr : (G1 a).1 < 20
      · exact eOK_obj hr h1
      · rw [jnH_in (show (zG (zx z L1 G1) a).2 ∈ zL (zx z L1 G1) from ho1 a (show 20 ≤ (G1 a).1 by omega))]
        exact h1
    · have hz : a ∈ zL z := by
        rcases List.mem_append.mp (show a ∈ L1 ++ zL z from ha) with h | h
        · exact absurd h q
        · exact h
      rw [if_neg q, jnG_no (show a ∉ zL (zx z L1 G1) from q), jnH_no (show a ∉ zL (zx z L1 G1) from q), jnH_no2 (show a ∉ zL (zx z L1 G1) from q)]
      have h1 := eOK_mono (L := L1 ++ zL z) (G := jnG z (zx z L1 G1)) (fun p hp => jnG_no (show p ∉ zL (zx z L1 G1) from dis p (hm p hp))) (hE a hz)
      by_cases hr : (zG z a).1 < 20
      · exact eOK_obj hr h1
      · rw [jnH_no (show (zG z a).2 ∉ zL (zx z L1 G1) from fun h => hg a hz h (by omega))]
        exact h1

