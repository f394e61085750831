theorem SK.mono {z : Zt} {L : List Nat} {G : Ga} {U : State} {H : Heap} (h : SK z U H) (hL : ∀ q, q < H.size → q ∈ L → q ∈ zL z) : SK (zx z L G) U H := by
  have key : ∀ (q : Nat) (cell : Cell), H[q]? = some cell → ¬ zA z q → ¬ zA (zx z L G) q := fun q cell h1 h2 h3 => h2 (hL q (Array.getElem?_eq_some_iff.mp h1).1 h3)
  obtain ⟨h1, h2, h3⟩ := h
  refine ⟨fun i hi => ⟨(h1 i hi).1, ?_⟩, ?_, ?_⟩
  · obtain ⟨t, N, a1, ⟨c1, b1, b2, b3, b4⟩, ⟨cf, kf, fi, f, c2, d1, d2, d3, d4, d5, d6⟩, ⟨cf', kf', fi', f', c3, e1, e2, e3, e4, e5, e6⟩, g, c4, g1, g2, g3, g4, g5, g6, g7⟩ := (h1 i hi).2
    exact ⟨t, N, a1, ⟨c1, b1, b2, b3, key _ _ b1 b4⟩, ⟨cf, kf, fi, f, c2, d1, d2, d3, d4, d5, key _ _ d3 d6⟩, ⟨cf', kf', fi', f', c3, e1, e2, e3, e4, e5, key _ _ e3 e6⟩, g, c4, g1, g2, g3, g4, g5, g6, key _ _ g1 g7⟩
  · obtain ⟨cf, kf, fi, f, a, cell, d1, d2, d3, d4, d5, d6, d7, d8⟩ := h2
    exact ⟨cf, kf, fi, f, a, cell, d1, d2, d3, d4, d5, d6, d7, key _ _ d5 d8⟩
  · rcases h3 with ⟨cf, kf, fi, f, a, cell, d1, d2, d3, d4, d5, d6, d7, d8⟩ | ⟨t, cf, kf, fi, f, a, cell, d1, d2, d3, d4, d5, d6, d7, d8⟩
    · exact Or.inl ⟨cf, kf, fi, f, a, cell, d1, d2, d3, d4, d5, d6, d7, key _ _ d5 d8⟩
    · exact Or.inr ⟨t, cf, kf, fi, f, a, cell, d1, d2, d3, d4, d5, d6, d7, key _ _ d5 d8⟩
def iniM : Gh := (fun _ k => if 60 ≤ k ∧ k ≤ 63 then -4 else 0, fun _ _ => 0)
theorem b59_ini {B t : Int} {i : Nat} (ht : t ≤ 0) : b59 B t i 0 :=
  ⟨fun _ => ⟨by decide, by decide⟩, fun _ => ⟨by decide, by decide, fun q => absurd q (by omega)⟩, fun _ => ⟨by decide, by decide⟩, fun _ => ⟨by decide, by decide⟩, fun _ => ⟨by decide, by decide⟩⟩
theorem im_40 {z : Zt} {q o : Nat} : eOK z (iniM.1 q) (iniM.1 o) (iniM.2 q) (40, o) q (.inl (zI z, 177, .inl (fun _ => 0))) := ⟨_, rfl, rfl, fun i hi => ⟨fun _ => b59_ini (Int.le_refl 0), fun _ _ => b59_ini (Int.le_refl 0), fun _ => b59_ini (Int.le_refl 0)⟩⟩
theorem im_41 {z : Zt} {q o : Nat} : eOK z (iniM.1 q) (iniM.1 o) (iniM.2 q) (41, o) q (.inl (zI z, 59, .inl (fun _ => 0))) := ⟨_, rfl, rfl, fun i hi => (b59_ini (B := 0) (t := 0) (Int.le_refl 0))⟩
theorem im_42 {z : Zt} {q o : Nat} : eOK z (iniM.1 q) (iniM.1 o) (iniM.2 q) (42, o) q (.inl (zZ z, 2, .inl (fun _ => 0))) := ⟨_, rfl, fun i hi => (⟨(by show (0 : Int) ≤ (0 : Int32).toInt; decide), (by show (0 : Int32).toInt ≤ 1; decide), fun _ => (by show (0 : Int32).toInt = 0; decide), fun _ => (by show (0 : Int32).toInt = 0; decide)⟩ : p42 (iniM.1 o) i _)⟩
theorem im_43 {z : Zt} {q o : Nat} : eOK z (iniM.1 q) (iniM.1 o) (iniM.2 q) (43, o) q (.inl (zI z, 59, .inl (fun _ => 0))) := ⟨_, rfl, rfl, fun i hi => (d59_m0 z32)⟩
theorem im_44 {z : Zt} {q o : Nat} : eOK z (iniM.1 q) (iniM.1 o) (iniM.2 q) (44, o) q (.inl (zI z, 160, .inl (fun _ => 0))) := ⟨_, rfl, rfl, fun i hi => (⟨(by show (0 : Int) ≤ (0 : Int32).toInt; decide), (by show (0 : Int32).toInt ≤ 127; decide)⟩ : p44 (iniM.1 o) i _)⟩
theorem im_45 {z : Zt} {q o : Nat} : eOK z (iniM.1 q) (iniM.1 o) (iniM.2 q) (45, o) q (.inl (zI z, 5, .inl (fun _ => 0))) := ⟨_, rfl, rfl, fun i hi => (⟨(by show (0 : Int) ≤ (0 : Int32).toInt; decide), (by show (0 : Int32).toInt ≤ 4; decide)⟩ : p45 (iniM.1 o) i _)⟩
theorem im_46 {z : Zt} {q o : Nat} : eOK z (iniM.1 q) (iniM.1 o) (iniM.2 q) (46, o) q (.inl (zI z, 5, .inl (fun _ => 0))) := ⟨_, rfl, fun i hi => (⟨(by show (0 : Int) ≤ (0 : Int32).toInt; decide), (by show (0 : Int32).toInt ≤ 4; decide)⟩ : p46 (iniM.1 o) i _)⟩
theorem im_47 {z : Zt} {q o : Nat} {x0 x1 x2 x3 : Int32} (h0 : x0.toInt = -4) (h1 : x1.toInt = -4) (h2 : x2.toInt = -4) (h3 : x3.toInt = -4) : eOK z (iniM.1 q) (iniM.1 o) (iniM.2 q) (47, o) q (.inl (zI z, 4, .inl (upd (upd (upd (upd (fun _ => 0) 0 x0) 1 x1) 2 x2) 3 x3))) := ⟨_, rfl, fun i hi => by
  have key : ∀ x : Int32, x.toInt = -4 → ∀ j : Nat, j < 4 → p47 (iniM.1 o) j x.toInt := fun x hx j hj => by
    unfold p47
    have e : iniM.1 o (60 + j) = -4 := if_pos ⟨by omega, by omega⟩
    rw [e, hx]
    exact ⟨by decide, by decide, rfl⟩
  rcases (show i = 0 ∨ i = 1 ∨ i = 2 ∨ i = 3 by omega) with rfl | rfl | rfl | rfl
  · exact key x0 h0 0 (by decide)
  · exact key x1 h1 1 (by decide)
  · exact key x2 h2 2 (by decide)
  · exact key x3 h3 3 (by decide)⟩
theorem im_48 {z : Zt} {q o : Nat} : eOK z (iniM.1 q) (iniM.1 o) (iniM.2 q) (48, o) q (.inl (zI z, 4, .inl (fun _ => 0))) := ⟨_, rfl, fun i hi => (⟨(by show (0 : Int) ≤ (0 : Int32).toInt; decide), (by show (0 : Int32).toInt ≤ 40; decide), (by rw [show iniM.1 o (64 + i) = 0 from if_neg (by omega)]; exact z32)⟩ : p48 (iniM.1 o) i _)⟩
theorem im_49 {z : Zt} {q o : Nat} : eOK z (iniM.1 q) (iniM.1 o) (iniM.2 q) (49, o) q (.inl (zI z, 160, .inl (fun _ => 0))) := ⟨_, rfl, trivial⟩
theorem im_50 {z : Zt} {q o : Nat} : eOK z (iniM.1 q) (iniM.1 o) (iniM.2 q) (50, o) q (.inl (zI z, 59, .inl (fun _ => 0))) := ⟨_, rfl, fun i hi => (b59_ini (B := 0) (t := 0) (Int.le_refl 0))⟩
theorem ct_iast {p : Program} {l : Launch} {e : Env} {R : Room} {s : State} {m : MethodId} {args : Array Value} {below : List Frame} {meth : Method} {c : Code} {H H0 : Heap} {locs : List Loc} {cells slots : Nat} {Q : State → Prop} {cc : ByteArray} {pc : Nat} {ls : Array Slot} {rest : List Value} {z : Zt} {A : Nat → Prop} {a : Nat} {S : List (Nat × Nat)} {F : List (Nat × Nat × Nat)} {X : va_W} (hx : p.tables.exec = Jvm.exec) (hb : c.code = cc) (hK : va_K (zD z) vwCl (zT z) s) (hC : CT z S F A X H) (hS : va_S A H0 H locs) (q0 : Nat) {n : Nat} {f : Nat → Int32} (ha : X[q0]? = some (a, .inl (zI z, n, .inl f))) {i x : Int32} (k : Nat) (hi : i.toInt = k) (hkn : k < n) (hdg : decode cc pc = .ok (.iastore, 1))
    (kk : ∀ (H1 : Heap) (locs1 : List Loc), CT z S F A (X.set q0 (a, .inl (zI z, n, .inl (upd f k x)))) H1 → va_S A H0 H1 locs1 → W p l e R s m args below meth c H1 locs1 cells slots Q (F0 m (pc + 1) ls rest)) : W p l e R s m args below meth c H locs cells slots Q (F0 m pc ls (.int x :: .int i :: .ref a :: rest)) := by
  obtain ⟨L, G, ⟨E, hP, hD, hm, hE⟩, hb1, hF⟩ := hC
  have hX : q0 < X.length := (List.getElem?_eq_some_iff.mp ha).1
  have key : ∀ v', (X ++ va_pl L E).set q0 v' = X.set q0 v' ++ va_pl L E := fun v' => by rw [List.set_append_left _ _ hX]
  have hn : i.toNatClampNeg = k := by have := ix_nat (i := i) (by omega); omega
  refine va_iast (D := zD z) hx hb hK hP hD hS q0 0 (ge_l ha) rfl (fun q => ?_) hdg (fun H1 locs1 hP1 hD1 hS1 => ?_)
  · rcases q with q | q
    · have := Int32.lt_iff_toInt_lt.mp q
      rw [hi] at this
      exact absurd this (by simp)
    · rw [hn] at q
      omega
  · rw [hn] at hP1 hD1
    exact kk H1 locs1 ⟨L, G, ⟨E, by rw [← key]; exact hP1, by rw [← key]; exact hD1, hm, hE⟩, hb1, hF⟩ hS1
theorem CT.out {z : Zt} {S : List (Nat × Nat)} {F : List (Nat × Nat × Nat)} {A : Nat → Prop} {X : va_W} {H : Heap} (g : Gh) (h : CT z S F A X H) : TX (zx z [] (fun _ => (0, 0))) A g X H := by
  obtain ⟨L, G, ⟨E, hP, hD, hm, hE⟩, hb1, hF⟩ := h
  refine ⟨E, ?_, ?_, ?_, ?_⟩
  · show va_P (zD z) vwCl (X ++ []) H
    rw [List.append_nil]; exact fun k q hk => hP k q (ge_l hk)
  · show va_D A (X ++ [])
    rw [List.append_nil]; exact d_l hD
  · intro a ha; exact absurd rfl ha
  · intro a ha; cases ha
theorem bOK_0 {z : Zt} : bOK (zx z [] (fun _ => (0, 0))) [] := by
  refine ⟨?_, ?_, ?_⟩
  · intro a ha; exact absurd (show 20 ≤ 0 from ha) (by decide)
  · intro a b ha; exact absurd (show zuN 0 = true from ha) (by decide)
  · intro a ha; exact absurd rfl ha
theorem cm_end {z : Zt} {A : Nat → Prop} {X : va_W} {H : Heap} {h0 : Nat} {e0 : va_E} {g : Gh} (hT : TX (zx z [] (fun _ => (0, 0))) A g X H) (rl : List (Nat × Nat)) (S2 : List (Nat × Nat)) {r0 : Nat × Nat} (hX0 : X[0]? = some (h0, e0)) (hr0 : rl[0]? = some r0) (hlen : rl.length = X.length) (hn : ∀ r ∈ rl, r.1 ≠ 0) (hown : ∀ r ∈ rl, 20 ≤ r.1 → r.2 = h0) (hzu : ∀ (i j : Nat) (r : Nat × Nat), rl[i]? = some r → rl[j]? = some r → zuN r.1 = true → i = j) (hS : ∀ r ∈ rl, r.1 < 20 → r ∈ S2 ∧ r ∉ ([] : List (Nat × Nat)))
    (he : ∀ (L' : List Nat) (G' : Ga), (∀ (i q : Nat) (e : va_E) (r : Nat × Nat), X[i]? = some (q, e) → rl[i]? = some r → G' q = r) → ∀ (i q : Nat) (e : va_E) (r : Nat × Nat), X[i]? = some (q, e) → rl[i]? = some r → eOK (zx z L' G') (g.1 q) (g.1 r.2) (g.2 q) r q e) : ∃ (L : List Nat) (G : Ga), TY (zx z L G) A g H ∧ G h0 = r0 ∧ bOK (zx z L G) (S2 ++ []) := by
  have h1 := tx_close hT rl hlen hn (he _ (clG (zx z [] (fun _ => (0, 0))) X rl) (fun i q e r a1 a2 => cl_at hT rl i a1 a2))
  exact ⟨_, _, h1, cl_at hT rl 0 hX0 hr0, bOK_close hT rl S2 bOK_0 hX0 hown hlen hzu hS⟩
theorem ty_A {z : Zt} {A B : Nat → Prop} {g : Gh} {H : Heap} (h : TY z A g H) (hB : ∀ q, q ∈ zL z → B q) : TY z B g H := by
  obtain ⟨E, hP, hD, hm, hE⟩ := h
  refine ⟨E, hP, ⟨hD.1, fun k q hk => ?_⟩, hm, hE⟩
  obtain ⟨a, ha, rfl⟩ := List.mem_map.mp (List.mem_of_getElem? (show (va_pl (zL z) E)[k]? = some q from hk))
  exact hB _ ha
theorem ty_in {z : Zt} {A : Nat → Prop} {g : Gh} {H : Heap} (h : TY z A g H) {q : Nat} (hq : q ∈ zL z) : A q := by
  obtain ⟨E, hP, hD, hm, hE⟩ := h
  obtain ⟨k, hk⟩ := va_pl_get (X := []) (f := E) hq
  exact hD.2 k _ hk
theorem ty_dom {z : Zt} {A : Nat → Prop} {g : Gh} {H : Heap} (h : TY z A g H) {q : Nat} (hq : (zG z q).1 ≠ 0) : q ∈ zL z := by
  obtain ⟨E, hP, hD, hm, hE⟩ := h
  exact hm q hq
def MB (z : Zt) (A : Nat → Prop) (h0 : Nat) (H : Heap) : Prop := ∃ (L : List Nat) (G : Ga) (g : Gh), TY (zx z L G) A g H ∧ G h0 = (17, 0) ∧ bOK (zx z L G) [(17, 0)] ∧ wfM (g.1 h0) ∧ g.1 h0 40 = 0 ∧ ∀ i : Nat, i < 4 → g.1 h0 (60 + i) = -4 ∧ g.1 h0 (64 + i) = 0
def MPre (z : Zt) (h0 sz : Nat) (fs : List Value) : Array Value → State → Prop := va_Pc [.ref h0] (fun U => U.heap.size = sz ∧ va_P (zD z) vwCl [(h0, .inr (7, fs))] U.heap ∧ va_K (zD z) vwCl (zT z) U ∧ NW U ∧ SK (zx z [h0] (fun _ => (0, 0))) U U.heap)
theorem MPre.blind {z : Zt} {h0 sz : Nat} {fs : List Value} : FrameBlind (MPre z h0 sz fs) := fun a U g mk q => ⟨q.1, q.2.1, q.2.2.1, va_K.moved (u := U) (U := U.calling g mk a) (Vm.Alike.refl U.vm) q.2.2.2.1, NW.same (u := U) (U := U.calling g mk a) rfl q.2.2.2.2.1, SK.same (u := U) (U := U.calling g mk a) rfl q.2.2.2.2.2⟩
abbrev MQQ (z : Zt) (A : Nat → Prop) (h0 : Nat) : Array Value → State → Outcome → State → Prop := va_Qv (S := Unit) (fun _ => True) (fun _ t => MB z A h0 t.heap) A
