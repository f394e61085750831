theorem SK.mono {z : Zt} {L : List Nat} {G : Ga} {U : State} {H : Heap} (h : SK z U H) (hL : ∀ q, q < H.size → q ∈ L → q ∈ zL z) : SK (zx z L G) U H := by
  have key : ∀ (q : Nat) (cell : Cell), H[q]? = some cell → ¬ zA z q → ¬ zA (zx z L G) q := fun q cell h1 h2 h3 => h2 (hL q (Array.getElem?_eq_some_iff.mp h1).1 h3)
  obtain ⟨h1, h2, h3⟩ := h
  refine ⟨fun i hi => ⟨(h1 i hi).1, ?_⟩, ?_, ?_⟩
  · obtain ⟨t, a1, ⟨c1, b1, b2, b3, b4⟩, ⟨cf, kf, fi, f, c2, d1, d2, d3, d4, d5, d6⟩, ⟨cf', kf', fi', f', c3, e1, e2, e3, e4, e5, e6⟩, c4, g1, g2, g3, g4, g5, g6, g7⟩ := (h1 i hi).2
    exact ⟨t, a1, ⟨c1, b1, b2, b3, key _ _ b1 b4⟩, ⟨cf, kf, fi, f, c2, d1, d2, d3, d4, d5, key _ _ d3 d6⟩, ⟨cf', kf', fi', f', c3, e1, e2, e3, e4, e5, key _ _ e3 e6⟩, c4, g1, g2, g3, g4, g5, g6, key _ _ g1 g7⟩
  · obtain ⟨cf, kf, fi, f, a, cell, d1, d2, d3, d4, d5, d6, d7, d8⟩ := h2
    exact ⟨cf, kf, fi, f, a, cell, d1, d2, d3, d4, d5, d6, d7, key _ _ d5 d8⟩
  · rcases h3 with ⟨cf, kf, fi, f, a, cell, d1, d2, d3, d4, d5, d6, d7, d8⟩ | ⟨t, cf, kf, fi, f, a, cell, d1, d2, d3, d4, d5, d6, d7, d8⟩
    · exact Or.inl ⟨cf, kf, fi, f, a, cell, d1, d2, d3, d4, d5, d6, d7, key _ _ d5 d8⟩
    · exact Or.inr ⟨t, cf, kf, fi, f, a, cell, d1, d2, d3, d4, d5, d6, d7, key _ _ d5 d8⟩
theorem ct_iast {p : Program} {l : Launch} {e : Env} {R : Room} {s : State} {m : MethodId} {args : Array Value} {below : List Frame} {meth : Method} {c : Code} {H H0 : Heap} {locs : List Loc} {cells slots : Nat} {Q : State → Prop} {cc : ByteArray} {pc : Nat} {ls : Array Slot} {rest : List Value} {z : Zt} {A : Nat → Prop} {a : Nat} {S : List (Nat × Nat)} {F : List (Nat × Nat × Nat)} {X : va_W} (hx : p.tables.exec = Jvm.exec) (hb : c.code = cc) (hK : va_K (zD z) vwCl (zT z) s) (hC : CT z S F A X H) (hS : va_S A H0 H locs) (q0 : Nat) {n : Nat} {f : Nat → Int32} (ha : X[q0]? = some (a, .inl (zI z, n, .inl f))) {i x : Int32} (k : Nat) (hi : i.toInt = k) (hkn : k < n) (hdg : decode cc pc = .ok (.iastore, 1))
    (kk : ∀ (H1 : Heap) (locs1 : List Loc), CT z S F A (X.set q0 (a, .inl (zI z, n, .inl (upd f k x)))) H1 → va_S A H0 H1 locs1 → W p l e R s m args below meth c H1 locs1 cells slots Q (F0 m (pc + 1) ls rest)) : W p l e R s m args below meth c H locs cells slots Q (F0 m pc ls (.int x :: .int i :: .ref a :: rest)) := by
  obtain ⟨L, G, ⟨E, hP, hD, hm, hE⟩, hb1, hF⟩ := hC
  have hX : q0 < X.length := (List.getElem?_eq_some_iff.mp ha).1
  have key : ∀ v', (X ++ va_pl L E).set q0 v' = X.set q0 v' ++ va_pl L E := fun v' => by rw [List.set_append_left _ _ hX]
  have hn : i.toNatClampNeg = k := by have := ix_nat (i := i) (by omega); omega
  refine va_iast (D := zD z) hx hb hK hP hD hS q0 0 (ge_l ha) rfl (fun q => ?_) hdg (fun H1 locs1 hP1 hD1 hS1 => ?_)
  · rcases q with q | q
    · have := Int32.lt_iff_toInt_lt.mp q
      rw [hi] at this
      exact absurd this (by simp)
    · rw [hn] at q
      omega
  · rw [hn] at hP1 hD1
    exact kk H1 locs1 ⟨L, G, ⟨E, by rw [← key]; exact hP1, by rw [← key]; exact hD1, hm, hE⟩, hb1, hF⟩ hS1
theorem CT.out {z : Zt} {S : List (Nat × Nat)} {F : List (Nat × Nat × Nat)} {A : Nat → Prop} {X : va_W} {H : Heap} (h : CT z S F A X H) : TX (zx z [] (fun _ => (0, 0))) A X H := by
  obtain ⟨L, G, ⟨E, hP, hD, hm, hE⟩, hb1, hF⟩ := h
  refine ⟨E, ?_, ?_, ?_, ?_⟩
  · show va_P (zD z) vwCl (X ++ []) H
    rw [List.append_nil]; exact fun k q hk => hP k q (ge_l hk)
  · show va_D A (X ++ [])
    rw [List.append_nil]; exact d_l hD
  · intro a ha; exact absurd rfl ha
  · intro a ha; cases ha
theorem bOK_0 {z : Zt} : bOK (zx z [] (fun _ => (0, 0))) [] := by
  refine ⟨?_, ?_⟩
  · intro a b ha; exact absurd rfl ha
  · intro a ha; exact absurd rfl ha
theorem cm_end {z : Zt} {A : Nat → Prop} {X : va_W} {H : Heap} {h0 : Nat} {e0 : va_E} (hT : TX (zx z [] (fun _ => (0, 0))) A X H) (rl : List (Nat × Nat)) {r0 : Nat × Nat} (hX0 : X[0]? = some (h0, e0)) (hr0 : rl[0]? = some r0) (hlen : rl.length = X.length) (hn : ∀ r ∈ rl, r.1 ≠ 0) (hzu : ∀ (i j : Nat) (r : Nat × Nat), rl[i]? = some r → rl[j]? = some r → i = j)
    (he : ∀ (L' : List Nat) (G' : Ga), (∀ (i q : Nat) (e : va_E) (r : Nat × Nat), X[i]? = some (q, e) → rl[i]? = some r → G' q = r) → ∀ (i q : Nat) (e : va_E) (r : Nat × Nat), X[i]? = some (q, e) → rl[i]? = some r → eOK (zx z L' G') (iniS r.2 r.1) r e) : ∃ (L : List Nat) (G : Ga), TX (zx z L G) A [] H ∧ G h0 = r0 ∧ bOK (zx z L G) (rl ++ []) := by
  have h1 := tx_close hT rl hlen hn (he _ (clG (zx z [] (fun _ => (0, 0))) X rl) (fun i q e r a1 a2 => cl_at hT rl i a1 a2))
  exact ⟨_, _, h1, cl_at hT rl 0 hX0 hr0, bOK_close hT rl bOK_0 hlen hn hzu (fun r _ => List.not_mem_nil)⟩
theorem ty_A {z : Zt} {A B : Nat → Prop} {σ : Sg} {H : Heap} (h : TY z A σ H) (hB : ∀ q, q ∈ zL z → B q) : TY z B σ H := by
  obtain ⟨E, hP, hD, hm, hz, hE⟩ := h
  refine ⟨E, hP, ⟨hD.1, fun k q hk => ?_⟩, hm, hz, hE⟩
  obtain ⟨a, ha, rfl⟩ := List.mem_map.mp (List.mem_of_getElem? (show (va_pl (zL z) E)[k]? = some q from hk))
  exact hB _ ha
theorem ty_in {z : Zt} {A : Nat → Prop} {σ : Sg} {H : Heap} (h : TY z A σ H) {q : Nat} (hq : q ∈ zL z) : A q := by
  obtain ⟨E, hP, hD, hm, hz, hE⟩ := h
  obtain ⟨k, hk⟩ := va_pl_get (X := []) (f := E) hq
  exact hD.2 k _ hk
theorem ty_dom {z : Zt} {A : Nat → Prop} {σ : Sg} {H : Heap} (h : TY z A σ H) {q : Nat} (hq : (zG z q).1 ≠ 0) : q ∈ zL z := by
  obtain ⟨E, hP, hD, hm, hz, hE⟩ := h
  exact hm q hq
def MB (z : Zt) (A : Nat → Prop) (h0 : Nat) (φ2 : Lo) (H : Heap) : Prop := ∃ (L : List Nat) (G : Ga) (σ : Sg), TY (zx z L G) A σ H ∧ G h0 = (17, 13) ∧ bOK (zx z L G) ([(17, 13), (40, 13), (41, 13), (42, 13), (43, 13), (44, 13), (45, 13), (46, 13), (47, 13), (48, 13), (49, 13), (50, 13)] ++ []) ∧ σ 13 = φ2
def MPre (z : Zt) (h0 sz : Nat) (fs : List Value) : Array Value → State → Prop := va_Pc [.ref h0] (fun U => U.heap.size = sz ∧ va_P (zD z) vwCl [(h0, .inr (7, fs))] U.heap ∧ va_K (zD z) vwCl (zT z) U ∧ NW U ∧ SK (zx z [h0] (fun _ => (0, 0))) U U.heap)
theorem MPre.blind {z : Zt} {h0 sz : Nat} {fs : List Value} : FrameBlind (MPre z h0 sz fs) := fun a U g mk q => ⟨q.1, q.2.1, q.2.2.1, va_K.moved (u := U) (U := U.calling g mk a) (Vm.Alike.refl U.vm) q.2.2.2.1, NW.same (u := U) (U := U.calling g mk a) rfl q.2.2.2.2.1, SK.same (u := U) (U := U.calling g mk a) rfl q.2.2.2.2.2⟩
abbrev MQQ (z : Zt) (A : Nat → Prop) (h0 : Nat) (φ2 : Lo) : Array Value → State → Outcome → State → Prop := va_Qv (S := Unit) (fun _ => True) (fun _ t => MB z A h0 φ2 t.heap) A
