def NW (U : State) : Prop := (va_Nw (.methodLinkNest "HeelDance" 18 yX0_init "HeelDance") U ∧ va_Nw (.methodLinkNest "HeelDance" 33 yX5_init "HeelDance") U ∧ va_Nw (.methodLinkNest "HeelDance" 51 yX3_init "HeelDance") U ∧ va_Nw (.methodLinkNest "HeelDance" 9 yX4_init "HeelDance") U ∧ va_Nw (.methodLinkNest "HeelDance$Evening" 11 yX1_init "HeelDance") U ∧ va_Nw (.methodLinkNest "HeelDance$Search" 27 yX1_init "HeelDance") U ∧ va_Nw (.methodLinkNest "HeelDance$Tape" 17 yX0_init "HeelDance") U ∧ va_Nw (.methodLinkNest "HeelDance$Walk" 11 yX1_init "HeelDance") U) ∧ va_AO "HeelDance$Evening" U ∧ va_AO "HeelDance$Floor" U ∧ va_AO "HeelDance$Sheet" U
theorem NW.warm {s U : State} (hW : s.WarmedH U.vm) (h : NW s) : NW U := by
  obtain ⟨⟨h1, h2, h3, h4, h5, h6, h7, h8⟩, a1, a2, a3⟩ := h
  exact ⟨⟨va_Nw.warmM hW h1, va_Nw.warmM hW h2, va_Nw.warmM hW h3, va_Nw.warmM hW h4, va_Nw.warmM hW h5, va_Nw.warmM hW h6, va_Nw.warmM hW h7, va_Nw.warmM hW h8⟩, va_AO.moved hW.alike a1, va_AO.moved hW.alike a2, va_AO.moved hW.alike a3⟩
theorem NW.same {u U : State} (hv : u.vm = U.vm) (h : NW u) : NW U := by
  have hl : u.vm.Alike U.vm := by rw [hv]; exact Vm.Alike.refl _
  obtain ⟨⟨h1, h2, h3, h4, h5, h6, h7, h8⟩, a1, a2, a3⟩ := h
  exact ⟨⟨va_Nw.same rfl hv h1, va_Nw.same rfl hv h2, va_Nw.same rfl hv h3, va_Nw.same rfl hv h4, va_Nw.same rfl hv h5, va_Nw.same rfl hv h6, va_Nw.same rfl hv h7, va_Nw.same rfl hv h8⟩, va_AO.moved hl a1, va_AO.moved hl a2, va_AO.moved hl a3⟩
theorem cl_cases {z : Zt} {X : va_W} {rl : List (Nat × Nat)} (hlen : rl.length = X.length) (hap : apart X) (a : Nat) : (∃ (i : Nat) (e : va_E) (r : Nat × Nat), X[i]? = some (a, e) ∧ rl[i]? = some r ∧ zG (clZ z X rl) a = r) ∨ ((∀ (i : Nat) (e : va_E), X[i]? ≠ some (a, e)) ∧ zG (clZ z X rl) a = zG z a) := by
  show (∃ (i : Nat) (e : va_E) (r : Nat × Nat), X[i]? = some (a, e) ∧ rl[i]? = some r ∧ (look X rl a).getD (zG z a) = r) ∨ ((∀ (i : Nat) (e : va_E), X[i]? ≠ some (a, e)) ∧ (look X rl a).getD (zG z a) = zG z a)
  cases hq : look X rl a with
  | some r =>
    obtain ⟨i, e, h1, h2⟩ := look_some hq
    exact Or.inl ⟨i, e, r, h1, h2, rfl⟩
  | none =>
    refine Or.inr ⟨fun i e hi => ?_, rfl⟩
    have hl : i < rl.length := by rw [hlen]; exact (List.getElem?_eq_some_iff.mp hi).1
    have := look_at hap i hi (List.getElem?_eq_some_iff.mpr ⟨hl, rfl⟩)
    rw [hq] at this
    cases this
theorem bOK_close {z : Zt} {A : Nat → Prop} {X : va_W} {H : Heap} (h : TX z A X H) (rl : List (Nat × Nat)) {S : List (Nat × Nat)} (hb : bOK z S) (hlen : rl.length = X.length) (hn : ∀ r ∈ rl, r.1 ≠ 0) (hzu : ∀ (i j : Nat) (r : Nat × Nat), rl[i]? = some r → rl[j]? = some r → i = j) (hS : ∀ r ∈ rl, r ∉ S) : bOK (clZ z X rl) (rl ++ S) := by
  obtain ⟨E, hP, hD, hm, hE⟩ := h
  have hap := ap_l hD
  obtain ⟨hz, hi⟩ := hb
  refine ⟨fun a b ha hab => ?_, fun a ha => ?_⟩
  · rcases cl_cases (z := z) hlen hap a with ⟨i, e, r, h1, h2, h3⟩ | ⟨h1, h3⟩
    · rcases cl_cases (z := z) hlen hap b with ⟨j, e', r', k1, k2, k3⟩ | ⟨k1, k3⟩
      · rw [h3] at ha hab
        rw [k3] at hab
        subst hab
        have := hzu i j r h2 k2
        subst this
        have := h1.symm.trans k1
        exact congrArg Prod.fst (Option.some.inj this)
      · exfalso
        rw [h3] at ha hab
        rw [k3] at hab
        have h5 := hS r (List.mem_of_getElem? h2)
        rw [hab] at h5 ha
        exact h5 (hi b ha)
    · rcases cl_cases (z := z) hlen hap b with ⟨j, e', r', k1, k2, k3⟩ | ⟨k1, k3⟩
      · exfalso
        rw [h3] at ha hab
        rw [k3] at hab
        have h5 := hS r' (List.mem_of_getElem? k2)
        rw [← hab] at h5
        exact h5 (hi a ha)
      · rw [h3] at ha hab
        rw [k3] at hab
        exact hz a b ha hab
  · rcases cl_cases (z := z) hlen hap a with ⟨i, e, r, h1, h2, h3⟩ | ⟨h1, h3⟩
    · rw [h3]
      exact List.mem_append_left _ (List.mem_of_getElem? h2)
    · rw [h3] at ha ⊢
      exact List.mem_append_right _ (hi a ha)
theorem bOK_join {z : Zt} {L1 : List Nat} {G1 : Ga} {S S1 : List (Nat × Nat)} (hb : bOK z S) (hb1 : bOK (zx z L1 G1) S1) (hd : ∀ r ∈ S1, r ∉ S) : bOK (jnZ z (zx z L1 G1)) (S1 ++ S) := by
  obtain ⟨hz, hi⟩ := hb
  obtain ⟨hz1, hi1⟩ := hb1
  have gi : ∀ a, a ∈ L1 → zG (jnZ z (zx z L1 G1)) a = G1 a := fun a ha => jnG_in (z := z) (z1 := zx z L1 G1) ha
  have gn : ∀ a, a ∉ L1 → zG (jnZ z (zx z L1 G1)) a = zG z a := fun a ha => jnG_no (z := z) (z1 := zx z L1 G1) ha
  have cross : ∀ a b, (G1 a).1 ≠ 0 → G1 a = zG z b → False := fun a b hu hab => by
    have h5 := hd _ (hi1 a hu)
    have h6 := hi b (by rw [← hab]; exact hu)
    rw [← hab] at h6
    exact h5 h6
  refine ⟨fun a b ha hab => ?_, fun a ha => ?_⟩
  · by_cases q : a ∈ L1
    · by_cases q2 : b ∈ L1
      · rw [gi a q] at ha hab
        rw [gi b q2] at hab
        exact hz1 a b ha hab
      · rw [gi a q] at ha hab
        rw [gn b q2] at hab
        exact (cross a b ha hab).elim
    · by_cases q2 : b ∈ L1
      · rw [gn a q] at ha hab
        rw [gi b q2] at hab
        exact (cross b a (by rw [← hab]; exact ha) hab.symm).elim
      · rw [gn a q] at ha hab
        rw [gn b q2] at hab
        exact hz a b ha hab
  · by_cases q : a ∈ L1
    · rw [gi a q] at ha ⊢
      exact List.mem_append_left _ (hi1 a ha)
    · rw [gn a q] at ha ⊢
      exact List.mem_append_right _ (hi a ha)
def CT (z : Zt) (S : List (Nat × Nat)) (F : List (Nat × Nat × Nat)) (A : Nat → Prop) (X : va_W) (H : Heap) : Prop := ∃ (L : List Nat) (G : Ga), TX (zx z L G) A X H ∧ bOK (zx z L G) S ∧ ∀ p ∈ F, G p.1 = p.2 ∧ p.2.1 ≠ 0
theorem CT.ini {z : Zt} {A : Nat → Prop} {X : va_W} {H : Heap} (hP : va_P (zD z) vwCl X H) (hD : va_D A X) : CT z [] [] A X H := by
  refine ⟨[], fun _ => (0, 0), ⟨fun _ => .inr (0, []), ?_, ?_, ?_, ?_⟩, ⟨?_, ?_⟩, ?_⟩
  · show va_P (zD z) vwCl (X ++ []) H
    rw [List.append_nil]; exact hP
  · show va_D A (X ++ [])
    rw [List.append_nil]; exact hD
  · intro a ha; exact absurd rfl ha
  · intro a ha; cases ha
  · intro a b ha; exact absurd rfl ha
  · intro a ha; exact absurd rfl ha
  · intro p hp; cases hp
theorem d_l {A : Nat → Prop} {w1 w2 : va_W} (h : va_D A (w1 ++ w2)) : va_D A w1 := ⟨ap_l h, fun k q hk => h.2 k q (by rw [List.getElem?_append_left (List.getElem?_eq_some_iff.mp hk).1]; exact hk)⟩
theorem ge_r {w1 w2 : va_W} {k : Nat} {q : Nat × va_E} (hk : w2[k]? = some q) : (w1 ++ w2)[w1.length + k]? = some q := by
  rw [List.getElem?_append_right (Nat.le_add_right _ _), Nat.add_sub_cancel_left]; exact hk
theorem ge_l {w1 w2 : va_W} {k : Nat} {q : Nat × va_E} (hk : w1[k]? = some q) : (w1 ++ w2)[k]? = some q := by
  rw [List.getElem?_append_left (List.getElem?_eq_some_iff.mp hk).1]; exact hk
theorem d_r {A : Nat → Prop} {w1 w2 : va_W} (h : va_D A (w1 ++ w2)) : va_D A w2 := ⟨fun i j p q h1 h2 h3 => by
  have := h.1 _ _ p q (ge_r (w1 := w1) h1) (ge_r (w1 := w1) h2) h3
  omega, fun k q hk => h.2 _ q (ge_r hk)⟩
theorem d_x {A : Nat → Prop} {w1 w2 : va_W} (h : va_D A (w1 ++ w2)) {i j : Nat} {p q : Nat × va_E} (h1 : w1[i]? = some p) (h2 : w2[j]? = some q) : p.1 ≠ q.1 := fun h3 => by
  have := h.1 _ _ p q (ge_l h1) (ge_r (w1 := w1) h2) h3
  have := (List.getElem?_eq_some_iff.mp h1).1
  omega
abbrev rmC (f lo mc ms : Nat) : Room := { frames := f, cells := mc, slots := ms, locals := lo }
def NB (z : Zt) (A : Nat → Prop) (r : Nat × Nat) (h0 : Nat) (S : List (Nat × Nat)) (H : Heap) : Prop := ∃ (L : List Nat) (G : Ga), TX (zx z L G) A [] H ∧ G h0 = r ∧ r.1 ≠ 0 ∧ bOK (zx z L G) S
def IPre (z : Zt) (h0 sz ci : Nat) (fs : List Value) : Array Value → State → Prop := va_Pc [.ref h0] (fun U => U.heap.size = sz ∧ va_P (zD z) vwCl [(h0, .inr (ci, fs))] U.heap ∧ va_K (zD z) vwCl (zT z) U ∧ NW U)
theorem IPre.blind {z : Zt} {h0 sz ci : Nat} {fs : List Value} : FrameBlind (IPre z h0 sz ci fs) := fun a U g mk q => ⟨q.1, q.2.1, q.2.2.1, va_K.moved (u := U) (U := U.calling g mk a) (Vm.Alike.refl U.vm) q.2.2.2.1, NW.same (u := U) (U := U.calling g mk a) rfl q.2.2.2.2⟩
abbrev IQ (z : Zt) (A : Nat → Prop) (r : Nat × Nat) (h0 : Nat) (S : List (Nat × Nat)) : Array Value → State → Outcome → State → Prop := va_Qv (S := Unit) (fun _ => True) (fun _ t => NB z A r h0 S t.heap) A
def cBI (y : MethodName) (cd : ByteArray) (n : Nat) : Prop := Cond.instanceMethod y ∈ lw_ok ∧ Cond.initialized y.cls ∈ lw_ok ∧ Cond.code y cd n none ∈ lw_ok ∧ y.name = "<init>" ∧ (y.cls ≠ "java/lang/invoke/MethodHandle" ∧ y.cls ≠ "java/lang/invoke/VarHandle" ∧ (parseMethodDescriptor y.desc).map (fun d => d.parameters.length) = some 0)
/-- a made bundle comes into the pool -/
theorem ct_in {z : Zt} {S S1 : List (Nat × Nat)} {F : List (Nat × Nat × Nat)} {A : Nat → Prop} {X : va_W} {H H1 : Heap} {q : Nat} {e : va_E} {r : Nat × Nat} (hC : CT z S F A (X ++ [(q, e)]) H) (hF : ∀ q', va_A [(q, e)] H.size q' → A q') (hd : ∀ r ∈ S1, r ∉ S) (hk : ∀ q' : Nat, q' < H.size → ¬ va_A [(q, e)] H.size q' → H1[q']? = H[q']?) (hB : NB z (va_A [(q, e)] H.size) r q S1 H1) : CT z (S1 ++ S) ((q, r) :: F) A X H1 := by
  obtain ⟨L, G, ⟨E, hP, hD, hm, hE⟩, hb, hFs⟩ := hC
  obtain ⟨L1, G1, ⟨E1, hP1, hD1, hm1, hE1⟩, hG1, hr0, hb1⟩ := hB
  have hP1 : va_P (zD z) vwCl (va_pl L1 E1) H1 := hP1
  have hD1 : va_D (va_A [(q, e)] H.size) (va_pl L1 E1) := hD1
  have hXq := d_l hD
  -- the rest lies below, apart from q
  have nX : ∀ (k : Nat) (x : Nat × va_E), X[k]? = some x → x.1 < H.size ∧ x.1 ≠ q := fun k x hx => ⟨(hP k x (ge_l (ge_l hx))).lt, d_x hXq hx (j := 0) (q := (q, e)) rfl⟩
  have nP : ∀ (k : Nat) (x : Nat × va_E), (va_pl L E)[k]? = some x → x.1 < H.size ∧ x.1 ≠ q := fun k x hx => ⟨(hP _ x (ge_r hx)).lt, fun h => (d_x hD (i := X.length) (p := (q, e)) (by rw [show X.length = X.length + 0 from rfl]; exact ge_r rfl) hx) h.symm⟩
  have nA : ∀ a : Nat, a < H.size → a ≠ q → ¬ va_A [(q, e)] H.size a := fun a h1 h2 h3 => by
    rcases h3 with ⟨k, e', hk'⟩ | h3
    · have hz : k < 1 := (List.getElem?_eq_some_iff.mp hk').1
      rw [show k = 0 by omega] at hk'
      exact h2 (congrArg Prod.fst (Option.some.inj hk')).symm
    · omega
  have in1 : ∀ (k : Nat) (x : Nat × va_E), (va_pl L1 E1)[k]? = some x → va_A [(q, e)] H.size x.1 := fun k x hx => hD1.2 k x hx
  have hP2 : va_P (zD z) vwCl ((X ++ va_pl L1 E1) ++ va_pl L E) H1 := by
    refine va_P.app (va_P.app (fun k x hx => ?_) hP1) (fun k x hx => ?_)
    · exact (hP k x (ge_l (ge_l hx))).kept (hk x.1 (nX k x hx).1 (nA _ (nX k x hx).1 (nX k x hx).2))
    · exact (hP _ x (ge_r hx)).kept (hk x.1 (nP k x hx).1 (nA _ (nP k x hx).1 (nP k x hx).2))
  have hD2 : va_D A ((X ++ va_pl L1 E1) ++ va_pl L E) := by
    have dX : va_D A X := d_l hXq
    have d1 : va_D A (va_pl L1 E1) := hD1.weaken (fun k x hx h => hF x.1 h)
    have dP : va_D A (va_pl L E) := d_r hD
    refine va_D.app (va_D.app dX d1 (fun i j x y hx hy => ?_)) dP (fun i j x y hx hy => ?_)
    · intro h
      exact nA x.1 (nX i x hx).1 (nX i x hx).2 (by rw [h]; exact in1 j y hy)
    · intro h
      rcases List.mem_append.mp (List.mem_of_getElem? hx) with h2 | h2
      · obtain ⟨i2, hi2⟩ := List.getElem?_of_mem h2
        exact d_x hD (ge_l hi2) hy h
      · obtain ⟨i2, hi2⟩ := List.getElem?_of_mem h2
        exact nA y.1 (nP j y hy).1 (nP j y hy).2 (by rw [← h]; exact in1 i2 x hi2)
  have dis : ∀ a, a ∈ L → a ∉ L1 := fun a ha h1 => by
    obtain ⟨i, hi⟩ := List.getElem?_of_mem (show (a, E a) ∈ va_pl L E from List.mem_map.mpr ⟨a, ha, rfl⟩)
    obtain ⟨j, hj⟩ := List.getElem?_of_mem (show (a, E1 a) ∈ va_pl L1 E1 from List.mem_map.mpr ⟨a, h1, rfl⟩)
    exact nA a (nP i _ hi).1 (nP i _ hi).2 (in1 j _ hj)
  have h5 := tx_join (z := zx z L G) (X := X) (L1 := L1) (G1 := G1) E E1 hP2 hD2 hm hm1 hE hE1
  refine ⟨L1 ++ L, jnG (zx z L G) (zx z L1 G1), h5, bOK_join (z := zx z L G) hb hb1 hd, fun p hp => ?_⟩
  rcases List.mem_cons.mp hp with rfl | hp
  · refine ⟨?_, hr0⟩
    rw [jnG_in (show q ∈ zL (zx z L1 G1) from hm1 q (by show (G1 q).1 ≠ 0; rw [hG1]; exact hr0))]
    exact hG1
  · obtain ⟨h6, h7⟩ := hFs p hp
    refine ⟨?_, h7⟩
    rw [jnG_no (show p.1 ∉ zL (zx z L1 G1) from dis _ (hm p.1 (by show (G p.1).1 ≠ 0; rw [h6]; exact h7)))]
    exact h6
section CTS
variable {p : Program} {l : Launch} {e : Env} {R : Room} {s : State} {m : MethodId} {args : Array Value} {below : List Frame} {meth : Method} {c : Code} {H H0 : Heap} {locs : List Loc} {cells slots : Nat} {Q : State → Prop}
variable {cc : ByteArray} {pc : Nat} {ls : Array Slot} {rest : List Value} {z : Zt} {A : Nat → Prop} {a o index : Nat} {own : String} {S : List (Nat × Nat)} {F : List (Nat × Nat × Nat)} {X : va_W}
theorem ct_newI (hx : p.tables.exec = Jvm.exec) (hb : c.code = cc) (hts : ∀ w ∈ lw_ok, w.before args s = true) (hK : va_K (zD z) vwCl (zT z) s) (hC : CT z S F A X H) (hS : va_S A H0 H locs) (hA : ∀ q, H0.size ≤ q → A q) (N : Nat) {n : Int32} (hn : n.toInt = N) (hbytes : N * 4 ≤ 536870912) (hcells : cells + 1 ≤ R.cells) (hslots : slots + N ≤ R.slots) (hdg : decode cc pc = .ok (.newarray .int, 2))
    (kk : ∀ (q : Nat) (H1 : Heap), CT z S F A (X ++ [(q, .inl (zI z, N, .inl (fun _ => 0)))]) H1 → va_S A H0 H1 locs → W p l e R s m args below meth c H1 locs (cells + 1) (slots + N) Q (F0 m (pc + 2) ls (.ref q :: rest))) : W p l e R s m args below meth c H locs cells slots Q (F0 m pc ls (.int n :: rest)) := by
  obtain ⟨L, G, ⟨E, hP, hD, hm, hE⟩, hb1, hF⟩ := hC
  refine va_newa (N' := N) (a0 := (N, .inl (fun _ => 0))) hx hb (atype := .int) (hts (.arrayClass .int) mw_1_88) rfl hK hP hD hS hA (fun cA => rfl) (fun q => by have := Int32.lt_iff_toInt_lt.mp q; rw [hn] at this; exact absurd this (by simp)) (by have := ix_nat (i := n) (by omega); omega) hbytes hcells hslots hdg (fun q cA H1 hK1 hP1 hD1 hS1 => ?_)
  have h1 : s.vm.findClass _ = some cA := (hK1.2 5 (cA, .int) rfl).2
  have h2 : s.vm.findClass _ = some (zI z) := (hK.2 0 (zI z, .int) rfl).2
  have hcA : cA = zI z := Option.some.inj (h1.symm.trans h2)
  subst hcA
  exact kk q H1 ⟨L, G, ⟨E, hP1.swap, hD1.swap, hm, hE⟩, hb1, hF⟩ hS1
theorem ct_newZ (hx : p.tables.exec = Jvm.exec) (hb : c.code = cc) (hts : ∀ w ∈ lw_ok, w.before args s = true) (hK : va_K (zD z) vwCl (zT z) s) (hC : CT z S F A X H) (hS : va_S A H0 H locs) (hA : ∀ q, H0.size ≤ q → A q) (N : Nat) {n : Int32} (hn : n.toInt = N) (hbytes : N * 1 ≤ 536870912) (hcells : cells + 1 ≤ R.cells) (hslots : slots + N ≤ R.slots) (hdg : decode cc pc = .ok (.newarray .boolean, 2))
    (kk : ∀ (q : Nat) (H1 : Heap), CT z S F A (X ++ [(q, .inl (zZ z, N, .inl (fun _ => 0)))]) H1 → va_S A H0 H1 locs → W p l e R s m args below meth c H1 locs (cells + 1) (slots + N) Q (F0 m (pc + 2) ls (.ref q :: rest))) : W p l e R s m args below meth c H locs cells slots Q (F0 m pc ls (.int n :: rest)) := by
  obtain ⟨L, G, ⟨E, hP, hD, hm, hE⟩, hb1, hF⟩ := hC
  refine va_newa (N' := N) (a0 := (N, .inl (fun _ => 0))) hx hb (atype := .boolean) (hts (.arrayClass .boolean) mw_1_188) rfl hK hP hD hS hA (fun cA => rfl) (fun q => by have := Int32.lt_iff_toInt_lt.mp q; rw [hn] at this; exact absurd this (by simp)) (by have := ix_nat (i := n) (by omega); omega) hbytes hcells hslots hdg (fun q cA H1 hK1 hP1 hD1 hS1 => ?_)
  have h1 : s.vm.findClass _ = some cA := (hK1.2 5 (cA, .boolean) rfl).2
  have h2 : s.vm.findClass _ = some (zZ z) := (hK.2 1 (zZ z, .boolean) rfl).2
  have hcA : cA = zZ z := Option.some.inj (h1.symm.trans h2)
  subst hcA
  exact kk q H1 ⟨L, G, ⟨E, hP1.swap, hD1.swap, hm, hE⟩, hb1, hF⟩ hS1
theorem ct_newq (hx : p.tables.exec = Jvm.exec) (hb : c.code = cc) {C : String} (t0 : Nat) {cZ : ClassId} (ht0 : (zT z)[t0]? = some (cZ, .object C)) (hown : s.vm.findClass own = some m.cls) (hcl : (Cond.classLink own index C).before args s = true) (hao : va_AO C s) (hK : va_K (zD z) vwCl (zT z) s) (hC : CT z S F A X H) (hS : va_S A H0 H locs) (hA : ∀ q, H0.size ≤ q → A q) (N : Nat) {n : Int32} (hn : n.toInt = N) (hbytes : N * 4 ≤ 536870912) (hcells : cells + 1 ≤ R.cells) (hslots : slots + N ≤ R.slots) (hdg : decode cc pc = .ok (.anewarray index, 3))
    (kk : ∀ (q : Nat) (H1 : Heap), CT z S F A (X ++ [(q, .inl (cZ, N, .inr (.inr (.inr (.inr (fun _ => none))))))]) H1 → va_S A H0 H1 locs → W p l e R s m args below meth c H1 locs (cells + 1) (slots + N) Q (F0 m (pc + 3) ls (.ref q :: rest))) : W p l e R s m args below meth c H locs cells slots Q (F0 m pc ls (.int n :: rest)) := by
  obtain ⟨L, G, ⟨E, hP, hD, hm, hE⟩, hb1, hF⟩ := hC
  refine va_newq (N' := N) hx hb hown hcl hao hK hP hD hS hA (fun q => by have := Int32.lt_iff_toInt_lt.mp q; rw [hn] at this; exact absurd this (by simp)) (by have := ix_nat (i := n) (by omega); omega) hbytes hcells hslots hdg (fun q cA H1 hK1 hP1 hD1 hS1 => ?_)
  obtain ⟨kA, comp, -, -, -, h1⟩ := (hK1.2 5 (cA, .object C) rfl).2
  obtain ⟨kA2, comp2, -, -, -, h2⟩ := (hK.2 t0 (cZ, .object C) ht0).2
  have hcA : cA = cZ := Option.some.inj (h1.symm.trans h2)
  subst hcA
  exact kk q H1 ⟨L, G, ⟨E, hP1.swap, hD1.swap, hm, hE⟩, hb1, hF⟩ hS1
theorem ct_new (hx : p.tables.exec = Jvm.exec) (hb : c.code = cc) (hts : ∀ w ∈ lw_ok, w.before args s = true) {C : String} {T : u_T} {N ci : Nat} (hin : ∀ w ∈ u_ws C T N, w ∈ lw_ok) (ty : Nat → FieldType) (hty : ∀ k, k < N → parseFieldDescriptor (T k).2.2.1 = some (ty k)) (hown : s.vm.findClass own = some m.cls) (hcl : Cond.classLink own index C ∈ lw_ok) (hinst : Cond.instantiable C N ∈ lw_ok) (hini : Cond.initialized C ∈ lw_ok) (hK : va_K (zD z) vwCl (zT z) s) (hC : CT z S F A X H) (hS : va_S A H0 H locs) (hA : ∀ q, H0.size ≤ q → A q) (hc : vwCl[ci]? = some (C, T, N)) {fs : List Value} (hfs : ∀ j, j < N → defaultValue (ty j) = vp_V fs j) (hcells : cells + 1 ≤ R.cells) (hslots : slots + N ≤ R.slots) (hdg : decode cc pc = .ok (.new index, 3))
    (kk : ∀ (q : Nat) (H1 : Heap), CT z S F A (X ++ [(q, .inr (ci, fs))]) H1 → va_S A H0 H1 locs → W p l e R s m args below meth c H1 locs (cells + 1) (slots + N) Q (F0 m (pc + 3) ls (.ref q :: rest))) : W p l e R s m args below meth c H locs cells slots Q (F0 m pc ls rest) := by
  obtain ⟨L, G, ⟨E, hP, hD, hm, hE⟩, hb1, hF⟩ := hC
  refine va_new (fs := fs) hx hb hts hin ty hty hown (hts _ hcl) (hts _ hinst) (hts _ hini) hK hP hD hS hA hc hfs hcells hslots hdg (fun q H1 hP1 hD1 hS1 => ?_)
  exact kk q H1 ⟨L, G, ⟨E, hP1.swap, hD1.swap, hm, hE⟩, hb1, hF⟩ hS1
theorem ct_put (hx : p.tables.exec = Jvm.exec) (hb : c.code = cc) (hts : ∀ w ∈ lw_ok, w.before args s = true) {C : String} {T : u_T} {N ci : Nat} (hin : ∀ w ∈ u_ws C T N, w ∈ lw_ok) (ty0 : Nat → FieldType) (hty : ∀ k, k < N → parseFieldDescriptor (T k).2.2.1 = some (ty0 k)) (hnm : ∀ a, a < N → ∀ b, b < N → a ≠ b → (T a).2.1 ≠ (T b).2.1) (hown : s.vm.findClass own = some m.cls) (hK : va_K (zD z) vwCl (zT z) s) (hC : CT z S F A X H) (hS : va_S A H0 H locs) {fs : List Value} (he : X[0]? = some (a, .inr (ci, fs))) (hc : vwCl[ci]? = some (C, T, N)) (k : Nat) (hk : k < N) (hlink : Cond.fieldLink own index (T k).1 (T k).2.1 (T k).2.2.1 ∈ lw_ok) (hin2 : meth.name = "<init>") (hdecl : (T k).1 = own) {ty : FieldType} {v : Value} (hd : parseFieldDescriptor (T k).2.2.1 = some ty) (hn : narrow ty v = v) (hfit : fits ty v = true) (hl : k < fs.length) (hdg : decode cc pc = .ok (.putfield index, 3))
    (kk : ∀ (H1 : Heap) (locs1 : List Loc), CT z S F A (X.set 0 (a, .inr (ci, fs.set k v))) H1 → va_S A H0 H1 locs1 → W p l e R s m args below meth c H1 locs1 cells slots Q (F0 m (pc + 3) ls rest)) : W p l e R s m args below meth c H locs cells slots Q (F0 m pc ls (v :: .ref a :: rest)) := by
  obtain ⟨L, G, ⟨E, hP, hD, hm, hE⟩, hb1, hF⟩ := hC
  have hX : 0 < X.length := (List.getElem?_eq_some_iff.mp he).1
  have key : ∀ v', (X ++ va_pl L E).set 0 v' = X.set 0 v' ++ va_pl L E := fun v' => by rw [List.set_append_left _ _ hX]
  cases hf : (T k).2.2.2 with
  | true =>
    refine va_putF (D := zD z) (ty := ty) hx hb hts hin ty0 hty hnm hown hK hP hD hS 0 (ge_l he) hc k hk (hts _ hlink) (fun _ h9 => h9) hf hin2 hdecl hd hn hfit hl hdg (fun H1 locs1 hP1 hD1 hS1 => ?_)
    exact kk H1 locs1 ⟨L, G, ⟨E, by rw [← key]; exact hP1, by rw [← key]; exact hD1, hm, hE⟩, hb1, hF⟩ hS1
  | false =>
    refine va_put (D := zD z) (ty := ty) hx hb hts hin ty0 hty hnm hown hK hP hD hS 0 (ge_l he) hc k hk (hts _ hlink) (fun _ h9 => h9) hf hd hn hfit hl hdg (fun H1 locs1 hP1 hD1 hS1 => ?_)
    exact kk H1 locs1 ⟨L, G, ⟨E, by rw [← key]; exact hP1, by rw [← key]; exact hD1, hm, hE⟩, hb1, hF⟩ hS1
theorem ct_get (hx : p.tables.exec = Jvm.exec) (hb : c.code = cc) (hts : ∀ w ∈ lw_ok, w.before args s = true) {C : String} {T : u_T} {N ci : Nat} (hin : ∀ w ∈ u_ws C T N, w ∈ lw_ok) (hown : s.vm.findClass own = some m.cls) (hK : va_K (zD z) vwCl (zT z) s) (hC : CT z S F A X H) {fs : List Value} (he : X[0]? = some (a, .inr (ci, fs))) (hc : vwCl[ci]? = some (C, T, N)) (k : Nat) (hk : k < N) (hlink : Cond.fieldLink own index (T k).1 (T k).2.1 (T k).2.2.1 ∈ lw_ok) {v : Value} (hv : fs[k]? = some v) (hdg : decode cc pc = .ok (.getfield index, 3))
    (kk : W p l e R s m args below meth c H locs cells slots Q (F0 m (pc + 3) ls (v :: rest))) : W p l e R s m args below meth c H locs cells slots Q (F0 m pc ls (.ref a :: rest)) := by
  obtain ⟨L, G, ⟨E, hP, hD, hm, hE⟩, hb1, hF⟩ := hC
  exact va_get (D := zD z) hx hb hts hin hown hK hP 0 (ge_l he) hc k hk (hts _ hlink) (fun _ h9 => h9) hv hdg kk
theorem ct_call {y : MethodName} {bytes : ByteArray} {maxL nL f lo mc ms : Nat} {r : Nat × Nat} {q ci : Nat} {fs : List Value} {S1 : List (Nat × Nat)} (host : Option String) (hC0 : CallFix p m c cc nL s args lw_ok own) (hK : va_K (zD z) vwCl (zT z) s) (hNW : NW s) (hM : ∀ sz, Met l y (uw y bytes maxL none) (rmC f lo mc ms) (IPre z q sz ci fs) (IQ z (va_A [(q, .inr (ci, fs))] sz) r q S1) mc ms (va_A [(q, .inr (ci, fs))] sz)) (hk : cBI y bytes maxL) (hl : match host with | none => Cond.methodLink own index y ∈ lw_ok | some h => va_Nw (.methodLinkNest own index y h) s) (hR : f + 1 ≤ R.frames ∧ 8 + (maxL + 11) + lo ≤ R.locals) (hCT : CT z S F A (X ++ [(q, .inr (ci, fs))]) H) (hd : ∀ r ∈ S1, r ∉ S) (hsz : ls.size = nL) (hrm : (rest.map fun v => v.category).sum ≤ 8) (hdg : decode cc pc = .ok (.invokespecial index, 3)) (hf : cells + mc ≤ R.cells ∧ slots + ms ≤ R.slots) (hS : va_S A s.heap H locs) (hA : ∀ q, s.heap.size ≤ q → A q)
    (kk : ∀ (H1 : Heap) (locs1 : List Loc), CT z (S1 ++ S) ((q, r) :: F) A X H1 → va_S A s.heap H1 locs1 → W p l e R s m args below meth c H1 locs1 (cells + mc) (slots + ms) Q (F0 m (pc + 3) ls rest)) : W p l e R s m args below meth c H locs cells slots Q (F0 m pc ls (.ref q :: rest)) := by
  have hFc : ∀ q', va_A [(q, .inr (ci, fs))] H.size q' → A q' := fun q' h => by
    obtain ⟨L, G, ⟨E, hP, hD, hm, hE⟩, hb1, hF⟩ := hCT
    rcases h with ⟨k, e', hk'⟩ | h
    · have hz : k < 1 := (List.getElem?_eq_some_iff.mp hk').1
      rw [show k = 0 by omega] at hk'
      have : q = q' := congrArg Prod.fst (Option.some.inj hk')
      subst this
      exact hD.2 X.length (q, .inr (ci, fs)) (ge_l (by rw [show X.length = X.length + 0 from rfl]; exact ge_r rfl))
    · exact hA q' (Nat.le_trans hS.1 h)
  have hPc : va_P (zD z) vwCl [(q, .inr (ci, fs))] H := by
    obtain ⟨L, G, ⟨E, hP, hD, hm, hE⟩, hb1, hF⟩ := hCT
    intro k x hx'
    have hz : k < 1 := (List.getElem?_eq_some_iff.mp hx').1
    rw [show k = 0 by omega] at hx'
    cases hx'
    exact hP X.length (q, .inr (ci, fs)) (ge_l (by rw [show X.length = X.length + 0 from rfl]; exact ge_r rfl))
  have hp : PreS s H (IPre z q H.size ci fs) [.ref q] := ⟨IPre.blind, fun U hU hW => ⟨rfl, by rw [hU], by rw [hU]; exact hPc, va_K.moved hW.alike hK, NW.warm hW hNW⟩⟩
  have hr : va_Run p l e R s m args below meth c H locs cells slots mc ms (F0 m pc ls (.ref q :: rest)) rest (IQ z (va_A [(q, .inr (ci, fs))] H.size) r q S1 (Value.ref q :: []).toArray) (va_A [(q, .inr (ci, fs))] H.size) := by
    cases host with
    | none => exact va_runI (As := []) (rest := rest) hC0 (hM H.size) ⟨callB_of 0 hC0.2.2.2.2 (uw_G hk.2.2.1) rfl rfl rfl (hC0.2.2.2.2 _ hk.2.1) (hC0.2.2.2.2 _ hl) hk.2.2.2.2 hR, hk.2.2.2.1, hC0.2.2.2.2 _ hk.1⟩ hp rfl rfl hsz rfl (lv_room hrm) hdg hf
    | some h => exact va_runIN (As := []) (rest := rest) (host := h) hC0 (hM H.size) ⟨va_cnB 0 hC0.2.2.2.2 (uw_G hk.2.2.1) rfl rfl rfl hl (hC0.2.2.2.2 _ hk.2.1) hk.2.2.2.2 hR, hk.2.2.2.1, hC0.2.2.2.2 _ hk.1⟩ hp rfl rfl hsz rfl (lv_room hrm) hdg hf
  refine va_callv hr hS (fun q' _ h => hFc q' h) hFc (fun u t H1 locs1 ht hvm hw hB hz1 hk1 hS1 => ?_)
  subst ht
  exact kk _ _ (ct_in hCT hFc hd hk1 hB) hS1
theorem ct_ast (hx : p.tables.exec = Jvm.exec) (hb : c.code = cc) (hK : va_K (zD z) vwCl (zT z) s) (hC : CT z S F A X H) (hS : va_S A H0 H locs) (q0 t0 ci : Nat) {cA : ClassId} {r : vw_C} {n v : Nat} {f : Nat → Option Nat} (ha : X[q0]? = some (a, .inl (cA, n, .inr (.inr (.inr (.inr f)))))) (ht : (zT z)[t0]? = some (cA, .object r.1)) (hc : vwCl[ci]? = some r) {rv : Nat × Nat} (hv : (v, rv) ∈ F) (hrv : ∀ (z : Zt) (ga : Nat → Int) (e : va_E), eOK z ga rv e → ∃ vs, e = .inr (ci, vs)) {i : Int32} (k : Nat) (hi : i.toInt = k) (hkn : k < n) (hdg : decode cc pc = .ok (.aastore, 1))
    (kk : ∀ (H1 : Heap) (locs1 : List Loc), CT z S F A (X.set q0 (a, .inl (cA, n, .inr (.inr (.inr (.inr (va_up f k (some v)))))))) H1 → va_S A H0 H1 locs1 → W p l e R s m args below meth c H1 locs1 cells slots Q (F0 m (pc + 1) ls rest)) : W p l e R s m args below meth c H locs cells slots Q (F0 m pc ls (.ref v :: .int i :: .ref a :: rest)) := by
  obtain ⟨L, G, ⟨E, hP, hD, hm, hE⟩, hb1, hF⟩ := hC
  have hX : q0 < X.length := (List.getElem?_eq_some_iff.mp ha).1
  have key : ∀ v', (X ++ va_pl L E).set q0 v' = X.set q0 v' ++ va_pl L E := fun v' => by rw [List.set_append_left _ _ hX]
  obtain ⟨h1, h2⟩ := hF (v, rv) hv
  have hL : v ∈ L := hm v (by show (G v).1 ≠ 0; rw [show G v = rv from h1]; exact h2)
  have he := hE v hL
  rw [show zG (zx z L G) v = rv from h1] at he
  obtain ⟨vs, hvs⟩ := hrv _ _ _ he
  obtain ⟨kv, hkv⟩ := va_pl_get (X := X) (f := E) hL
  rw [hvs] at hkv
  have hn : i.toNatClampNeg = k := by have := ix_nat (i := i) (by omega); omega
  refine va_astq (D := zD z) hx hb hK hP hD hS q0 t0 kv ci (ge_l ha) ht hkv hc (fun q => ?_) hdg (fun H1 locs1 hP1 hD1 hS1 => ?_)
  · rcases q with q | q
    · have := Int32.lt_iff_toInt_lt.mp q
      rw [hi] at this
      exact absurd this (by simp)
    · rw [hn] at q
      omega
  · rw [hn] at hP1 hD1
    exact kk H1 locs1 ⟨L, G, ⟨E, by rw [← key]; exact hP1, by rw [← key]; exact hD1, hm, hE⟩, hb1, hF⟩ hS1
end CTS
theorem rv_11 {o : Nat} : ∀ (z : Zt) (ga : Nat → Int) (e : va_E), eOK z ga (11, o) e → ∃ vs, e = .inr (1, vs) := fun z ga e h => by
  obtain ⟨q0, q1, q2, q3, q4, q5, q6, q7, x8, x9, h9, h⟩ : eFloor z ga o e := h
  exact ⟨_, h9⟩
theorem rv_10 {o : Nat} : ∀ (z : Zt) (ga : Nat → Int) (e : va_E), eOK z ga (10, o) e → ∃ vs, e = .inr (0, vs) := fun z ga e h => by
  obtain ⟨q0, q1, q2, q3, q4, q5, x6, x7, h9, h⟩ : eEvening z ga o e := h
  exact ⟨_, h9⟩
theorem rv_13 {o : Nat} : ∀ (z : Zt) (ga : Nat → Int) (e : va_E), eOK z ga (13, o) e → ∃ vs, e = .inr (3, vs) := fun z ga e h => by
  obtain ⟨q0, x1, x2, h9, h⟩ : eSheet z ga o e := h
  exact ⟨_, h9⟩
/-- the end of a constructor -/
theorem ct_end {z : Zt} {S : List (Nat × Nat)} {F : List (Nat × Nat × Nat)} {A : Nat → Prop} {X : va_W} {H : Heap} {h0 : Nat} {e0 : va_E} (hC : CT z S F A X H) (rl : List (Nat × Nat)) {r0 : Nat × Nat} (hX0 : X[0]? = some (h0, e0)) (hr0 : rl[0]? = some r0) (hlen : rl.length = X.length) (hn : ∀ r ∈ rl, r.1 ≠ 0) (hzu : ∀ (i j : Nat) (r : Nat × Nat), rl[i]? = some r → rl[j]? = some r → i = j) (hS : ∀ r ∈ rl, r ∉ S)
    (he : ∀ (L' : List Nat) (G' : Ga), (∀ p ∈ F, G' p.1 = p.2) → (∀ (i q : Nat) (e : va_E) (r : Nat × Nat), X[i]? = some (q, e) → rl[i]? = some r → G' q = r) → ∀ (i q : Nat) (e : va_E) (r : Nat × Nat), X[i]? = some (q, e) → rl[i]? = some r → eOK (zx z L' G') (iniS r.2 r.1) r e) : NB z A r0 h0 (rl ++ S) H := by
  obtain ⟨L, G, hT, hb, hF⟩ := hC
  have h1 := tx_close hT rl hlen hn (he _ (clG (zx z L G) X rl) (fun p hp => cl_old hT rl (n := p.2.1) (o := p.2.2) (hF p hp).1 (hF p hp).2) (fun i q e r a1 a2 => cl_at hT rl i a1 a2))
  exact ⟨_, _, h1, cl_at hT rl 0 hX0 hr0, hn r0 (List.mem_of_getElem? hr0), bOK_close hT rl hb hlen hn hzu hS⟩
theorem zu_rl {rl : List (Nat × Nat)} (ro : List Nat) (h : rl.map Prod.fst = ro) (hd : ∀ i, i < ro.length → ∀ j, j < ro.length → ro.getD i 0 = ro.getD j 0 → i = j) : ∀ (i j : Nat) (r : Nat × Nat), rl[i]? = some r → rl[j]? = some r → i = j := by
  intro i j r h1 h2
  subst h
  have e1 : (rl.map Prod.fst)[i]? = some r.1 := by rw [List.getElem?_map, h1]; rfl
  have e2 : (rl.map Prod.fst)[j]? = some r.1 := by rw [List.getElem?_map, h2]; rfl
  have g1 : (rl.map Prod.fst).getD i 0 = r.1 := by rw [List.getD_eq_getElem?_getD, e1]; rfl
  have g2 : (rl.map Prod.fst).getD j 0 = r.1 := by rw [List.getD_eq_getElem?_getD, e2]; rfl
  exact hd i (List.getElem?_eq_some_iff.mp e1).1 j (List.getElem?_eq_some_iff.mp e2).1 (by rw [g1, g2])
theorem vd_one {q sz : Nat} {e : va_E} : va_D (va_A [(q, e)] sz) [(q, e)] := by
  refine ⟨fun i j p r h1 h2 _ => ?_, fun k x hx => va_A.in hx⟩
  have a1 : i < 1 := (List.getElem?_eq_some_iff.mp h1).1
  have a2 : j < 1 := (List.getElem?_eq_some_iff.mp h2).1
  omega
