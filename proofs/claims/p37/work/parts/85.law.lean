/-! the two sides at first -/
theorem TY_GD {z : Zt} {A : Nat → Prop} {σ : Sg} {H : Heap} {h2 : Nat} (hT : TY z A σ H) (g2 : zG z h2 = (17, 13)) : GD (σ 13) := by
  obtain ⟨E, hP, hD, hm, hz, hE⟩ := hT
  have h1 := hE h2 (hm h2 (by rw [g2]; decide))
  rw [g2] at h1
  obtain ⟨q0, _, _, _, _, _, _, _, _, _, _, _, _, _, _, _, _, _, _, _, _, _, _, _, _, _, -, g40, -⟩ := (show eModel z (σ 13 17) 13 (E h2) from h1)
  have h3 := hE q0 (hm q0 (by rw [g40]; decide))
  rw [g40] at h3
  obtain ⟨f, -, hf⟩ := (show a40 z (σ 13 40) (E q0) from h3)
  intro i hi
  obtain ⟨a, b⟩ := hf i hi
  rw [a] at b
  exact b
theorem ini_rl {φ1 φ2 : Lo} (h1 : D_X7_firstDraft (iniS 13) = some φ1) (h2 : D_X7_keepDraft φ1 = some φ2) : rlS 0 (gset iniS 13 φ2) := by
  obtain ⟨M1, a1, ar, a17, a43, a5, a6, a7, a8⟩ := D_fd (iniS 13)
  have e1 : M1 = φ1 := Option.some.inj (a1.symm.trans h1)
  subst e1
  obtain ⟨M2, b1, br, b17, b40, b3, b420, b421⟩ := D_kd M1
  have e2 : M2 = φ2 := Option.some.inj (b1.symm.trans h2)
  subst e2
  have i0 : ∀ o r i, r ≠ 13 → r ≠ 47 → iniS o r i = 0 := fun o r i a b => iniS_0 a b
  have dr : DR (iniS 1) M1 := DR_0 (i0 _ _ _ (by decide) (by decide)) (i0 _ _ _ (by decide) (by decide)) (fun w _ => i0 _ _ _ (by decide) (by decide)) (i0 _ _ _ (by decide) (by decide)) (i0 _ _ _ (by decide) (by decide)) (i0 _ _ _ (by decide) (by decide)) a43 a5 a6 a7 a8
  obtain ⟨n, n5, n8, n17, hF, hE⟩ := DR_FE dr
  have en : n = 0 := by
    have := i0 1 11 8 (by decide) (by decide)
    omega
  subst en
  have g : ∀ o, o ≠ 13 → gset iniS 13 M2 o = iniS o := fun o h => gset_ne _ _ h
  have m17 : ∀ i, 8 < i → M2 17 i = 0 := fun i hi => by rw [b17 i (by omega), a17 i (by omega)]; exact i0 _ _ _ (by decide) (by decide)
  have mr : ∀ r, r ≠ 40 → r ≠ 17 → r ≠ 42 → r ≠ 43 → M2 r = iniS 13 r := fun r x y u v => by rw [br r x y u, ar r y v]
  refine ⟨?_, ?_, ?_, ?_, fun k hk => ?_⟩
  · rw [g 1 (by decide), gset_at]
    exact ⟨by rw [b3]; exact n17, FF_cg hF rfl rfl (fun _ _ => ⟨rfl, rfl, rfl, rfl, rfl⟩) (fun i hi => b40 i (by omega)), EE_cg hE (fun _ _ => rfl) rfl (fun _ _ => rfl) rfl (fun _ _ => ⟨rfl, rfl, rfl⟩) (fun i a b c => b40 i b)⟩
  · rw [g 0 (by decide), g 3 (by decide), g 4 (by decide), gset_at]
    refine ⟨⟨?_, Or.inl b420⟩, ⟨?_, Or.inl b421⟩, fun q => ?_, fun q => ?_⟩
    · rw [b420]; exact i0 _ _ _ (by decide) (by decide)
    · rw [b421]; exact i0 _ _ _ (by decide) (by decide)
    · rw [b420] at q; exact absurd q (by decide)
    · rw [b421] at q; exact absurd q (by decide)
  · rw [g 2 (by decide), gset_at]
    have e : iniS 2 14 2 = 0 := i0 _ _ _ (by decide) (by decide)
    refine ⟨⟨by rw [e, m17 10 (by decide)], by rw [e]; decide, by rw [e]; decide⟩, fun i hi => ?_⟩
    rw [e] at hi
    omega
  · rw [g 0 (by decide), gset_at]
    exact ⟨by rw [m17 15 (by decide)]; exact i0 _ _ _ (by decide) (by decide), by rw [m17 24 (by decide)]; exact i0 _ _ _ (by decide) (by decide)⟩
  · rw [g (20 + k) (by omega), gset_at]
    unfold RSh
    rw [mr 47 (by decide) (by decide) (by decide) (by decide), mr 48 (by decide) (by decide) (by decide) (by decide), mr 49 (by decide) (by decide) (by decide) (by decide)]
    have e1 : iniS (20 + k) 13 1 = -1 := if_pos ⟨rfl, rfl⟩
    have e2 : iniS (20 + k) 13 2 = 0 := (if_neg (fun q => absurd q.2 (by decide))).trans (if_neg (by decide))
    have e3 : iniS 13 47 k = -4 := (if_neg (fun q => absurd q.1 (by decide))).trans (if_pos rfl)
    have e4 : iniS 13 48 k = 0 := i0 _ _ _ (by decide) (by decide)
    refine ⟨Or.inl ⟨e1, e3⟩, ⟨by rw [e2, e4], by rw [e2]; decide, by rw [e2]; decide⟩, fun i _ => ?_⟩
    rw [i0 _ 23 _ (by decide) (by decide), i0 _ 49 _ (by decide) (by decide)]
/-- the law's first acts: both objects stand -/
theorem cm_in {z : Zt} {S : List (Nat × Nat)} {h1 q : Nat} {A : Nat → Prop} {H H1 : Heap} {e : va_E} {φ2 : Lo} (hC : CT z S [(h1, (16, 0))] A [(q, e)] H) (hF : ∀ q', va_A [(q, e)] H.size q' → A q') (hk : ∀ q' : Nat, q' < H.size → ¬ va_A [(q, e)] H.size q' → H1[q']? = H[q']?) (hS : ∀ r ∈ S, r.2 ≠ 13) (hB : MB z (va_A [(q, e)] H.size) q φ2 H1) : ∃ (L : List Nat) (G : Ga), TY (zx z L G) (zA (zx z L G)) (gset iniS 13 φ2) H1 ∧ G h1 = (16, 0) ∧ G q = (17, 13) ∧ (∀ p ∈ L, A p) := by
  obtain ⟨L, G, ⟨E, hP, hD, hm, hE⟩, hb, hFs⟩ := hC
  obtain ⟨L1, G1, σ1, ⟨E1, hP1, hD1, hm1, hz1, hE1⟩, hG1, hb1, hσ⟩ := hB
  have hP1 : va_P (zD z) vwCl (va_pl L1 E1) H1 := hP1
  have hD1 : va_D (va_A [(q, e)] H.size) (va_pl L1 E1) := hD1
  have nP : ∀ (k : Nat) (x : Nat × va_E), (va_pl L E)[k]? = some x → x.1 < H.size ∧ x.1 ≠ q := fun k x hx => ⟨(hP _ x (ge_r hx)).lt, fun h => (d_x hD (i := 0) (p := (q, e)) rfl hx) h.symm⟩
  have nA : ∀ a : Nat, a < H.size → a ≠ q → ¬ va_A [(q, e)] H.size a := fun a h1 h2 h3 => by
    rcases h3 with ⟨k, e', hk'⟩ | h3
    · have hz : k < 1 := (List.getElem?_eq_some_iff.mp hk').1
      rw [show k = 0 by omega] at hk'
      exact h2 (congrArg Prod.fst (Option.some.inj hk')).symm
    · omega
  have in1 : ∀ (k : Nat) (x : Nat × va_E), (va_pl L1 E1)[k]? = some x → va_A [(q, e)] H.size x.1 := fun k x hx => hD1.2 k x hx
  have hP2 : va_P (zD z) vwCl (([] ++ va_pl L1 E1) ++ va_pl L E) H1 := by
    refine va_P.app hP1 (fun k x hx => ?_)
    exact (hP _ x (ge_r hx)).kept (hk x.1 (nP k x hx).1 (nA _ (nP k x hx).1 (nP k x hx).2))
  have hD2 : va_D A (([] ++ va_pl L1 E1) ++ va_pl L E) := by
    have d1 : va_D A (va_pl L1 E1) := hD1.weaken (fun k x hx h => hF x.1 h)
    have dP : va_D A (va_pl L E) := d_r hD
    refine va_D.app d1 dP (fun i j x y hx hy h => ?_)
    exact nA y.1 (nP j y hy).1 (nP j y hy).2 (by rw [← h]; exact in1 i x hx)
  have dis : ∀ a, a ∈ L → a ∉ L1 := fun a ha h1 => by
    obtain ⟨i, hi⟩ := List.getElem?_of_mem (show (a, E a) ∈ va_pl L E from List.mem_map.mpr ⟨a, ha, rfl⟩)
    obtain ⟨j, hj⟩ := List.getElem?_of_mem (show (a, E1 a) ∈ va_pl L1 E1 from List.mem_map.mpr ⟨a, h1, rfl⟩)
    exact nA a (nP i _ hi).1 (nP i _ hi).2 (in1 j _ hj)
  have key : ([] ++ va_pl L1 E1) ++ va_pl L E = [] ++ va_pl (L1 ++ L) (fun a => @ite va_E (a ∈ L1) (Classical.propDecidable _) (E1 a) (E a)) := by
    rw [List.append_assoc, va_pl_app]
    congr 2
    · exact va_pl_on (fun a ha => (if_pos ha).symm)
    · exact va_pl_on (fun a ha => (if_neg (dis a ha)).symm)
  have s13 : ∀ r ∈ ([(17, 13), (40, 13), (41, 13), (42, 13), (43, 13), (44, 13), (45, 13), (46, 13), (47, 13), (48, 13), (49, 13), (50, 13)] ++ [] : List (Nat × Nat)), r.2 = 13 := by decide
  have hbj := bOK_join (z := zx z L G) (S := S) hb hb1 (fun r hr hs => hS r hs (s13 r hr))
  have gi : ∀ a, a ∈ L1 → jnG (zx z L G) (zx z L1 G1) a = G1 a := fun a ha => jnG_in (z := zx z L G) (z1 := zx z L1 G1) ha
  have gn : ∀ a, a ∉ L1 → jnG (zx z L G) (zx z L1 G1) a = G a := fun a ha => jnG_no (z := zx z L G) (z1 := zx z L1 G1) ha
  have hqL : q ∈ L1 := hm1 q (by show (G1 q).1 ≠ 0; rw [hG1]; exact Nat.succ_ne_zero _)
  have nz : ∀ (Z : Zt) (ga : Nat → Int) (r : Nat × Nat) (x : va_E), eOK Z ga r x → r.1 ≠ 0 := fun Z ga r x h h0 => by
    obtain ⟨r1, r2⟩ := r
    have h0 : r1 = 0 := h0
    subst h0
    exact h
  have hT : TY (zx z (L1 ++ L) (jnG (zx z L G) (zx z L1 G1))) A (gset iniS 13 φ2) H1 := by
    refine ⟨fun a => @ite va_E (a ∈ L1) (Classical.propDecidable _) (E1 a) (E a), by rw [key] at hP2; exact hP2, by rw [key] at hD2; exact hD2, fun a ha => ?_, hbj.1, fun a ha => ?_⟩
    · by_cases y : a ∈ L1
      · exact List.mem_append_left _ y
      · have h2 : (jnG (zx z L G) (zx z L1 G1) a).1 ≠ 0 := ha
        rw [gn a y] at h2
        exact List.mem_append_right _ (hm a h2)
    · show eOK (zx z (L1 ++ L) (jnG (zx z L G) (zx z L1 G1))) (gset iniS 13 φ2 (jnG (zx z L G) (zx z L1 G1) a).2 (jnG (zx z L G) (zx z L1 G1) a).1) (jnG (zx z L G) (zx z L1 G1) a) (@ite va_E (a ∈ L1) (Classical.propDecidable _) (E1 a) (E a))
      by_cases y : a ∈ L1
      · rw [if_pos y, gi a y]
        have h5 : eOK (zx z L1 G1) (σ1 (G1 a).2 (G1 a).1) (G1 a) (E1 a) := hE1 a y
        have h6 := eOK_mono (L := L1 ++ L) (G := jnG (zx z L G) (zx z L1 G1)) (fun p hp => gi p (hm1 p hp)) h5
        have h7 : (G1 a).2 = 13 := s13 _ (hb1.2 a (nz _ _ _ _ h5))
        rw [h7, gset_at, ← hσ, ← h7]
        exact h6
      · rw [if_neg y, gn a y]
        have hz : a ∈ L := by
          rcases List.mem_append.mp (show a ∈ L1 ++ L from ha) with h | h
          · exact absurd h y
          · exact h
        have h5 : eOK (zx z L G) (iniS (G a).2 (G a).1) (G a) (E a) := hE a hz
        have h6 := eOK_mono (L := L1 ++ L) (G := jnG (zx z L G) (zx z L1 G1)) (fun p hp => gn p (dis p (hm p hp))) h5
        rw [gset_ne _ _ (hS _ (hb.2 a (nz _ _ _ _ h5)))]
        exact h6
  refine ⟨L1 ++ L, jnG (zx z L G) (zx z L1 G1), ty_A hT (fun _ h => h), ?_, ?_, fun p hp => ty_in hT hp⟩
  · obtain ⟨h6, h7⟩ := hFs (h1, (16, 0)) List.mem_cons_self
    rw [gn h1 (dis _ (hm h1 (by show (G h1).1 ≠ 0; rw [show G h1 = (16, 0) from h6]; exact Nat.succ_ne_zero _)))]
    exact h6
  · rw [gi q hqL]; exact hG1
theorem cm_call {p : Program} {l : Launch} {e : Env} {R : Room} {s : State} {m : MethodId} {args : Array Value} {below : List Frame} {meth : Method} {c : Code} {H : Heap} {locs : List Loc} {cells slots : Nat} {Q : State → Prop} {cc : ByteArray} {pc : Nat} {ls : Array Slot} {rest : List Value} {z : Zt} {A : Nat → Prop} {index : Nat} {own : String} {S : List (Nat × Nat)} {y : MethodName} {bytes : ByteArray} {maxL nL f lo mc ms q h1 : Nat} {φ2 : Lo} {fs : List Value} (hC0 : CallFix p m c cc nL s args lw_ok own) (hK : va_K (zD z) vwCl (zT z) s) (hNW : NW s) (hSK : SK (zx z [q] (fun _ => (0, 0))) s s.heap) (hM : ∀ sz, Met l y (uw y bytes maxL none) (rmC f lo mc ms) (MPre z q sz fs) (MQQ z (va_A [(q, .inr (7, fs))] sz) q φ2) mc ms (va_A [(q, .inr (7, fs))] sz)) (hk : cBI y bytes maxL) (hl : Cond.methodLink own index y ∈ lw_ok) (hR : f + 1 ≤ R.frames ∧ 8 + (maxL + 11) + lo ≤ R.locals) (hCT : CT z S [(h1, (16, 0))] A [(q, .inr (7, fs))] H) (hd : ∀ r ∈ S, r.2 ≠ 13) (hsz : ls.size = nL) (hrm : (rest.map fun v => v.category).sum ≤ 8) (hdg : decode cc pc = .ok (.invokespecial index, 3)) (hf : cells + mc ≤ R.cells ∧ slots + ms ≤ R.slots) (hS : va_S A s.heap H locs) (hA : ∀ q, s.heap.size ≤ q → A q) (hqA : s.heap.size ≤ q)
    (hAs : ∀ q', q' < s.heap.size → ¬ A q') (kk : ∀ (L9 : List Nat) (G9 : Ga) (H1 : Heap) (locs1 : List Loc), TY (zx z L9 G9) (zA (zx z L9 G9)) (gset iniS 13 φ2) H1 → G9 h1 = (16, 0) → G9 q = (17, 13) → (∀ p ∈ L9, A p) → va_S A s.heap H1 locs1 → W p l e R s m args below meth c H1 locs1 (cells + mc) (slots + ms) Q (F0 m (pc + 3) ls rest)) : W p l e R s m args below meth c H locs cells slots Q (F0 m pc ls (.ref q :: rest)) := by
  have hFc : ∀ q', va_A [(q, .inr (7, fs))] H.size q' → A q' := fun q' h => by
    obtain ⟨L, G, ⟨E, hP, hD, hm, hE⟩, hb1, hF⟩ := hCT
    rcases h with ⟨k, e', hk'⟩ | h
    · have hz : k < 1 := (List.getElem?_eq_some_iff.mp hk').1
      rw [show k = 0 by omega] at hk'
      have : q = q' := congrArg Prod.fst (Option.some.inj hk')
      subst this
      exact hD.2 0 (q, .inr (7, fs)) rfl
    · exact hA q' (Nat.le_trans hS.1 h)
  have hPc : va_P (zD z) vwCl [(q, .inr (7, fs))] H := by
    obtain ⟨L, G, ⟨E, hP, hD, hm, hE⟩, hb1, hF⟩ := hCT
    intro k x hx'
    have hz : k < 1 := (List.getElem?_eq_some_iff.mp hx').1
    rw [show k = 0 by omega] at hx'
    cases hx'
    exact hP 0 (q, .inr (7, fs)) rfl
  have hSKH : SK (zx z [q] (fun _ => (0, 0))) s H := hSK.kept (fun a h1 h2 => hS.2.1 a h1 (hAs a h1))
  have hp : PreS s H (MPre z q H.size fs) [.ref q] := ⟨MPre.blind, fun U hU hW => ⟨rfl, by rw [hU], by rw [hU]; exact hPc, va_K.moved hW.alike hK, NW.warm hW hNW, by rw [hU]; exact hSKH.warm hW⟩⟩
  have hr : va_Run p l e R s m args below meth c H locs cells slots mc ms (F0 m pc ls (.ref q :: rest)) rest (MQQ z (va_A [(q, .inr (7, fs))] H.size) q φ2 (Value.ref q :: []).toArray) (va_A [(q, .inr (7, fs))] H.size) := va_runI (As := []) (rest := rest) hC0 (hM H.size) ⟨callB_of 0 hC0.2.2.2.2 (uw_G hk.2.2.1) rfl rfl rfl (hC0.2.2.2.2 _ hk.2.1) (hC0.2.2.2.2 _ hl) hk.2.2.2.2 hR, hk.2.2.2.1, hC0.2.2.2.2 _ hk.1⟩ hp rfl rfl hsz rfl (lv_room hrm) hdg hf
  refine va_callv hr hS (fun q' _ h => hFc q' h) hFc (fun u t H1 locs1 ht hvm hw hB hz1 hk1 hS1 => ?_)
  subst ht
  obtain ⟨L9, G9, a1, a2, a3, a4⟩ := cm_in hCT hFc hk1 hd hB
  exact kk L9 G9 _ _ a1 a2 a3 a4 hS1
