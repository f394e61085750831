/-! the two sides: the tape's length and the sheets -/
def RelT (z : Zt) (h1 h2 : Nat) (v : Nat → Nat → Int) (tl : Int) : Prop := (∀ q, zG z q = (14, h1) → v q 30 = tl) ∧ v h2 40 = tl
def RelS (z : Zt) (h2 : Nat) (v : Nat → Nat → Int) : Prop := ∀ k q : Nat, k < 4 → zG z q = (13, k) → (v q 34 = -1 ∧ v h2 (60 + k) = -4) ∨ (v q 34 ≠ -1 ∧ v h2 (60 + k) ≠ -4 ∧ v q 34 = v h2 (60 + k) ∧ v q 35 = v h2 (64 + k))
def Rel (z : Zt) (h1 h2 : Nat) (v : Nat → Nat → Int) : Prop := (∃ tl, RelT z h1 h2 v tl) ∧ RelS z h2 v
theorem vT_k {z : Zt} {v : Nat → Nat → Int} {f : Nat} {t : Int} {a k : Nat} (h : k ≠ 30) : vT z v f t a k = v a k := vT_ne (fun q => h q.2)
theorem vM_k {v : Nat → Nat → Int} {f : Nat} {t : Int} {a k : Nat} (h : k ≠ 40) : vM v f t a k = v a k := if_neg (fun q => h q.2)
theorem vM_at {v : Nat → Nat → Int} {f : Nat} {t : Int} : vM v f t f 40 = t := if_pos ⟨rfl, rfl⟩
theorem rel_t {z : Zt} {h1 h2 : Nat} {v : Nat → Nat → Int} {t : Int} (h : Rel z h1 h2 v) : Rel z h1 h2 (vM (vT z v h1 t) h2 t) := by
  refine ⟨⟨t, fun q hq => ?_, vM_at⟩, fun k q hk hq => ?_⟩
  · rw [vM_k (by decide), vT_at hq]
  · have e : ∀ a j, j ≠ 30 → j ≠ 40 → vM (vT z v h1 t) h2 t a j = v a j := fun a j h3 h4 => (vM_k h4).trans (vT_k h3)
    rw [e q 34 (by decide) (by decide), e h2 (60 + k) (by omega) (by omega), e q 35 (by decide) (by decide), e h2 (64 + k) (by omega) (by omega)]
    exact h.2 k q hk hq
theorem ftr_eq {t c r t2 r' t2' : Int} (h : ftr t c r t2) (h' : ftr t c r' t2') : r = r' ∧ t2 = t2' := by
  unfold ftr at h h'
  omega
theorem etr_eq {t c r t2 r' t2' : Int} (h : etr t c r t2) (h' : etr t c r' t2') : r = r' ∧ t2 = t2' := by
  unfold etr at h h'
  omega
theorem shr_eq {k l n r r' : Int} (h : shr k l n r) (h' : shr k l n r') : r = r' := by
  unfold shr at h h'
  omega
theorem shr_in {k l n r : Int} (h : shr k l n r) (hr : r = 1) : 0 ≤ k ∧ k ≤ 3 ∧ 0 ≤ l ∧ l ≤ 2 ∧ 0 ≤ n ∧ n ≤ 40 := by
  unfold shr at h
  omega
theorem lyr_eq {z : Zt} {h1 h2 : Nat} {v : Nat → Nat → Int} {k : Int32} {q : Nat} {i r r' : Int} (hR : Rel z h1 h2 v) (hq : 0 ≤ k.toInt → k.toInt ≤ 3 → zG z q = (13, k.toNatClampNeg)) (h : lyr k.toInt i (v q 34) (v q 35) r) (h' : lyr4 k.toInt i (v h2 (60 + k.toNatClampNeg)) (v h2 (64 + k.toNatClampNeg)) r') : r = r' := by
  by_cases hk : 0 ≤ k.toInt ∧ k.toInt ≤ 3
  · have hn := ix_nat (i := k) (by omega)
    have h5 := hR.2 k.toNatClampNeg q (by omega) (hq hk.1 hk.2)
    unfold lyr at h
    unfold lyr4 at h'
    omega
  · have h1 := h.1 (by omega)
    have h2 := h'.1 (by omega)
    omega
theorem vSa_o {v : Nat → Nat → Int} {a b k : Nat} {x y : Int} (h : k ≠ 34 ∧ k ≠ 35) : vSa v a x y b k = v b k := by
  unfold vSa
  rw [if_neg (fun q => h.1 q.2), if_neg (fun q => h.2 q.2)]
theorem vSa_n {v : Nat → Nat → Int} {a b k : Nat} {x y : Int} (h : b ≠ a) : vSa v a x y b k = v b k := by
  unfold vSa
  rw [if_neg (fun q => h q.1), if_neg (fun q => h q.1)]
theorem vMs_n {v : Nat → Nat → Int} {f k a q : Nat} {x y : Int} (h : a ≠ f ∨ (q ≠ 60 + k ∧ q ≠ 64 + k)) : vMs v f k x y a q = v a q := by
  unfold vMs
  rw [if_neg (fun e => by rcases h with h | h; exact h e.1; exact h.2 e.2), if_neg (fun e => by rcases h with h | h; exact h e.1; exact h.1 e.2)]
theorem rel_s {z : Zt} {h1 h2 a o : Nat} {v : Nat → Nat → Int} {k : Int32} {x y : Int} (hz : zu z) (g2 : zG z h2 = (17, o)) (ha : zG z a = (13, k.toNatClampNeg)) (hx : 0 ≤ x) (hk4 : k.toNatClampNeg < 4) (h : Rel z h1 h2 v) : Rel z h1 h2 (vMs (vSa v a x y) h2 k.toNatClampNeg x y) := by
  obtain ⟨⟨tl, ht1, ht2⟩, hs⟩ := h
  refine ⟨⟨tl, fun q hq => ?_, ?_⟩, fun j q hj hq => ?_⟩
  · rw [vMs_n (Or.inr ⟨by omega, by omega⟩), vSa_o ⟨by decide, by decide⟩]
    exact ht1 q hq
  · rw [vMs_n (Or.inr ⟨by omega, by omega⟩), vSa_o ⟨by decide, by decide⟩]
    exact ht2
  · have hne : q ≠ h2 := ro_ne hq g2 (by decide)
    by_cases hjk : j = k.toNatClampNeg
    · subst hjk
      have hqa : q = a := zu_at hz rfl hq ha
      subst hqa
      rw [vMs_n (Or.inl hne), vMs_n (Or.inl hne)]
      have e1 : vSa v q x y q 34 = x := if_pos ⟨rfl, rfl⟩
      have e2 : vSa v q x y q 35 = y := (if_neg (fun e => absurd e.2 (by decide))).trans (if_pos ⟨rfl, rfl⟩)
      have e3 : vMs (vSa v q x y) h2 k.toNatClampNeg x y h2 (60 + k.toNatClampNeg) = x := (if_neg (fun e => absurd e.2 (by omega))).trans (if_pos ⟨rfl, rfl⟩)
      have e4 : vMs (vSa v q x y) h2 k.toNatClampNeg x y h2 (64 + k.toNatClampNeg) = y := if_pos ⟨rfl, rfl⟩
      rw [e1, e2, e3, e4]
      exact Or.inr ⟨by omega, by omega, rfl, rfl⟩
    · have hqa : q ≠ a := fun e => hjk (by rw [e, ha] at hq; exact (congrArg Prod.snd hq).symm)
      rw [vMs_n (Or.inl hne), vMs_n (Or.inl hne), vMs_n (Or.inr ⟨by omega, by omega⟩), vMs_n (Or.inr ⟨by omega, by omega⟩)]
      rw [vSa_n hqa, vSa_n hqa, vSa_n (show h2 ≠ a from ro_ne g2 ha (by decide)), vSa_n (show h2 ≠ a from ro_ne g2 ha (by decide))]
      exact hs j q hj hq
/-- the law's first acts: both objects stand -/
theorem cm_in {z : Zt} {S : List (Nat × Nat)} {h1 q o : Nat} {A : Nat → Prop} {H H1 : Heap} {e : va_E} (hC : CT z S [(h1, (16, o))] A [(q, e)] H) (hF : ∀ q', va_A [(q, e)] H.size q' → A q') (hk : ∀ q' : Nat, q' < H.size → ¬ va_A [(q, e)] H.size q' → H1[q']? = H[q']?) (hS : ∀ r ∈ S, r.1 ≠ 17) (hB : MB z (va_A [(q, e)] H.size) q H1) : ∃ (L : List Nat) (G : Ga) (v : Nat → Nat → Int), WX (zx z L G) v H1 ∧ G h1 = (16, o) ∧ G q = (17, 0) ∧ (∀ p ∈ L, A p) ∧ Rel (zx z L G) h1 q v := by
  obtain ⟨L, G, ⟨E, hP, hD, hm, hE⟩, hb, hFs⟩ := hC
  obtain ⟨L1, G1, gm, ⟨E1, hP1, hD1, hm1, hE1⟩, hG1, hb1, hwm, h40, h60⟩ := hB
  have hP1 : va_P (zD z) vwCl (va_pl L1 E1) H1 := hP1
  have hD1 : va_D (va_A [(q, e)] H.size) (va_pl L1 E1) := hD1
  have nP : ∀ (k : Nat) (x : Nat × va_E), (va_pl L E)[k]? = some x → x.1 < H.size ∧ x.1 ≠ q := fun k x hx => ⟨(hP _ x (ge_r hx)).lt, fun h => (d_x hD (i := 0) (p := (q, e)) rfl hx) h.symm⟩
  have nA : ∀ a : Nat, a < H.size → a ≠ q → ¬ va_A [(q, e)] H.size a := fun a h1 h2 h3 => by
    rcases h3 with ⟨k, e', hk'⟩ | h3
    · have hz : k < 1 := (List.getElem?_eq_some_iff.mp hk').1
      rw [show k = 0 by omega] at hk'
      exact h2 (congrArg Prod.fst (Option.some.inj hk')).symm
    · omega
  have in1 : ∀ (k : Nat) (x : Nat × va_E), (va_pl L1 E1)[k]? = some x → va_A [(q, e)] H.size x.1 := fun k x hx => hD1.2 k x hx
  have hP2 : va_P (zD z) vwCl (([] ++ va_pl L1 E1) ++ va_pl L E) H1 := by
    refine va_P.app hP1 (fun k x hx => ?_)
    exact (hP _ x (ge_r hx)).kept (hk x.1 (nP k x hx).1 (nA _ (nP k x hx).1 (nP k x hx).2))
  have hD2 : va_D A (([] ++ va_pl L1 E1) ++ va_pl L E) := by
    have d1 : va_D A (va_pl L1 E1) := hD1.weaken (fun k x hx h => hF x.1 h)
    have dP : va_D A (va_pl L E) := d_r hD
    refine va_D.app d1 dP (fun i j x y hx hy h => ?_)
    exact nA y.1 (nP j y hy).1 (nP j y hy).2 (by rw [← h]; exact in1 i x hx)
  have dis : ∀ a, a ∈ L → a ∉ L1 := fun a ha h1 => by
    obtain ⟨i, hi⟩ := List.getElem?_of_mem (show (a, E a) ∈ va_pl L E from List.mem_map.mpr ⟨a, ha, rfl⟩)
    obtain ⟨j, hj⟩ := List.getElem?_of_mem (show (a, E1 a) ∈ va_pl L1 E1 from List.mem_map.mpr ⟨a, h1, rfl⟩)
    exact nA a (nP i _ hi).1 (nP i _ hi).2 (in1 j _ hj)
  have h5 := tx_join (z := zx z L G) (g := iniG) (g1 := gm) (X := []) (L1 := L1) (G1 := G1) hb.1 hb1.1 (fun a ha h1 h2 => dis _ (hb.1 a h2) h1) E E1 hP2 hD2 hm hm1 hE hE1
  have hbj := bOK_join (z := zx z L G) (S := S) hb hb1 dis hm hm1 (fun r hr hs => by
    have : r = (17, 0) := by simpa using hr
    exact hS r hs (by rw [this]))
  have hqL : q ∈ L1 := hm1 q (by show (G1 q).1 ≠ 0; rw [hG1]; exact Nat.succ_ne_zero _)
  have gi : ∀ a, a ∈ L1 → jnG (zx z L G) (zx z L1 G1) a = G1 a := fun a ha => jnG_in (z := zx z L G) (z1 := zx z L1 G1) ha
  have gn : ∀ a, a ∉ L1 → jnG (zx z L G) (zx z L1 G1) a = G a := fun a ha => jnG_no (z := zx z L G) (z1 := zx z L1 G1) ha
  have hi : ∀ a, a ∈ L1 → (jnH (zx z L1 G1) iniG gm).1 a = gm.1 a := fun a ha => jnH_in (z1 := zx z L1 G1) ha
  have hn : ∀ a, a ∉ L1 → (jnH (zx z L1 G1) iniG gm).1 a = iniG.1 a := fun a ha => jnH_no (z1 := zx z L1 G1) ha
  -- an object of role r below 20, not the reference's, lies outside of L1
  have out : ∀ a n o', jnG (zx z L G) (zx z L1 G1) a = (n, o') → n ≠ 0 → n < 20 → n ≠ 17 → a ∉ L1 := fun a n o' ha h0 h20 h17 hin => by
    rw [gi a hin] at ha
    have := hb1.2.2 a (by show (G1 a).1 ≠ 0; rw [ha]; exact h0) (by show (G1 a).1 < 20; rw [ha]; exact h20)
    rw [show zG (zx z L1 G1) a = (n, o') from ha] at this
    have h9 : (n, o') = (17, 0) := by simpa using this
    exact h17 (congrArg Prod.fst h9)
  refine ⟨L1 ++ L, jnG (zx z L G) (zx z L1 G1), (jnH (zx z L1 G1) iniG gm).1, ⟨jnH (zx z L1 G1) iniG gm, ⟨fun a o' ha => ?_, fun a o' ha => ?_, hbj.2.1⟩, fun _ _ _ => rfl, ty_A (z := zx z (L1 ++ L) (jnG (zx z L G) (zx z L1 G1))) h5 (fun _ h => h)⟩, ?_, ?_, ?_, ?_⟩
  · rw [hn a (out a 11 o' ha (by decide) (by decide) (by decide))]
    exact ⟨(by show (0 : Int) ≤ 0; decide), (by show (0 : Int) ≤ 5; decide), (by show (0 : Int) ≤ 0; decide), rfl⟩
  · by_cases hin : a ∈ L1
    · have h9 : jnG (zx z L G) (zx z L1 G1) a = (17, o') := ha
      rw [gi a hin] at h9
      have h8 := hb1.2.2 a (by show (G1 a).1 ≠ 0; rw [h9]; exact Nat.succ_ne_zero _) (by show (G1 a).1 < 20; rw [h9]; exact (show (17 : Nat) < 20 by decide))
      rw [show zG (zx z L1 G1) a = (17, o') from h9] at h8
      have h7 : (17, o') = (17, 0) := by simpa using h8
      have haq : a = q := hb1.2.1 a q (by show zuN (G1 a).1 = true; rw [h9]; rfl) (by show G1 a = G1 q; rw [h9, hG1]; exact h7)
      subst haq
      rw [hi a hin]
      exact hwm
    · exfalso
      have h9 : jnG (zx z L G) (zx z L1 G1) a = (17, o') := ha
      rw [gn a hin] at h9
      have h8 := hb.2.2 a (by show (G a).1 ≠ 0; rw [h9]; exact Nat.succ_ne_zero _) (by show (G a).1 < 20; rw [h9]; exact (show (17 : Nat) < 20 by decide))
      exact hS _ h8 (by show (G a).1 = 17; rw [h9])
  · obtain ⟨h6, h7⟩ := hFs (h1, (16, o)) List.mem_cons_self
    rw [gn h1 (dis _ (hm h1 (by show (G h1).1 ≠ 0; rw [show G h1 = (16, o) from h6]; exact Nat.succ_ne_zero _)))]
    exact h6
  · rw [gi q hqL]; exact hG1
  · intro p hp
    exact ty_in (z := zx z (L1 ++ L) (jnG (zx z L G) (zx z L1 G1))) h5 hp
  · refine ⟨⟨0, fun a ha => ?_, ?_⟩, fun k a hk4 ha => ?_⟩
    · rw [hn a (out a 14 h1 ha (by decide) (by decide) (by decide))]; rfl
    · rw [hi q hqL]; exact h40
    · rw [hn a (out a 13 k ha (by decide) (by decide) (by decide)), hi q hqL]
      exact Or.inl ⟨rfl, (h60 k hk4).1⟩
