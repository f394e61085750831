theorem ix_in {i : Int32} {n : Nat} (h0 : 0 ≤ i.toInt) (h1 : i.toInt < n) : vp_in i n := vp_in_iff.mpr ⟨h0, h1⟩
theorem ix_cl (i : Int32) : i.toNatClampNeg = i.toInt.toNat := rfl
theorem ix_nat {i : Int32} (h0 : 0 ≤ i.toInt) : (i.toNatClampNeg : Int) = i.toInt := by
  have : i.toNatClampNeg = i.toInt.toNat := rfl
  omega
theorem ix_lt {i : Int32} {n : Nat} (h0 : 0 ≤ i.toInt) (h1 : i.toInt < n) : i.toInt.toNat < n := by omega
section TYA
variable {p : Program} {l : Launch} {e : Env} {R : Room} {s : State} {m : MethodId} {args : Array Value} {below : List Frame} {meth : Method} {c : Code} {H H0 : Heap} {locs : List Loc} {cells slots : Nat} {Q : State → Prop}
variable {cc : ByteArray} {pc : Nat} {ls : Array Slot} {rest : List Value} {z : Zt} {A : Nat → Prop} {a o index : Nat} {σ : Sg} {Ts : List Cond} {own : String}
theorem al_20 {i : Int32} (hx : p.tables.exec = Jvm.exec) (hb : c.code = cc) (hK : va_K (zD z) vwCl (zT z) s) (hT : TY z A σ H) (ha : zG z a = (20, o)) (h0 : 0 ≤ i.toInt) (h1 : i.toInt < 5) (hdg : decode cc pc = .ok (.iaload, 1)) (kk : ∀ x : Int32, x.toInt = σ o 20 i.toInt.toNat → W p l e R s m args below meth c H locs cells slots Q (F0 m (pc + 1) ls (.int x :: rest))) : W p l e R s m args below meth c H locs cells slots Q (F0 m pc ls (.int i :: .ref a :: rest)) := by
  obtain ⟨E, hP, hD, hm, hz, hE⟩ := hT
  have hL : a ∈ zL z := hm a (by rw [ha]; exact Nat.succ_ne_zero _)
  obtain ⟨k, hk0⟩ := va_pl_get (X := []) (f := E) hL
  have he := hE a hL
  rw [ha] at he
  obtain ⟨f, h9, hf⟩ : a20 z (σ o 20) (E a) := he
  have hk := hk0
  rw [h9] at hk
  exact va_iald hx hb hK hP k 0 hk rfl (ix_in (n := 5) h0 h1) hdg (kk _ (hf _ (ix_lt (n := 5) h0 h1)).1)
theorem an_20 (hx : p.tables.exec = Jvm.exec) (hb : c.code = cc) (hK : va_K (zD z) vwCl (zT z) s) (hT : TY z A σ H) (ha : zG z a = (20, o)) (hdg : decode cc pc = .ok (.arraylength, 1)) (kk : ∀ x : Int32, x.toInt = 5 → W p l e R s m args below meth c H locs cells slots Q (F0 m (pc + 1) ls (.int x :: rest))) : W p l e R s m args below meth c H locs cells slots Q (F0 m pc ls (.ref a :: rest)) := by
  obtain ⟨E, hP, hD, hm, hz, hE⟩ := hT
  have hL : a ∈ zL z := hm a (by rw [ha]; exact Nat.succ_ne_zero _)
  obtain ⟨k, hk0⟩ := va_pl_get (X := []) (f := E) hL
  have he := hE a hL
  rw [ha] at he
  obtain ⟨f, h9, hf⟩ : a20 z (σ o 20) (E a) := he
  have hk := hk0
  rw [h9] at hk
  exact va_alen hx hb hK hP k 0 hk rfl (v := 5) rfl hdg (kk _ rfl)
theorem as_20 {i x : Int32} (hx : p.tables.exec = Jvm.exec) (hb : c.code = cc) (hK : va_K (zD z) vwCl (zT z) s) (hT : TY z A σ H) (hS : va_S A H0 H locs) (ha : zG z a = (20, o)) (h0 : 0 ≤ i.toInt) (h1 : i.toInt < 5) (hdg : decode cc pc = .ok (.iastore, 1)) (kk : ∀ (H1 : Heap) (locs1 : List Loc), TY z A (wr σ o 20 i.toInt.toNat x.toInt) H1 → va_S A H0 H1 locs1 → W p l e R s m args below meth c H1 locs1 cells slots Q (F0 m (pc + 1) ls (rest))) : W p l e R s m args below meth c H locs cells slots Q (F0 m pc ls (.int x :: .int i :: .ref a :: rest)) := by
  obtain ⟨E, hP, hD, hm, hz, hE⟩ := hT
  have hL : a ∈ zL z := hm a (by rw [ha]; exact Nat.succ_ne_zero _)
  obtain ⟨k, hk0⟩ := va_pl_get (X := []) (f := E) hL
  have he := hE a hL
  rw [ha] at he
  obtain ⟨f, h9, hf⟩ : a20 z (σ o 20) (E a) := he
  have hk := hk0
  rw [h9] at hk
  refine va_iast hx hb hK hP hD hS k 0 hk rfl (ix_in (n := 5) h0 h1) hdg (fun H1 locs1 hP1 hD1 hS1 => ?_)
  refine kk H1 locs1 (ty_up hP1 hD1 hD hm hz hE hL hk0 ?_ (up_mo hz hE ha (fun r' hr' => wrl_nr _ _ hr'))) hS1
  rw [ha]
  show eOK z (gset σ o (wrl (σ o) 20 i.toInt.toNat x.toInt) o 20) (20, o) _
  rw [gset_at]
  refine (⟨upd f i.toNatClampNeg x, rfl, fun j hj => ?_⟩ : a20 z (wrl (σ o) 20 i.toInt.toNat x.toInt 20) _)
  by_cases hj2 : j = i.toNatClampNeg
  · subst hj2
    rw [show upd f i.toNatClampNeg x i.toNatClampNeg = x from if_pos rfl]
    exact ⟨(wrl_at _ _ _ _).symm, trivial⟩
  · rw [show upd f i.toNatClampNeg x j = f j from if_neg hj2]
    exact ⟨(hf j hj).1.trans (wrl_ni _ _ hj2).symm, (hf j hj).2⟩
theorem al_21 {i : Int32} (hx : p.tables.exec = Jvm.exec) (hb : c.code = cc) (hK : va_K (zD z) vwCl (zT z) s) (hT : TY z A σ H) (ha : zG z a = (21, o)) (h0 : 0 ≤ i.toInt) (h1 : i.toInt < 8) (hdg : decode cc pc = .ok (.iaload, 1)) (kk : ∀ x : Int32, x.toInt = σ o 21 i.toInt.toNat → W p l e R s m args below meth c H locs cells slots Q (F0 m (pc + 1) ls (.int x :: rest))) : W p l e R s m args below meth c H locs cells slots Q (F0 m pc ls (.int i :: .ref a :: rest)) := by
  obtain ⟨E, hP, hD, hm, hz, hE⟩ := hT
  have hL : a ∈ zL z := hm a (by rw [ha]; exact Nat.succ_ne_zero _)
  obtain ⟨k, hk0⟩ := va_pl_get (X := []) (f := E) hL
  have he := hE a hL
  rw [ha] at he
  obtain ⟨f, h9, hf⟩ : a21 z (σ o 21) (E a) := he
  have hk := hk0
  rw [h9] at hk
  exact va_iald hx hb hK hP k 0 hk rfl (ix_in (n := 8) h0 h1) hdg (kk _ (hf _ (ix_lt (n := 8) h0 h1)).1)
theorem an_21 (hx : p.tables.exec = Jvm.exec) (hb : c.code = cc) (hK : va_K (zD z) vwCl (zT z) s) (hT : TY z A σ H) (ha : zG z a = (21, o)) (hdg : decode cc pc = .ok (.arraylength, 1)) (kk : ∀ x : Int32, x.toInt = 8 → W p l e R s m args below meth c H locs cells slots Q (F0 m (pc + 1) ls (.int x :: rest))) : W p l e R s m args below meth c H locs cells slots Q (F0 m pc ls (.ref a :: rest)) := by
  obtain ⟨E, hP, hD, hm, hz, hE⟩ := hT
  have hL : a ∈ zL z := hm a (by rw [ha]; exact Nat.succ_ne_zero _)
  obtain ⟨k, hk0⟩ := va_pl_get (X := []) (f := E) hL
  have he := hE a hL
  rw [ha] at he
  obtain ⟨f, h9, hf⟩ : a21 z (σ o 21) (E a) := he
  have hk := hk0
  rw [h9] at hk
  exact va_alen hx hb hK hP k 0 hk rfl (v := 8) rfl hdg (kk _ rfl)
theorem as_21 {i x : Int32} (hx : p.tables.exec = Jvm.exec) (hb : c.code = cc) (hK : va_K (zD z) vwCl (zT z) s) (hT : TY z A σ H) (hS : va_S A H0 H locs) (ha : zG z a = (21, o)) (h0 : 0 ≤ i.toInt) (h1 : i.toInt < 8) (hdg : decode cc pc = .ok (.iastore, 1)) (kk : ∀ (H1 : Heap) (locs1 : List Loc), TY z A (wr σ o 21 i.toInt.toNat x.toInt) H1 → va_S A H0 H1 locs1 → W p l e R s m args below meth c H1 locs1 cells slots Q (F0 m (pc + 1) ls (rest))) : W p l e R s m args below meth c H locs cells slots Q (F0 m pc ls (.int x :: .int i :: .ref a :: rest)) := by
  obtain ⟨E, hP, hD, hm, hz, hE⟩ := hT
  have hL : a ∈ zL z := hm a (by rw [ha]; exact Nat.succ_ne_zero _)
  obtain ⟨k, hk0⟩ := va_pl_get (X := []) (f := E) hL
  have he := hE a hL
  rw [ha] at he
  obtain ⟨f, h9, hf⟩ : a21 z (σ o 21) (E a) := he
  have hk := hk0
  rw [h9] at hk
  refine va_iast hx hb hK hP hD hS k 0 hk rfl (ix_in (n := 8) h0 h1) hdg (fun H1 locs1 hP1 hD1 hS1 => ?_)
  refine kk H1 locs1 (ty_up hP1 hD1 hD hm hz hE hL hk0 ?_ (up_mo hz hE ha (fun r' hr' => wrl_nr _ _ hr'))) hS1
  rw [ha]
  show eOK z (gset σ o (wrl (σ o) 21 i.toInt.toNat x.toInt) o 21) (21, o) _
  rw [gset_at]
  refine (⟨upd f i.toNatClampNeg x, rfl, fun j hj => ?_⟩ : a21 z (wrl (σ o) 21 i.toInt.toNat x.toInt 21) _)
  by_cases hj2 : j = i.toNatClampNeg
  · subst hj2
    rw [show upd f i.toNatClampNeg x i.toNatClampNeg = x from if_pos rfl]
    exact ⟨(wrl_at _ _ _ _).symm, trivial⟩
  · rw [show upd f i.toNatClampNeg x j = f j from if_neg hj2]
    exact ⟨(hf j hj).1.trans (wrl_ni _ _ hj2).symm, (hf j hj).2⟩
theorem al_22 {i : Int32} (hx : p.tables.exec = Jvm.exec) (hb : c.code = cc) (hK : va_K (zD z) vwCl (zT z) s) (hT : TY z A σ H) (ha : zG z a = (22, o)) (h0 : 0 ≤ i.toInt) (h1 : i.toInt < 6) (hdg : decode cc pc = .ok (.iaload, 1)) (kk : ∀ x : Int32, x.toInt = σ o 22 i.toInt.toNat → W p l e R s m args below meth c H locs cells slots Q (F0 m (pc + 1) ls (.int x :: rest))) : W p l e R s m args below meth c H locs cells slots Q (F0 m pc ls (.int i :: .ref a :: rest)) := by
  obtain ⟨E, hP, hD, hm, hz, hE⟩ := hT
  have hL : a ∈ zL z := hm a (by rw [ha]; exact Nat.succ_ne_zero _)
  obtain ⟨k, hk0⟩ := va_pl_get (X := []) (f := E) hL
  have he := hE a hL
  rw [ha] at he
  obtain ⟨f, h9, hf⟩ : a22 z (σ o 22) (E a) := he
  have hk := hk0
  rw [h9] at hk
  exact va_iald hx hb hK hP k 0 hk rfl (ix_in (n := 6) h0 h1) hdg (kk _ (hf _ (ix_lt (n := 6) h0 h1)).1)
theorem an_22 (hx : p.tables.exec = Jvm.exec) (hb : c.code = cc) (hK : va_K (zD z) vwCl (zT z) s) (hT : TY z A σ H) (ha : zG z a = (22, o)) (hdg : decode cc pc = .ok (.arraylength, 1)) (kk : ∀ x : Int32, x.toInt = 6 → W p l e R s m args below meth c H locs cells slots Q (F0 m (pc + 1) ls (.int x :: rest))) : W p l e R s m args below meth c H locs cells slots Q (F0 m pc ls (.ref a :: rest)) := by
  obtain ⟨E, hP, hD, hm, hz, hE⟩ := hT
  have hL : a ∈ zL z := hm a (by rw [ha]; exact Nat.succ_ne_zero _)
  obtain ⟨k, hk0⟩ := va_pl_get (X := []) (f := E) hL
  have he := hE a hL
  rw [ha] at he
  obtain ⟨f, h9, hf⟩ : a22 z (σ o 22) (E a) := he
  have hk := hk0
  rw [h9] at hk
  exact va_alen hx hb hK hP k 0 hk rfl (v := 6) rfl hdg (kk _ rfl)
theorem as_22 {i x : Int32} (hx : p.tables.exec = Jvm.exec) (hb : c.code = cc) (hK : va_K (zD z) vwCl (zT z) s) (hT : TY z A σ H) (hS : va_S A H0 H locs) (ha : zG z a = (22, o)) (h0 : 0 ≤ i.toInt) (h1 : i.toInt < 6) (hdg : decode cc pc = .ok (.iastore, 1)) (kk : ∀ (H1 : Heap) (locs1 : List Loc), TY z A (wr σ o 22 i.toInt.toNat x.toInt) H1 → va_S A H0 H1 locs1 → W p l e R s m args below meth c H1 locs1 cells slots Q (F0 m (pc + 1) ls (rest))) : W p l e R s m args below meth c H locs cells slots Q (F0 m pc ls (.int x :: .int i :: .ref a :: rest)) := by
  obtain ⟨E, hP, hD, hm, hz, hE⟩ := hT
  have hL : a ∈ zL z := hm a (by rw [ha]; exact Nat.succ_ne_zero _)
  obtain ⟨k, hk0⟩ := va_pl_get (X := []) (f := E) hL
  have he := hE a hL
  rw [ha] at he
  obtain ⟨f, h9, hf⟩ : a22 z (σ o 22) (E a) := he
  have hk := hk0
  rw [h9] at hk
  refine va_iast hx hb hK hP hD hS k 0 hk rfl (ix_in (n := 6) h0 h1) hdg (fun H1 locs1 hP1 hD1 hS1 => ?_)
  refine kk H1 locs1 (ty_up hP1 hD1 hD hm hz hE hL hk0 ?_ (up_mo hz hE ha (fun r' hr' => wrl_nr _ _ hr'))) hS1
  rw [ha]
  show eOK z (gset σ o (wrl (σ o) 22 i.toInt.toNat x.toInt) o 22) (22, o) _
  rw [gset_at]
  refine (⟨upd f i.toNatClampNeg x, rfl, fun j hj => ?_⟩ : a22 z (wrl (σ o) 22 i.toInt.toNat x.toInt 22) _)
  by_cases hj2 : j = i.toNatClampNeg
  · subst hj2
    rw [show upd f i.toNatClampNeg x i.toNatClampNeg = x from if_pos rfl]
    exact ⟨(wrl_at _ _ _ _).symm, trivial⟩
  · rw [show upd f i.toNatClampNeg x j = f j from if_neg hj2]
    exact ⟨(hf j hj).1.trans (wrl_ni _ _ hj2).symm, (hf j hj).2⟩
theorem al_23 {i : Int32} (hx : p.tables.exec = Jvm.exec) (hb : c.code = cc) (hK : va_K (zD z) vwCl (zT z) s) (hT : TY z A σ H) (ha : zG z a = (23, o)) (h0 : 0 ≤ i.toInt) (h1 : i.toInt < 40) (hdg : decode cc pc = .ok (.iaload, 1)) (kk : ∀ x : Int32, x.toInt = σ o 23 i.toInt.toNat → W p l e R s m args below meth c H locs cells slots Q (F0 m (pc + 1) ls (.int x :: rest))) : W p l e R s m args below meth c H locs cells slots Q (F0 m pc ls (.int i :: .ref a :: rest)) := by
  obtain ⟨E, hP, hD, hm, hz, hE⟩ := hT
  have hL : a ∈ zL z := hm a (by rw [ha]; exact Nat.succ_ne_zero _)
  obtain ⟨k, hk0⟩ := va_pl_get (X := []) (f := E) hL
  have he := hE a hL
  rw [ha] at he
  obtain ⟨f, h9, hf⟩ : a23 z (σ o 23) (E a) := he
  have hk := hk0
  rw [h9] at hk
  exact va_iald hx hb hK hP k 0 hk rfl (ix_in (n := 40) h0 h1) hdg (kk _ (hf _ (ix_lt (n := 40) h0 h1)).1)
theorem an_23 (hx : p.tables.exec = Jvm.exec) (hb : c.code = cc) (hK : va_K (zD z) vwCl (zT z) s) (hT : TY z A σ H) (ha : zG z a = (23, o)) (hdg : decode cc pc = .ok (.arraylength, 1)) (kk : ∀ x : Int32, x.toInt = 40 → W p l e R s m args below meth c H locs cells slots Q (F0 m (pc + 1) ls (.int x :: rest))) : W p l e R s m args below meth c H locs cells slots Q (F0 m pc ls (.ref a :: rest)) := by
  obtain ⟨E, hP, hD, hm, hz, hE⟩ := hT
  have hL : a ∈ zL z := hm a (by rw [ha]; exact Nat.succ_ne_zero _)
  obtain ⟨k, hk0⟩ := va_pl_get (X := []) (f := E) hL
  have he := hE a hL
  rw [ha] at he
  obtain ⟨f, h9, hf⟩ : a23 z (σ o 23) (E a) := he
  have hk := hk0
  rw [h9] at hk
  exact va_alen hx hb hK hP k 0 hk rfl (v := 40) rfl hdg (kk _ rfl)
theorem as_23 {i x : Int32} (hx : p.tables.exec = Jvm.exec) (hb : c.code = cc) (hK : va_K (zD z) vwCl (zT z) s) (hT : TY z A σ H) (hS : va_S A H0 H locs) (ha : zG z a = (23, o)) (h0 : 0 ≤ i.toInt) (h1 : i.toInt < 40) (hdg : decode cc pc = .ok (.iastore, 1)) (kk : ∀ (H1 : Heap) (locs1 : List Loc), TY z A (wr σ o 23 i.toInt.toNat x.toInt) H1 → va_S A H0 H1 locs1 → W p l e R s m args below meth c H1 locs1 cells slots Q (F0 m (pc + 1) ls (rest))) : W p l e R s m args below meth c H locs cells slots Q (F0 m pc ls (.int x :: .int i :: .ref a :: rest)) := by
  obtain ⟨E, hP, hD, hm, hz, hE⟩ := hT
  have hL : a ∈ zL z := hm a (by rw [ha]; exact Nat.succ_ne_zero _)
  obtain ⟨k, hk0⟩ := va_pl_get (X := []) (f := E) hL
  have he := hE a hL
  rw [ha] at he
  obtain ⟨f, h9, hf⟩ : a23 z (σ o 23) (E a) := he
  have hk := hk0
  rw [h9] at hk
  refine va_iast hx hb hK hP hD hS k 0 hk rfl (ix_in (n := 40) h0 h1) hdg (fun H1 locs1 hP1 hD1 hS1 => ?_)
  refine kk H1 locs1 (ty_up hP1 hD1 hD hm hz hE hL hk0 ?_ (up_mo hz hE ha (fun r' hr' => wrl_nr _ _ hr'))) hS1
  rw [ha]
  show eOK z (gset σ o (wrl (σ o) 23 i.toInt.toNat x.toInt) o 23) (23, o) _
  rw [gset_at]
  refine (⟨upd f i.toNatClampNeg x, rfl, fun j hj => ?_⟩ : a23 z (wrl (σ o) 23 i.toInt.toNat x.toInt 23) _)
  by_cases hj2 : j = i.toNatClampNeg
  · subst hj2
    rw [show upd f i.toNatClampNeg x i.toNatClampNeg = x from if_pos rfl]
    exact ⟨(wrl_at _ _ _ _).symm, trivial⟩
  · rw [show upd f i.toNatClampNeg x j = f j from if_neg hj2]
    exact ⟨(hf j hj).1.trans (wrl_ni _ _ hj2).symm, (hf j hj).2⟩
theorem al_24 {i : Int32} (hx : p.tables.exec = Jvm.exec) (hb : c.code = cc) (hK : va_K (zD z) vwCl (zT z) s) (hT : TY z A σ H) (ha : zG z a = (24, o)) (h0 : 0 ≤ i.toInt) (h1 : i.toInt < 45) (hdg : decode cc pc = .ok (.iaload, 1)) (kk : ∀ x : Int32, x.toInt = σ o 24 i.toInt.toNat → (0 ≤ x.toInt ∧ x.toInt ≤ 4) → W p l e R s m args below meth c H locs cells slots Q (F0 m (pc + 1) ls (.int x :: rest))) : W p l e R s m args below meth c H locs cells slots Q (F0 m pc ls (.int i :: .ref a :: rest)) := by
  obtain ⟨E, hP, hD, hm, hz, hE⟩ := hT
  have hL : a ∈ zL z := hm a (by rw [ha]; exact Nat.succ_ne_zero _)
  obtain ⟨k, hk0⟩ := va_pl_get (X := []) (f := E) hL
  have he := hE a hL
  rw [ha] at he
  obtain ⟨f, h9, hf⟩ : a24 z (σ o 24) (E a) := he
  have hk := hk0
  rw [h9] at hk
  exact va_iald hx hb hK hP k 0 hk rfl (ix_in (n := 45) h0 h1) hdg (kk _ (hf _ (ix_lt (n := 45) h0 h1)).1 (hf _ (ix_lt (n := 45) h0 h1)).2)
theorem an_24 (hx : p.tables.exec = Jvm.exec) (hb : c.code = cc) (hK : va_K (zD z) vwCl (zT z) s) (hT : TY z A σ H) (ha : zG z a = (24, o)) (hdg : decode cc pc = .ok (.arraylength, 1)) (kk : ∀ x : Int32, x.toInt = 45 → W p l e R s m args below meth c H locs cells slots Q (F0 m (pc + 1) ls (.int x :: rest))) : W p l e R s m args below meth c H locs cells slots Q (F0 m pc ls (.ref a :: rest)) := by
  obtain ⟨E, hP, hD, hm, hz, hE⟩ := hT
  have hL : a ∈ zL z := hm a (by rw [ha]; exact Nat.succ_ne_zero _)
  obtain ⟨k, hk0⟩ := va_pl_get (X := []) (f := E) hL
  have he := hE a hL
  rw [ha] at he
  obtain ⟨f, h9, hf⟩ : a24 z (σ o 24) (E a) := he
  have hk := hk0
  rw [h9] at hk
  exact va_alen hx hb hK hP k 0 hk rfl (v := 45) rfl hdg (kk _ rfl)
theorem as_24 {i x : Int32} (hx : p.tables.exec = Jvm.exec) (hb : c.code = cc) (hK : va_K (zD z) vwCl (zT z) s) (hT : TY z A σ H) (hS : va_S A H0 H locs) (ha : zG z a = (24, o)) (h0 : 0 ≤ i.toInt) (h1 : i.toInt < 45) (hv : (0 ≤ x.toInt ∧ x.toInt ≤ 4)) (hdg : decode cc pc = .ok (.iastore, 1)) (kk : ∀ (H1 : Heap) (locs1 : List Loc), TY z A (wr σ o 24 i.toInt.toNat x.toInt) H1 → va_S A H0 H1 locs1 → W p l e R s m args below meth c H1 locs1 cells slots Q (F0 m (pc + 1) ls (rest))) : W p l e R s m args below meth c H locs cells slots Q (F0 m pc ls (.int x :: .int i :: .ref a :: rest)) := by
  obtain ⟨E, hP, hD, hm, hz, hE⟩ := hT
  have hL : a ∈ zL z := hm a (by rw [ha]; exact Nat.succ_ne_zero _)
  obtain ⟨k, hk0⟩ := va_pl_get (X := []) (f := E) hL
  have he := hE a hL
  rw [ha] at he
  obtain ⟨f, h9, hf⟩ : a24 z (σ o 24) (E a) := he
  have hk := hk0
  rw [h9] at hk
  refine va_iast hx hb hK hP hD hS k 0 hk rfl (ix_in (n := 45) h0 h1) hdg (fun H1 locs1 hP1 hD1 hS1 => ?_)
  refine kk H1 locs1 (ty_up hP1 hD1 hD hm hz hE hL hk0 ?_ (up_mo hz hE ha (fun r' hr' => wrl_nr _ _ hr'))) hS1
  rw [ha]
  show eOK z (gset σ o (wrl (σ o) 24 i.toInt.toNat x.toInt) o 24) (24, o) _
  rw [gset_at]
  refine (⟨upd f i.toNatClampNeg x, rfl, fun j hj => ?_⟩ : a24 z (wrl (σ o) 24 i.toInt.toNat x.toInt 24) _)
  by_cases hj2 : j = i.toNatClampNeg
  · subst hj2
    rw [show upd f i.toNatClampNeg x i.toNatClampNeg = x from if_pos rfl]
    exact ⟨(wrl_at _ _ _ _).symm, hv⟩
  · rw [show upd f i.toNatClampNeg x j = f j from if_neg hj2]
    exact ⟨(hf j hj).1.trans (wrl_ni _ _ hj2).symm, (hf j hj).2⟩
theorem al_25 {i : Int32} (hx : p.tables.exec = Jvm.exec) (hb : c.code = cc) (hK : va_K (zD z) vwCl (zT z) s) (hT : TY z A σ H) (ha : zG z a = (25, o)) (h0 : 0 ≤ i.toInt) (h1 : i.toInt < 6) (hdg : decode cc pc = .ok (.iaload, 1)) (kk : ∀ x : Int32, x.toInt = σ o 25 i.toInt.toNat → (0 ≤ x.toInt ∧ x.toInt ≤ 4) → W p l e R s m args below meth c H locs cells slots Q (F0 m (pc + 1) ls (.int x :: rest))) : W p l e R s m args below meth c H locs cells slots Q (F0 m pc ls (.int i :: .ref a :: rest)) := by
  obtain ⟨E, hP, hD, hm, hz, hE⟩ := hT
  have hL : a ∈ zL z := hm a (by rw [ha]; exact Nat.succ_ne_zero _)
  obtain ⟨k, hk0⟩ := va_pl_get (X := []) (f := E) hL
  have he := hE a hL
  rw [ha] at he
  obtain ⟨f, h9, hf⟩ : a25 z (σ o 25) (E a) := he
  have hk := hk0
  rw [h9] at hk
  exact va_iald hx hb hK hP k 0 hk rfl (ix_in (n := 6) h0 h1) hdg (kk _ (hf _ (ix_lt (n := 6) h0 h1)).1 (hf _ (ix_lt (n := 6) h0 h1)).2)
theorem an_25 (hx : p.tables.exec = Jvm.exec) (hb : c.code = cc) (hK : va_K (zD z) vwCl (zT z) s) (hT : TY z A σ H) (ha : zG z a = (25, o)) (hdg : decode cc pc = .ok (.arraylength, 1)) (kk : ∀ x : Int32, x.toInt = 6 → W p l e R s m args below meth c H locs cells slots Q (F0 m (pc + 1) ls (.int x :: rest))) : W p l e R s m args below meth c H locs cells slots Q (F0 m pc ls (.ref a :: rest)) := by
  obtain ⟨E, hP, hD, hm, hz, hE⟩ := hT
  have hL : a ∈ zL z := hm a (by rw [ha]; exact Nat.succ_ne_zero _)
  obtain ⟨k, hk0⟩ := va_pl_get (X := []) (f := E) hL
  have he := hE a hL
  rw [ha] at he
  obtain ⟨f, h9, hf⟩ : a25 z (σ o 25) (E a) := he
  have hk := hk0
  rw [h9] at hk
  exact va_alen hx hb hK hP k 0 hk rfl (v := 6) rfl hdg (kk _ rfl)
theorem as_25 {i x : Int32} (hx : p.tables.exec = Jvm.exec) (hb : c.code = cc) (hK : va_K (zD z) vwCl (zT z) s) (hT : TY z A σ H) (hS : va_S A H0 H locs) (ha : zG z a = (25, o)) (h0 : 0 ≤ i.toInt) (h1 : i.toInt < 6) (hv : (0 ≤ x.toInt ∧ x.toInt ≤ 4)) (hdg : decode cc pc = .ok (.iastore, 1)) (kk : ∀ (H1 : Heap) (locs1 : List Loc), TY z A (wr σ o 25 i.toInt.toNat x.toInt) H1 → va_S A H0 H1 locs1 → W p l e R s m args below meth c H1 locs1 cells slots Q (F0 m (pc + 1) ls (rest))) : W p l e R s m args below meth c H locs cells slots Q (F0 m pc ls (.int x :: .int i :: .ref a :: rest)) := by
  obtain ⟨E, hP, hD, hm, hz, hE⟩ := hT
  have hL : a ∈ zL z := hm a (by rw [ha]; exact Nat.succ_ne_zero _)
  obtain ⟨k, hk0⟩ := va_pl_get (X := []) (f := E) hL
  have he := hE a hL
  rw [ha] at he
  obtain ⟨f, h9, hf⟩ : a25 z (σ o 25) (E a) := he
  have hk := hk0
  rw [h9] at hk
  refine va_iast hx hb hK hP hD hS k 0 hk rfl (ix_in (n := 6) h0 h1) hdg (fun H1 locs1 hP1 hD1 hS1 => ?_)
  refine kk H1 locs1 (ty_up hP1 hD1 hD hm hz hE hL hk0 ?_ (up_mo hz hE ha (fun r' hr' => wrl_nr _ _ hr'))) hS1
  rw [ha]
  show eOK z (gset σ o (wrl (σ o) 25 i.toInt.toNat x.toInt) o 25) (25, o) _
  rw [gset_at]
  refine (⟨upd f i.toNatClampNeg x, rfl, fun j hj => ?_⟩ : a25 z (wrl (σ o) 25 i.toInt.toNat x.toInt 25) _)
  by_cases hj2 : j = i.toNatClampNeg
  · subst hj2
    rw [show upd f i.toNatClampNeg x i.toNatClampNeg = x from if_pos rfl]
    exact ⟨(wrl_at _ _ _ _).symm, hv⟩
  · rw [show upd f i.toNatClampNeg x j = f j from if_neg hj2]
    exact ⟨(hf j hj).1.trans (wrl_ni _ _ hj2).symm, (hf j hj).2⟩
theorem al_26 {i : Int32} (hx : p.tables.exec = Jvm.exec) (hb : c.code = cc) (hK : va_K (zD z) vwCl (zT z) s) (hT : TY z A σ H) (ha : zG z a = (26, o)) (h0 : 0 ≤ i.toInt) (h1 : i.toInt < 6) (hdg : decode cc pc = .ok (.iaload, 1)) (kk : ∀ x : Int32, x.toInt = σ o 26 i.toInt.toNat → (0 ≤ x.toInt ∧ x.toInt ≤ 8) → W p l e R s m args below meth c H locs cells slots Q (F0 m (pc + 1) ls (.int x :: rest))) : W p l e R s m args below meth c H locs cells slots Q (F0 m pc ls (.int i :: .ref a :: rest)) := by
  obtain ⟨E, hP, hD, hm, hz, hE⟩ := hT
  have hL : a ∈ zL z := hm a (by rw [ha]; exact Nat.succ_ne_zero _)
  obtain ⟨k, hk0⟩ := va_pl_get (X := []) (f := E) hL
  have he := hE a hL
  rw [ha] at he
  obtain ⟨f, h9, hf⟩ : a26 z (σ o 26) (E a) := he
  have hk := hk0
  rw [h9] at hk
  exact va_iald hx hb hK hP k 0 hk rfl (ix_in (n := 6) h0 h1) hdg (kk _ (hf _ (ix_lt (n := 6) h0 h1)).1 (hf _ (ix_lt (n := 6) h0 h1)).2)
theorem an_26 (hx : p.tables.exec = Jvm.exec) (hb : c.code = cc) (hK : va_K (zD z) vwCl (zT z) s) (hT : TY z A σ H) (ha : zG z a = (26, o)) (hdg : decode cc pc = .ok (.arraylength, 1)) (kk : ∀ x : Int32, x.toInt = 6 → W p l e R s m args below meth c H locs cells slots Q (F0 m (pc + 1) ls (.int x :: rest))) : W p l e R s m args below meth c H locs cells slots Q (F0 m pc ls (.ref a :: rest)) := by
  obtain ⟨E, hP, hD, hm, hz, hE⟩ := hT
  have hL : a ∈ zL z := hm a (by rw [ha]; exact Nat.succ_ne_zero _)
  obtain ⟨k, hk0⟩ := va_pl_get (X := []) (f := E) hL
  have he := hE a hL
  rw [ha] at he
  obtain ⟨f, h9, hf⟩ : a26 z (σ o 26) (E a) := he
  have hk := hk0
  rw [h9] at hk
  exact va_alen hx hb hK hP k 0 hk rfl (v := 6) rfl hdg (kk _ rfl)
theorem as_26 {i x : Int32} (hx : p.tables.exec = Jvm.exec) (hb : c.code = cc) (hK : va_K (zD z) vwCl (zT z) s) (hT : TY z A σ H) (hS : va_S A H0 H locs) (ha : zG z a = (26, o)) (h0 : 0 ≤ i.toInt) (h1 : i.toInt < 6) (hv : (0 ≤ x.toInt ∧ x.toInt ≤ 8)) (hdg : decode cc pc = .ok (.iastore, 1)) (kk : ∀ (H1 : Heap) (locs1 : List Loc), TY z A (wr σ o 26 i.toInt.toNat x.toInt) H1 → va_S A H0 H1 locs1 → W p l e R s m args below meth c H1 locs1 cells slots Q (F0 m (pc + 1) ls (rest))) : W p l e R s m args below meth c H locs cells slots Q (F0 m pc ls (.int x :: .int i :: .ref a :: rest)) := by
  obtain ⟨E, hP, hD, hm, hz, hE⟩ := hT
  have hL : a ∈ zL z := hm a (by rw [ha]; exact Nat.succ_ne_zero _)
  obtain ⟨k, hk0⟩ := va_pl_get (X := []) (f := E) hL
  have he := hE a hL
  rw [ha] at he
  obtain ⟨f, h9, hf⟩ : a26 z (σ o 26) (E a) := he
  have hk := hk0
  rw [h9] at hk
  refine va_iast hx hb hK hP hD hS k 0 hk rfl (ix_in (n := 6) h0 h1) hdg (fun H1 locs1 hP1 hD1 hS1 => ?_)
  refine kk H1 locs1 (ty_up hP1 hD1 hD hm hz hE hL hk0 ?_ (up_mo hz hE ha (fun r' hr' => wrl_nr _ _ hr'))) hS1
  rw [ha]
  show eOK z (gset σ o (wrl (σ o) 26 i.toInt.toNat x.toInt) o 26) (26, o) _
  rw [gset_at]
  refine (⟨upd f i.toNatClampNeg x, rfl, fun j hj => ?_⟩ : a26 z (wrl (σ o) 26 i.toInt.toNat x.toInt 26) _)
  by_cases hj2 : j = i.toNatClampNeg
  · subst hj2
    rw [show upd f i.toNatClampNeg x i.toNatClampNeg = x from if_pos rfl]
    exact ⟨(wrl_at _ _ _ _).symm, hv⟩
  · rw [show upd f i.toNatClampNeg x j = f j from if_neg hj2]
    exact ⟨(hf j hj).1.trans (wrl_ni _ _ hj2).symm, (hf j hj).2⟩
theorem al_27 {i : Int32} (hx : p.tables.exec = Jvm.exec) (hb : c.code = cc) (hK : va_K (zD z) vwCl (zT z) s) (hT : TY z A σ H) (ha : zG z a = (27, o)) (h0 : 0 ≤ i.toInt) (h1 : i.toInt < 5) (hdg : decode cc pc = .ok (.iaload, 1)) (kk : ∀ x : Int32, x.toInt = σ o 27 i.toInt.toNat → (0 ≤ x.toInt ∧ x.toInt ≤ 4) → W p l e R s m args below meth c H locs cells slots Q (F0 m (pc + 1) ls (.int x :: rest))) : W p l e R s m args below meth c H locs cells slots Q (F0 m pc ls (.int i :: .ref a :: rest)) := by
  obtain ⟨E, hP, hD, hm, hz, hE⟩ := hT
  have hL : a ∈ zL z := hm a (by rw [ha]; exact Nat.succ_ne_zero _)
  obtain ⟨k, hk0⟩ := va_pl_get (X := []) (f := E) hL
  have he := hE a hL
  rw [ha] at he
  obtain ⟨f, h9, hf⟩ : a27 z (σ o 27) (E a) := he
  have hk := hk0
  rw [h9] at hk
  exact va_iald hx hb hK hP k 0 hk rfl (ix_in (n := 5) h0 h1) hdg (kk _ (hf _ (ix_lt (n := 5) h0 h1)).1 (hf _ (ix_lt (n := 5) h0 h1)).2)
theorem an_27 (hx : p.tables.exec = Jvm.exec) (hb : c.code = cc) (hK : va_K (zD z) vwCl (zT z) s) (hT : TY z A σ H) (ha : zG z a = (27, o)) (hdg : decode cc pc = .ok (.arraylength, 1)) (kk : ∀ x : Int32, x.toInt = 5 → W p l e R s m args below meth c H locs cells slots Q (F0 m (pc + 1) ls (.int x :: rest))) : W p l e R s m args below meth c H locs cells slots Q (F0 m pc ls (.ref a :: rest)) := by
  obtain ⟨E, hP, hD, hm, hz, hE⟩ := hT
  have hL : a ∈ zL z := hm a (by rw [ha]; exact Nat.succ_ne_zero _)
  obtain ⟨k, hk0⟩ := va_pl_get (X := []) (f := E) hL
  have he := hE a hL
  rw [ha] at he
  obtain ⟨f, h9, hf⟩ : a27 z (σ o 27) (E a) := he
  have hk := hk0
  rw [h9] at hk
  exact va_alen hx hb hK hP k 0 hk rfl (v := 5) rfl hdg (kk _ rfl)
theorem as_27 {i x : Int32} (hx : p.tables.exec = Jvm.exec) (hb : c.code = cc) (hK : va_K (zD z) vwCl (zT z) s) (hT : TY z A σ H) (hS : va_S A H0 H locs) (ha : zG z a = (27, o)) (h0 : 0 ≤ i.toInt) (h1 : i.toInt < 5) (hv : (0 ≤ x.toInt ∧ x.toInt ≤ 4)) (hdg : decode cc pc = .ok (.iastore, 1)) (kk : ∀ (H1 : Heap) (locs1 : List Loc), TY z A (wr σ o 27 i.toInt.toNat x.toInt) H1 → va_S A H0 H1 locs1 → W p l e R s m args below meth c H1 locs1 cells slots Q (F0 m (pc + 1) ls (rest))) : W p l e R s m args below meth c H locs cells slots Q (F0 m pc ls (.int x :: .int i :: .ref a :: rest)) := by
  obtain ⟨E, hP, hD, hm, hz, hE⟩ := hT
  have hL : a ∈ zL z := hm a (by rw [ha]; exact Nat.succ_ne_zero _)
  obtain ⟨k, hk0⟩ := va_pl_get (X := []) (f := E) hL
  have he := hE a hL
  rw [ha] at he
  obtain ⟨f, h9, hf⟩ : a27 z (σ o 27) (E a) := he
  have hk := hk0
  rw [h9] at hk
  refine va_iast hx hb hK hP hD hS k 0 hk rfl (ix_in (n := 5) h0 h1) hdg (fun H1 locs1 hP1 hD1 hS1 => ?_)
  refine kk H1 locs1 (ty_up hP1 hD1 hD hm hz hE hL hk0 ?_ (up_mo hz hE ha (fun r' hr' => wrl_nr _ _ hr'))) hS1
  rw [ha]
  show eOK z (gset σ o (wrl (σ o) 27 i.toInt.toNat x.toInt) o 27) (27, o) _
  rw [gset_at]
  refine (⟨upd f i.toNatClampNeg x, rfl, fun j hj => ?_⟩ : a27 z (wrl (σ o) 27 i.toInt.toNat x.toInt 27) _)
  by_cases hj2 : j = i.toNatClampNeg
  · subst hj2
    rw [show upd f i.toNatClampNeg x i.toNatClampNeg = x from if_pos rfl]
    exact ⟨(wrl_at _ _ _ _).symm, hv⟩
  · rw [show upd f i.toNatClampNeg x j = f j from if_neg hj2]
    exact ⟨(hf j hj).1.trans (wrl_ni _ _ hj2).symm, (hf j hj).2⟩
theorem al_28 {i : Int32} (hx : p.tables.exec = Jvm.exec) (hb : c.code = cc) (hK : va_K (zD z) vwCl (zT z) s) (hT : TY z A σ H) (ha : zG z a = (28, o)) (h0 : 0 ≤ i.toInt) (h1 : i.toInt < 5) (hdg : decode cc pc = .ok (.iaload, 1)) (kk : ∀ x : Int32, x.toInt = σ o 28 i.toInt.toNat → (0 ≤ x.toInt ∧ x.toInt ≤ 4) → W p l e R s m args below meth c H locs cells slots Q (F0 m (pc + 1) ls (.int x :: rest))) : W p l e R s m args below meth c H locs cells slots Q (F0 m pc ls (.int i :: .ref a :: rest)) := by
  obtain ⟨E, hP, hD, hm, hz, hE⟩ := hT
  have hL : a ∈ zL z := hm a (by rw [ha]; exact Nat.succ_ne_zero _)
  obtain ⟨k, hk0⟩ := va_pl_get (X := []) (f := E) hL
  have he := hE a hL
  rw [ha] at he
  obtain ⟨f, h9, hf⟩ : a28 z (σ o 28) (E a) := he
  have hk := hk0
  rw [h9] at hk
  exact va_iald hx hb hK hP k 0 hk rfl (ix_in (n := 5) h0 h1) hdg (kk _ (hf _ (ix_lt (n := 5) h0 h1)).1 (hf _ (ix_lt (n := 5) h0 h1)).2)
theorem an_28 (hx : p.tables.exec = Jvm.exec) (hb : c.code = cc) (hK : va_K (zD z) vwCl (zT z) s) (hT : TY z A σ H) (ha : zG z a = (28, o)) (hdg : decode cc pc = .ok (.arraylength, 1)) (kk : ∀ x : Int32, x.toInt = 5 → W p l e R s m args below meth c H locs cells slots Q (F0 m (pc + 1) ls (.int x :: rest))) : W p l e R s m args below meth c H locs cells slots Q (F0 m pc ls (.ref a :: rest)) := by
  obtain ⟨E, hP, hD, hm, hz, hE⟩ := hT
  have hL : a ∈ zL z := hm a (by rw [ha]; exact Nat.succ_ne_zero _)
  obtain ⟨k, hk0⟩ := va_pl_get (X := []) (f := E) hL
  have he := hE a hL
  rw [ha] at he
  obtain ⟨f, h9, hf⟩ : a28 z (σ o 28) (E a) := he
  have hk := hk0
  rw [h9] at hk
  exact va_alen hx hb hK hP k 0 hk rfl (v := 5) rfl hdg (kk _ rfl)
theorem as_28 {i x : Int32} (hx : p.tables.exec = Jvm.exec) (hb : c.code = cc) (hK : va_K (zD z) vwCl (zT z) s) (hT : TY z A σ H) (hS : va_S A H0 H locs) (ha : zG z a = (28, o)) (h0 : 0 ≤ i.toInt) (h1 : i.toInt < 5) (hv : (0 ≤ x.toInt ∧ x.toInt ≤ 4)) (hdg : decode cc pc = .ok (.iastore, 1)) (kk : ∀ (H1 : Heap) (locs1 : List Loc), TY z A (wr σ o 28 i.toInt.toNat x.toInt) H1 → va_S A H0 H1 locs1 → W p l e R s m args below meth c H1 locs1 cells slots Q (F0 m (pc + 1) ls (rest))) : W p l e R s m args below meth c H locs cells slots Q (F0 m pc ls (.int x :: .int i :: .ref a :: rest)) := by
  obtain ⟨E, hP, hD, hm, hz, hE⟩ := hT
  have hL : a ∈ zL z := hm a (by rw [ha]; exact Nat.succ_ne_zero _)
  obtain ⟨k, hk0⟩ := va_pl_get (X := []) (f := E) hL
  have he := hE a hL
  rw [ha] at he
  obtain ⟨f, h9, hf⟩ : a28 z (σ o 28) (E a) := he
  have hk := hk0
  rw [h9] at hk
  refine va_iast hx hb hK hP hD hS k 0 hk rfl (ix_in (n := 5) h0 h1) hdg (fun H1 locs1 hP1 hD1 hS1 => ?_)
  refine kk H1 locs1 (ty_up hP1 hD1 hD hm hz hE hL hk0 ?_ (up_mo hz hE ha (fun r' hr' => wrl_nr _ _ hr'))) hS1
  rw [ha]
  show eOK z (gset σ o (wrl (σ o) 28 i.toInt.toNat x.toInt) o 28) (28, o) _
  rw [gset_at]
  refine (⟨upd f i.toNatClampNeg x, rfl, fun j hj => ?_⟩ : a28 z (wrl (σ o) 28 i.toInt.toNat x.toInt 28) _)
  by_cases hj2 : j = i.toNatClampNeg
  · subst hj2
    rw [show upd f i.toNatClampNeg x i.toNatClampNeg = x from if_pos rfl]
    exact ⟨(wrl_at _ _ _ _).symm, hv⟩
  · rw [show upd f i.toNatClampNeg x j = f j from if_neg hj2]
    exact ⟨(hf j hj).1.trans (wrl_ni _ _ hj2).symm, (hf j hj).2⟩
theorem al_29 {i : Int32} (hx : p.tables.exec = Jvm.exec) (hb : c.code = cc) (hK : va_K (zD z) vwCl (zT z) s) (hT : TY z A σ H) (ha : zG z a = (29, o)) (h0 : 0 ≤ i.toInt) (h1 : i.toInt < 5) (hdg : decode cc pc = .ok (.iaload, 1)) (kk : ∀ x : Int32, x.toInt = σ o 29 i.toInt.toNat → (0 ≤ x.toInt ∧ x.toInt ≤ 4) → W p l e R s m args below meth c H locs cells slots Q (F0 m (pc + 1) ls (.int x :: rest))) : W p l e R s m args below meth c H locs cells slots Q (F0 m pc ls (.int i :: .ref a :: rest)) := by
  obtain ⟨E, hP, hD, hm, hz, hE⟩ := hT
  have hL : a ∈ zL z := hm a (by rw [ha]; exact Nat.succ_ne_zero _)
  obtain ⟨k, hk0⟩ := va_pl_get (X := []) (f := E) hL
  have he := hE a hL
  rw [ha] at he
  obtain ⟨f, h9, hf⟩ : a29 z (σ o 29) (E a) := he
  have hk := hk0
  rw [h9] at hk
  exact va_iald hx hb hK hP k 0 hk rfl (ix_in (n := 5) h0 h1) hdg (kk _ (hf _ (ix_lt (n := 5) h0 h1)).1 (hf _ (ix_lt (n := 5) h0 h1)).2)
theorem an_29 (hx : p.tables.exec = Jvm.exec) (hb : c.code = cc) (hK : va_K (zD z) vwCl (zT z) s) (hT : TY z A σ H) (ha : zG z a = (29, o)) (hdg : decode cc pc = .ok (.arraylength, 1)) (kk : ∀ x : Int32, x.toInt = 5 → W p l e R s m args below meth c H locs cells slots Q (F0 m (pc + 1) ls (.int x :: rest))) : W p l e R s m args below meth c H locs cells slots Q (F0 m pc ls (.ref a :: rest)) := by
  obtain ⟨E, hP, hD, hm, hz, hE⟩ := hT
  have hL : a ∈ zL z := hm a (by rw [ha]; exact Nat.succ_ne_zero _)
  obtain ⟨k, hk0⟩ := va_pl_get (X := []) (f := E) hL
  have he := hE a hL
  rw [ha] at he
  obtain ⟨f, h9, hf⟩ : a29 z (σ o 29) (E a) := he
  have hk := hk0
  rw [h9] at hk
  exact va_alen hx hb hK hP k 0 hk rfl (v := 5) rfl hdg (kk _ rfl)
theorem as_29 {i x : Int32} (hx : p.tables.exec = Jvm.exec) (hb : c.code = cc) (hK : va_K (zD z) vwCl (zT z) s) (hT : TY z A σ H) (hS : va_S A H0 H locs) (ha : zG z a = (29, o)) (h0 : 0 ≤ i.toInt) (h1 : i.toInt < 5) (hv : (0 ≤ x.toInt ∧ x.toInt ≤ 4)) (hdg : decode cc pc = .ok (.iastore, 1)) (kk : ∀ (H1 : Heap) (locs1 : List Loc), TY z A (wr σ o 29 i.toInt.toNat x.toInt) H1 → va_S A H0 H1 locs1 → W p l e R s m args below meth c H1 locs1 cells slots Q (F0 m (pc + 1) ls (rest))) : W p l e R s m args below meth c H locs cells slots Q (F0 m pc ls (.int x :: .int i :: .ref a :: rest)) := by
  obtain ⟨E, hP, hD, hm, hz, hE⟩ := hT
  have hL : a ∈ zL z := hm a (by rw [ha]; exact Nat.succ_ne_zero _)
  obtain ⟨k, hk0⟩ := va_pl_get (X := []) (f := E) hL
  have he := hE a hL
  rw [ha] at he
  obtain ⟨f, h9, hf⟩ : a29 z (σ o 29) (E a) := he
  have hk := hk0
  rw [h9] at hk
  refine va_iast hx hb hK hP hD hS k 0 hk rfl (ix_in (n := 5) h0 h1) hdg (fun H1 locs1 hP1 hD1 hS1 => ?_)
  refine kk H1 locs1 (ty_up hP1 hD1 hD hm hz hE hL hk0 ?_ (up_mo hz hE ha (fun r' hr' => wrl_nr _ _ hr'))) hS1
  rw [ha]
  show eOK z (gset σ o (wrl (σ o) 29 i.toInt.toNat x.toInt) o 29) (29, o) _
  rw [gset_at]
  refine (⟨upd f i.toNatClampNeg x, rfl, fun j hj => ?_⟩ : a29 z (wrl (σ o) 29 i.toInt.toNat x.toInt 29) _)
  by_cases hj2 : j = i.toNatClampNeg
  · subst hj2
    rw [show upd f i.toNatClampNeg x i.toNatClampNeg = x from if_pos rfl]
    exact ⟨(wrl_at _ _ _ _).symm, hv⟩
  · rw [show upd f i.toNatClampNeg x j = f j from if_neg hj2]
    exact ⟨(hf j hj).1.trans (wrl_ni _ _ hj2).symm, (hf j hj).2⟩
theorem al_30 {i : Int32} (hx : p.tables.exec = Jvm.exec) (hb : c.code = cc) (hK : va_K (zD z) vwCl (zT z) s) (hT : TY z A σ H) (ha : zG z a = (30, o)) (h0 : 0 ≤ i.toInt) (h1 : i.toInt < 160) (hdg : decode cc pc = .ok (.iaload, 1)) (kk : ∀ x : Int32, x.toInt = σ o 30 i.toInt.toNat → (0 ≤ x.toInt ∧ x.toInt ≤ 127) → W p l e R s m args below meth c H locs cells slots Q (F0 m (pc + 1) ls (.int x :: rest))) : W p l e R s m args below meth c H locs cells slots Q (F0 m pc ls (.int i :: .ref a :: rest)) := by
  obtain ⟨E, hP, hD, hm, hz, hE⟩ := hT
  have hL : a ∈ zL z := hm a (by rw [ha]; exact Nat.succ_ne_zero _)
  obtain ⟨k, hk0⟩ := va_pl_get (X := []) (f := E) hL
  have he := hE a hL
  rw [ha] at he
  obtain ⟨f, h9, hf⟩ : a30 z (σ o 30) (E a) := he
  have hk := hk0
  rw [h9] at hk
  exact va_iald hx hb hK hP k 0 hk rfl (ix_in (n := 160) h0 h1) hdg (kk _ (hf _ (ix_lt (n := 160) h0 h1)).1 (hf _ (ix_lt (n := 160) h0 h1)).2)
theorem an_30 (hx : p.tables.exec = Jvm.exec) (hb : c.code = cc) (hK : va_K (zD z) vwCl (zT z) s) (hT : TY z A σ H) (ha : zG z a = (30, o)) (hdg : decode cc pc = .ok (.arraylength, 1)) (kk : ∀ x : Int32, x.toInt = 160 → W p l e R s m args below meth c H locs cells slots Q (F0 m (pc + 1) ls (.int x :: rest))) : W p l e R s m args below meth c H locs cells slots Q (F0 m pc ls (.ref a :: rest)) := by
  obtain ⟨E, hP, hD, hm, hz, hE⟩ := hT
  have hL : a ∈ zL z := hm a (by rw [ha]; exact Nat.succ_ne_zero _)
  obtain ⟨k, hk0⟩ := va_pl_get (X := []) (f := E) hL
  have he := hE a hL
  rw [ha] at he
  obtain ⟨f, h9, hf⟩ : a30 z (σ o 30) (E a) := he
  have hk := hk0
  rw [h9] at hk
  exact va_alen hx hb hK hP k 0 hk rfl (v := 160) rfl hdg (kk _ rfl)
theorem as_30 {i x : Int32} (hx : p.tables.exec = Jvm.exec) (hb : c.code = cc) (hK : va_K (zD z) vwCl (zT z) s) (hT : TY z A σ H) (hS : va_S A H0 H locs) (ha : zG z a = (30, o)) (h0 : 0 ≤ i.toInt) (h1 : i.toInt < 160) (hv : (0 ≤ x.toInt ∧ x.toInt ≤ 127)) (hdg : decode cc pc = .ok (.iastore, 1)) (kk : ∀ (H1 : Heap) (locs1 : List Loc), TY z A (wr σ o 30 i.toInt.toNat x.toInt) H1 → va_S A H0 H1 locs1 → W p l e R s m args below meth c H1 locs1 cells slots Q (F0 m (pc + 1) ls (rest))) : W p l e R s m args below meth c H locs cells slots Q (F0 m pc ls (.int x :: .int i :: .ref a :: rest)) := by
  obtain ⟨E, hP, hD, hm, hz, hE⟩ := hT
  have hL : a ∈ zL z := hm a (by rw [ha]; exact Nat.succ_ne_zero _)
  obtain ⟨k, hk0⟩ := va_pl_get (X := []) (f := E) hL
  have he := hE a hL
  rw [ha] at he
  obtain ⟨f, h9, hf⟩ : a30 z (σ o 30) (E a) := he
  have hk := hk0
  rw [h9] at hk
  refine va_iast hx hb hK hP hD hS k 0 hk rfl (ix_in (n := 160) h0 h1) hdg (fun H1 locs1 hP1 hD1 hS1 => ?_)
  refine kk H1 locs1 (ty_up hP1 hD1 hD hm hz hE hL hk0 ?_ (up_mo hz hE ha (fun r' hr' => wrl_nr _ _ hr'))) hS1
  rw [ha]
  show eOK z (gset σ o (wrl (σ o) 30 i.toInt.toNat x.toInt) o 30) (30, o) _
  rw [gset_at]
  refine (⟨upd f i.toNatClampNeg x, rfl, fun j hj => ?_⟩ : a30 z (wrl (σ o) 30 i.toInt.toNat x.toInt 30) _)
  by_cases hj2 : j = i.toNatClampNeg
  · subst hj2
    rw [show upd f i.toNatClampNeg x i.toNatClampNeg = x from if_pos rfl]
    exact ⟨(wrl_at _ _ _ _).symm, hv⟩
  · rw [show upd f i.toNatClampNeg x j = f j from if_neg hj2]
    exact ⟨(hf j hj).1.trans (wrl_ni _ _ hj2).symm, (hf j hj).2⟩
theorem al_33 {i : Int32} (hx : p.tables.exec = Jvm.exec) (hb : c.code = cc) (hK : va_K (zD z) vwCl (zT z) s) (hT : TY z A σ H) (ha : zG z a = (33, o)) (h0 : 0 ≤ i.toInt) (h1 : i.toInt < 2) (hdg : decode cc pc = .ok (.baload, 1)) (kk : ∀ x : Int32, x.toInt = σ o 33 i.toInt.toNat → (0 ≤ x.toInt ∧ x.toInt ≤ 1) → W p l e R s m args below meth c H locs cells slots Q (F0 m (pc + 1) ls (.int x :: rest))) : W p l e R s m args below meth c H locs cells slots Q (F0 m pc ls (.int i :: .ref a :: rest)) := by
  obtain ⟨E, hP, hD, hm, hz, hE⟩ := hT
  have hL : a ∈ zL z := hm a (by rw [ha]; exact Nat.succ_ne_zero _)
  obtain ⟨k, hk0⟩ := va_pl_get (X := []) (f := E) hL
  have he := hE a hL
  rw [ha] at he
  obtain ⟨f, h9, hf⟩ : a33 z (σ o 33) (E a) := he
  have hk := hk0
  rw [h9] at hk
  exact va_zald hx hb hK hP k 1 hk rfl (ix_in (n := 2) h0 h1) hdg (kk _ (hf _ (ix_lt (n := 2) h0 h1)).1 (hf _ (ix_lt (n := 2) h0 h1)).2)
theorem an_33 (hx : p.tables.exec = Jvm.exec) (hb : c.code = cc) (hK : va_K (zD z) vwCl (zT z) s) (hT : TY z A σ H) (ha : zG z a = (33, o)) (hdg : decode cc pc = .ok (.arraylength, 1)) (kk : ∀ x : Int32, x.toInt = 2 → W p l e R s m args below meth c H locs cells slots Q (F0 m (pc + 1) ls (.int x :: rest))) : W p l e R s m args below meth c H locs cells slots Q (F0 m pc ls (.ref a :: rest)) := by
  obtain ⟨E, hP, hD, hm, hz, hE⟩ := hT
  have hL : a ∈ zL z := hm a (by rw [ha]; exact Nat.succ_ne_zero _)
  obtain ⟨k, hk0⟩ := va_pl_get (X := []) (f := E) hL
  have he := hE a hL
  rw [ha] at he
  obtain ⟨f, h9, hf⟩ : a33 z (σ o 33) (E a) := he
  have hk := hk0
  rw [h9] at hk
  exact va_alen hx hb hK hP k 1 hk rfl (v := 2) rfl hdg (kk _ rfl)
theorem as_33 {i x : Int32} (hx : p.tables.exec = Jvm.exec) (hb : c.code = cc) (hK : va_K (zD z) vwCl (zT z) s) (hT : TY z A σ H) (hS : va_S A H0 H locs) (ha : zG z a = (33, o)) (h0 : 0 ≤ i.toInt) (h1 : i.toInt < 2) (hv : (0 ≤ x.toInt ∧ x.toInt ≤ 1)) (hdg : decode cc pc = .ok (.bastore, 1)) (kk : ∀ (H1 : Heap) (locs1 : List Loc), TY z A (wr σ o 33 i.toInt.toNat x.toInt) H1 → va_S A H0 H1 locs1 → W p l e R s m args below meth c H1 locs1 cells slots Q (F0 m (pc + 1) ls (rest))) : W p l e R s m args below meth c H locs cells slots Q (F0 m pc ls (.int x :: .int i :: .ref a :: rest)) := by
  obtain ⟨E, hP, hD, hm, hz, hE⟩ := hT
  have hL : a ∈ zL z := hm a (by rw [ha]; exact Nat.succ_ne_zero _)
  obtain ⟨k, hk0⟩ := va_pl_get (X := []) (f := E) hL
  have he := hE a hL
  rw [ha] at he
  obtain ⟨f, h9, hf⟩ : a33 z (σ o 33) (E a) := he
  have hk := hk0
  rw [h9] at hk
  refine va_zast hx hb hK hP hD hS k 1 hk rfl (ix_in (n := 2) h0 h1) hdg (fun H1 locs1 hP1 hD1 hS1 => ?_)
  refine kk H1 locs1 (ty_up hP1 hD1 hD hm hz hE hL hk0 ?_ (up_mo hz hE ha (fun r' hr' => wrl_nr _ _ hr'))) hS1
  rw [ha]
  show eOK z (gset σ o (wrl (σ o) 33 i.toInt.toNat x.toInt) o 33) (33, o) _
  rw [gset_at]
  refine (⟨upd f i.toNatClampNeg (vp_nar .boolean x), rfl, fun j hj => ?_⟩ : a33 z (wrl (σ o) 33 i.toInt.toNat x.toInt 33) _)
  rw [bo_v hv.1 hv.2]
  by_cases hj2 : j = i.toNatClampNeg
  · subst hj2
    rw [show upd f i.toNatClampNeg x i.toNatClampNeg = x from if_pos rfl]
    exact ⟨(wrl_at _ _ _ _).symm, hv⟩
  · rw [show upd f i.toNatClampNeg x j = f j from if_neg hj2]
    exact ⟨(hf j hj).1.trans (wrl_ni _ _ hj2).symm, (hf j hj).2⟩
theorem al_51 {i : Int32} (hx : p.tables.exec = Jvm.exec) (hb : c.code = cc) (hK : va_K (zD z) vwCl (zT z) s) (hT : TY z A σ H) (ha : zG z a = (51, o)) (h0 : 0 ≤ i.toInt) (h1 : i.toInt < 5) (hdg : decode cc pc = .ok (.iaload, 1)) (kk : ∀ x : Int32, x.toInt = σ o 51 i.toInt.toNat → W p l e R s m args below meth c H locs cells slots Q (F0 m (pc + 1) ls (.int x :: rest))) : W p l e R s m args below meth c H locs cells slots Q (F0 m pc ls (.int i :: .ref a :: rest)) := by
  obtain ⟨E, hP, hD, hm, hz, hE⟩ := hT
  have hL : a ∈ zL z := hm a (by rw [ha]; exact Nat.succ_ne_zero _)
  obtain ⟨k, hk0⟩ := va_pl_get (X := []) (f := E) hL
  have he := hE a hL
  rw [ha] at he
  obtain ⟨f, h9, hf⟩ : a51 z (σ o 51) (E a) := he
  have hk := hk0
  rw [h9] at hk
  exact va_iald hx hb hK hP k 0 hk rfl (ix_in (n := 5) h0 h1) hdg (kk _ (hf _ (ix_lt (n := 5) h0 h1)).1)
theorem an_51 (hx : p.tables.exec = Jvm.exec) (hb : c.code = cc) (hK : va_K (zD z) vwCl (zT z) s) (hT : TY z A σ H) (ha : zG z a = (51, o)) (hdg : decode cc pc = .ok (.arraylength, 1)) (kk : ∀ x : Int32, x.toInt = 5 → W p l e R s m args below meth c H locs cells slots Q (F0 m (pc + 1) ls (.int x :: rest))) : W p l e R s m args below meth c H locs cells slots Q (F0 m pc ls (.ref a :: rest)) := by
  obtain ⟨E, hP, hD, hm, hz, hE⟩ := hT
  have hL : a ∈ zL z := hm a (by rw [ha]; exact Nat.succ_ne_zero _)
  obtain ⟨k, hk0⟩ := va_pl_get (X := []) (f := E) hL
  have he := hE a hL
  rw [ha] at he
  obtain ⟨f, h9, hf⟩ : a51 z (σ o 51) (E a) := he
  have hk := hk0
  rw [h9] at hk
  exact va_alen hx hb hK hP k 0 hk rfl (v := 5) rfl hdg (kk _ rfl)
theorem as_51 {i x : Int32} (hx : p.tables.exec = Jvm.exec) (hb : c.code = cc) (hK : va_K (zD z) vwCl (zT z) s) (hT : TY z A σ H) (hS : va_S A H0 H locs) (ha : zG z a = (51, o)) (h0 : 0 ≤ i.toInt) (h1 : i.toInt < 5) (hdg : decode cc pc = .ok (.iastore, 1)) (kk : ∀ (H1 : Heap) (locs1 : List Loc), TY z A (wr σ o 51 i.toInt.toNat x.toInt) H1 → va_S A H0 H1 locs1 → W p l e R s m args below meth c H1 locs1 cells slots Q (F0 m (pc + 1) ls (rest))) : W p l e R s m args below meth c H locs cells slots Q (F0 m pc ls (.int x :: .int i :: .ref a :: rest)) := by
  obtain ⟨E, hP, hD, hm, hz, hE⟩ := hT
  have hL : a ∈ zL z := hm a (by rw [ha]; exact Nat.succ_ne_zero _)
  obtain ⟨k, hk0⟩ := va_pl_get (X := []) (f := E) hL
  have he := hE a hL
  rw [ha] at he
  obtain ⟨f, h9, hf⟩ : a51 z (σ o 51) (E a) := he
  have hk := hk0
  rw [h9] at hk
  refine va_iast hx hb hK hP hD hS k 0 hk rfl (ix_in (n := 5) h0 h1) hdg (fun H1 locs1 hP1 hD1 hS1 => ?_)
  refine kk H1 locs1 (ty_up hP1 hD1 hD hm hz hE hL hk0 ?_ (up_mo hz hE ha (fun r' hr' => wrl_nr _ _ hr'))) hS1
  rw [ha]
  show eOK z (gset σ o (wrl (σ o) 51 i.toInt.toNat x.toInt) o 51) (51, o) _
  rw [gset_at]
  refine (⟨upd f i.toNatClampNeg x, rfl, fun j hj => ?_⟩ : a51 z (wrl (σ o) 51 i.toInt.toNat x.toInt 51) _)
  by_cases hj2 : j = i.toNatClampNeg
  · subst hj2
    rw [show upd f i.toNatClampNeg x i.toNatClampNeg = x from if_pos rfl]
    exact ⟨(wrl_at _ _ _ _).symm, trivial⟩
  · rw [show upd f i.toNatClampNeg x j = f j from if_neg hj2]
    exact ⟨(hf j hj).1.trans (wrl_ni _ _ hj2).symm, (hf j hj).2⟩
theorem al_52 {i : Int32} (hx : p.tables.exec = Jvm.exec) (hb : c.code = cc) (hK : va_K (zD z) vwCl (zT z) s) (hT : TY z A σ H) (ha : zG z a = (52, o)) (h0 : 0 ≤ i.toInt) (h1 : i.toInt < 5) (hdg : decode cc pc = .ok (.iaload, 1)) (kk : ∀ x : Int32, x.toInt = σ o 52 i.toInt.toNat → (0 ≤ x.toInt ∧ x.toInt ≤ 9) → W p l e R s m args below meth c H locs cells slots Q (F0 m (pc + 1) ls (.int x :: rest))) : W p l e R s m args below meth c H locs cells slots Q (F0 m pc ls (.int i :: .ref a :: rest)) := by
  obtain ⟨E, hP, hD, hm, hz, hE⟩ := hT
  have hL : a ∈ zL z := hm a (by rw [ha]; exact Nat.succ_ne_zero _)
  obtain ⟨k, hk0⟩ := va_pl_get (X := []) (f := E) hL
  have he := hE a hL
  rw [ha] at he
  obtain ⟨f, h9, hf⟩ : a52 z (σ o 52) (E a) := he
  have hk := hk0
  rw [h9] at hk
  exact va_iald hx hb hK hP k 0 hk rfl (ix_in (n := 5) h0 h1) hdg (kk _ (hf _ (ix_lt (n := 5) h0 h1)).1 (hf _ (ix_lt (n := 5) h0 h1)).2)
theorem an_52 (hx : p.tables.exec = Jvm.exec) (hb : c.code = cc) (hK : va_K (zD z) vwCl (zT z) s) (hT : TY z A σ H) (ha : zG z a = (52, o)) (hdg : decode cc pc = .ok (.arraylength, 1)) (kk : ∀ x : Int32, x.toInt = 5 → W p l e R s m args below meth c H locs cells slots Q (F0 m (pc + 1) ls (.int x :: rest))) : W p l e R s m args below meth c H locs cells slots Q (F0 m pc ls (.ref a :: rest)) := by
  obtain ⟨E, hP, hD, hm, hz, hE⟩ := hT
  have hL : a ∈ zL z := hm a (by rw [ha]; exact Nat.succ_ne_zero _)
  obtain ⟨k, hk0⟩ := va_pl_get (X := []) (f := E) hL
  have he := hE a hL
  rw [ha] at he
  obtain ⟨f, h9, hf⟩ : a52 z (σ o 52) (E a) := he
  have hk := hk0
  rw [h9] at hk
  exact va_alen hx hb hK hP k 0 hk rfl (v := 5) rfl hdg (kk _ rfl)
theorem as_52 {i x : Int32} (hx : p.tables.exec = Jvm.exec) (hb : c.code = cc) (hK : va_K (zD z) vwCl (zT z) s) (hT : TY z A σ H) (hS : va_S A H0 H locs) (ha : zG z a = (52, o)) (h0 : 0 ≤ i.toInt) (h1 : i.toInt < 5) (hv : (0 ≤ x.toInt ∧ x.toInt ≤ 9)) (hdg : decode cc pc = .ok (.iastore, 1)) (kk : ∀ (H1 : Heap) (locs1 : List Loc), TY z A (wr σ o 52 i.toInt.toNat x.toInt) H1 → va_S A H0 H1 locs1 → W p l e R s m args below meth c H1 locs1 cells slots Q (F0 m (pc + 1) ls (rest))) : W p l e R s m args below meth c H locs cells slots Q (F0 m pc ls (.int x :: .int i :: .ref a :: rest)) := by
  obtain ⟨E, hP, hD, hm, hz, hE⟩ := hT
  have hL : a ∈ zL z := hm a (by rw [ha]; exact Nat.succ_ne_zero _)
  obtain ⟨k, hk0⟩ := va_pl_get (X := []) (f := E) hL
  have he := hE a hL
  rw [ha] at he
  obtain ⟨f, h9, hf⟩ : a52 z (σ o 52) (E a) := he
  have hk := hk0
  rw [h9] at hk
  refine va_iast hx hb hK hP hD hS k 0 hk rfl (ix_in (n := 5) h0 h1) hdg (fun H1 locs1 hP1 hD1 hS1 => ?_)
  refine kk H1 locs1 (ty_up hP1 hD1 hD hm hz hE hL hk0 ?_ (up_mo hz hE ha (fun r' hr' => wrl_nr _ _ hr'))) hS1
  rw [ha]
  show eOK z (gset σ o (wrl (σ o) 52 i.toInt.toNat x.toInt) o 52) (52, o) _
  rw [gset_at]
  refine (⟨upd f i.toNatClampNeg x, rfl, fun j hj => ?_⟩ : a52 z (wrl (σ o) 52 i.toInt.toNat x.toInt 52) _)
  by_cases hj2 : j = i.toNatClampNeg
  · subst hj2
    rw [show upd f i.toNatClampNeg x i.toNatClampNeg = x from if_pos rfl]
    exact ⟨(wrl_at _ _ _ _).symm, hv⟩
  · rw [show upd f i.toNatClampNeg x j = f j from if_neg hj2]
    exact ⟨(hf j hj).1.trans (wrl_ni _ _ hj2).symm, (hf j hj).2⟩
theorem al_53 {i : Int32} (hx : p.tables.exec = Jvm.exec) (hb : c.code = cc) (hK : va_K (zD z) vwCl (zT z) s) (hT : TY z A σ H) (ha : zG z a = (53, o)) (h0 : 0 ≤ i.toInt) (h1 : i.toInt < 5) (hdg : decode cc pc = .ok (.iaload, 1)) (kk : ∀ x : Int32, x.toInt = σ o 53 i.toInt.toNat → (0 ≤ x.toInt ∧ x.toInt ≤ 9) → W p l e R s m args below meth c H locs cells slots Q (F0 m (pc + 1) ls (.int x :: rest))) : W p l e R s m args below meth c H locs cells slots Q (F0 m pc ls (.int i :: .ref a :: rest)) := by
  obtain ⟨E, hP, hD, hm, hz, hE⟩ := hT
  have hL : a ∈ zL z := hm a (by rw [ha]; exact Nat.succ_ne_zero _)
  obtain ⟨k, hk0⟩ := va_pl_get (X := []) (f := E) hL
  have he := hE a hL
  rw [ha] at he
  obtain ⟨f, h9, hf⟩ : a53 z (σ o 53) (E a) := he
  have hk := hk0
  rw [h9] at hk
  exact va_iald hx hb hK hP k 0 hk rfl (ix_in (n := 5) h0 h1) hdg (kk _ (hf _ (ix_lt (n := 5) h0 h1)).1 (hf _ (ix_lt (n := 5) h0 h1)).2)
theorem an_53 (hx : p.tables.exec = Jvm.exec) (hb : c.code = cc) (hK : va_K (zD z) vwCl (zT z) s) (hT : TY z A σ H) (ha : zG z a = (53, o)) (hdg : decode cc pc = .ok (.arraylength, 1)) (kk : ∀ x : Int32, x.toInt = 5 → W p l e R s m args below meth c H locs cells slots Q (F0 m (pc + 1) ls (.int x :: rest))) : W p l e R s m args below meth c H locs cells slots Q (F0 m pc ls (.ref a :: rest)) := by
  obtain ⟨E, hP, hD, hm, hz, hE⟩ := hT
  have hL : a ∈ zL z := hm a (by rw [ha]; exact Nat.succ_ne_zero _)
  obtain ⟨k, hk0⟩ := va_pl_get (X := []) (f := E) hL
  have he := hE a hL
  rw [ha] at he
  obtain ⟨f, h9, hf⟩ : a53 z (σ o 53) (E a) := he
  have hk := hk0
  rw [h9] at hk
  exact va_alen hx hb hK hP k 0 hk rfl (v := 5) rfl hdg (kk _ rfl)
theorem as_53 {i x : Int32} (hx : p.tables.exec = Jvm.exec) (hb : c.code = cc) (hK : va_K (zD z) vwCl (zT z) s) (hT : TY z A σ H) (hS : va_S A H0 H locs) (ha : zG z a = (53, o)) (h0 : 0 ≤ i.toInt) (h1 : i.toInt < 5) (hv : (0 ≤ x.toInt ∧ x.toInt ≤ 9)) (hdg : decode cc pc = .ok (.iastore, 1)) (kk : ∀ (H1 : Heap) (locs1 : List Loc), TY z A (wr σ o 53 i.toInt.toNat x.toInt) H1 → va_S A H0 H1 locs1 → W p l e R s m args below meth c H1 locs1 cells slots Q (F0 m (pc + 1) ls (rest))) : W p l e R s m args below meth c H locs cells slots Q (F0 m pc ls (.int x :: .int i :: .ref a :: rest)) := by
  obtain ⟨E, hP, hD, hm, hz, hE⟩ := hT
  have hL : a ∈ zL z := hm a (by rw [ha]; exact Nat.succ_ne_zero _)
  obtain ⟨k, hk0⟩ := va_pl_get (X := []) (f := E) hL
  have he := hE a hL
  rw [ha] at he
  obtain ⟨f, h9, hf⟩ : a53 z (σ o 53) (E a) := he
  have hk := hk0
  rw [h9] at hk
  refine va_iast hx hb hK hP hD hS k 0 hk rfl (ix_in (n := 5) h0 h1) hdg (fun H1 locs1 hP1 hD1 hS1 => ?_)
  refine kk H1 locs1 (ty_up hP1 hD1 hD hm hz hE hL hk0 ?_ (up_mo hz hE ha (fun r' hr' => wrl_nr _ _ hr'))) hS1
  rw [ha]
  show eOK z (gset σ o (wrl (σ o) 53 i.toInt.toNat x.toInt) o 53) (53, o) _
  rw [gset_at]
  refine (⟨upd f i.toNatClampNeg x, rfl, fun j hj => ?_⟩ : a53 z (wrl (σ o) 53 i.toInt.toNat x.toInt 53) _)
  by_cases hj2 : j = i.toNatClampNeg
  · subst hj2
    rw [show upd f i.toNatClampNeg x i.toNatClampNeg = x from if_pos rfl]
    exact ⟨(wrl_at _ _ _ _).symm, hv⟩
  · rw [show upd f i.toNatClampNeg x j = f j from if_neg hj2]
    exact ⟨(hf j hj).1.trans (wrl_ni _ _ hj2).symm, (hf j hj).2⟩
theorem al_54 {i : Int32} (hx : p.tables.exec = Jvm.exec) (hb : c.code = cc) (hK : va_K (zD z) vwCl (zT z) s) (hT : TY z A σ H) (ha : zG z a = (54, o)) (h0 : 0 ≤ i.toInt) (h1 : i.toInt < 5) (hdg : decode cc pc = .ok (.iaload, 1)) (kk : ∀ x : Int32, x.toInt = σ o 54 i.toInt.toNat → (0 ≤ x.toInt ∧ x.toInt ≤ 9) → W p l e R s m args below meth c H locs cells slots Q (F0 m (pc + 1) ls (.int x :: rest))) : W p l e R s m args below meth c H locs cells slots Q (F0 m pc ls (.int i :: .ref a :: rest)) := by
  obtain ⟨E, hP, hD, hm, hz, hE⟩ := hT
  have hL : a ∈ zL z := hm a (by rw [ha]; exact Nat.succ_ne_zero _)
  obtain ⟨k, hk0⟩ := va_pl_get (X := []) (f := E) hL
  have he := hE a hL
  rw [ha] at he
  obtain ⟨f, h9, hf⟩ : a54 z (σ o 54) (E a) := he
  have hk := hk0
  rw [h9] at hk
  exact va_iald hx hb hK hP k 0 hk rfl (ix_in (n := 5) h0 h1) hdg (kk _ (hf _ (ix_lt (n := 5) h0 h1)).1 (hf _ (ix_lt (n := 5) h0 h1)).2)
theorem an_54 (hx : p.tables.exec = Jvm.exec) (hb : c.code = cc) (hK : va_K (zD z) vwCl (zT z) s) (hT : TY z A σ H) (ha : zG z a = (54, o)) (hdg : decode cc pc = .ok (.arraylength, 1)) (kk : ∀ x : Int32, x.toInt = 5 → W p l e R s m args below meth c H locs cells slots Q (F0 m (pc + 1) ls (.int x :: rest))) : W p l e R s m args below meth c H locs cells slots Q (F0 m pc ls (.ref a :: rest)) := by
  obtain ⟨E, hP, hD, hm, hz, hE⟩ := hT
  have hL : a ∈ zL z := hm a (by rw [ha]; exact Nat.succ_ne_zero _)
  obtain ⟨k, hk0⟩ := va_pl_get (X := []) (f := E) hL
  have he := hE a hL
  rw [ha] at he
  obtain ⟨f, h9, hf⟩ : a54 z (σ o 54) (E a) := he
  have hk := hk0
  rw [h9] at hk
  exact va_alen hx hb hK hP k 0 hk rfl (v := 5) rfl hdg (kk _ rfl)
theorem as_54 {i x : Int32} (hx : p.tables.exec = Jvm.exec) (hb : c.code = cc) (hK : va_K (zD z) vwCl (zT z) s) (hT : TY z A σ H) (hS : va_S A H0 H locs) (ha : zG z a = (54, o)) (h0 : 0 ≤ i.toInt) (h1 : i.toInt < 5) (hv : (0 ≤ x.toInt ∧ x.toInt ≤ 9)) (hdg : decode cc pc = .ok (.iastore, 1)) (kk : ∀ (H1 : Heap) (locs1 : List Loc), TY z A (wr σ o 54 i.toInt.toNat x.toInt) H1 → va_S A H0 H1 locs1 → W p l e R s m args below meth c H1 locs1 cells slots Q (F0 m (pc + 1) ls (rest))) : W p l e R s m args below meth c H locs cells slots Q (F0 m pc ls (.int x :: .int i :: .ref a :: rest)) := by
  obtain ⟨E, hP, hD, hm, hz, hE⟩ := hT
  have hL : a ∈ zL z := hm a (by rw [ha]; exact Nat.succ_ne_zero _)
  obtain ⟨k, hk0⟩ := va_pl_get (X := []) (f := E) hL
  have he := hE a hL
  rw [ha] at he
  obtain ⟨f, h9, hf⟩ : a54 z (σ o 54) (E a) := he
  have hk := hk0
  rw [h9] at hk
  refine va_iast hx hb hK hP hD hS k 0 hk rfl (ix_in (n := 5) h0 h1) hdg (fun H1 locs1 hP1 hD1 hS1 => ?_)
  refine kk H1 locs1 (ty_up hP1 hD1 hD hm hz hE hL hk0 ?_ (up_mo hz hE ha (fun r' hr' => wrl_nr _ _ hr'))) hS1
  rw [ha]
  show eOK z (gset σ o (wrl (σ o) 54 i.toInt.toNat x.toInt) o 54) (54, o) _
  rw [gset_at]
  refine (⟨upd f i.toNatClampNeg x, rfl, fun j hj => ?_⟩ : a54 z (wrl (σ o) 54 i.toInt.toNat x.toInt 54) _)
  by_cases hj2 : j = i.toNatClampNeg
  · subst hj2
    rw [show upd f i.toNatClampNeg x i.toNatClampNeg = x from if_pos rfl]
    exact ⟨(wrl_at _ _ _ _).symm, hv⟩
  · rw [show upd f i.toNatClampNeg x j = f j from if_neg hj2]
    exact ⟨(hf j hj).1.trans (wrl_ni _ _ hj2).symm, (hf j hj).2⟩
theorem al_55 {i : Int32} (hx : p.tables.exec = Jvm.exec) (hb : c.code = cc) (hK : va_K (zD z) vwCl (zT z) s) (hT : TY z A σ H) (ha : zG z a = (55, o)) (h0 : 0 ≤ i.toInt) (h1 : i.toInt < 5) (hdg : decode cc pc = .ok (.iaload, 1)) (kk : ∀ x : Int32, x.toInt = σ o 55 i.toInt.toNat → (-2 ≤ x.toInt ∧ x.toInt ≤ 21) → W p l e R s m args below meth c H locs cells slots Q (F0 m (pc + 1) ls (.int x :: rest))) : W p l e R s m args below meth c H locs cells slots Q (F0 m pc ls (.int i :: .ref a :: rest)) := by
  obtain ⟨E, hP, hD, hm, hz, hE⟩ := hT
  have hL : a ∈ zL z := hm a (by rw [ha]; exact Nat.succ_ne_zero _)
  obtain ⟨k, hk0⟩ := va_pl_get (X := []) (f := E) hL
  have he := hE a hL
  rw [ha] at he
  obtain ⟨f, h9, hf⟩ : a55 z (σ o 55) (E a) := he
  have hk := hk0
  rw [h9] at hk
  exact va_iald hx hb hK hP k 0 hk rfl (ix_in (n := 5) h0 h1) hdg (kk _ (hf _ (ix_lt (n := 5) h0 h1)).1 (hf _ (ix_lt (n := 5) h0 h1)).2)
theorem an_55 (hx : p.tables.exec = Jvm.exec) (hb : c.code = cc) (hK : va_K (zD z) vwCl (zT z) s) (hT : TY z A σ H) (ha : zG z a = (55, o)) (hdg : decode cc pc = .ok (.arraylength, 1)) (kk : ∀ x : Int32, x.toInt = 5 → W p l e R s m args below meth c H locs cells slots Q (F0 m (pc + 1) ls (.int x :: rest))) : W p l e R s m args below meth c H locs cells slots Q (F0 m pc ls (.ref a :: rest)) := by
  obtain ⟨E, hP, hD, hm, hz, hE⟩ := hT
  have hL : a ∈ zL z := hm a (by rw [ha]; exact Nat.succ_ne_zero _)
  obtain ⟨k, hk0⟩ := va_pl_get (X := []) (f := E) hL
  have he := hE a hL
  rw [ha] at he
  obtain ⟨f, h9, hf⟩ : a55 z (σ o 55) (E a) := he
  have hk := hk0
  rw [h9] at hk
  exact va_alen hx hb hK hP k 0 hk rfl (v := 5) rfl hdg (kk _ rfl)
theorem as_55 {i x : Int32} (hx : p.tables.exec = Jvm.exec) (hb : c.code = cc) (hK : va_K (zD z) vwCl (zT z) s) (hT : TY z A σ H) (hS : va_S A H0 H locs) (ha : zG z a = (55, o)) (h0 : 0 ≤ i.toInt) (h1 : i.toInt < 5) (hv : (-2 ≤ x.toInt ∧ x.toInt ≤ 21)) (hdg : decode cc pc = .ok (.iastore, 1)) (kk : ∀ (H1 : Heap) (locs1 : List Loc), TY z A (wr σ o 55 i.toInt.toNat x.toInt) H1 → va_S A H0 H1 locs1 → W p l e R s m args below meth c H1 locs1 cells slots Q (F0 m (pc + 1) ls (rest))) : W p l e R s m args below meth c H locs cells slots Q (F0 m pc ls (.int x :: .int i :: .ref a :: rest)) := by
  obtain ⟨E, hP, hD, hm, hz, hE⟩ := hT
  have hL : a ∈ zL z := hm a (by rw [ha]; exact Nat.succ_ne_zero _)
  obtain ⟨k, hk0⟩ := va_pl_get (X := []) (f := E) hL
  have he := hE a hL
  rw [ha] at he
  obtain ⟨f, h9, hf⟩ : a55 z (σ o 55) (E a) := he
  have hk := hk0
  rw [h9] at hk
  refine va_iast hx hb hK hP hD hS k 0 hk rfl (ix_in (n := 5) h0 h1) hdg (fun H1 locs1 hP1 hD1 hS1 => ?_)
  refine kk H1 locs1 (ty_up hP1 hD1 hD hm hz hE hL hk0 ?_ (up_mo hz hE ha (fun r' hr' => wrl_nr _ _ hr'))) hS1
  rw [ha]
  show eOK z (gset σ o (wrl (σ o) 55 i.toInt.toNat x.toInt) o 55) (55, o) _
  rw [gset_at]
  refine (⟨upd f i.toNatClampNeg x, rfl, fun j hj => ?_⟩ : a55 z (wrl (σ o) 55 i.toInt.toNat x.toInt 55) _)
  by_cases hj2 : j = i.toNatClampNeg
  · subst hj2
    rw [show upd f i.toNatClampNeg x i.toNatClampNeg = x from if_pos rfl]
    exact ⟨(wrl_at _ _ _ _).symm, hv⟩
  · rw [show upd f i.toNatClampNeg x j = f j from if_neg hj2]
    exact ⟨(hf j hj).1.trans (wrl_ni _ _ hj2).symm, (hf j hj).2⟩
theorem al_56 {i : Int32} (hx : p.tables.exec = Jvm.exec) (hb : c.code = cc) (hK : va_K (zD z) vwCl (zT z) s) (hT : TY z A σ H) (ha : zG z a = (56, o)) (h0 : 0 ≤ i.toInt) (h1 : i.toInt < 5) (hdg : decode cc pc = .ok (.iaload, 1)) (kk : ∀ x : Int32, x.toInt = σ o 56 i.toInt.toNat → W p l e R s m args below meth c H locs cells slots Q (F0 m (pc + 1) ls (.int x :: rest))) : W p l e R s m args below meth c H locs cells slots Q (F0 m pc ls (.int i :: .ref a :: rest)) := by
  obtain ⟨E, hP, hD, hm, hz, hE⟩ := hT
  have hL : a ∈ zL z := hm a (by rw [ha]; exact Nat.succ_ne_zero _)
  obtain ⟨k, hk0⟩ := va_pl_get (X := []) (f := E) hL
  have he := hE a hL
  rw [ha] at he
  obtain ⟨f, h9, hf⟩ : a56 z (σ o 56) (E a) := he
  have hk := hk0
  rw [h9] at hk
  exact va_iald hx hb hK hP k 0 hk rfl (ix_in (n := 5) h0 h1) hdg (kk _ (hf _ (ix_lt (n := 5) h0 h1)).1)
theorem an_56 (hx : p.tables.exec = Jvm.exec) (hb : c.code = cc) (hK : va_K (zD z) vwCl (zT z) s) (hT : TY z A σ H) (ha : zG z a = (56, o)) (hdg : decode cc pc = .ok (.arraylength, 1)) (kk : ∀ x : Int32, x.toInt = 5 → W p l e R s m args below meth c H locs cells slots Q (F0 m (pc + 1) ls (.int x :: rest))) : W p l e R s m args below meth c H locs cells slots Q (F0 m pc ls (.ref a :: rest)) := by
  obtain ⟨E, hP, hD, hm, hz, hE⟩ := hT
  have hL : a ∈ zL z := hm a (by rw [ha]; exact Nat.succ_ne_zero _)
  obtain ⟨k, hk0⟩ := va_pl_get (X := []) (f := E) hL
  have he := hE a hL
  rw [ha] at he
  obtain ⟨f, h9, hf⟩ : a56 z (σ o 56) (E a) := he
  have hk := hk0
  rw [h9] at hk
  exact va_alen hx hb hK hP k 0 hk rfl (v := 5) rfl hdg (kk _ rfl)
theorem as_56 {i x : Int32} (hx : p.tables.exec = Jvm.exec) (hb : c.code = cc) (hK : va_K (zD z) vwCl (zT z) s) (hT : TY z A σ H) (hS : va_S A H0 H locs) (ha : zG z a = (56, o)) (h0 : 0 ≤ i.toInt) (h1 : i.toInt < 5) (hdg : decode cc pc = .ok (.iastore, 1)) (kk : ∀ (H1 : Heap) (locs1 : List Loc), TY z A (wr σ o 56 i.toInt.toNat x.toInt) H1 → va_S A H0 H1 locs1 → W p l e R s m args below meth c H1 locs1 cells slots Q (F0 m (pc + 1) ls (rest))) : W p l e R s m args below meth c H locs cells slots Q (F0 m pc ls (.int x :: .int i :: .ref a :: rest)) := by
  obtain ⟨E, hP, hD, hm, hz, hE⟩ := hT
  have hL : a ∈ zL z := hm a (by rw [ha]; exact Nat.succ_ne_zero _)
  obtain ⟨k, hk0⟩ := va_pl_get (X := []) (f := E) hL
  have he := hE a hL
  rw [ha] at he
  obtain ⟨f, h9, hf⟩ : a56 z (σ o 56) (E a) := he
  have hk := hk0
  rw [h9] at hk
  refine va_iast hx hb hK hP hD hS k 0 hk rfl (ix_in (n := 5) h0 h1) hdg (fun H1 locs1 hP1 hD1 hS1 => ?_)
  refine kk H1 locs1 (ty_up hP1 hD1 hD hm hz hE hL hk0 ?_ (up_mo hz hE ha (fun r' hr' => wrl_nr _ _ hr'))) hS1
  rw [ha]
  show eOK z (gset σ o (wrl (σ o) 56 i.toInt.toNat x.toInt) o 56) (56, o) _
  rw [gset_at]
  refine (⟨upd f i.toNatClampNeg x, rfl, fun j hj => ?_⟩ : a56 z (wrl (σ o) 56 i.toInt.toNat x.toInt 56) _)
  by_cases hj2 : j = i.toNatClampNeg
  · subst hj2
    rw [show upd f i.toNatClampNeg x i.toNatClampNeg = x from if_pos rfl]
    exact ⟨(wrl_at _ _ _ _).symm, trivial⟩
  · rw [show upd f i.toNatClampNeg x j = f j from if_neg hj2]
    exact ⟨(hf j hj).1.trans (wrl_ni _ _ hj2).symm, (hf j hj).2⟩
theorem al_57 {i : Int32} (hx : p.tables.exec = Jvm.exec) (hb : c.code = cc) (hK : va_K (zD z) vwCl (zT z) s) (hT : TY z A σ H) (ha : zG z a = (57, o)) (h0 : 0 ≤ i.toInt) (h1 : i.toInt < 5) (hdg : decode cc pc = .ok (.iaload, 1)) (kk : ∀ x : Int32, x.toInt = σ o 57 i.toInt.toNat → W p l e R s m args below meth c H locs cells slots Q (F0 m (pc + 1) ls (.int x :: rest))) : W p l e R s m args below meth c H locs cells slots Q (F0 m pc ls (.int i :: .ref a :: rest)) := by
  obtain ⟨E, hP, hD, hm, hz, hE⟩ := hT
  have hL : a ∈ zL z := hm a (by rw [ha]; exact Nat.succ_ne_zero _)
  obtain ⟨k, hk0⟩ := va_pl_get (X := []) (f := E) hL
  have he := hE a hL
  rw [ha] at he
  obtain ⟨f, h9, hf⟩ : a57 z (σ o 57) (E a) := he
  have hk := hk0
  rw [h9] at hk
  exact va_iald hx hb hK hP k 0 hk rfl (ix_in (n := 5) h0 h1) hdg (kk _ (hf _ (ix_lt (n := 5) h0 h1)).1)
theorem an_57 (hx : p.tables.exec = Jvm.exec) (hb : c.code = cc) (hK : va_K (zD z) vwCl (zT z) s) (hT : TY z A σ H) (ha : zG z a = (57, o)) (hdg : decode cc pc = .ok (.arraylength, 1)) (kk : ∀ x : Int32, x.toInt = 5 → W p l e R s m args below meth c H locs cells slots Q (F0 m (pc + 1) ls (.int x :: rest))) : W p l e R s m args below meth c H locs cells slots Q (F0 m pc ls (.ref a :: rest)) := by
  obtain ⟨E, hP, hD, hm, hz, hE⟩ := hT
  have hL : a ∈ zL z := hm a (by rw [ha]; exact Nat.succ_ne_zero _)
  obtain ⟨k, hk0⟩ := va_pl_get (X := []) (f := E) hL
  have he := hE a hL
  rw [ha] at he
  obtain ⟨f, h9, hf⟩ : a57 z (σ o 57) (E a) := he
  have hk := hk0
  rw [h9] at hk
  exact va_alen hx hb hK hP k 0 hk rfl (v := 5) rfl hdg (kk _ rfl)
theorem as_57 {i x : Int32} (hx : p.tables.exec = Jvm.exec) (hb : c.code = cc) (hK : va_K (zD z) vwCl (zT z) s) (hT : TY z A σ H) (hS : va_S A H0 H locs) (ha : zG z a = (57, o)) (h0 : 0 ≤ i.toInt) (h1 : i.toInt < 5) (hdg : decode cc pc = .ok (.iastore, 1)) (kk : ∀ (H1 : Heap) (locs1 : List Loc), TY z A (wr σ o 57 i.toInt.toNat x.toInt) H1 → va_S A H0 H1 locs1 → W p l e R s m args below meth c H1 locs1 cells slots Q (F0 m (pc + 1) ls (rest))) : W p l e R s m args below meth c H locs cells slots Q (F0 m pc ls (.int x :: .int i :: .ref a :: rest)) := by
  obtain ⟨E, hP, hD, hm, hz, hE⟩ := hT
  have hL : a ∈ zL z := hm a (by rw [ha]; exact Nat.succ_ne_zero _)
  obtain ⟨k, hk0⟩ := va_pl_get (X := []) (f := E) hL
  have he := hE a hL
  rw [ha] at he
  obtain ⟨f, h9, hf⟩ : a57 z (σ o 57) (E a) := he
  have hk := hk0
  rw [h9] at hk
  refine va_iast hx hb hK hP hD hS k 0 hk rfl (ix_in (n := 5) h0 h1) hdg (fun H1 locs1 hP1 hD1 hS1 => ?_)
  refine kk H1 locs1 (ty_up hP1 hD1 hD hm hz hE hL hk0 ?_ (up_mo hz hE ha (fun r' hr' => wrl_nr _ _ hr'))) hS1
  rw [ha]
  show eOK z (gset σ o (wrl (σ o) 57 i.toInt.toNat x.toInt) o 57) (57, o) _
  rw [gset_at]
  refine (⟨upd f i.toNatClampNeg x, rfl, fun j hj => ?_⟩ : a57 z (wrl (σ o) 57 i.toInt.toNat x.toInt 57) _)
  by_cases hj2 : j = i.toNatClampNeg
  · subst hj2
    rw [show upd f i.toNatClampNeg x i.toNatClampNeg = x from if_pos rfl]
    exact ⟨(wrl_at _ _ _ _).symm, trivial⟩
  · rw [show upd f i.toNatClampNeg x j = f j from if_neg hj2]
    exact ⟨(hf j hj).1.trans (wrl_ni _ _ hj2).symm, (hf j hj).2⟩
theorem al_58 {i : Int32} (hx : p.tables.exec = Jvm.exec) (hb : c.code = cc) (hK : va_K (zD z) vwCl (zT z) s) (hT : TY z A σ H) (ha : zG z a = (58, o)) (h0 : 0 ≤ i.toInt) (h1 : i.toInt < 5) (hdg : decode cc pc = .ok (.iaload, 1)) (kk : ∀ x : Int32, x.toInt = σ o 58 i.toInt.toNat → W p l e R s m args below meth c H locs cells slots Q (F0 m (pc + 1) ls (.int x :: rest))) : W p l e R s m args below meth c H locs cells slots Q (F0 m pc ls (.int i :: .ref a :: rest)) := by
  obtain ⟨E, hP, hD, hm, hz, hE⟩ := hT
  have hL : a ∈ zL z := hm a (by rw [ha]; exact Nat.succ_ne_zero _)
  obtain ⟨k, hk0⟩ := va_pl_get (X := []) (f := E) hL
  have he := hE a hL
  rw [ha] at he
  obtain ⟨f, h9, hf⟩ : a58 z (σ o 58) (E a) := he
  have hk := hk0
  rw [h9] at hk
  exact va_iald hx hb hK hP k 0 hk rfl (ix_in (n := 5) h0 h1) hdg (kk _ (hf _ (ix_lt (n := 5) h0 h1)).1)
theorem an_58 (hx : p.tables.exec = Jvm.exec) (hb : c.code = cc) (hK : va_K (zD z) vwCl (zT z) s) (hT : TY z A σ H) (ha : zG z a = (58, o)) (hdg : decode cc pc = .ok (.arraylength, 1)) (kk : ∀ x : Int32, x.toInt = 5 → W p l e R s m args below meth c H locs cells slots Q (F0 m (pc + 1) ls (.int x :: rest))) : W p l e R s m args below meth c H locs cells slots Q (F0 m pc ls (.ref a :: rest)) := by
  obtain ⟨E, hP, hD, hm, hz, hE⟩ := hT
  have hL : a ∈ zL z := hm a (by rw [ha]; exact Nat.succ_ne_zero _)
  obtain ⟨k, hk0⟩ := va_pl_get (X := []) (f := E) hL
  have he := hE a hL
  rw [ha] at he
  obtain ⟨f, h9, hf⟩ : a58 z (σ o 58) (E a) := he
  have hk := hk0
  rw [h9] at hk
  exact va_alen hx hb hK hP k 0 hk rfl (v := 5) rfl hdg (kk _ rfl)
theorem as_58 {i x : Int32} (hx : p.tables.exec = Jvm.exec) (hb : c.code = cc) (hK : va_K (zD z) vwCl (zT z) s) (hT : TY z A σ H) (hS : va_S A H0 H locs) (ha : zG z a = (58, o)) (h0 : 0 ≤ i.toInt) (h1 : i.toInt < 5) (hdg : decode cc pc = .ok (.iastore, 1)) (kk : ∀ (H1 : Heap) (locs1 : List Loc), TY z A (wr σ o 58 i.toInt.toNat x.toInt) H1 → va_S A H0 H1 locs1 → W p l e R s m args below meth c H1 locs1 cells slots Q (F0 m (pc + 1) ls (rest))) : W p l e R s m args below meth c H locs cells slots Q (F0 m pc ls (.int x :: .int i :: .ref a :: rest)) := by
  obtain ⟨E, hP, hD, hm, hz, hE⟩ := hT
  have hL : a ∈ zL z := hm a (by rw [ha]; exact Nat.succ_ne_zero _)
  obtain ⟨k, hk0⟩ := va_pl_get (X := []) (f := E) hL
  have he := hE a hL
  rw [ha] at he
  obtain ⟨f, h9, hf⟩ : a58 z (σ o 58) (E a) := he
  have hk := hk0
  rw [h9] at hk
  refine va_iast hx hb hK hP hD hS k 0 hk rfl (ix_in (n := 5) h0 h1) hdg (fun H1 locs1 hP1 hD1 hS1 => ?_)
  refine kk H1 locs1 (ty_up hP1 hD1 hD hm hz hE hL hk0 ?_ (up_mo hz hE ha (fun r' hr' => wrl_nr _ _ hr'))) hS1
  rw [ha]
  show eOK z (gset σ o (wrl (σ o) 58 i.toInt.toNat x.toInt) o 58) (58, o) _
  rw [gset_at]
  refine (⟨upd f i.toNatClampNeg x, rfl, fun j hj => ?_⟩ : a58 z (wrl (σ o) 58 i.toInt.toNat x.toInt 58) _)
  by_cases hj2 : j = i.toNatClampNeg
  · subst hj2
    rw [show upd f i.toNatClampNeg x i.toNatClampNeg = x from if_pos rfl]
    exact ⟨(wrl_at _ _ _ _).symm, trivial⟩
  · rw [show upd f i.toNatClampNeg x j = f j from if_neg hj2]
    exact ⟨(hf j hj).1.trans (wrl_ni _ _ hj2).symm, (hf j hj).2⟩
theorem al_40 {i : Int32} (hx : p.tables.exec = Jvm.exec) (hb : c.code = cc) (hK : va_K (zD z) vwCl (zT z) s) (hT : TY z A σ H) (ha : zG z a = (40, o)) (h0 : 0 ≤ i.toInt) (h1 : i.toInt < 177) (hdg : decode cc pc = .ok (.iaload, 1)) (kk : ∀ x : Int32, x.toInt = σ o 40 i.toInt.toNat → gd177 i.toInt.toNat x.toInt → W p l e R s m args below meth c H locs cells slots Q (F0 m (pc + 1) ls (.int x :: rest))) : W p l e R s m args below meth c H locs cells slots Q (F0 m pc ls (.int i :: .ref a :: rest)) := by
  obtain ⟨E, hP, hD, hm, hz, hE⟩ := hT
  have hL : a ∈ zL z := hm a (by rw [ha]; exact Nat.succ_ne_zero _)
  obtain ⟨k, hk0⟩ := va_pl_get (X := []) (f := E) hL
  have he := hE a hL
  rw [ha] at he
  obtain ⟨f, h9, hf⟩ : a40 z (σ o 40) (E a) := he
  have hk := hk0
  rw [h9] at hk
  exact va_iald hx hb hK hP k 0 hk rfl (ix_in (n := 177) h0 h1) hdg (kk _ (hf _ (ix_lt (n := 177) h0 h1)).1 (hf _ (ix_lt (n := 177) h0 h1)).2)
theorem an_40 (hx : p.tables.exec = Jvm.exec) (hb : c.code = cc) (hK : va_K (zD z) vwCl (zT z) s) (hT : TY z A σ H) (ha : zG z a = (40, o)) (hdg : decode cc pc = .ok (.arraylength, 1)) (kk : ∀ x : Int32, x.toInt = 177 → W p l e R s m args below meth c H locs cells slots Q (F0 m (pc + 1) ls (.int x :: rest))) : W p l e R s m args below meth c H locs cells slots Q (F0 m pc ls (.ref a :: rest)) := by
  obtain ⟨E, hP, hD, hm, hz, hE⟩ := hT
  have hL : a ∈ zL z := hm a (by rw [ha]; exact Nat.succ_ne_zero _)
  obtain ⟨k, hk0⟩ := va_pl_get (X := []) (f := E) hL
  have he := hE a hL
  rw [ha] at he
  obtain ⟨f, h9, hf⟩ : a40 z (σ o 40) (E a) := he
  have hk := hk0
  rw [h9] at hk
  exact va_alen hx hb hK hP k 0 hk rfl (v := 177) rfl hdg (kk _ rfl)
theorem as_40 {i x : Int32} (hx : p.tables.exec = Jvm.exec) (hb : c.code = cc) (hK : va_K (zD z) vwCl (zT z) s) (hT : TY z A σ H) (hS : va_S A H0 H locs) (ha : zG z a = (40, o)) (h0 : 0 ≤ i.toInt) (h1 : i.toInt < 177) (hv : gd177 i.toInt.toNat x.toInt) (hdg : decode cc pc = .ok (.iastore, 1)) (kk : ∀ (H1 : Heap) (locs1 : List Loc), TY z A (wr σ o 40 i.toInt.toNat x.toInt) H1 → va_S A H0 H1 locs1 → W p l e R s m args below meth c H1 locs1 cells slots Q (F0 m (pc + 1) ls (rest))) : W p l e R s m args below meth c H locs cells slots Q (F0 m pc ls (.int x :: .int i :: .ref a :: rest)) := by
  obtain ⟨E, hP, hD, hm, hz, hE⟩ := hT
  have hL : a ∈ zL z := hm a (by rw [ha]; exact Nat.succ_ne_zero _)
  obtain ⟨k, hk0⟩ := va_pl_get (X := []) (f := E) hL
  have he := hE a hL
  rw [ha] at he
  obtain ⟨f, h9, hf⟩ : a40 z (σ o 40) (E a) := he
  have hk := hk0
  rw [h9] at hk
  refine va_iast hx hb hK hP hD hS k 0 hk rfl (ix_in (n := 177) h0 h1) hdg (fun H1 locs1 hP1 hD1 hS1 => ?_)
  refine kk H1 locs1 (ty_up hP1 hD1 hD hm hz hE hL hk0 ?_ (up_mo hz hE ha (fun r' hr' => wrl_nr _ _ hr'))) hS1
  rw [ha]
  show eOK z (gset σ o (wrl (σ o) 40 i.toInt.toNat x.toInt) o 40) (40, o) _
  rw [gset_at]
  refine (⟨upd f i.toNatClampNeg x, rfl, fun j hj => ?_⟩ : a40 z (wrl (σ o) 40 i.toInt.toNat x.toInt 40) _)
  by_cases hj2 : j = i.toNatClampNeg
  · subst hj2
    rw [show upd f i.toNatClampNeg x i.toNatClampNeg = x from if_pos rfl]
    exact ⟨(wrl_at _ _ _ _).symm, hv⟩
  · rw [show upd f i.toNatClampNeg x j = f j from if_neg hj2]
    exact ⟨(hf j hj).1.trans (wrl_ni _ _ hj2).symm, (hf j hj).2⟩
theorem al_41 {i : Int32} (hx : p.tables.exec = Jvm.exec) (hb : c.code = cc) (hK : va_K (zD z) vwCl (zT z) s) (hT : TY z A σ H) (ha : zG z a = (41, o)) (h0 : 0 ≤ i.toInt) (h1 : i.toInt < 59) (hdg : decode cc pc = .ok (.iaload, 1)) (kk : ∀ x : Int32, x.toInt = σ o 41 i.toInt.toNat → gd59 i.toInt.toNat x.toInt → W p l e R s m args below meth c H locs cells slots Q (F0 m (pc + 1) ls (.int x :: rest))) : W p l e R s m args below meth c H locs cells slots Q (F0 m pc ls (.int i :: .ref a :: rest)) := by
  obtain ⟨E, hP, hD, hm, hz, hE⟩ := hT
  have hL : a ∈ zL z := hm a (by rw [ha]; exact Nat.succ_ne_zero _)
  obtain ⟨k, hk0⟩ := va_pl_get (X := []) (f := E) hL
  have he := hE a hL
  rw [ha] at he
  obtain ⟨f, h9, hf⟩ : a41 z (σ o 41) (E a) := he
  have hk := hk0
  rw [h9] at hk
  exact va_iald hx hb hK hP k 0 hk rfl (ix_in (n := 59) h0 h1) hdg (kk _ (hf _ (ix_lt (n := 59) h0 h1)).1 (hf _ (ix_lt (n := 59) h0 h1)).2)
theorem an_41 (hx : p.tables.exec = Jvm.exec) (hb : c.code = cc) (hK : va_K (zD z) vwCl (zT z) s) (hT : TY z A σ H) (ha : zG z a = (41, o)) (hdg : decode cc pc = .ok (.arraylength, 1)) (kk : ∀ x : Int32, x.toInt = 59 → W p l e R s m args below meth c H locs cells slots Q (F0 m (pc + 1) ls (.int x :: rest))) : W p l e R s m args below meth c H locs cells slots Q (F0 m pc ls (.ref a :: rest)) := by
  obtain ⟨E, hP, hD, hm, hz, hE⟩ := hT
  have hL : a ∈ zL z := hm a (by rw [ha]; exact Nat.succ_ne_zero _)
  obtain ⟨k, hk0⟩ := va_pl_get (X := []) (f := E) hL
  have he := hE a hL
  rw [ha] at he
  obtain ⟨f, h9, hf⟩ : a41 z (σ o 41) (E a) := he
  have hk := hk0
  rw [h9] at hk
  exact va_alen hx hb hK hP k 0 hk rfl (v := 59) rfl hdg (kk _ rfl)
theorem as_41 {i x : Int32} (hx : p.tables.exec = Jvm.exec) (hb : c.code = cc) (hK : va_K (zD z) vwCl (zT z) s) (hT : TY z A σ H) (hS : va_S A H0 H locs) (ha : zG z a = (41, o)) (h0 : 0 ≤ i.toInt) (h1 : i.toInt < 59) (hv : gd59 i.toInt.toNat x.toInt) (hdg : decode cc pc = .ok (.iastore, 1)) (kk : ∀ (H1 : Heap) (locs1 : List Loc), TY z A (wr σ o 41 i.toInt.toNat x.toInt) H1 → va_S A H0 H1 locs1 → W p l e R s m args below meth c H1 locs1 cells slots Q (F0 m (pc + 1) ls (rest))) : W p l e R s m args below meth c H locs cells slots Q (F0 m pc ls (.int x :: .int i :: .ref a :: rest)) := by
  obtain ⟨E, hP, hD, hm, hz, hE⟩ := hT
  have hL : a ∈ zL z := hm a (by rw [ha]; exact Nat.succ_ne_zero _)
  obtain ⟨k, hk0⟩ := va_pl_get (X := []) (f := E) hL
  have he := hE a hL
  rw [ha] at he
  obtain ⟨f, h9, hf⟩ : a41 z (σ o 41) (E a) := he
  have hk := hk0
  rw [h9] at hk
  refine va_iast hx hb hK hP hD hS k 0 hk rfl (ix_in (n := 59) h0 h1) hdg (fun H1 locs1 hP1 hD1 hS1 => ?_)
  refine kk H1 locs1 (ty_up hP1 hD1 hD hm hz hE hL hk0 ?_ (up_mo hz hE ha (fun r' hr' => wrl_nr _ _ hr'))) hS1
  rw [ha]
  show eOK z (gset σ o (wrl (σ o) 41 i.toInt.toNat x.toInt) o 41) (41, o) _
  rw [gset_at]
  refine (⟨upd f i.toNatClampNeg x, rfl, fun j hj => ?_⟩ : a41 z (wrl (σ o) 41 i.toInt.toNat x.toInt 41) _)
  by_cases hj2 : j = i.toNatClampNeg
  · subst hj2
    rw [show upd f i.toNatClampNeg x i.toNatClampNeg = x from if_pos rfl]
    exact ⟨(wrl_at _ _ _ _).symm, hv⟩
  · rw [show upd f i.toNatClampNeg x j = f j from if_neg hj2]
    exact ⟨(hf j hj).1.trans (wrl_ni _ _ hj2).symm, (hf j hj).2⟩
theorem al_42 {i : Int32} (hx : p.tables.exec = Jvm.exec) (hb : c.code = cc) (hK : va_K (zD z) vwCl (zT z) s) (hT : TY z A σ H) (ha : zG z a = (42, o)) (h0 : 0 ≤ i.toInt) (h1 : i.toInt < 2) (hdg : decode cc pc = .ok (.baload, 1)) (kk : ∀ x : Int32, x.toInt = σ o 42 i.toInt.toNat → (0 ≤ x.toInt ∧ x.toInt ≤ 1) → W p l e R s m args below meth c H locs cells slots Q (F0 m (pc + 1) ls (.int x :: rest))) : W p l e R s m args below meth c H locs cells slots Q (F0 m pc ls (.int i :: .ref a :: rest)) := by
  obtain ⟨E, hP, hD, hm, hz, hE⟩ := hT
  have hL : a ∈ zL z := hm a (by rw [ha]; exact Nat.succ_ne_zero _)
  obtain ⟨k, hk0⟩ := va_pl_get (X := []) (f := E) hL
  have he := hE a hL
  rw [ha] at he
  obtain ⟨f, h9, hf⟩ : a42 z (σ o 42) (E a) := he
  have hk := hk0
  rw [h9] at hk
  exact va_zald hx hb hK hP k 1 hk rfl (ix_in (n := 2) h0 h1) hdg (kk _ (hf _ (ix_lt (n := 2) h0 h1)).1 (hf _ (ix_lt (n := 2) h0 h1)).2)
theorem an_42 (hx : p.tables.exec = Jvm.exec) (hb : c.code = cc) (hK : va_K (zD z) vwCl (zT z) s) (hT : TY z A σ H) (ha : zG z a = (42, o)) (hdg : decode cc pc = .ok (.arraylength, 1)) (kk : ∀ x : Int32, x.toInt = 2 → W p l e R s m args below meth c H locs cells slots Q (F0 m (pc + 1) ls (.int x :: rest))) : W p l e R s m args below meth c H locs cells slots Q (F0 m pc ls (.ref a :: rest)) := by
  obtain ⟨E, hP, hD, hm, hz, hE⟩ := hT
  have hL : a ∈ zL z := hm a (by rw [ha]; exact Nat.succ_ne_zero _)
  obtain ⟨k, hk0⟩ := va_pl_get (X := []) (f := E) hL
  have he := hE a hL
  rw [ha] at he
  obtain ⟨f, h9, hf⟩ : a42 z (σ o 42) (E a) := he
  have hk := hk0
  rw [h9] at hk
  exact va_alen hx hb hK hP k 1 hk rfl (v := 2) rfl hdg (kk _ rfl)
theorem as_42 {i x : Int32} (hx : p.tables.exec = Jvm.exec) (hb : c.code = cc) (hK : va_K (zD z) vwCl (zT z) s) (hT : TY z A σ H) (hS : va_S A H0 H locs) (ha : zG z a = (42, o)) (h0 : 0 ≤ i.toInt) (h1 : i.toInt < 2) (hv : (0 ≤ x.toInt ∧ x.toInt ≤ 1)) (hdg : decode cc pc = .ok (.bastore, 1)) (kk : ∀ (H1 : Heap) (locs1 : List Loc), TY z A (wr σ o 42 i.toInt.toNat x.toInt) H1 → va_S A H0 H1 locs1 → W p l e R s m args below meth c H1 locs1 cells slots Q (F0 m (pc + 1) ls (rest))) : W p l e R s m args below meth c H locs cells slots Q (F0 m pc ls (.int x :: .int i :: .ref a :: rest)) := by
  obtain ⟨E, hP, hD, hm, hz, hE⟩ := hT
  have hL : a ∈ zL z := hm a (by rw [ha]; exact Nat.succ_ne_zero _)
  obtain ⟨k, hk0⟩ := va_pl_get (X := []) (f := E) hL
  have he := hE a hL
  rw [ha] at he
  obtain ⟨f, h9, hf⟩ : a42 z (σ o 42) (E a) := he
  have hk := hk0
  rw [h9] at hk
  refine va_zast hx hb hK hP hD hS k 1 hk rfl (ix_in (n := 2) h0 h1) hdg (fun H1 locs1 hP1 hD1 hS1 => ?_)
  refine kk H1 locs1 (ty_up hP1 hD1 hD hm hz hE hL hk0 ?_ (up_mo hz hE ha (fun r' hr' => wrl_nr _ _ hr'))) hS1
  rw [ha]
  show eOK z (gset σ o (wrl (σ o) 42 i.toInt.toNat x.toInt) o 42) (42, o) _
  rw [gset_at]
  refine (⟨upd f i.toNatClampNeg (vp_nar .boolean x), rfl, fun j hj => ?_⟩ : a42 z (wrl (σ o) 42 i.toInt.toNat x.toInt 42) _)
  rw [bo_v hv.1 hv.2]
  by_cases hj2 : j = i.toNatClampNeg
  · subst hj2
    rw [show upd f i.toNatClampNeg x i.toNatClampNeg = x from if_pos rfl]
    exact ⟨(wrl_at _ _ _ _).symm, hv⟩
  · rw [show upd f i.toNatClampNeg x j = f j from if_neg hj2]
    exact ⟨(hf j hj).1.trans (wrl_ni _ _ hj2).symm, (hf j hj).2⟩
theorem al_43 {i : Int32} (hx : p.tables.exec = Jvm.exec) (hb : c.code = cc) (hK : va_K (zD z) vwCl (zT z) s) (hT : TY z A σ H) (ha : zG z a = (43, o)) (h0 : 0 ≤ i.toInt) (h1 : i.toInt < 59) (hdg : decode cc pc = .ok (.iaload, 1)) (kk : ∀ x : Int32, x.toInt = σ o 43 i.toInt.toNat → gd59 i.toInt.toNat x.toInt → W p l e R s m args below meth c H locs cells slots Q (F0 m (pc + 1) ls (.int x :: rest))) : W p l e R s m args below meth c H locs cells slots Q (F0 m pc ls (.int i :: .ref a :: rest)) := by
  obtain ⟨E, hP, hD, hm, hz, hE⟩ := hT
  have hL : a ∈ zL z := hm a (by rw [ha]; exact Nat.succ_ne_zero _)
  obtain ⟨k, hk0⟩ := va_pl_get (X := []) (f := E) hL
  have he := hE a hL
  rw [ha] at he
  obtain ⟨f, h9, hf⟩ : a43 z (σ o 43) (E a) := he
  have hk := hk0
  rw [h9] at hk
  exact va_iald hx hb hK hP k 0 hk rfl (ix_in (n := 59) h0 h1) hdg (kk _ (hf _ (ix_lt (n := 59) h0 h1)).1 (hf _ (ix_lt (n := 59) h0 h1)).2)
theorem an_43 (hx : p.tables.exec = Jvm.exec) (hb : c.code = cc) (hK : va_K (zD z) vwCl (zT z) s) (hT : TY z A σ H) (ha : zG z a = (43, o)) (hdg : decode cc pc = .ok (.arraylength, 1)) (kk : ∀ x : Int32, x.toInt = 59 → W p l e R s m args below meth c H locs cells slots Q (F0 m (pc + 1) ls (.int x :: rest))) : W p l e R s m args below meth c H locs cells slots Q (F0 m pc ls (.ref a :: rest)) := by
  obtain ⟨E, hP, hD, hm, hz, hE⟩ := hT
  have hL : a ∈ zL z := hm a (by rw [ha]; exact Nat.succ_ne_zero _)
  obtain ⟨k, hk0⟩ := va_pl_get (X := []) (f := E) hL
  have he := hE a hL
  rw [ha] at he
  obtain ⟨f, h9, hf⟩ : a43 z (σ o 43) (E a) := he
  have hk := hk0
  rw [h9] at hk
  exact va_alen hx hb hK hP k 0 hk rfl (v := 59) rfl hdg (kk _ rfl)
theorem as_43 {i x : Int32} (hx : p.tables.exec = Jvm.exec) (hb : c.code = cc) (hK : va_K (zD z) vwCl (zT z) s) (hT : TY z A σ H) (hS : va_S A H0 H locs) (ha : zG z a = (43, o)) (h0 : 0 ≤ i.toInt) (h1 : i.toInt < 59) (hv : gd59 i.toInt.toNat x.toInt) (hdg : decode cc pc = .ok (.iastore, 1)) (kk : ∀ (H1 : Heap) (locs1 : List Loc), TY z A (wr σ o 43 i.toInt.toNat x.toInt) H1 → va_S A H0 H1 locs1 → W p l e R s m args below meth c H1 locs1 cells slots Q (F0 m (pc + 1) ls (rest))) : W p l e R s m args below meth c H locs cells slots Q (F0 m pc ls (.int x :: .int i :: .ref a :: rest)) := by
  obtain ⟨E, hP, hD, hm, hz, hE⟩ := hT
  have hL : a ∈ zL z := hm a (by rw [ha]; exact Nat.succ_ne_zero _)
  obtain ⟨k, hk0⟩ := va_pl_get (X := []) (f := E) hL
  have he := hE a hL
  rw [ha] at he
  obtain ⟨f, h9, hf⟩ : a43 z (σ o 43) (E a) := he
  have hk := hk0
  rw [h9] at hk
  refine va_iast hx hb hK hP hD hS k 0 hk rfl (ix_in (n := 59) h0 h1) hdg (fun H1 locs1 hP1 hD1 hS1 => ?_)
  refine kk H1 locs1 (ty_up hP1 hD1 hD hm hz hE hL hk0 ?_ (up_mo hz hE ha (fun r' hr' => wrl_nr _ _ hr'))) hS1
  rw [ha]
  show eOK z (gset σ o (wrl (σ o) 43 i.toInt.toNat x.toInt) o 43) (43, o) _
  rw [gset_at]
  refine (⟨upd f i.toNatClampNeg x, rfl, fun j hj => ?_⟩ : a43 z (wrl (σ o) 43 i.toInt.toNat x.toInt 43) _)
  by_cases hj2 : j = i.toNatClampNeg
  · subst hj2
    rw [show upd f i.toNatClampNeg x i.toNatClampNeg = x from if_pos rfl]
    exact ⟨(wrl_at _ _ _ _).symm, hv⟩
  · rw [show upd f i.toNatClampNeg x j = f j from if_neg hj2]
    exact ⟨(hf j hj).1.trans (wrl_ni _ _ hj2).symm, (hf j hj).2⟩
theorem al_44 {i : Int32} (hx : p.tables.exec = Jvm.exec) (hb : c.code = cc) (hK : va_K (zD z) vwCl (zT z) s) (hT : TY z A σ H) (ha : zG z a = (44, o)) (h0 : 0 ≤ i.toInt) (h1 : i.toInt < 160) (hdg : decode cc pc = .ok (.iaload, 1)) (kk : ∀ x : Int32, x.toInt = σ o 44 i.toInt.toNat → (0 ≤ x.toInt ∧ x.toInt ≤ 127) → W p l e R s m args below meth c H locs cells slots Q (F0 m (pc + 1) ls (.int x :: rest))) : W p l e R s m args below meth c H locs cells slots Q (F0 m pc ls (.int i :: .ref a :: rest)) := by
  obtain ⟨E, hP, hD, hm, hz, hE⟩ := hT
  have hL : a ∈ zL z := hm a (by rw [ha]; exact Nat.succ_ne_zero _)
  obtain ⟨k, hk0⟩ := va_pl_get (X := []) (f := E) hL
  have he := hE a hL
  rw [ha] at he
  obtain ⟨f, h9, hf⟩ : a44 z (σ o 44) (E a) := he
  have hk := hk0
  rw [h9] at hk
  exact va_iald hx hb hK hP k 0 hk rfl (ix_in (n := 160) h0 h1) hdg (kk _ (hf _ (ix_lt (n := 160) h0 h1)).1 (hf _ (ix_lt (n := 160) h0 h1)).2)
theorem an_44 (hx : p.tables.exec = Jvm.exec) (hb : c.code = cc) (hK : va_K (zD z) vwCl (zT z) s) (hT : TY z A σ H) (ha : zG z a = (44, o)) (hdg : decode cc pc = .ok (.arraylength, 1)) (kk : ∀ x : Int32, x.toInt = 160 → W p l e R s m args below meth c H locs cells slots Q (F0 m (pc + 1) ls (.int x :: rest))) : W p l e R s m args below meth c H locs cells slots Q (F0 m pc ls (.ref a :: rest)) := by
  obtain ⟨E, hP, hD, hm, hz, hE⟩ := hT
  have hL : a ∈ zL z := hm a (by rw [ha]; exact Nat.succ_ne_zero _)
  obtain ⟨k, hk0⟩ := va_pl_get (X := []) (f := E) hL
  have he := hE a hL
  rw [ha] at he
  obtain ⟨f, h9, hf⟩ : a44 z (σ o 44) (E a) := he
  have hk := hk0
  rw [h9] at hk
  exact va_alen hx hb hK hP k 0 hk rfl (v := 160) rfl hdg (kk _ rfl)
theorem as_44 {i x : Int32} (hx : p.tables.exec = Jvm.exec) (hb : c.code = cc) (hK : va_K (zD z) vwCl (zT z) s) (hT : TY z A σ H) (hS : va_S A H0 H locs) (ha : zG z a = (44, o)) (h0 : 0 ≤ i.toInt) (h1 : i.toInt < 160) (hv : (0 ≤ x.toInt ∧ x.toInt ≤ 127)) (hdg : decode cc pc = .ok (.iastore, 1)) (kk : ∀ (H1 : Heap) (locs1 : List Loc), TY z A (wr σ o 44 i.toInt.toNat x.toInt) H1 → va_S A H0 H1 locs1 → W p l e R s m args below meth c H1 locs1 cells slots Q (F0 m (pc + 1) ls (rest))) : W p l e R s m args below meth c H locs cells slots Q (F0 m pc ls (.int x :: .int i :: .ref a :: rest)) := by
  obtain ⟨E, hP, hD, hm, hz, hE⟩ := hT
  have hL : a ∈ zL z := hm a (by rw [ha]; exact Nat.succ_ne_zero _)
  obtain ⟨k, hk0⟩ := va_pl_get (X := []) (f := E) hL
  have he := hE a hL
  rw [ha] at he
  obtain ⟨f, h9, hf⟩ : a44 z (σ o 44) (E a) := he
  have hk := hk0
  rw [h9] at hk
  refine va_iast hx hb hK hP hD hS k 0 hk rfl (ix_in (n := 160) h0 h1) hdg (fun H1 locs1 hP1 hD1 hS1 => ?_)
  refine kk H1 locs1 (ty_up hP1 hD1 hD hm hz hE hL hk0 ?_ (up_mo hz hE ha (fun r' hr' => wrl_nr _ _ hr'))) hS1
  rw [ha]
  show eOK z (gset σ o (wrl (σ o) 44 i.toInt.toNat x.toInt) o 44) (44, o) _
  rw [gset_at]
  refine (⟨upd f i.toNatClampNeg x, rfl, fun j hj => ?_⟩ : a44 z (wrl (σ o) 44 i.toInt.toNat x.toInt 44) _)
  by_cases hj2 : j = i.toNatClampNeg
  · subst hj2
    rw [show upd f i.toNatClampNeg x i.toNatClampNeg = x from if_pos rfl]
    exact ⟨(wrl_at _ _ _ _).symm, hv⟩
  · rw [show upd f i.toNatClampNeg x j = f j from if_neg hj2]
    exact ⟨(hf j hj).1.trans (wrl_ni _ _ hj2).symm, (hf j hj).2⟩
theorem al_45 {i : Int32} (hx : p.tables.exec = Jvm.exec) (hb : c.code = cc) (hK : va_K (zD z) vwCl (zT z) s) (hT : TY z A σ H) (ha : zG z a = (45, o)) (h0 : 0 ≤ i.toInt) (h1 : i.toInt < 5) (hdg : decode cc pc = .ok (.iaload, 1)) (kk : ∀ x : Int32, x.toInt = σ o 45 i.toInt.toNat → (0 ≤ x.toInt ∧ x.toInt ≤ 4) → W p l e R s m args below meth c H locs cells slots Q (F0 m (pc + 1) ls (.int x :: rest))) : W p l e R s m args below meth c H locs cells slots Q (F0 m pc ls (.int i :: .ref a :: rest)) := by
  obtain ⟨E, hP, hD, hm, hz, hE⟩ := hT
  have hL : a ∈ zL z := hm a (by rw [ha]; exact Nat.succ_ne_zero _)
  obtain ⟨k, hk0⟩ := va_pl_get (X := []) (f := E) hL
  have he := hE a hL
  rw [ha] at he
  obtain ⟨f, h9, hf⟩ : a45 z (σ o 45) (E a) := he
  have hk := hk0
  rw [h9] at hk
  exact va_iald hx hb hK hP k 0 hk rfl (ix_in (n := 5) h0 h1) hdg (kk _ (hf _ (ix_lt (n := 5) h0 h1)).1 (hf _ (ix_lt (n := 5) h0 h1)).2)
theorem an_45 (hx : p.tables.exec = Jvm.exec) (hb : c.code = cc) (hK : va_K (zD z) vwCl (zT z) s) (hT : TY z A σ H) (ha : zG z a = (45, o)) (hdg : decode cc pc = .ok (.arraylength, 1)) (kk : ∀ x : Int32, x.toInt = 5 → W p l e R s m args below meth c H locs cells slots Q (F0 m (pc + 1) ls (.int x :: rest))) : W p l e R s m args below meth c H locs cells slots Q (F0 m pc ls (.ref a :: rest)) := by
  obtain ⟨E, hP, hD, hm, hz, hE⟩ := hT
  have hL : a ∈ zL z := hm a (by rw [ha]; exact Nat.succ_ne_zero _)
  obtain ⟨k, hk0⟩ := va_pl_get (X := []) (f := E) hL
  have he := hE a hL
  rw [ha] at he
  obtain ⟨f, h9, hf⟩ : a45 z (σ o 45) (E a) := he
  have hk := hk0
  rw [h9] at hk
  exact va_alen hx hb hK hP k 0 hk rfl (v := 5) rfl hdg (kk _ rfl)
theorem as_45 {i x : Int32} (hx : p.tables.exec = Jvm.exec) (hb : c.code = cc) (hK : va_K (zD z) vwCl (zT z) s) (hT : TY z A σ H) (hS : va_S A H0 H locs) (ha : zG z a = (45, o)) (h0 : 0 ≤ i.toInt) (h1 : i.toInt < 5) (hv : (0 ≤ x.toInt ∧ x.toInt ≤ 4)) (hdg : decode cc pc = .ok (.iastore, 1)) (kk : ∀ (H1 : Heap) (locs1 : List Loc), TY z A (wr σ o 45 i.toInt.toNat x.toInt) H1 → va_S A H0 H1 locs1 → W p l e R s m args below meth c H1 locs1 cells slots Q (F0 m (pc + 1) ls (rest))) : W p l e R s m args below meth c H locs cells slots Q (F0 m pc ls (.int x :: .int i :: .ref a :: rest)) := by
  obtain ⟨E, hP, hD, hm, hz, hE⟩ := hT
  have hL : a ∈ zL z := hm a (by rw [ha]; exact Nat.succ_ne_zero _)
  obtain ⟨k, hk0⟩ := va_pl_get (X := []) (f := E) hL
  have he := hE a hL
  rw [ha] at he
  obtain ⟨f, h9, hf⟩ : a45 z (σ o 45) (E a) := he
  have hk := hk0
  rw [h9] at hk
  refine va_iast hx hb hK hP hD hS k 0 hk rfl (ix_in (n := 5) h0 h1) hdg (fun H1 locs1 hP1 hD1 hS1 => ?_)
  refine kk H1 locs1 (ty_up hP1 hD1 hD hm hz hE hL hk0 ?_ (up_mo hz hE ha (fun r' hr' => wrl_nr _ _ hr'))) hS1
  rw [ha]
  show eOK z (gset σ o (wrl (σ o) 45 i.toInt.toNat x.toInt) o 45) (45, o) _
  rw [gset_at]
  refine (⟨upd f i.toNatClampNeg x, rfl, fun j hj => ?_⟩ : a45 z (wrl (σ o) 45 i.toInt.toNat x.toInt 45) _)
  by_cases hj2 : j = i.toNatClampNeg
  · subst hj2
    rw [show upd f i.toNatClampNeg x i.toNatClampNeg = x from if_pos rfl]
    exact ⟨(wrl_at _ _ _ _).symm, hv⟩
  · rw [show upd f i.toNatClampNeg x j = f j from if_neg hj2]
    exact ⟨(hf j hj).1.trans (wrl_ni _ _ hj2).symm, (hf j hj).2⟩
theorem al_46 {i : Int32} (hx : p.tables.exec = Jvm.exec) (hb : c.code = cc) (hK : va_K (zD z) vwCl (zT z) s) (hT : TY z A σ H) (ha : zG z a = (46, o)) (h0 : 0 ≤ i.toInt) (h1 : i.toInt < 5) (hdg : decode cc pc = .ok (.iaload, 1)) (kk : ∀ x : Int32, x.toInt = σ o 46 i.toInt.toNat → (0 ≤ x.toInt ∧ x.toInt ≤ 4) → W p l e R s m args below meth c H locs cells slots Q (F0 m (pc + 1) ls (.int x :: rest))) : W p l e R s m args below meth c H locs cells slots Q (F0 m pc ls (.int i :: .ref a :: rest)) := by
  obtain ⟨E, hP, hD, hm, hz, hE⟩ := hT
  have hL : a ∈ zL z := hm a (by rw [ha]; exact Nat.succ_ne_zero _)
  obtain ⟨k, hk0⟩ := va_pl_get (X := []) (f := E) hL
  have he := hE a hL
  rw [ha] at he
  obtain ⟨f, h9, hf⟩ : a46 z (σ o 46) (E a) := he
  have hk := hk0
  rw [h9] at hk
  exact va_iald hx hb hK hP k 0 hk rfl (ix_in (n := 5) h0 h1) hdg (kk _ (hf _ (ix_lt (n := 5) h0 h1)).1 (hf _ (ix_lt (n := 5) h0 h1)).2)
theorem an_46 (hx : p.tables.exec = Jvm.exec) (hb : c.code = cc) (hK : va_K (zD z) vwCl (zT z) s) (hT : TY z A σ H) (ha : zG z a = (46, o)) (hdg : decode cc pc = .ok (.arraylength, 1)) (kk : ∀ x : Int32, x.toInt = 5 → W p l e R s m args below meth c H locs cells slots Q (F0 m (pc + 1) ls (.int x :: rest))) : W p l e R s m args below meth c H locs cells slots Q (F0 m pc ls (.ref a :: rest)) := by
  obtain ⟨E, hP, hD, hm, hz, hE⟩ := hT
  have hL : a ∈ zL z := hm a (by rw [ha]; exact Nat.succ_ne_zero _)
  obtain ⟨k, hk0⟩ := va_pl_get (X := []) (f := E) hL
  have he := hE a hL
  rw [ha] at he
  obtain ⟨f, h9, hf⟩ : a46 z (σ o 46) (E a) := he
  have hk := hk0
  rw [h9] at hk
  exact va_alen hx hb hK hP k 0 hk rfl (v := 5) rfl hdg (kk _ rfl)
theorem as_46 {i x : Int32} (hx : p.tables.exec = Jvm.exec) (hb : c.code = cc) (hK : va_K (zD z) vwCl (zT z) s) (hT : TY z A σ H) (hS : va_S A H0 H locs) (ha : zG z a = (46, o)) (h0 : 0 ≤ i.toInt) (h1 : i.toInt < 5) (hv : (0 ≤ x.toInt ∧ x.toInt ≤ 4)) (hdg : decode cc pc = .ok (.iastore, 1)) (kk : ∀ (H1 : Heap) (locs1 : List Loc), TY z A (wr σ o 46 i.toInt.toNat x.toInt) H1 → va_S A H0 H1 locs1 → W p l e R s m args below meth c H1 locs1 cells slots Q (F0 m (pc + 1) ls (rest))) : W p l e R s m args below meth c H locs cells slots Q (F0 m pc ls (.int x :: .int i :: .ref a :: rest)) := by
  obtain ⟨E, hP, hD, hm, hz, hE⟩ := hT
  have hL : a ∈ zL z := hm a (by rw [ha]; exact Nat.succ_ne_zero _)
  obtain ⟨k, hk0⟩ := va_pl_get (X := []) (f := E) hL
  have he := hE a hL
  rw [ha] at he
  obtain ⟨f, h9, hf⟩ : a46 z (σ o 46) (E a) := he
  have hk := hk0
  rw [h9] at hk
  refine va_iast hx hb hK hP hD hS k 0 hk rfl (ix_in (n := 5) h0 h1) hdg (fun H1 locs1 hP1 hD1 hS1 => ?_)
  refine kk H1 locs1 (ty_up hP1 hD1 hD hm hz hE hL hk0 ?_ (up_mo hz hE ha (fun r' hr' => wrl_nr _ _ hr'))) hS1
  rw [ha]
  show eOK z (gset σ o (wrl (σ o) 46 i.toInt.toNat x.toInt) o 46) (46, o) _
  rw [gset_at]
  refine (⟨upd f i.toNatClampNeg x, rfl, fun j hj => ?_⟩ : a46 z (wrl (σ o) 46 i.toInt.toNat x.toInt 46) _)
  by_cases hj2 : j = i.toNatClampNeg
  · subst hj2
    rw [show upd f i.toNatClampNeg x i.toNatClampNeg = x from if_pos rfl]
    exact ⟨(wrl_at _ _ _ _).symm, hv⟩
  · rw [show upd f i.toNatClampNeg x j = f j from if_neg hj2]
    exact ⟨(hf j hj).1.trans (wrl_ni _ _ hj2).symm, (hf j hj).2⟩
theorem al_47 {i : Int32} (hx : p.tables.exec = Jvm.exec) (hb : c.code = cc) (hK : va_K (zD z) vwCl (zT z) s) (hT : TY z A σ H) (ha : zG z a = (47, o)) (h0 : 0 ≤ i.toInt) (h1 : i.toInt < 4) (hdg : decode cc pc = .ok (.iaload, 1)) (kk : ∀ x : Int32, x.toInt = σ o 47 i.toInt.toNat → (-4 ≤ x.toInt ∧ x.toInt ≤ 2) → W p l e R s m args below meth c H locs cells slots Q (F0 m (pc + 1) ls (.int x :: rest))) : W p l e R s m args below meth c H locs cells slots Q (F0 m pc ls (.int i :: .ref a :: rest)) := by
  obtain ⟨E, hP, hD, hm, hz, hE⟩ := hT
  have hL : a ∈ zL z := hm a (by rw [ha]; exact Nat.succ_ne_zero _)
  obtain ⟨k, hk0⟩ := va_pl_get (X := []) (f := E) hL
  have he := hE a hL
  rw [ha] at he
  obtain ⟨f, h9, hf⟩ : a47 z (σ o 47) (E a) := he
  have hk := hk0
  rw [h9] at hk
  exact va_iald hx hb hK hP k 0 hk rfl (ix_in (n := 4) h0 h1) hdg (kk _ (hf _ (ix_lt (n := 4) h0 h1)).1 (hf _ (ix_lt (n := 4) h0 h1)).2)
theorem an_47 (hx : p.tables.exec = Jvm.exec) (hb : c.code = cc) (hK : va_K (zD z) vwCl (zT z) s) (hT : TY z A σ H) (ha : zG z a = (47, o)) (hdg : decode cc pc = .ok (.arraylength, 1)) (kk : ∀ x : Int32, x.toInt = 4 → W p l e R s m args below meth c H locs cells slots Q (F0 m (pc + 1) ls (.int x :: rest))) : W p l e R s m args below meth c H locs cells slots Q (F0 m pc ls (.ref a :: rest)) := by
  obtain ⟨E, hP, hD, hm, hz, hE⟩ := hT
  have hL : a ∈ zL z := hm a (by rw [ha]; exact Nat.succ_ne_zero _)
  obtain ⟨k, hk0⟩ := va_pl_get (X := []) (f := E) hL
  have he := hE a hL
  rw [ha] at he
  obtain ⟨f, h9, hf⟩ : a47 z (σ o 47) (E a) := he
  have hk := hk0
  rw [h9] at hk
  exact va_alen hx hb hK hP k 0 hk rfl (v := 4) rfl hdg (kk _ rfl)
theorem as_47 {i x : Int32} (hx : p.tables.exec = Jvm.exec) (hb : c.code = cc) (hK : va_K (zD z) vwCl (zT z) s) (hT : TY z A σ H) (hS : va_S A H0 H locs) (ha : zG z a = (47, o)) (h0 : 0 ≤ i.toInt) (h1 : i.toInt < 4) (hv : (-4 ≤ x.toInt ∧ x.toInt ≤ 2)) (hdg : decode cc pc = .ok (.iastore, 1)) (kk : ∀ (H1 : Heap) (locs1 : List Loc), TY z A (wr σ o 47 i.toInt.toNat x.toInt) H1 → va_S A H0 H1 locs1 → W p l e R s m args below meth c H1 locs1 cells slots Q (F0 m (pc + 1) ls (rest))) : W p l e R s m args below meth c H locs cells slots Q (F0 m pc ls (.int x :: .int i :: .ref a :: rest)) := by
  obtain ⟨E, hP, hD, hm, hz, hE⟩ := hT
  have hL : a ∈ zL z := hm a (by rw [ha]; exact Nat.succ_ne_zero _)
  obtain ⟨k, hk0⟩ := va_pl_get (X := []) (f := E) hL
  have he := hE a hL
  rw [ha] at he
  obtain ⟨f, h9, hf⟩ : a47 z (σ o 47) (E a) := he
  have hk := hk0
  rw [h9] at hk
  refine va_iast hx hb hK hP hD hS k 0 hk rfl (ix_in (n := 4) h0 h1) hdg (fun H1 locs1 hP1 hD1 hS1 => ?_)
  refine kk H1 locs1 (ty_up hP1 hD1 hD hm hz hE hL hk0 ?_ (up_mo hz hE ha (fun r' hr' => wrl_nr _ _ hr'))) hS1
  rw [ha]
  show eOK z (gset σ o (wrl (σ o) 47 i.toInt.toNat x.toInt) o 47) (47, o) _
  rw [gset_at]
  refine (⟨upd f i.toNatClampNeg x, rfl, fun j hj => ?_⟩ : a47 z (wrl (σ o) 47 i.toInt.toNat x.toInt 47) _)
  by_cases hj2 : j = i.toNatClampNeg
  · subst hj2
    rw [show upd f i.toNatClampNeg x i.toNatClampNeg = x from if_pos rfl]
    exact ⟨(wrl_at _ _ _ _).symm, hv⟩
  · rw [show upd f i.toNatClampNeg x j = f j from if_neg hj2]
    exact ⟨(hf j hj).1.trans (wrl_ni _ _ hj2).symm, (hf j hj).2⟩
theorem al_48 {i : Int32} (hx : p.tables.exec = Jvm.exec) (hb : c.code = cc) (hK : va_K (zD z) vwCl (zT z) s) (hT : TY z A σ H) (ha : zG z a = (48, o)) (h0 : 0 ≤ i.toInt) (h1 : i.toInt < 4) (hdg : decode cc pc = .ok (.iaload, 1)) (kk : ∀ x : Int32, x.toInt = σ o 48 i.toInt.toNat → (0 ≤ x.toInt ∧ x.toInt ≤ 40) → W p l e R s m args below meth c H locs cells slots Q (F0 m (pc + 1) ls (.int x :: rest))) : W p l e R s m args below meth c H locs cells slots Q (F0 m pc ls (.int i :: .ref a :: rest)) := by
  obtain ⟨E, hP, hD, hm, hz, hE⟩ := hT
  have hL : a ∈ zL z := hm a (by rw [ha]; exact Nat.succ_ne_zero _)
  obtain ⟨k, hk0⟩ := va_pl_get (X := []) (f := E) hL
  have he := hE a hL
  rw [ha] at he
  obtain ⟨f, h9, hf⟩ : a48 z (σ o 48) (E a) := he
  have hk := hk0
  rw [h9] at hk
  exact va_iald hx hb hK hP k 0 hk rfl (ix_in (n := 4) h0 h1) hdg (kk _ (hf _ (ix_lt (n := 4) h0 h1)).1 (hf _ (ix_lt (n := 4) h0 h1)).2)
theorem an_48 (hx : p.tables.exec = Jvm.exec) (hb : c.code = cc) (hK : va_K (zD z) vwCl (zT z) s) (hT : TY z A σ H) (ha : zG z a = (48, o)) (hdg : decode cc pc = .ok (.arraylength, 1)) (kk : ∀ x : Int32, x.toInt = 4 → W p l e R s m args below meth c H locs cells slots Q (F0 m (pc + 1) ls (.int x :: rest))) : W p l e R s m args below meth c H locs cells slots Q (F0 m pc ls (.ref a :: rest)) := by
  obtain ⟨E, hP, hD, hm, hz, hE⟩ := hT
  have hL : a ∈ zL z := hm a (by rw [ha]; exact Nat.succ_ne_zero _)
  obtain ⟨k, hk0⟩ := va_pl_get (X := []) (f := E) hL
  have he := hE a hL
  rw [ha] at he
  obtain ⟨f, h9, hf⟩ : a48 z (σ o 48) (E a) := he
  have hk := hk0
  rw [h9] at hk
  exact va_alen hx hb hK hP k 0 hk rfl (v := 4) rfl hdg (kk _ rfl)
theorem as_48 {i x : Int32} (hx : p.tables.exec = Jvm.exec) (hb : c.code = cc) (hK : va_K (zD z) vwCl (zT z) s) (hT : TY z A σ H) (hS : va_S A H0 H locs) (ha : zG z a = (48, o)) (h0 : 0 ≤ i.toInt) (h1 : i.toInt < 4) (hv : (0 ≤ x.toInt ∧ x.toInt ≤ 40)) (hdg : decode cc pc = .ok (.iastore, 1)) (kk : ∀ (H1 : Heap) (locs1 : List Loc), TY z A (wr σ o 48 i.toInt.toNat x.toInt) H1 → va_S A H0 H1 locs1 → W p l e R s m args below meth c H1 locs1 cells slots Q (F0 m (pc + 1) ls (rest))) : W p l e R s m args below meth c H locs cells slots Q (F0 m pc ls (.int x :: .int i :: .ref a :: rest)) := by
  obtain ⟨E, hP, hD, hm, hz, hE⟩ := hT
  have hL : a ∈ zL z := hm a (by rw [ha]; exact Nat.succ_ne_zero _)
  obtain ⟨k, hk0⟩ := va_pl_get (X := []) (f := E) hL
  have he := hE a hL
  rw [ha] at he
  obtain ⟨f, h9, hf⟩ : a48 z (σ o 48) (E a) := he
  have hk := hk0
  rw [h9] at hk
  refine va_iast hx hb hK hP hD hS k 0 hk rfl (ix_in (n := 4) h0 h1) hdg (fun H1 locs1 hP1 hD1 hS1 => ?_)
  refine kk H1 locs1 (ty_up hP1 hD1 hD hm hz hE hL hk0 ?_ (up_mo hz hE ha (fun r' hr' => wrl_nr _ _ hr'))) hS1
  rw [ha]
  show eOK z (gset σ o (wrl (σ o) 48 i.toInt.toNat x.toInt) o 48) (48, o) _
  rw [gset_at]
  refine (⟨upd f i.toNatClampNeg x, rfl, fun j hj => ?_⟩ : a48 z (wrl (σ o) 48 i.toInt.toNat x.toInt 48) _)
  by_cases hj2 : j = i.toNatClampNeg
  · subst hj2
    rw [show upd f i.toNatClampNeg x i.toNatClampNeg = x from if_pos rfl]
    exact ⟨(wrl_at _ _ _ _).symm, hv⟩
  · rw [show upd f i.toNatClampNeg x j = f j from if_neg hj2]
    exact ⟨(hf j hj).1.trans (wrl_ni _ _ hj2).symm, (hf j hj).2⟩
theorem al_49 {i : Int32} (hx : p.tables.exec = Jvm.exec) (hb : c.code = cc) (hK : va_K (zD z) vwCl (zT z) s) (hT : TY z A σ H) (ha : zG z a = (49, o)) (h0 : 0 ≤ i.toInt) (h1 : i.toInt < 160) (hdg : decode cc pc = .ok (.iaload, 1)) (kk : ∀ x : Int32, x.toInt = σ o 49 i.toInt.toNat → W p l e R s m args below meth c H locs cells slots Q (F0 m (pc + 1) ls (.int x :: rest))) : W p l e R s m args below meth c H locs cells slots Q (F0 m pc ls (.int i :: .ref a :: rest)) := by
  obtain ⟨E, hP, hD, hm, hz, hE⟩ := hT
  have hL : a ∈ zL z := hm a (by rw [ha]; exact Nat.succ_ne_zero _)
  obtain ⟨k, hk0⟩ := va_pl_get (X := []) (f := E) hL
  have he := hE a hL
  rw [ha] at he
  obtain ⟨f, h9, hf⟩ : a49 z (σ o 49) (E a) := he
  have hk := hk0
  rw [h9] at hk
  exact va_iald hx hb hK hP k 0 hk rfl (ix_in (n := 160) h0 h1) hdg (kk _ (hf _ (ix_lt (n := 160) h0 h1)).1)
theorem an_49 (hx : p.tables.exec = Jvm.exec) (hb : c.code = cc) (hK : va_K (zD z) vwCl (zT z) s) (hT : TY z A σ H) (ha : zG z a = (49, o)) (hdg : decode cc pc = .ok (.arraylength, 1)) (kk : ∀ x : Int32, x.toInt = 160 → W p l e R s m args below meth c H locs cells slots Q (F0 m (pc + 1) ls (.int x :: rest))) : W p l e R s m args below meth c H locs cells slots Q (F0 m pc ls (.ref a :: rest)) := by
  obtain ⟨E, hP, hD, hm, hz, hE⟩ := hT
  have hL : a ∈ zL z := hm a (by rw [ha]; exact Nat.succ_ne_zero _)
  obtain ⟨k, hk0⟩ := va_pl_get (X := []) (f := E) hL
  have he := hE a hL
  rw [ha] at he
  obtain ⟨f, h9, hf⟩ : a49 z (σ o 49) (E a) := he
  have hk := hk0
  rw [h9] at hk
  exact va_alen hx hb hK hP k 0 hk rfl (v := 160) rfl hdg (kk _ rfl)
theorem as_49 {i x : Int32} (hx : p.tables.exec = Jvm.exec) (hb : c.code = cc) (hK : va_K (zD z) vwCl (zT z) s) (hT : TY z A σ H) (hS : va_S A H0 H locs) (ha : zG z a = (49, o)) (h0 : 0 ≤ i.toInt) (h1 : i.toInt < 160) (hdg : decode cc pc = .ok (.iastore, 1)) (kk : ∀ (H1 : Heap) (locs1 : List Loc), TY z A (wr σ o 49 i.toInt.toNat x.toInt) H1 → va_S A H0 H1 locs1 → W p l e R s m args below meth c H1 locs1 cells slots Q (F0 m (pc + 1) ls (rest))) : W p l e R s m args below meth c H locs cells slots Q (F0 m pc ls (.int x :: .int i :: .ref a :: rest)) := by
  obtain ⟨E, hP, hD, hm, hz, hE⟩ := hT
  have hL : a ∈ zL z := hm a (by rw [ha]; exact Nat.succ_ne_zero _)
  obtain ⟨k, hk0⟩ := va_pl_get (X := []) (f := E) hL
  have he := hE a hL
  rw [ha] at he
  obtain ⟨f, h9, hf⟩ : a49 z (σ o 49) (E a) := he
  have hk := hk0
  rw [h9] at hk
  refine va_iast hx hb hK hP hD hS k 0 hk rfl (ix_in (n := 160) h0 h1) hdg (fun H1 locs1 hP1 hD1 hS1 => ?_)
  refine kk H1 locs1 (ty_up hP1 hD1 hD hm hz hE hL hk0 ?_ (up_mo hz hE ha (fun r' hr' => wrl_nr _ _ hr'))) hS1
  rw [ha]
  show eOK z (gset σ o (wrl (σ o) 49 i.toInt.toNat x.toInt) o 49) (49, o) _
  rw [gset_at]
  refine (⟨upd f i.toNatClampNeg x, rfl, fun j hj => ?_⟩ : a49 z (wrl (σ o) 49 i.toInt.toNat x.toInt 49) _)
  by_cases hj2 : j = i.toNatClampNeg
  · subst hj2
    rw [show upd f i.toNatClampNeg x i.toNatClampNeg = x from if_pos rfl]
    exact ⟨(wrl_at _ _ _ _).symm, trivial⟩
  · rw [show upd f i.toNatClampNeg x j = f j from if_neg hj2]
    exact ⟨(hf j hj).1.trans (wrl_ni _ _ hj2).symm, (hf j hj).2⟩
theorem al_50 {i : Int32} (hx : p.tables.exec = Jvm.exec) (hb : c.code = cc) (hK : va_K (zD z) vwCl (zT z) s) (hT : TY z A σ H) (ha : zG z a = (50, o)) (h0 : 0 ≤ i.toInt) (h1 : i.toInt < 59) (hdg : decode cc pc = .ok (.iaload, 1)) (kk : ∀ x : Int32, x.toInt = σ o 50 i.toInt.toNat → gd59 i.toInt.toNat x.toInt → W p l e R s m args below meth c H locs cells slots Q (F0 m (pc + 1) ls (.int x :: rest))) : W p l e R s m args below meth c H locs cells slots Q (F0 m pc ls (.int i :: .ref a :: rest)) := by
  obtain ⟨E, hP, hD, hm, hz, hE⟩ := hT
  have hL : a ∈ zL z := hm a (by rw [ha]; exact Nat.succ_ne_zero _)
  obtain ⟨k, hk0⟩ := va_pl_get (X := []) (f := E) hL
  have he := hE a hL
  rw [ha] at he
  obtain ⟨f, h9, hf⟩ : a50 z (σ o 50) (E a) := he
  have hk := hk0
  rw [h9] at hk
  exact va_iald hx hb hK hP k 0 hk rfl (ix_in (n := 59) h0 h1) hdg (kk _ (hf _ (ix_lt (n := 59) h0 h1)).1 (hf _ (ix_lt (n := 59) h0 h1)).2)
theorem an_50 (hx : p.tables.exec = Jvm.exec) (hb : c.code = cc) (hK : va_K (zD z) vwCl (zT z) s) (hT : TY z A σ H) (ha : zG z a = (50, o)) (hdg : decode cc pc = .ok (.arraylength, 1)) (kk : ∀ x : Int32, x.toInt = 59 → W p l e R s m args below meth c H locs cells slots Q (F0 m (pc + 1) ls (.int x :: rest))) : W p l e R s m args below meth c H locs cells slots Q (F0 m pc ls (.ref a :: rest)) := by
  obtain ⟨E, hP, hD, hm, hz, hE⟩ := hT
  have hL : a ∈ zL z := hm a (by rw [ha]; exact Nat.succ_ne_zero _)
  obtain ⟨k, hk0⟩ := va_pl_get (X := []) (f := E) hL
  have he := hE a hL
  rw [ha] at he
  obtain ⟨f, h9, hf⟩ : a50 z (σ o 50) (E a) := he
  have hk := hk0
  rw [h9] at hk
  exact va_alen hx hb hK hP k 0 hk rfl (v := 59) rfl hdg (kk _ rfl)
theorem as_50 {i x : Int32} (hx : p.tables.exec = Jvm.exec) (hb : c.code = cc) (hK : va_K (zD z) vwCl (zT z) s) (hT : TY z A σ H) (hS : va_S A H0 H locs) (ha : zG z a = (50, o)) (h0 : 0 ≤ i.toInt) (h1 : i.toInt < 59) (hv : gd59 i.toInt.toNat x.toInt) (hdg : decode cc pc = .ok (.iastore, 1)) (kk : ∀ (H1 : Heap) (locs1 : List Loc), TY z A (wr σ o 50 i.toInt.toNat x.toInt) H1 → va_S A H0 H1 locs1 → W p l e R s m args below meth c H1 locs1 cells slots Q (F0 m (pc + 1) ls (rest))) : W p l e R s m args below meth c H locs cells slots Q (F0 m pc ls (.int x :: .int i :: .ref a :: rest)) := by
  obtain ⟨E, hP, hD, hm, hz, hE⟩ := hT
  have hL : a ∈ zL z := hm a (by rw [ha]; exact Nat.succ_ne_zero _)
  obtain ⟨k, hk0⟩ := va_pl_get (X := []) (f := E) hL
  have he := hE a hL
  rw [ha] at he
  obtain ⟨f, h9, hf⟩ : a50 z (σ o 50) (E a) := he
  have hk := hk0
  rw [h9] at hk
  refine va_iast hx hb hK hP hD hS k 0 hk rfl (ix_in (n := 59) h0 h1) hdg (fun H1 locs1 hP1 hD1 hS1 => ?_)
  refine kk H1 locs1 (ty_up hP1 hD1 hD hm hz hE hL hk0 ?_ (up_mo hz hE ha (fun r' hr' => wrl_nr _ _ hr'))) hS1
  rw [ha]
  show eOK z (gset σ o (wrl (σ o) 50 i.toInt.toNat x.toInt) o 50) (50, o) _
  rw [gset_at]
  refine (⟨upd f i.toNatClampNeg x, rfl, fun j hj => ?_⟩ : a50 z (wrl (σ o) 50 i.toInt.toNat x.toInt 50) _)
  by_cases hj2 : j = i.toNatClampNeg
  · subst hj2
    rw [show upd f i.toNatClampNeg x i.toNatClampNeg = x from if_pos rfl]
    exact ⟨(wrl_at _ _ _ _).symm, hv⟩
  · rw [show upd f i.toNatClampNeg x j = f j from if_neg hj2]
    exact ⟨(hf j hj).1.trans (wrl_ni _ _ hj2).symm, (hf j hj).2⟩
theorem al_35 {i : Int32} (hx : p.tables.exec = Jvm.exec) (hb : c.code = cc) (hK : va_K (zD z) vwCl (zT z) s) (hT : TY z A σ H) (ha : zG z a = (35, o)) (h0 : 0 ≤ i.toInt) (h1 : i.toInt < 6) (hdg : decode cc pc = .ok (.aaload, 1)) (kk : ∀ q : Nat, zG z q = (11, 6 + i.toInt.toNat) → W p l e R s m args below meth c H locs cells slots Q (F0 m (pc + 1) ls (.ref q :: rest))) : W p l e R s m args below meth c H locs cells slots Q (F0 m pc ls (.int i :: .ref a :: rest)) := by
  obtain ⟨E, hP, hD, hm, hz, hE⟩ := hT
  have hL : a ∈ zL z := hm a (by rw [ha]; exact Nat.succ_ne_zero _)
  obtain ⟨k, hk0⟩ := va_pl_get (X := []) (f := E) hL
  have he := hE a hL
  rw [ha] at he
  obtain ⟨f, h9, hf⟩ : a35 z (E a) := he
  have hk := hk0
  rw [h9] at hk
  obtain ⟨q, h5, h6⟩ := hf _ (ix_lt (n := 6) h0 h1)
  refine va_aldq hx hb hK hP k 3 hk rfl (ix_in (n := 6) h0 h1) hdg ?_
  rw [ix_cl, h5]
  exact kk q h6
theorem al_36 {i : Int32} (hx : p.tables.exec = Jvm.exec) (hb : c.code = cc) (hK : va_K (zD z) vwCl (zT z) s) (hT : TY z A σ H) (ha : zG z a = (36, o)) (h0 : 0 ≤ i.toInt) (h1 : i.toInt < 2) (hdg : decode cc pc = .ok (.aaload, 1)) (kk : ∀ q : Nat, zG z q = (10, 3 + i.toInt.toNat) → W p l e R s m args below meth c H locs cells slots Q (F0 m (pc + 1) ls (.ref q :: rest))) : W p l e R s m args below meth c H locs cells slots Q (F0 m pc ls (.int i :: .ref a :: rest)) := by
  obtain ⟨E, hP, hD, hm, hz, hE⟩ := hT
  have hL : a ∈ zL z := hm a (by rw [ha]; exact Nat.succ_ne_zero _)
  obtain ⟨k, hk0⟩ := va_pl_get (X := []) (f := E) hL
  have he := hE a hL
  rw [ha] at he
  obtain ⟨f, h9, hf⟩ : a36 z (E a) := he
  have hk := hk0
  rw [h9] at hk
  obtain ⟨q, h5, h6⟩ := hf _ (ix_lt (n := 2) h0 h1)
  refine va_aldq hx hb hK hP k 2 hk rfl (ix_in (n := 2) h0 h1) hdg ?_
  rw [ix_cl, h5]
  exact kk q h6
theorem al_37 {i : Int32} (hx : p.tables.exec = Jvm.exec) (hb : c.code = cc) (hK : va_K (zD z) vwCl (zT z) s) (hT : TY z A σ H) (ha : zG z a = (37, o)) (h0 : 0 ≤ i.toInt) (h1 : i.toInt < 4) (hdg : decode cc pc = .ok (.aaload, 1)) (kk : ∀ q : Nat, zG z q = (13, 20 + i.toInt.toNat) → W p l e R s m args below meth c H locs cells slots Q (F0 m (pc + 1) ls (.ref q :: rest))) : W p l e R s m args below meth c H locs cells slots Q (F0 m pc ls (.int i :: .ref a :: rest)) := by
  obtain ⟨E, hP, hD, hm, hz, hE⟩ := hT
  have hL : a ∈ zL z := hm a (by rw [ha]; exact Nat.succ_ne_zero _)
  obtain ⟨k, hk0⟩ := va_pl_get (X := []) (f := E) hL
  have he := hE a hL
  rw [ha] at he
  obtain ⟨f, h9, hf⟩ : a37 z (E a) := he
  have hk := hk0
  rw [h9] at hk
  obtain ⟨q, h5, h6⟩ := hf _ (ix_lt (n := 4) h0 h1)
  refine va_aldq hx hb hK hP k 4 hk rfl (ix_in (n := 4) h0 h1) hdg ?_
  rw [ix_cl, h5]
  exact kk q h6
end TYA
section TYI
variable {p : Program} {l : Launch} {e : Env} {R : Room} {s : State} {m : MethodId} {args : Array Value} {below : List Frame} {meth : Method} {c : Code} {H H0 : Heap} {locs : List Loc} {cells slots : Nat} {Q : State → Prop}
variable {cc : ByteArray} {pc : Nat} {ls : Array Slot} {rest : List Value} {z : Zt} {A : Nat → Prop} {a o index : Nat} {σ : Sg} {Ts : List Cond} {own : String}
variable {x y : Int32}
theorem i_mx (x : Int32) : -2147483648 ≤ x.toInt ∧ x.toInt ≤ 2147483647 := by have h1 := x.le_toInt; have h2 := x.toInt_lt; omega
theorem i_add {x y : Int32} (h1 : -2147483648 ≤ x.toInt + y.toInt) (h2 : x.toInt + y.toInt ≤ 2147483647) : (x + y).toInt = x.toInt + y.toInt := by
  rw [Int32.toInt_add]
  exact Int.bmod_eq_of_le (by omega) (by omega)
theorem i_sub {x y : Int32} (h1 : -2147483648 ≤ x.toInt - y.toInt) (h2 : x.toInt - y.toInt ≤ 2147483647) : (x - y).toInt = x.toInt - y.toInt := by
  rw [Int32.toInt_sub]
  exact Int.bmod_eq_of_le (by omega) (by omega)
theorem i_mul {x y : Int32} (h1 : -2147483648 ≤ x.toInt * y.toInt) (h2 : x.toInt * y.toInt ≤ 2147483647) : (x * y).toInt = x.toInt * y.toInt := by
  rw [Int32.toInt_mul]
  exact Int.bmod_eq_of_le (by omega) (by omega)
theorem i_ofI {n : Int} (h1 : -2147483648 ≤ n) (h2 : n ≤ 2147483647) : (Int32.ofInt n).toInt = n := by
  have e : ((Int32.size : Nat) : Int) = 4294967296 := rfl
  rw [Int32.toInt_ofInt]
  exact Int.bmod_eq_of_le (by omega) (by omega)
theorem r_iadd (hx : p.tables.exec = Jvm.exec) (hb : c.code = cc) (hdg : decode cc pc = .ok (.iadd, 1)) (h1 : -2147483648 ≤ x.toInt + y.toInt) (h2 : x.toInt + y.toInt ≤ 2147483647) (kk : ∀ w : Int32, w.toInt = x.toInt + y.toInt → W p l e R s m args below meth c H locs cells slots Q (F0 m (pc + 1) ls (.int w :: rest))) : W p l e R s m args below meth c H locs cells slots Q (F0 m pc ls (.int y :: .int x :: rest)) := lv_iadd hx hb hdg (kk _ (i_add h1 h2))
theorem r_isub (hx : p.tables.exec = Jvm.exec) (hb : c.code = cc) (hdg : decode cc pc = .ok (.isub, 1)) (h1 : -2147483648 ≤ x.toInt - y.toInt) (h2 : x.toInt - y.toInt ≤ 2147483647) (kk : ∀ w : Int32, w.toInt = x.toInt - y.toInt → W p l e R s m args below meth c H locs cells slots Q (F0 m (pc + 1) ls (.int w :: rest))) : W p l e R s m args below meth c H locs cells slots Q (F0 m pc ls (.int y :: .int x :: rest)) := lv_isub hx hb hdg (kk _ (i_sub h1 h2))
theorem r_imul (k : Int) (hk : y.toInt = k) (hx : p.tables.exec = Jvm.exec) (hb : c.code = cc) (hdg : decode cc pc = .ok (.imul, 1)) (h1 : -2147483648 ≤ x.toInt * k) (h2 : x.toInt * k ≤ 2147483647) (kk : ∀ w : Int32, w.toInt = x.toInt * k → W p l e R s m args below meth c H locs cells slots Q (F0 m (pc + 1) ls (.int w :: rest))) : W p l e R s m args below meth c H locs cells slots Q (F0 m pc ls (.int y :: .int x :: rest)) := by
  subst hk
  exact lv_imul hx hb hdg (kk _ (i_mul h1 h2))
theorem r_imulL (k : Int) (hk : x.toInt = k) (hx : p.tables.exec = Jvm.exec) (hb : c.code = cc) (hdg : decode cc pc = .ok (.imul, 1)) (h1 : -2147483648 ≤ k * y.toInt) (h2 : k * y.toInt ≤ 2147483647) (kk : ∀ w : Int32, w.toInt = k * y.toInt → W p l e R s m args below meth c H locs cells slots Q (F0 m (pc + 1) ls (.int w :: rest))) : W p l e R s m args below meth c H locs cells slots Q (F0 m pc ls (.int y :: .int x :: rest)) := by
  subst hk
  exact lv_imul hx hb hdg (kk _ (i_mul h1 h2))
theorem w_iadd (hx : p.tables.exec = Jvm.exec) (hb : c.code = cc) (hdg : decode cc pc = .ok (.iadd, 1)) (kk : ∀ w : Int32, W p l e R s m args below meth c H locs cells slots Q (F0 m (pc + 1) ls (.int w :: rest))) : W p l e R s m args below meth c H locs cells slots Q (F0 m pc ls (.int y :: .int x :: rest)) := lv_iadd hx hb hdg (kk _)
theorem w_isub (hx : p.tables.exec = Jvm.exec) (hb : c.code = cc) (hdg : decode cc pc = .ok (.isub, 1)) (kk : ∀ w : Int32, W p l e R s m args below meth c H locs cells slots Q (F0 m (pc + 1) ls (.int w :: rest))) : W p l e R s m args below meth c H locs cells slots Q (F0 m pc ls (.int y :: .int x :: rest)) := lv_isub hx hb hdg (kk _)
theorem w_imul (hx : p.tables.exec = Jvm.exec) (hb : c.code = cc) (hdg : decode cc pc = .ok (.imul, 1)) (kk : ∀ w : Int32, W p l e R s m args below meth c H locs cells slots Q (F0 m (pc + 1) ls (.int w :: rest))) : W p l e R s m args below meth c H locs cells slots Q (F0 m pc ls (.int y :: .int x :: rest)) := lv_imul hx hb hdg (kk _)
theorem w_iand (hx : p.tables.exec = Jvm.exec) (hb : c.code = cc) (hdg : decode cc pc = .ok (.iand, 1)) (kk : ∀ w : Int32, W p l e R s m args below meth c H locs cells slots Q (F0 m (pc + 1) ls (.int w :: rest))) : W p l e R s m args below meth c H locs cells slots Q (F0 m pc ls (.int y :: .int x :: rest)) := lv_iand hx hb hdg (kk _)
theorem w_ior (hx : p.tables.exec = Jvm.exec) (hb : c.code = cc) (hdg : decode cc pc = .ok (.ior, 1)) (kk : ∀ w : Int32, W p l e R s m args below meth c H locs cells slots Q (F0 m (pc + 1) ls (.int w :: rest))) : W p l e R s m args below meth c H locs cells slots Q (F0 m pc ls (.int y :: .int x :: rest)) := lv_ior hx hb hdg (kk _)
theorem w_ixor (hx : p.tables.exec = Jvm.exec) (hb : c.code = cc) (hdg : decode cc pc = .ok (.ixor, 1)) (kk : ∀ w : Int32, W p l e R s m args below meth c H locs cells slots Q (F0 m (pc + 1) ls (.int w :: rest))) : W p l e R s m args below meth c H locs cells slots Q (F0 m pc ls (.int y :: .int x :: rest)) := lv_ixor hx hb hdg (kk _)
theorem w_ishl (hx : p.tables.exec = Jvm.exec) (hb : c.code = cc) (hdg : decode cc pc = .ok (.ishl, 1)) (kk : ∀ w : Int32, W p l e R s m args below meth c H locs cells slots Q (F0 m (pc + 1) ls (.int w :: rest))) : W p l e R s m args below meth c H locs cells slots Q (F0 m pc ls (.int y :: .int x :: rest)) := lv_ishl hx hb hdg (kk _)
theorem w_ishr (hx : p.tables.exec = Jvm.exec) (hb : c.code = cc) (hdg : decode cc pc = .ok (.ishr, 1)) (kk : ∀ w : Int32, W p l e R s m args below meth c H locs cells slots Q (F0 m (pc + 1) ls (.int w :: rest))) : W p l e R s m args below meth c H locs cells slots Q (F0 m pc ls (.int y :: .int x :: rest)) := lv_ishr hx hb hdg (kk _)
theorem r_iconst {n : Int} (hx : p.tables.exec = Jvm.exec) (hb : c.code = cc) (hdg : decode cc pc = .ok (.iconst n, 1)) (h1 : -2147483648 ≤ n) (h2 : n ≤ 2147483647) (kk : ∀ w : Int32, w.toInt = n → W p l e R s m args below meth c H locs cells slots Q (F0 m (pc + 1) ls (.int w :: rest))) : W p l e R s m args below meth c H locs cells slots Q (F0 m pc ls (rest)) := lv_iconst hx hb hdg rfl (kk _ (i_ofI h1 h2))
theorem r_bipush {n : Int} (hx : p.tables.exec = Jvm.exec) (hb : c.code = cc) (hdg : decode cc pc = .ok (.bipush n, 2)) (h : (Int8.ofInt n).toInt32.toInt = n) (kk : ∀ w : Int32, w.toInt = n → W p l e R s m args below meth c H locs cells slots Q (F0 m (pc + 2) ls (.int w :: rest))) : W p l e R s m args below meth c H locs cells slots Q (F0 m pc ls (rest)) := lv_bipush hx hb hdg rfl (kk _ h)
theorem r_sipush {n : Int} (hx : p.tables.exec = Jvm.exec) (hb : c.code = cc) (hdg : decode cc pc = .ok (.sipush n, 3)) (h : (Int16.ofInt n).toInt32.toInt = n) (kk : ∀ w : Int32, w.toInt = n → W p l e R s m args below meth c H locs cells slots Q (F0 m (pc + 3) ls (.int w :: rest))) : W p l e R s m args below meth c H locs cells slots Q (F0 m pc ls (rest)) := lv_sipush hx hb hdg rfl (kk _ h)
theorem r_icmp_eq {off : Int} {tgt : Nat} (hx : p.tables.exec = Jvm.exec) (hb : c.code = cc) (hdg : decode cc pc = .ok (.if_icmp .eq off, 3)) (ht : (pc : Int) + off = (tgt : Int)) (kt : x.toInt = y.toInt → W p l e R s m args below meth c H locs cells slots Q (F0 m tgt ls (rest))) (kf : x.toInt ≠ y.toInt → W p l e R s m args below meth c H locs cells slots Q (F0 m (pc + 3) ls (rest))) : W p l e R s m args below meth c H locs cells slots Q (F0 m pc ls (.int y :: .int x :: rest)) := by
  refine lv_icmp_eq hx hb hdg ht (fun h => kt ?_) (fun h => kf ?_)
  · rw [h]
  · exact fun q => h (Int32.toInt_inj.mp q)
theorem r_if_eq {off : Int} {tgt : Nat} (hx : p.tables.exec = Jvm.exec) (hb : c.code = cc) (hdg : decode cc pc = .ok (.ifCond .eq off, 3)) (ht : (pc : Int) + off = (tgt : Int)) (kt : x.toInt = 0 → W p l e R s m args below meth c H locs cells slots Q (F0 m tgt ls (rest))) (kf : x.toInt ≠ 0 → W p l e R s m args below meth c H locs cells slots Q (F0 m (pc + 3) ls (rest))) : W p l e R s m args below meth c H locs cells slots Q (F0 m pc ls (.int x :: rest)) := by
  refine lv_if_eq hx hb hdg ht (fun h => kt ?_) (fun h => kf ?_)
  · show x.toInt = (0 : Int32).toInt; rw [h]
  · show x.toInt ≠ (0 : Int32).toInt; exact fun q => h (Int32.toInt_inj.mp q)
theorem r_icmp_ne {off : Int} {tgt : Nat} (hx : p.tables.exec = Jvm.exec) (hb : c.code = cc) (hdg : decode cc pc = .ok (.if_icmp .ne off, 3)) (ht : (pc : Int) + off = (tgt : Int)) (kt : x.toInt ≠ y.toInt → W p l e R s m args below meth c H locs cells slots Q (F0 m tgt ls (rest))) (kf : x.toInt = y.toInt → W p l e R s m args below meth c H locs cells slots Q (F0 m (pc + 3) ls (rest))) : W p l e R s m args below meth c H locs cells slots Q (F0 m pc ls (.int y :: .int x :: rest)) := by
  refine lv_icmp_ne hx hb hdg ht (fun h => kt ?_) (fun h => kf ?_)
  · exact fun q => h (Int32.toInt_inj.mp q)
  · rw [h]
theorem r_if_ne {off : Int} {tgt : Nat} (hx : p.tables.exec = Jvm.exec) (hb : c.code = cc) (hdg : decode cc pc = .ok (.ifCond .ne off, 3)) (ht : (pc : Int) + off = (tgt : Int)) (kt : x.toInt ≠ 0 → W p l e R s m args below meth c H locs cells slots Q (F0 m tgt ls (rest))) (kf : x.toInt = 0 → W p l e R s m args below meth c H locs cells slots Q (F0 m (pc + 3) ls (rest))) : W p l e R s m args below meth c H locs cells slots Q (F0 m pc ls (.int x :: rest)) := by
  refine lv_if_ne hx hb hdg ht (fun h => kt ?_) (fun h => kf ?_)
  · show x.toInt ≠ (0 : Int32).toInt; exact fun q => h (Int32.toInt_inj.mp q)
  · show x.toInt = (0 : Int32).toInt; rw [h]
theorem r_icmp_lt {off : Int} {tgt : Nat} (hx : p.tables.exec = Jvm.exec) (hb : c.code = cc) (hdg : decode cc pc = .ok (.if_icmp .lt off, 3)) (ht : (pc : Int) + off = (tgt : Int)) (kt : x.toInt < y.toInt → W p l e R s m args below meth c H locs cells slots Q (F0 m tgt ls (rest))) (kf : x.toInt ≥ y.toInt → W p l e R s m args below meth c H locs cells slots Q (F0 m (pc + 3) ls (rest))) : W p l e R s m args below meth c H locs cells slots Q (F0 m pc ls (.int y :: .int x :: rest)) := by
  refine lv_icmp_lt hx hb hdg ht (fun h => kt ?_) (fun h => kf ?_)
  · exact Int32.lt_iff_toInt_lt.mp h
  · have := mt Int32.lt_iff_toInt_lt.mpr h; omega
theorem r_if_lt {off : Int} {tgt : Nat} (hx : p.tables.exec = Jvm.exec) (hb : c.code = cc) (hdg : decode cc pc = .ok (.ifCond .lt off, 3)) (ht : (pc : Int) + off = (tgt : Int)) (kt : x.toInt < 0 → W p l e R s m args below meth c H locs cells slots Q (F0 m tgt ls (rest))) (kf : x.toInt ≥ 0 → W p l e R s m args below meth c H locs cells slots Q (F0 m (pc + 3) ls (rest))) : W p l e R s m args below meth c H locs cells slots Q (F0 m pc ls (.int x :: rest)) := by
  refine lv_if_lt hx hb hdg ht (fun h => kt ?_) (fun h => kf ?_)
  · show x.toInt < (0 : Int32).toInt; exact Int32.lt_iff_toInt_lt.mp h
  · show x.toInt ≥ (0 : Int32).toInt; have := mt Int32.lt_iff_toInt_lt.mpr h; omega
theorem r_icmp_ge {off : Int} {tgt : Nat} (hx : p.tables.exec = Jvm.exec) (hb : c.code = cc) (hdg : decode cc pc = .ok (.if_icmp .ge off, 3)) (ht : (pc : Int) + off = (tgt : Int)) (kt : x.toInt ≥ y.toInt → W p l e R s m args below meth c H locs cells slots Q (F0 m tgt ls (rest))) (kf : x.toInt < y.toInt → W p l e R s m args below meth c H locs cells slots Q (F0 m (pc + 3) ls (rest))) : W p l e R s m args below meth c H locs cells slots Q (F0 m pc ls (.int y :: .int x :: rest)) := by
  refine lv_icmp_ge hx hb hdg ht (fun h => kt ?_) (fun h => kf ?_)
  · exact Int32.le_iff_toInt_le.mp h
  · have := mt Int32.le_iff_toInt_le.mpr h; omega
theorem r_if_ge {off : Int} {tgt : Nat} (hx : p.tables.exec = Jvm.exec) (hb : c.code = cc) (hdg : decode cc pc = .ok (.ifCond .ge off, 3)) (ht : (pc : Int) + off = (tgt : Int)) (kt : x.toInt ≥ 0 → W p l e R s m args below meth c H locs cells slots Q (F0 m tgt ls (rest))) (kf : x.toInt < 0 → W p l e R s m args below meth c H locs cells slots Q (F0 m (pc + 3) ls (rest))) : W p l e R s m args below meth c H locs cells slots Q (F0 m pc ls (.int x :: rest)) := by
  refine lv_if_ge hx hb hdg ht (fun h => kt ?_) (fun h => kf ?_)
  · show x.toInt ≥ (0 : Int32).toInt; exact Int32.le_iff_toInt_le.mp h
  · show x.toInt < (0 : Int32).toInt; have := mt Int32.le_iff_toInt_le.mpr h; omega
theorem r_icmp_gt {off : Int} {tgt : Nat} (hx : p.tables.exec = Jvm.exec) (hb : c.code = cc) (hdg : decode cc pc = .ok (.if_icmp .gt off, 3)) (ht : (pc : Int) + off = (tgt : Int)) (kt : x.toInt > y.toInt → W p l e R s m args below meth c H locs cells slots Q (F0 m tgt ls (rest))) (kf : x.toInt ≤ y.toInt → W p l e R s m args below meth c H locs cells slots Q (F0 m (pc + 3) ls (rest))) : W p l e R s m args below meth c H locs cells slots Q (F0 m pc ls (.int y :: .int x :: rest)) := by
  refine lv_icmp_gt hx hb hdg ht (fun h => kt ?_) (fun h => kf ?_)
  · exact Int32.lt_iff_toInt_lt.mp h
  · have := mt Int32.lt_iff_toInt_lt.mpr h; omega
theorem r_if_gt {off : Int} {tgt : Nat} (hx : p.tables.exec = Jvm.exec) (hb : c.code = cc) (hdg : decode cc pc = .ok (.ifCond .gt off, 3)) (ht : (pc : Int) + off = (tgt : Int)) (kt : x.toInt > 0 → W p l e R s m args below meth c H locs cells slots Q (F0 m tgt ls (rest))) (kf : x.toInt ≤ 0 → W p l e R s m args below meth c H locs cells slots Q (F0 m (pc + 3) ls (rest))) : W p l e R s m args below meth c H locs cells slots Q (F0 m pc ls (.int x :: rest)) := by
  refine lv_if_gt hx hb hdg ht (fun h => kt ?_) (fun h => kf ?_)
  · show x.toInt > (0 : Int32).toInt; exact Int32.lt_iff_toInt_lt.mp h
  · show x.toInt ≤ (0 : Int32).toInt; have := mt Int32.lt_iff_toInt_lt.mpr h; omega
theorem r_icmp_le {off : Int} {tgt : Nat} (hx : p.tables.exec = Jvm.exec) (hb : c.code = cc) (hdg : decode cc pc = .ok (.if_icmp .le off, 3)) (ht : (pc : Int) + off = (tgt : Int)) (kt : x.toInt ≤ y.toInt → W p l e R s m args below meth c H locs cells slots Q (F0 m tgt ls (rest))) (kf : x.toInt > y.toInt → W p l e R s m args below meth c H locs cells slots Q (F0 m (pc + 3) ls (rest))) : W p l e R s m args below meth c H locs cells slots Q (F0 m pc ls (.int y :: .int x :: rest)) := by
  refine lv_icmp_le hx hb hdg ht (fun h => kt ?_) (fun h => kf ?_)
  · exact Int32.le_iff_toInt_le.mp h
  · have := mt Int32.le_iff_toInt_le.mpr h; omega
theorem r_if_le {off : Int} {tgt : Nat} (hx : p.tables.exec = Jvm.exec) (hb : c.code = cc) (hdg : decode cc pc = .ok (.ifCond .le off, 3)) (ht : (pc : Int) + off = (tgt : Int)) (kt : x.toInt ≤ 0 → W p l e R s m args below meth c H locs cells slots Q (F0 m tgt ls (rest))) (kf : x.toInt > 0 → W p l e R s m args below meth c H locs cells slots Q (F0 m (pc + 3) ls (rest))) : W p l e R s m args below meth c H locs cells slots Q (F0 m pc ls (.int x :: rest)) := by
  refine lv_if_le hx hb hdg ht (fun h => kt ?_) (fun h => kf ?_)
  · show x.toInt ≤ (0 : Int32).toInt; exact Int32.le_iff_toInt_le.mp h
  · show x.toInt > (0 : Int32).toInt; have := mt Int32.le_iff_toInt_le.mpr h; omega
end TYI
