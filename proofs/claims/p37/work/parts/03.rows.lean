theorem ix_in {i : Int32} {n : Nat} (h0 : 0 ≤ i.toInt) (h1 : i.toInt < n) : vp_in i n := vp_in_iff.mpr ⟨h0, h1⟩
theorem ix_nat {i : Int32} (h0 : 0 ≤ i.toInt) : (i.toNatClampNeg : Int) = i.toInt := by
  have : i.toNatClampNeg = i.toInt.toNat := rfl
  omega
theorem ix_lt {i : Int32} {n : Nat} (h0 : 0 ≤ i.toInt) (h1 : i.toInt < n) : i.toNatClampNeg < n := by
  have := ix_nat h0
  omega
section TYA
variable {p : Program} {l : Launch} {e : Env} {R : Room} {s : State} {m : MethodId} {args : Array Value} {below : List Frame} {meth : Method} {c : Code} {H H0 : Heap} {locs : List Loc} {cells slots : Nat} {Q : State → Prop}
variable {cc : ByteArray} {pc : Nat} {ls : Array Slot} {rest : List Value} {z : Zt} {A : Nat → Prop} {a o index : Nat} {gh : Gh} {Ts : List Cond} {own : String}
theorem al_20 {i : Int32} (hx : p.tables.exec = Jvm.exec) (hb : c.code = cc) (hK : va_K (zD z) vwCl (zT z) s) (hT : TY z A gh H) (ha : zG z a = (20, o)) (h0 : 0 ≤ i.toInt) (h1 : i.toInt < 5) (hdg : decode cc pc = .ok (.iaload, 1)) (kk : ∀ x : Int32, W p l e R s m args below meth c H locs cells slots Q (F0 m (pc + 1) ls (.int x :: rest))) : W p l e R s m args below meth c H locs cells slots Q (F0 m pc ls (.int i :: .ref a :: rest)) := by
  obtain ⟨E, hP, hD, hm, hE⟩ := hT
  have hL : a ∈ zL z := hm a (by rw [ha]; exact Nat.succ_ne_zero _)
  obtain ⟨k, hk0⟩ := va_pl_get (X := []) (f := E) hL
  have he := hE a hL
  rw [ha] at he
  obtain ⟨f, h9, hf⟩ : a20 z (gh.1 o) (gh.2 a) (E a) := he
  have hk := hk0
  rw [h9] at hk
  exact va_iald hx hb hK hP k 0 hk rfl (ix_in (n := 5) h0 h1) hdg (kk _)
theorem an_20 (hx : p.tables.exec = Jvm.exec) (hb : c.code = cc) (hK : va_K (zD z) vwCl (zT z) s) (hT : TY z A gh H) (ha : zG z a = (20, o)) (hdg : decode cc pc = .ok (.arraylength, 1)) (kk : ∀ x : Int32, x.toInt = 5 → W p l e R s m args below meth c H locs cells slots Q (F0 m (pc + 1) ls (.int x :: rest))) : W p l e R s m args below meth c H locs cells slots Q (F0 m pc ls (.ref a :: rest)) := by
  obtain ⟨E, hP, hD, hm, hE⟩ := hT
  have hL : a ∈ zL z := hm a (by rw [ha]; exact Nat.succ_ne_zero _)
  obtain ⟨k, hk0⟩ := va_pl_get (X := []) (f := E) hL
  have he := hE a hL
  rw [ha] at he
  obtain ⟨f, h9, hf⟩ : a20 z (gh.1 o) (gh.2 a) (E a) := he
  have hk := hk0
  rw [h9] at hk
  exact va_alen hx hb hK hP k 0 hk rfl (v := 5) rfl hdg (kk _ rfl)
theorem as_20 {i x : Int32} (hx : p.tables.exec = Jvm.exec) (hb : c.code = cc) (hK : va_K (zD z) vwCl (zT z) s) (hT : TY z A gh H) (hS : va_S A H0 H locs) (ha : zG z a = (20, o)) (h0 : 0 ≤ i.toInt) (h1 : i.toInt < 5) (hdg : decode cc pc = .ok (.iastore, 1)) (kk : ∀ (H1 : Heap) (locs1 : List Loc), TY z A gh H1 → va_S A H0 H1 locs1 → W p l e R s m args below meth c H1 locs1 cells slots Q (F0 m (pc + 1) ls (rest))) : W p l e R s m args below meth c H locs cells slots Q (F0 m pc ls (.int x :: .int i :: .ref a :: rest)) := by
  obtain ⟨E, hP, hD, hm, hE⟩ := hT
  have hL : a ∈ zL z := hm a (by rw [ha]; exact Nat.succ_ne_zero _)
  obtain ⟨k, hk0⟩ := va_pl_get (X := []) (f := E) hL
  have he := hE a hL
  rw [ha] at he
  obtain ⟨f, h9, hf⟩ : a20 z (gh.1 o) (gh.2 a) (E a) := he
  have hk := hk0
  rw [h9] at hk
  refine va_iast hx hb hK hP hD hS k 0 hk rfl (ix_in (n := 5) h0 h1) hdg (fun H1 locs1 hP1 hD1 hS1 => ?_)
  refine kk H1 locs1 (ty_up (gh := gh) (gh' := gh) hP1 hD1 hD hm hE hL hk0 ?_ (fun _ _ _ h => h)) hS1
  rw [ha]
  exact (⟨upd f i.toNatClampNeg x, rfl, trivial⟩ : a20 z _ _ _)
theorem al_21 {i : Int32} (hx : p.tables.exec = Jvm.exec) (hb : c.code = cc) (hK : va_K (zD z) vwCl (zT z) s) (hT : TY z A gh H) (ha : zG z a = (21, o)) (h0 : 0 ≤ i.toInt) (h1 : i.toInt < 8) (hdg : decode cc pc = .ok (.iaload, 1)) (kk : ∀ x : Int32, W p l e R s m args below meth c H locs cells slots Q (F0 m (pc + 1) ls (.int x :: rest))) : W p l e R s m args below meth c H locs cells slots Q (F0 m pc ls (.int i :: .ref a :: rest)) := by
  obtain ⟨E, hP, hD, hm, hE⟩ := hT
  have hL : a ∈ zL z := hm a (by rw [ha]; exact Nat.succ_ne_zero _)
  obtain ⟨k, hk0⟩ := va_pl_get (X := []) (f := E) hL
  have he := hE a hL
  rw [ha] at he
  obtain ⟨f, h9, hf⟩ : a21 z (gh.1 o) (gh.2 a) (E a) := he
  have hk := hk0
  rw [h9] at hk
  exact va_iald hx hb hK hP k 0 hk rfl (ix_in (n := 8) h0 h1) hdg (kk _)
theorem an_21 (hx : p.tables.exec = Jvm.exec) (hb : c.code = cc) (hK : va_K (zD z) vwCl (zT z) s) (hT : TY z A gh H) (ha : zG z a = (21, o)) (hdg : decode cc pc = .ok (.arraylength, 1)) (kk : ∀ x : Int32, x.toInt = 8 → W p l e R s m args below meth c H locs cells slots Q (F0 m (pc + 1) ls (.int x :: rest))) : W p l e R s m args below meth c H locs cells slots Q (F0 m pc ls (.ref a :: rest)) := by
  obtain ⟨E, hP, hD, hm, hE⟩ := hT
  have hL : a ∈ zL z := hm a (by rw [ha]; exact Nat.succ_ne_zero _)
  obtain ⟨k, hk0⟩ := va_pl_get (X := []) (f := E) hL
  have he := hE a hL
  rw [ha] at he
  obtain ⟨f, h9, hf⟩ : a21 z (gh.1 o) (gh.2 a) (E a) := he
  have hk := hk0
  rw [h9] at hk
  exact va_alen hx hb hK hP k 0 hk rfl (v := 8) rfl hdg (kk _ rfl)
theorem as_21 {i x : Int32} (hx : p.tables.exec = Jvm.exec) (hb : c.code = cc) (hK : va_K (zD z) vwCl (zT z) s) (hT : TY z A gh H) (hS : va_S A H0 H locs) (ha : zG z a = (21, o)) (h0 : 0 ≤ i.toInt) (h1 : i.toInt < 8) (hdg : decode cc pc = .ok (.iastore, 1)) (kk : ∀ (H1 : Heap) (locs1 : List Loc), TY z A gh H1 → va_S A H0 H1 locs1 → W p l e R s m args below meth c H1 locs1 cells slots Q (F0 m (pc + 1) ls (rest))) : W p l e R s m args below meth c H locs cells slots Q (F0 m pc ls (.int x :: .int i :: .ref a :: rest)) := by
  obtain ⟨E, hP, hD, hm, hE⟩ := hT
  have hL : a ∈ zL z := hm a (by rw [ha]; exact Nat.succ_ne_zero _)
  obtain ⟨k, hk0⟩ := va_pl_get (X := []) (f := E) hL
  have he := hE a hL
  rw [ha] at he
  obtain ⟨f, h9, hf⟩ : a21 z (gh.1 o) (gh.2 a) (E a) := he
  have hk := hk0
  rw [h9] at hk
  refine va_iast hx hb hK hP hD hS k 0 hk rfl (ix_in (n := 8) h0 h1) hdg (fun H1 locs1 hP1 hD1 hS1 => ?_)
  refine kk H1 locs1 (ty_up (gh := gh) (gh' := gh) hP1 hD1 hD hm hE hL hk0 ?_ (fun _ _ _ h => h)) hS1
  rw [ha]
  exact (⟨upd f i.toNatClampNeg x, rfl, trivial⟩ : a21 z _ _ _)
theorem al_22 {i : Int32} (hx : p.tables.exec = Jvm.exec) (hb : c.code = cc) (hK : va_K (zD z) vwCl (zT z) s) (hT : TY z A gh H) (ha : zG z a = (22, o)) (h0 : 0 ≤ i.toInt) (h1 : i.toInt < 6) (hdg : decode cc pc = .ok (.iaload, 1)) (kk : ∀ x : Int32, W p l e R s m args below meth c H locs cells slots Q (F0 m (pc + 1) ls (.int x :: rest))) : W p l e R s m args below meth c H locs cells slots Q (F0 m pc ls (.int i :: .ref a :: rest)) := by
  obtain ⟨E, hP, hD, hm, hE⟩ := hT
  have hL : a ∈ zL z := hm a (by rw [ha]; exact Nat.succ_ne_zero _)
  obtain ⟨k, hk0⟩ := va_pl_get (X := []) (f := E) hL
  have he := hE a hL
  rw [ha] at he
  obtain ⟨f, h9, hf⟩ : a22 z (gh.1 o) (gh.2 a) (E a) := he
  have hk := hk0
  rw [h9] at hk
  exact va_iald hx hb hK hP k 0 hk rfl (ix_in (n := 6) h0 h1) hdg (kk _)
theorem an_22 (hx : p.tables.exec = Jvm.exec) (hb : c.code = cc) (hK : va_K (zD z) vwCl (zT z) s) (hT : TY z A gh H) (ha : zG z a = (22, o)) (hdg : decode cc pc = .ok (.arraylength, 1)) (kk : ∀ x : Int32, x.toInt = 6 → W p l e R s m args below meth c H locs cells slots Q (F0 m (pc + 1) ls (.int x :: rest))) : W p l e R s m args below meth c H locs cells slots Q (F0 m pc ls (.ref a :: rest)) := by
  obtain ⟨E, hP, hD, hm, hE⟩ := hT
  have hL : a ∈ zL z := hm a (by rw [ha]; exact Nat.succ_ne_zero _)
  obtain ⟨k, hk0⟩ := va_pl_get (X := []) (f := E) hL
  have he := hE a hL
  rw [ha] at he
  obtain ⟨f, h9, hf⟩ : a22 z (gh.1 o) (gh.2 a) (E a) := he
  have hk := hk0
  rw [h9] at hk
  exact va_alen hx hb hK hP k 0 hk rfl (v := 6) rfl hdg (kk _ rfl)
theorem as_22 {i x : Int32} (hx : p.tables.exec = Jvm.exec) (hb : c.code = cc) (hK : va_K (zD z) vwCl (zT z) s) (hT : TY z A gh H) (hS : va_S A H0 H locs) (ha : zG z a = (22, o)) (h0 : 0 ≤ i.toInt) (h1 : i.toInt < 6) (hdg : decode cc pc = .ok (.iastore, 1)) (kk : ∀ (H1 : Heap) (locs1 : List Loc), TY z A gh H1 → va_S A H0 H1 locs1 → W p l e R s m args below meth c H1 locs1 cells slots Q (F0 m (pc + 1) ls (rest))) : W p l e R s m args below meth c H locs cells slots Q (F0 m pc ls (.int x :: .int i :: .ref a :: rest)) := by
  obtain ⟨E, hP, hD, hm, hE⟩ := hT
  have hL : a ∈ zL z := hm a (by rw [ha]; exact Nat.succ_ne_zero _)
  obtain ⟨k, hk0⟩ := va_pl_get (X := []) (f := E) hL
  have he := hE a hL
  rw [ha] at he
  obtain ⟨f, h9, hf⟩ : a22 z (gh.1 o) (gh.2 a) (E a) := he
  have hk := hk0
  rw [h9] at hk
  refine va_iast hx hb hK hP hD hS k 0 hk rfl (ix_in (n := 6) h0 h1) hdg (fun H1 locs1 hP1 hD1 hS1 => ?_)
  refine kk H1 locs1 (ty_up (gh := gh) (gh' := gh) hP1 hD1 hD hm hE hL hk0 ?_ (fun _ _ _ h => h)) hS1
  rw [ha]
  exact (⟨upd f i.toNatClampNeg x, rfl, trivial⟩ : a22 z _ _ _)
theorem al_23 {i : Int32} (hx : p.tables.exec = Jvm.exec) (hb : c.code = cc) (hK : va_K (zD z) vwCl (zT z) s) (hT : TY z A gh H) (ha : zG z a = (23, o)) (h0 : 0 ≤ i.toInt) (h1 : i.toInt < 40) (hdg : decode cc pc = .ok (.iaload, 1)) (kk : ∀ x : Int32, W p l e R s m args below meth c H locs cells slots Q (F0 m (pc + 1) ls (.int x :: rest))) : W p l e R s m args below meth c H locs cells slots Q (F0 m pc ls (.int i :: .ref a :: rest)) := by
  obtain ⟨E, hP, hD, hm, hE⟩ := hT
  have hL : a ∈ zL z := hm a (by rw [ha]; exact Nat.succ_ne_zero _)
  obtain ⟨k, hk0⟩ := va_pl_get (X := []) (f := E) hL
  have he := hE a hL
  rw [ha] at he
  obtain ⟨f, h9, hf⟩ : a23 z (gh.1 o) (gh.2 a) (E a) := he
  have hk := hk0
  rw [h9] at hk
  exact va_iald hx hb hK hP k 0 hk rfl (ix_in (n := 40) h0 h1) hdg (kk _)
theorem an_23 (hx : p.tables.exec = Jvm.exec) (hb : c.code = cc) (hK : va_K (zD z) vwCl (zT z) s) (hT : TY z A gh H) (ha : zG z a = (23, o)) (hdg : decode cc pc = .ok (.arraylength, 1)) (kk : ∀ x : Int32, x.toInt = 40 → W p l e R s m args below meth c H locs cells slots Q (F0 m (pc + 1) ls (.int x :: rest))) : W p l e R s m args below meth c H locs cells slots Q (F0 m pc ls (.ref a :: rest)) := by
  obtain ⟨E, hP, hD, hm, hE⟩ := hT
  have hL : a ∈ zL z := hm a (by rw [ha]; exact Nat.succ_ne_zero _)
  obtain ⟨k, hk0⟩ := va_pl_get (X := []) (f := E) hL
  have he := hE a hL
  rw [ha] at he
  obtain ⟨f, h9, hf⟩ : a23 z (gh.1 o) (gh.2 a) (E a) := he
  have hk := hk0
  rw [h9] at hk
  exact va_alen hx hb hK hP k 0 hk rfl (v := 40) rfl hdg (kk _ rfl)
theorem as_23 {i x : Int32} (hx : p.tables.exec = Jvm.exec) (hb : c.code = cc) (hK : va_K (zD z) vwCl (zT z) s) (hT : TY z A gh H) (hS : va_S A H0 H locs) (ha : zG z a = (23, o)) (h0 : 0 ≤ i.toInt) (h1 : i.toInt < 40) (hdg : decode cc pc = .ok (.iastore, 1)) (kk : ∀ (H1 : Heap) (locs1 : List Loc), TY z A gh H1 → va_S A H0 H1 locs1 → W p l e R s m args below meth c H1 locs1 cells slots Q (F0 m (pc + 1) ls (rest))) : W p l e R s m args below meth c H locs cells slots Q (F0 m pc ls (.int x :: .int i :: .ref a :: rest)) := by
  obtain ⟨E, hP, hD, hm, hE⟩ := hT
  have hL : a ∈ zL z := hm a (by rw [ha]; exact Nat.succ_ne_zero _)
  obtain ⟨k, hk0⟩ := va_pl_get (X := []) (f := E) hL
  have he := hE a hL
  rw [ha] at he
  obtain ⟨f, h9, hf⟩ : a23 z (gh.1 o) (gh.2 a) (E a) := he
  have hk := hk0
  rw [h9] at hk
  refine va_iast hx hb hK hP hD hS k 0 hk rfl (ix_in (n := 40) h0 h1) hdg (fun H1 locs1 hP1 hD1 hS1 => ?_)
  refine kk H1 locs1 (ty_up (gh := gh) (gh' := gh) hP1 hD1 hD hm hE hL hk0 ?_ (fun _ _ _ h => h)) hS1
  rw [ha]
  exact (⟨upd f i.toNatClampNeg x, rfl, trivial⟩ : a23 z _ _ _)
theorem al_24 {i : Int32} (hx : p.tables.exec = Jvm.exec) (hb : c.code = cc) (hK : va_K (zD z) vwCl (zT z) s) (hT : TY z A gh H) (ha : zG z a = (24, o)) (h0 : 0 ≤ i.toInt) (h1 : i.toInt < 45) (hdg : decode cc pc = .ok (.iaload, 1)) (kk : ∀ x : Int32, W p l e R s m args below meth c H locs cells slots Q (F0 m (pc + 1) ls (.int x :: rest))) : W p l e R s m args below meth c H locs cells slots Q (F0 m pc ls (.int i :: .ref a :: rest)) := by
  obtain ⟨E, hP, hD, hm, hE⟩ := hT
  have hL : a ∈ zL z := hm a (by rw [ha]; exact Nat.succ_ne_zero _)
  obtain ⟨k, hk0⟩ := va_pl_get (X := []) (f := E) hL
  have he := hE a hL
  rw [ha] at he
  obtain ⟨f, h9, hf⟩ : a24 z (gh.1 o) (gh.2 a) (E a) := he
  have hk := hk0
  rw [h9] at hk
  exact va_iald hx hb hK hP k 0 hk rfl (ix_in (n := 45) h0 h1) hdg (kk _)
theorem an_24 (hx : p.tables.exec = Jvm.exec) (hb : c.code = cc) (hK : va_K (zD z) vwCl (zT z) s) (hT : TY z A gh H) (ha : zG z a = (24, o)) (hdg : decode cc pc = .ok (.arraylength, 1)) (kk : ∀ x : Int32, x.toInt = 45 → W p l e R s m args below meth c H locs cells slots Q (F0 m (pc + 1) ls (.int x :: rest))) : W p l e R s m args below meth c H locs cells slots Q (F0 m pc ls (.ref a :: rest)) := by
  obtain ⟨E, hP, hD, hm, hE⟩ := hT
  have hL : a ∈ zL z := hm a (by rw [ha]; exact Nat.succ_ne_zero _)
  obtain ⟨k, hk0⟩ := va_pl_get (X := []) (f := E) hL
  have he := hE a hL
  rw [ha] at he
  obtain ⟨f, h9, hf⟩ : a24 z (gh.1 o) (gh.2 a) (E a) := he
  have hk := hk0
  rw [h9] at hk
  exact va_alen hx hb hK hP k 0 hk rfl (v := 45) rfl hdg (kk _ rfl)
theorem as_24 {i x : Int32} (hx : p.tables.exec = Jvm.exec) (hb : c.code = cc) (hK : va_K (zD z) vwCl (zT z) s) (hT : TY z A gh H) (hS : va_S A H0 H locs) (ha : zG z a = (24, o)) (h0 : 0 ≤ i.toInt) (h1 : i.toInt < 45) (hdg : decode cc pc = .ok (.iastore, 1)) (kk : ∀ (H1 : Heap) (locs1 : List Loc), TY z A gh H1 → va_S A H0 H1 locs1 → W p l e R s m args below meth c H1 locs1 cells slots Q (F0 m (pc + 1) ls (rest))) : W p l e R s m args below meth c H locs cells slots Q (F0 m pc ls (.int x :: .int i :: .ref a :: rest)) := by
  obtain ⟨E, hP, hD, hm, hE⟩ := hT
  have hL : a ∈ zL z := hm a (by rw [ha]; exact Nat.succ_ne_zero _)
  obtain ⟨k, hk0⟩ := va_pl_get (X := []) (f := E) hL
  have he := hE a hL
  rw [ha] at he
  obtain ⟨f, h9, hf⟩ : a24 z (gh.1 o) (gh.2 a) (E a) := he
  have hk := hk0
  rw [h9] at hk
  refine va_iast hx hb hK hP hD hS k 0 hk rfl (ix_in (n := 45) h0 h1) hdg (fun H1 locs1 hP1 hD1 hS1 => ?_)
  refine kk H1 locs1 (ty_up (gh := gh) (gh' := gh) hP1 hD1 hD hm hE hL hk0 ?_ (fun _ _ _ h => h)) hS1
  rw [ha]
  exact (⟨upd f i.toNatClampNeg x, rfl, trivial⟩ : a24 z _ _ _)
theorem al_25 {i : Int32} (hx : p.tables.exec = Jvm.exec) (hb : c.code = cc) (hK : va_K (zD z) vwCl (zT z) s) (hT : TY z A gh H) (ha : zG z a = (25, o)) (h0 : 0 ≤ i.toInt) (h1 : i.toInt < 6) (hdg : decode cc pc = .ok (.iaload, 1)) (kk : ∀ x : Int32, p25 (gh.1 o) i.toNatClampNeg x.toInt → W p l e R s m args below meth c H locs cells slots Q (F0 m (pc + 1) ls (.int x :: rest))) : W p l e R s m args below meth c H locs cells slots Q (F0 m pc ls (.int i :: .ref a :: rest)) := by
  obtain ⟨E, hP, hD, hm, hE⟩ := hT
  have hL : a ∈ zL z := hm a (by rw [ha]; exact Nat.succ_ne_zero _)
  obtain ⟨k, hk0⟩ := va_pl_get (X := []) (f := E) hL
  have he := hE a hL
  rw [ha] at he
  obtain ⟨f, h9, hf⟩ : a25 z (gh.1 o) (gh.2 a) (E a) := he
  have hk := hk0
  rw [h9] at hk
  exact va_iald hx hb hK hP k 0 hk rfl (ix_in (n := 6) h0 h1) hdg (kk _ (hf _ (ix_lt (n := 6) h0 h1)))
theorem an_25 (hx : p.tables.exec = Jvm.exec) (hb : c.code = cc) (hK : va_K (zD z) vwCl (zT z) s) (hT : TY z A gh H) (ha : zG z a = (25, o)) (hdg : decode cc pc = .ok (.arraylength, 1)) (kk : ∀ x : Int32, x.toInt = 6 → W p l e R s m args below meth c H locs cells slots Q (F0 m (pc + 1) ls (.int x :: rest))) : W p l e R s m args below meth c H locs cells slots Q (F0 m pc ls (.ref a :: rest)) := by
  obtain ⟨E, hP, hD, hm, hE⟩ := hT
  have hL : a ∈ zL z := hm a (by rw [ha]; exact Nat.succ_ne_zero _)
  obtain ⟨k, hk0⟩ := va_pl_get (X := []) (f := E) hL
  have he := hE a hL
  rw [ha] at he
  obtain ⟨f, h9, hf⟩ : a25 z (gh.1 o) (gh.2 a) (E a) := he
  have hk := hk0
  rw [h9] at hk
  exact va_alen hx hb hK hP k 0 hk rfl (v := 6) rfl hdg (kk _ rfl)
theorem as_25 {i x : Int32} (hx : p.tables.exec = Jvm.exec) (hb : c.code = cc) (hK : va_K (zD z) vwCl (zT z) s) (hT : TY z A gh H) (hS : va_S A H0 H locs) (ha : zG z a = (25, o)) (h0 : 0 ≤ i.toInt) (h1 : i.toInt < 6) (hv : p25 (gh.1 o) i.toNatClampNeg x.toInt) (hdg : decode cc pc = .ok (.iastore, 1)) (kk : ∀ (H1 : Heap) (locs1 : List Loc), TY z A gh H1 → va_S A H0 H1 locs1 → W p l e R s m args below meth c H1 locs1 cells slots Q (F0 m (pc + 1) ls (rest))) : W p l e R s m args below meth c H locs cells slots Q (F0 m pc ls (.int x :: .int i :: .ref a :: rest)) := by
  obtain ⟨E, hP, hD, hm, hE⟩ := hT
  have hL : a ∈ zL z := hm a (by rw [ha]; exact Nat.succ_ne_zero _)
  obtain ⟨k, hk0⟩ := va_pl_get (X := []) (f := E) hL
  have he := hE a hL
  rw [ha] at he
  obtain ⟨f, h9, hf⟩ : a25 z (gh.1 o) (gh.2 a) (E a) := he
  have hk := hk0
  rw [h9] at hk
  refine va_iast hx hb hK hP hD hS k 0 hk rfl (ix_in (n := 6) h0 h1) hdg (fun H1 locs1 hP1 hD1 hS1 => ?_)
  refine kk H1 locs1 (ty_up (gh := gh) (gh' := gh) hP1 hD1 hD hm hE hL hk0 ?_ (fun _ _ _ h => h)) hS1
  rw [ha]
  refine (⟨upd f i.toNatClampNeg x, rfl, fun j hj => ?_⟩ : a25 z _ _ _)
  by_cases hj2 : j = i.toNatClampNeg
  · subst hj2
    rw [show upd f i.toNatClampNeg x i.toNatClampNeg = x from if_pos rfl]
    exact hv
  · rw [show upd f i.toNatClampNeg x j = f j from if_neg hj2]
    exact hf j hj
theorem al_26 {i : Int32} (hx : p.tables.exec = Jvm.exec) (hb : c.code = cc) (hK : va_K (zD z) vwCl (zT z) s) (hT : TY z A gh H) (ha : zG z a = (26, o)) (h0 : 0 ≤ i.toInt) (h1 : i.toInt < 6) (hdg : decode cc pc = .ok (.iaload, 1)) (kk : ∀ x : Int32, p26 (gh.1 o) i.toNatClampNeg x.toInt → W p l e R s m args below meth c H locs cells slots Q (F0 m (pc + 1) ls (.int x :: rest))) : W p l e R s m args below meth c H locs cells slots Q (F0 m pc ls (.int i :: .ref a :: rest)) := by
  obtain ⟨E, hP, hD, hm, hE⟩ := hT
  have hL : a ∈ zL z := hm a (by rw [ha]; exact Nat.succ_ne_zero _)
  obtain ⟨k, hk0⟩ := va_pl_get (X := []) (f := E) hL
  have he := hE a hL
  rw [ha] at he
  obtain ⟨f, h9, hf⟩ : a26 z (gh.1 o) (gh.2 a) (E a) := he
  have hk := hk0
  rw [h9] at hk
  exact va_iald hx hb hK hP k 0 hk rfl (ix_in (n := 6) h0 h1) hdg (kk _ (hf _ (ix_lt (n := 6) h0 h1)))
theorem an_26 (hx : p.tables.exec = Jvm.exec) (hb : c.code = cc) (hK : va_K (zD z) vwCl (zT z) s) (hT : TY z A gh H) (ha : zG z a = (26, o)) (hdg : decode cc pc = .ok (.arraylength, 1)) (kk : ∀ x : Int32, x.toInt = 6 → W p l e R s m args below meth c H locs cells slots Q (F0 m (pc + 1) ls (.int x :: rest))) : W p l e R s m args below meth c H locs cells slots Q (F0 m pc ls (.ref a :: rest)) := by
  obtain ⟨E, hP, hD, hm, hE⟩ := hT
  have hL : a ∈ zL z := hm a (by rw [ha]; exact Nat.succ_ne_zero _)
  obtain ⟨k, hk0⟩ := va_pl_get (X := []) (f := E) hL
  have he := hE a hL
  rw [ha] at he
  obtain ⟨f, h9, hf⟩ : a26 z (gh.1 o) (gh.2 a) (E a) := he
  have hk := hk0
  rw [h9] at hk
  exact va_alen hx hb hK hP k 0 hk rfl (v := 6) rfl hdg (kk _ rfl)
theorem as_26 {i x : Int32} (hx : p.tables.exec = Jvm.exec) (hb : c.code = cc) (hK : va_K (zD z) vwCl (zT z) s) (hT : TY z A gh H) (hS : va_S A H0 H locs) (ha : zG z a = (26, o)) (h0 : 0 ≤ i.toInt) (h1 : i.toInt < 6) (hv : p26 (gh.1 o) i.toNatClampNeg x.toInt) (hdg : decode cc pc = .ok (.iastore, 1)) (kk : ∀ (H1 : Heap) (locs1 : List Loc), TY z A gh H1 → va_S A H0 H1 locs1 → W p l e R s m args below meth c H1 locs1 cells slots Q (F0 m (pc + 1) ls (rest))) : W p l e R s m args below meth c H locs cells slots Q (F0 m pc ls (.int x :: .int i :: .ref a :: rest)) := by
  obtain ⟨E, hP, hD, hm, hE⟩ := hT
  have hL : a ∈ zL z := hm a (by rw [ha]; exact Nat.succ_ne_zero _)
  obtain ⟨k, hk0⟩ := va_pl_get (X := []) (f := E) hL
  have he := hE a hL
  rw [ha] at he
  obtain ⟨f, h9, hf⟩ : a26 z (gh.1 o) (gh.2 a) (E a) := he
  have hk := hk0
  rw [h9] at hk
  refine va_iast hx hb hK hP hD hS k 0 hk rfl (ix_in (n := 6) h0 h1) hdg (fun H1 locs1 hP1 hD1 hS1 => ?_)
  refine kk H1 locs1 (ty_up (gh := gh) (gh' := gh) hP1 hD1 hD hm hE hL hk0 ?_ (fun _ _ _ h => h)) hS1
  rw [ha]
  refine (⟨upd f i.toNatClampNeg x, rfl, fun j hj => ?_⟩ : a26 z _ _ _)
  by_cases hj2 : j = i.toNatClampNeg
  · subst hj2
    rw [show upd f i.toNatClampNeg x i.toNatClampNeg = x from if_pos rfl]
    exact hv
  · rw [show upd f i.toNatClampNeg x j = f j from if_neg hj2]
    exact hf j hj
theorem al_27 {i : Int32} (hx : p.tables.exec = Jvm.exec) (hb : c.code = cc) (hK : va_K (zD z) vwCl (zT z) s) (hT : TY z A gh H) (ha : zG z a = (27, o)) (h0 : 0 ≤ i.toInt) (h1 : i.toInt < 5) (hdg : decode cc pc = .ok (.iaload, 1)) (kk : ∀ x : Int32, p27 (gh.1 o) i.toNatClampNeg x.toInt → W p l e R s m args below meth c H locs cells slots Q (F0 m (pc + 1) ls (.int x :: rest))) : W p l e R s m args below meth c H locs cells slots Q (F0 m pc ls (.int i :: .ref a :: rest)) := by
  obtain ⟨E, hP, hD, hm, hE⟩ := hT
  have hL : a ∈ zL z := hm a (by rw [ha]; exact Nat.succ_ne_zero _)
  obtain ⟨k, hk0⟩ := va_pl_get (X := []) (f := E) hL
  have he := hE a hL
  rw [ha] at he
  obtain ⟨f, h9, hf⟩ : a27 z (gh.1 o) (gh.2 a) (E a) := he
  have hk := hk0
  rw [h9] at hk
  exact va_iald hx hb hK hP k 0 hk rfl (ix_in (n := 5) h0 h1) hdg (kk _ (hf _ (ix_lt (n := 5) h0 h1)))
theorem an_27 (hx : p.tables.exec = Jvm.exec) (hb : c.code = cc) (hK : va_K (zD z) vwCl (zT z) s) (hT : TY z A gh H) (ha : zG z a = (27, o)) (hdg : decode cc pc = .ok (.arraylength, 1)) (kk : ∀ x : Int32, x.toInt = 5 → W p l e R s m args below meth c H locs cells slots Q (F0 m (pc + 1) ls (.int x :: rest))) : W p l e R s m args below meth c H locs cells slots Q (F0 m pc ls (.ref a :: rest)) := by
  obtain ⟨E, hP, hD, hm, hE⟩ := hT
  have hL : a ∈ zL z := hm a (by rw [ha]; exact Nat.succ_ne_zero _)
  obtain ⟨k, hk0⟩ := va_pl_get (X := []) (f := E) hL
  have he := hE a hL
  rw [ha] at he
  obtain ⟨f, h9, hf⟩ : a27 z (gh.1 o) (gh.2 a) (E a) := he
  have hk := hk0
  rw [h9] at hk
  exact va_alen hx hb hK hP k 0 hk rfl (v := 5) rfl hdg (kk _ rfl)
theorem as_27 {i x : Int32} (hx : p.tables.exec = Jvm.exec) (hb : c.code = cc) (hK : va_K (zD z) vwCl (zT z) s) (hT : TY z A gh H) (hS : va_S A H0 H locs) (ha : zG z a = (27, o)) (h0 : 0 ≤ i.toInt) (h1 : i.toInt < 5) (hv : p27 (gh.1 o) i.toNatClampNeg x.toInt) (hdg : decode cc pc = .ok (.iastore, 1)) (kk : ∀ (H1 : Heap) (locs1 : List Loc), TY z A gh H1 → va_S A H0 H1 locs1 → W p l e R s m args below meth c H1 locs1 cells slots Q (F0 m (pc + 1) ls (rest))) : W p l e R s m args below meth c H locs cells slots Q (F0 m pc ls (.int x :: .int i :: .ref a :: rest)) := by
  obtain ⟨E, hP, hD, hm, hE⟩ := hT
  have hL : a ∈ zL z := hm a (by rw [ha]; exact Nat.succ_ne_zero _)
  obtain ⟨k, hk0⟩ := va_pl_get (X := []) (f := E) hL
  have he := hE a hL
  rw [ha] at he
  obtain ⟨f, h9, hf⟩ : a27 z (gh.1 o) (gh.2 a) (E a) := he
  have hk := hk0
  rw [h9] at hk
  refine va_iast hx hb hK hP hD hS k 0 hk rfl (ix_in (n := 5) h0 h1) hdg (fun H1 locs1 hP1 hD1 hS1 => ?_)
  refine kk H1 locs1 (ty_up (gh := gh) (gh' := gh) hP1 hD1 hD hm hE hL hk0 ?_ (fun _ _ _ h => h)) hS1
  rw [ha]
  refine (⟨upd f i.toNatClampNeg x, rfl, fun j hj => ?_⟩ : a27 z _ _ _)
  by_cases hj2 : j = i.toNatClampNeg
  · subst hj2
    rw [show upd f i.toNatClampNeg x i.toNatClampNeg = x from if_pos rfl]
    exact hv
  · rw [show upd f i.toNatClampNeg x j = f j from if_neg hj2]
    exact hf j hj
theorem al_28 {i : Int32} (hx : p.tables.exec = Jvm.exec) (hb : c.code = cc) (hK : va_K (zD z) vwCl (zT z) s) (hT : TY z A gh H) (ha : zG z a = (28, o)) (h0 : 0 ≤ i.toInt) (h1 : i.toInt < 5) (hdg : decode cc pc = .ok (.iaload, 1)) (kk : ∀ x : Int32, x = gh.2 a i.toNatClampNeg → p28 (gh.1 o) i.toNatClampNeg x.toInt → W p l e R s m args below meth c H locs cells slots Q (F0 m (pc + 1) ls (.int x :: rest))) : W p l e R s m args below meth c H locs cells slots Q (F0 m pc ls (.int i :: .ref a :: rest)) := by
  obtain ⟨E, hP, hD, hm, hE⟩ := hT
  have hL : a ∈ zL z := hm a (by rw [ha]; exact Nat.succ_ne_zero _)
  obtain ⟨k, hk0⟩ := va_pl_get (X := []) (f := E) hL
  have he := hE a hL
  rw [ha] at he
  obtain ⟨f, h9, hct, hf⟩ : a28 z (gh.1 o) (gh.2 a) (E a) := he
  have hk := hk0
  rw [h9] at hk
  exact va_iald hx hb hK hP k 0 hk rfl (ix_in (n := 5) h0 h1) hdg (kk _ (by rw [hct]) (hf _ (ix_lt (n := 5) h0 h1)))
theorem an_28 (hx : p.tables.exec = Jvm.exec) (hb : c.code = cc) (hK : va_K (zD z) vwCl (zT z) s) (hT : TY z A gh H) (ha : zG z a = (28, o)) (hdg : decode cc pc = .ok (.arraylength, 1)) (kk : ∀ x : Int32, x.toInt = 5 → W p l e R s m args below meth c H locs cells slots Q (F0 m (pc + 1) ls (.int x :: rest))) : W p l e R s m args below meth c H locs cells slots Q (F0 m pc ls (.ref a :: rest)) := by
  obtain ⟨E, hP, hD, hm, hE⟩ := hT
  have hL : a ∈ zL z := hm a (by rw [ha]; exact Nat.succ_ne_zero _)
  obtain ⟨k, hk0⟩ := va_pl_get (X := []) (f := E) hL
  have he := hE a hL
  rw [ha] at he
  obtain ⟨f, h9, hct, hf⟩ : a28 z (gh.1 o) (gh.2 a) (E a) := he
  have hk := hk0
  rw [h9] at hk
  exact va_alen hx hb hK hP k 0 hk rfl (v := 5) rfl hdg (kk _ rfl)
theorem as_28 {i x : Int32} (hx : p.tables.exec = Jvm.exec) (hb : c.code = cc) (hK : va_K (zD z) vwCl (zT z) s) (hT : TY z A gh H) (hS : va_S A H0 H locs) (ha : zG z a = (28, o)) (h0 : 0 ≤ i.toInt) (h1 : i.toInt < 5) (hv : p28 (gh.1 o) i.toNatClampNeg x.toInt) (hdg : decode cc pc = .ok (.iastore, 1)) (kk : ∀ (H1 : Heap) (locs1 : List Loc), TY z A (gc gh a (upd (gh.2 a) i.toNatClampNeg x)) H1 → va_S A H0 H1 locs1 → W p l e R s m args below meth c H1 locs1 cells slots Q (F0 m (pc + 1) ls (rest))) : W p l e R s m args below meth c H locs cells slots Q (F0 m pc ls (.int x :: .int i :: .ref a :: rest)) := by
  obtain ⟨E, hP, hD, hm, hE⟩ := hT
  have hL : a ∈ zL z := hm a (by rw [ha]; exact Nat.succ_ne_zero _)
  obtain ⟨k, hk0⟩ := va_pl_get (X := []) (f := E) hL
  have he := hE a hL
  rw [ha] at he
  obtain ⟨f, h9, hct, hf⟩ : a28 z (gh.1 o) (gh.2 a) (E a) := he
  have hk := hk0
  rw [h9] at hk
  refine va_iast hx hb hK hP hD hS k 0 hk rfl (ix_in (n := 5) h0 h1) hdg (fun H1 locs1 hP1 hD1 hS1 => ?_)
  refine kk H1 locs1 (ty_up (gh := gh) (gh' := (gc gh a (upd (gh.2 a) i.toNatClampNeg x))) hP1 hD1 hD hm hE hL hk0 ?_ gc_mo) hS1
  rw [ha]
  have e1 : (gc gh a (upd (gh.2 a) i.toNatClampNeg x)).2 a = upd (gh.2 a) i.toNatClampNeg x := gc_at _ _ _
  subst hct
  refine (⟨upd (gh.2 a) i.toNatClampNeg x, rfl, e1.symm, fun j hj => ?_⟩ : a28 z (gh.1 o) ((gc gh a (upd (gh.2 a) i.toNatClampNeg x)).2 a) _)
  by_cases hj2 : j = i.toNatClampNeg
  · subst hj2
    rw [show upd (gh.2 a) i.toNatClampNeg x i.toNatClampNeg = x from if_pos rfl]
    exact hv
  · rw [show upd (gh.2 a) i.toNatClampNeg x j = (gh.2 a) j from if_neg hj2]
    exact hf j hj
theorem al_29 {i : Int32} (hx : p.tables.exec = Jvm.exec) (hb : c.code = cc) (hK : va_K (zD z) vwCl (zT z) s) (hT : TY z A gh H) (ha : zG z a = (29, o)) (h0 : 0 ≤ i.toInt) (h1 : i.toInt < 5) (hdg : decode cc pc = .ok (.iaload, 1)) (kk : ∀ x : Int32, x = gh.2 a i.toNatClampNeg → p29 (gh.1 o) i.toNatClampNeg x.toInt → W p l e R s m args below meth c H locs cells slots Q (F0 m (pc + 1) ls (.int x :: rest))) : W p l e R s m args below meth c H locs cells slots Q (F0 m pc ls (.int i :: .ref a :: rest)) := by
  obtain ⟨E, hP, hD, hm, hE⟩ := hT
  have hL : a ∈ zL z := hm a (by rw [ha]; exact Nat.succ_ne_zero _)
  obtain ⟨k, hk0⟩ := va_pl_get (X := []) (f := E) hL
  have he := hE a hL
  rw [ha] at he
  obtain ⟨f, h9, hct, hf⟩ : a29 z (gh.1 o) (gh.2 a) (E a) := he
  have hk := hk0
  rw [h9] at hk
  exact va_iald hx hb hK hP k 0 hk rfl (ix_in (n := 5) h0 h1) hdg (kk _ (by rw [hct]) (hf _ (ix_lt (n := 5) h0 h1)))
theorem an_29 (hx : p.tables.exec = Jvm.exec) (hb : c.code = cc) (hK : va_K (zD z) vwCl (zT z) s) (hT : TY z A gh H) (ha : zG z a = (29, o)) (hdg : decode cc pc = .ok (.arraylength, 1)) (kk : ∀ x : Int32, x.toInt = 5 → W p l e R s m args below meth c H locs cells slots Q (F0 m (pc + 1) ls (.int x :: rest))) : W p l e R s m args below meth c H locs cells slots Q (F0 m pc ls (.ref a :: rest)) := by
  obtain ⟨E, hP, hD, hm, hE⟩ := hT
  have hL : a ∈ zL z := hm a (by rw [ha]; exact Nat.succ_ne_zero _)
  obtain ⟨k, hk0⟩ := va_pl_get (X := []) (f := E) hL
  have he := hE a hL
  rw [ha] at he
  obtain ⟨f, h9, hct, hf⟩ : a29 z (gh.1 o) (gh.2 a) (E a) := he
  have hk := hk0
  rw [h9] at hk
  exact va_alen hx hb hK hP k 0 hk rfl (v := 5) rfl hdg (kk _ rfl)
theorem as_29 {i x : Int32} (hx : p.tables.exec = Jvm.exec) (hb : c.code = cc) (hK : va_K (zD z) vwCl (zT z) s) (hT : TY z A gh H) (hS : va_S A H0 H locs) (ha : zG z a = (29, o)) (h0 : 0 ≤ i.toInt) (h1 : i.toInt < 5) (hv : p29 (gh.1 o) i.toNatClampNeg x.toInt) (hdg : decode cc pc = .ok (.iastore, 1)) (kk : ∀ (H1 : Heap) (locs1 : List Loc), TY z A (gc gh a (upd (gh.2 a) i.toNatClampNeg x)) H1 → va_S A H0 H1 locs1 → W p l e R s m args below meth c H1 locs1 cells slots Q (F0 m (pc + 1) ls (rest))) : W p l e R s m args below meth c H locs cells slots Q (F0 m pc ls (.int x :: .int i :: .ref a :: rest)) := by
  obtain ⟨E, hP, hD, hm, hE⟩ := hT
  have hL : a ∈ zL z := hm a (by rw [ha]; exact Nat.succ_ne_zero _)
  obtain ⟨k, hk0⟩ := va_pl_get (X := []) (f := E) hL
  have he := hE a hL
  rw [ha] at he
  obtain ⟨f, h9, hct, hf⟩ : a29 z (gh.1 o) (gh.2 a) (E a) := he
  have hk := hk0
  rw [h9] at hk
  refine va_iast hx hb hK hP hD hS k 0 hk rfl (ix_in (n := 5) h0 h1) hdg (fun H1 locs1 hP1 hD1 hS1 => ?_)
  refine kk H1 locs1 (ty_up (gh := gh) (gh' := (gc gh a (upd (gh.2 a) i.toNatClampNeg x))) hP1 hD1 hD hm hE hL hk0 ?_ gc_mo) hS1
  rw [ha]
  have e1 : (gc gh a (upd (gh.2 a) i.toNatClampNeg x)).2 a = upd (gh.2 a) i.toNatClampNeg x := gc_at _ _ _
  subst hct
  refine (⟨upd (gh.2 a) i.toNatClampNeg x, rfl, e1.symm, fun j hj => ?_⟩ : a29 z (gh.1 o) ((gc gh a (upd (gh.2 a) i.toNatClampNeg x)).2 a) _)
  by_cases hj2 : j = i.toNatClampNeg
  · subst hj2
    rw [show upd (gh.2 a) i.toNatClampNeg x i.toNatClampNeg = x from if_pos rfl]
    exact hv
  · rw [show upd (gh.2 a) i.toNatClampNeg x j = (gh.2 a) j from if_neg hj2]
    exact hf j hj
theorem al_30 {i : Int32} (hx : p.tables.exec = Jvm.exec) (hb : c.code = cc) (hK : va_K (zD z) vwCl (zT z) s) (hT : TY z A gh H) (ha : zG z a = (30, o)) (h0 : 0 ≤ i.toInt) (h1 : i.toInt < 160) (hdg : decode cc pc = .ok (.iaload, 1)) (kk : ∀ x : Int32, x = gh.2 a i.toNatClampNeg → p30 (gh.1 o) i.toNatClampNeg x.toInt → W p l e R s m args below meth c H locs cells slots Q (F0 m (pc + 1) ls (.int x :: rest))) : W p l e R s m args below meth c H locs cells slots Q (F0 m pc ls (.int i :: .ref a :: rest)) := by
  obtain ⟨E, hP, hD, hm, hE⟩ := hT
  have hL : a ∈ zL z := hm a (by rw [ha]; exact Nat.succ_ne_zero _)
  obtain ⟨k, hk0⟩ := va_pl_get (X := []) (f := E) hL
  have he := hE a hL
  rw [ha] at he
  obtain ⟨f, h9, hct, hf⟩ : a30 z (gh.1 o) (gh.2 a) (E a) := he
  have hk := hk0
  rw [h9] at hk
  exact va_iald hx hb hK hP k 0 hk rfl (ix_in (n := 160) h0 h1) hdg (kk _ (by rw [hct]) (hf _ (ix_lt (n := 160) h0 h1)))
theorem an_30 (hx : p.tables.exec = Jvm.exec) (hb : c.code = cc) (hK : va_K (zD z) vwCl (zT z) s) (hT : TY z A gh H) (ha : zG z a = (30, o)) (hdg : decode cc pc = .ok (.arraylength, 1)) (kk : ∀ x : Int32, x.toInt = 160 → W p l e R s m args below meth c H locs cells slots Q (F0 m (pc + 1) ls (.int x :: rest))) : W p l e R s m args below meth c H locs cells slots Q (F0 m pc ls (.ref a :: rest)) := by
  obtain ⟨E, hP, hD, hm, hE⟩ := hT
  have hL : a ∈ zL z := hm a (by rw [ha]; exact Nat.succ_ne_zero _)
  obtain ⟨k, hk0⟩ := va_pl_get (X := []) (f := E) hL
  have he := hE a hL
  rw [ha] at he
  obtain ⟨f, h9, hct, hf⟩ : a30 z (gh.1 o) (gh.2 a) (E a) := he
  have hk := hk0
  rw [h9] at hk
  exact va_alen hx hb hK hP k 0 hk rfl (v := 160) rfl hdg (kk _ rfl)
theorem as_30 {i x : Int32} (hx : p.tables.exec = Jvm.exec) (hb : c.code = cc) (hK : va_K (zD z) vwCl (zT z) s) (hT : TY z A gh H) (hS : va_S A H0 H locs) (ha : zG z a = (30, o)) (h0 : 0 ≤ i.toInt) (h1 : i.toInt < 160) (hv : p30 (gh.1 o) i.toNatClampNeg x.toInt) (hdg : decode cc pc = .ok (.iastore, 1)) (kk : ∀ (H1 : Heap) (locs1 : List Loc), TY z A (gc gh a (upd (gh.2 a) i.toNatClampNeg x)) H1 → va_S A H0 H1 locs1 → W p l e R s m args below meth c H1 locs1 cells slots Q (F0 m (pc + 1) ls (rest))) : W p l e R s m args below meth c H locs cells slots Q (F0 m pc ls (.int x :: .int i :: .ref a :: rest)) := by
  obtain ⟨E, hP, hD, hm, hE⟩ := hT
  have hL : a ∈ zL z := hm a (by rw [ha]; exact Nat.succ_ne_zero _)
  obtain ⟨k, hk0⟩ := va_pl_get (X := []) (f := E) hL
  have he := hE a hL
  rw [ha] at he
  obtain ⟨f, h9, hct, hf⟩ : a30 z (gh.1 o) (gh.2 a) (E a) := he
  have hk := hk0
  rw [h9] at hk
  refine va_iast hx hb hK hP hD hS k 0 hk rfl (ix_in (n := 160) h0 h1) hdg (fun H1 locs1 hP1 hD1 hS1 => ?_)
  refine kk H1 locs1 (ty_up (gh := gh) (gh' := (gc gh a (upd (gh.2 a) i.toNatClampNeg x))) hP1 hD1 hD hm hE hL hk0 ?_ gc_mo) hS1
  rw [ha]
  have e1 : (gc gh a (upd (gh.2 a) i.toNatClampNeg x)).2 a = upd (gh.2 a) i.toNatClampNeg x := gc_at _ _ _
  subst hct
  refine (⟨upd (gh.2 a) i.toNatClampNeg x, rfl, e1.symm, fun j hj => ?_⟩ : a30 z (gh.1 o) ((gc gh a (upd (gh.2 a) i.toNatClampNeg x)).2 a) _)
  by_cases hj2 : j = i.toNatClampNeg
  · subst hj2
    rw [show upd (gh.2 a) i.toNatClampNeg x i.toNatClampNeg = x from if_pos rfl]
    exact hv
  · rw [show upd (gh.2 a) i.toNatClampNeg x j = (gh.2 a) j from if_neg hj2]
    exact hf j hj
theorem al_33 {i : Int32} (hx : p.tables.exec = Jvm.exec) (hb : c.code = cc) (hK : va_K (zD z) vwCl (zT z) s) (hT : TY z A gh H) (ha : zG z a = (33, o)) (h0 : 0 ≤ i.toInt) (h1 : i.toInt < 2) (hdg : decode cc pc = .ok (.baload, 1)) (kk : ∀ x : Int32, p33 (gh.1 o) i.toNatClampNeg x.toInt → W p l e R s m args below meth c H locs cells slots Q (F0 m (pc + 1) ls (.int x :: rest))) : W p l e R s m args below meth c H locs cells slots Q (F0 m pc ls (.int i :: .ref a :: rest)) := by
  obtain ⟨E, hP, hD, hm, hE⟩ := hT
  have hL : a ∈ zL z := hm a (by rw [ha]; exact Nat.succ_ne_zero _)
  obtain ⟨k, hk0⟩ := va_pl_get (X := []) (f := E) hL
  have he := hE a hL
  rw [ha] at he
  obtain ⟨f, h9, hf⟩ : a33 z (gh.1 o) (gh.2 a) (E a) := he
  have hk := hk0
  rw [h9] at hk
  exact va_zald hx hb hK hP k 1 hk rfl (ix_in (n := 2) h0 h1) hdg (kk _ (hf _ (ix_lt (n := 2) h0 h1)))
theorem an_33 (hx : p.tables.exec = Jvm.exec) (hb : c.code = cc) (hK : va_K (zD z) vwCl (zT z) s) (hT : TY z A gh H) (ha : zG z a = (33, o)) (hdg : decode cc pc = .ok (.arraylength, 1)) (kk : ∀ x : Int32, x.toInt = 2 → W p l e R s m args below meth c H locs cells slots Q (F0 m (pc + 1) ls (.int x :: rest))) : W p l e R s m args below meth c H locs cells slots Q (F0 m pc ls (.ref a :: rest)) := by
  obtain ⟨E, hP, hD, hm, hE⟩ := hT
  have hL : a ∈ zL z := hm a (by rw [ha]; exact Nat.succ_ne_zero _)
  obtain ⟨k, hk0⟩ := va_pl_get (X := []) (f := E) hL
  have he := hE a hL
  rw [ha] at he
  obtain ⟨f, h9, hf⟩ : a33 z (gh.1 o) (gh.2 a) (E a) := he
  have hk := hk0
  rw [h9] at hk
  exact va_alen hx hb hK hP k 1 hk rfl (v := 2) rfl hdg (kk _ rfl)
theorem as_33 {i x : Int32} (hx : p.tables.exec = Jvm.exec) (hb : c.code = cc) (hK : va_K (zD z) vwCl (zT z) s) (hT : TY z A gh H) (hS : va_S A H0 H locs) (ha : zG z a = (33, o)) (h0 : 0 ≤ i.toInt) (h1 : i.toInt < 2) (hv0 : 0 ≤ x.toInt) (hv1 : x.toInt ≤ 1) (hv : p33 (gh.1 o) i.toNatClampNeg x.toInt) (hdg : decode cc pc = .ok (.bastore, 1)) (kk : ∀ (H1 : Heap) (locs1 : List Loc), TY z A gh H1 → va_S A H0 H1 locs1 → W p l e R s m args below meth c H1 locs1 cells slots Q (F0 m (pc + 1) ls (rest))) : W p l e R s m args below meth c H locs cells slots Q (F0 m pc ls (.int x :: .int i :: .ref a :: rest)) := by
  obtain ⟨E, hP, hD, hm, hE⟩ := hT
  have hL : a ∈ zL z := hm a (by rw [ha]; exact Nat.succ_ne_zero _)
  obtain ⟨k, hk0⟩ := va_pl_get (X := []) (f := E) hL
  have he := hE a hL
  rw [ha] at he
  obtain ⟨f, h9, hf⟩ : a33 z (gh.1 o) (gh.2 a) (E a) := he
  have hk := hk0
  rw [h9] at hk
  refine va_zast hx hb hK hP hD hS k 1 hk rfl (ix_in (n := 2) h0 h1) hdg (fun H1 locs1 hP1 hD1 hS1 => ?_)
  refine kk H1 locs1 (ty_up (gh := gh) (gh' := gh) hP1 hD1 hD hm hE hL hk0 ?_ (fun _ _ _ h => h)) hS1
  rw [ha]
  refine (⟨upd f i.toNatClampNeg (vp_nar .boolean x), rfl, fun j hj => ?_⟩ : a33 z _ _ _)
  rw [bo_v hv0 hv1]
  by_cases hj2 : j = i.toNatClampNeg
  · subst hj2
    rw [show upd f i.toNatClampNeg x i.toNatClampNeg = x from if_pos rfl]
    exact hv
  · rw [show upd f i.toNatClampNeg x j = f j from if_neg hj2]
    exact hf j hj
theorem al_40 {i : Int32} (hx : p.tables.exec = Jvm.exec) (hb : c.code = cc) (hK : va_K (zD z) vwCl (zT z) s) (hT : TY z A gh H) (ha : zG z a = (40, o)) (h0 : 0 ≤ i.toInt) (h1 : i.toInt < 177) (hdg : decode cc pc = .ok (.iaload, 1)) (kk : ∀ x : Int32, x = gh.2 a i.toNatClampNeg → p40 (gh.1 o) i.toNatClampNeg x.toInt → W p l e R s m args below meth c H locs cells slots Q (F0 m (pc + 1) ls (.int x :: rest))) : W p l e R s m args below meth c H locs cells slots Q (F0 m pc ls (.int i :: .ref a :: rest)) := by
  obtain ⟨E, hP, hD, hm, hE⟩ := hT
  have hL : a ∈ zL z := hm a (by rw [ha]; exact Nat.succ_ne_zero _)
  obtain ⟨k, hk0⟩ := va_pl_get (X := []) (f := E) hL
  have he := hE a hL
  rw [ha] at he
  obtain ⟨f, h9, hct, hf⟩ : a40 z (gh.1 o) (gh.2 a) (E a) := he
  have hk := hk0
  rw [h9] at hk
  exact va_iald hx hb hK hP k 0 hk rfl (ix_in (n := 177) h0 h1) hdg (kk _ (by rw [hct]) (hf _ (ix_lt (n := 177) h0 h1)))
theorem an_40 (hx : p.tables.exec = Jvm.exec) (hb : c.code = cc) (hK : va_K (zD z) vwCl (zT z) s) (hT : TY z A gh H) (ha : zG z a = (40, o)) (hdg : decode cc pc = .ok (.arraylength, 1)) (kk : ∀ x : Int32, x.toInt = 177 → W p l e R s m args below meth c H locs cells slots Q (F0 m (pc + 1) ls (.int x :: rest))) : W p l e R s m args below meth c H locs cells slots Q (F0 m pc ls (.ref a :: rest)) := by
  obtain ⟨E, hP, hD, hm, hE⟩ := hT
  have hL : a ∈ zL z := hm a (by rw [ha]; exact Nat.succ_ne_zero _)
  obtain ⟨k, hk0⟩ := va_pl_get (X := []) (f := E) hL
  have he := hE a hL
  rw [ha] at he
  obtain ⟨f, h9, hct, hf⟩ : a40 z (gh.1 o) (gh.2 a) (E a) := he
  have hk := hk0
  rw [h9] at hk
  exact va_alen hx hb hK hP k 0 hk rfl (v := 177) rfl hdg (kk _ rfl)
theorem as_40 {i x : Int32} (hx : p.tables.exec = Jvm.exec) (hb : c.code = cc) (hK : va_K (zD z) vwCl (zT z) s) (hT : TY z A gh H) (hS : va_S A H0 H locs) (ha : zG z a = (40, o)) (h0 : 0 ≤ i.toInt) (h1 : i.toInt < 177) (hv : p40 (gh.1 o) i.toNatClampNeg x.toInt) (hdg : decode cc pc = .ok (.iastore, 1)) (kk : ∀ (H1 : Heap) (locs1 : List Loc), TY z A (gc gh a (upd (gh.2 a) i.toNatClampNeg x)) H1 → va_S A H0 H1 locs1 → W p l e R s m args below meth c H1 locs1 cells slots Q (F0 m (pc + 1) ls (rest))) : W p l e R s m args below meth c H locs cells slots Q (F0 m pc ls (.int x :: .int i :: .ref a :: rest)) := by
  obtain ⟨E, hP, hD, hm, hE⟩ := hT
  have hL : a ∈ zL z := hm a (by rw [ha]; exact Nat.succ_ne_zero _)
  obtain ⟨k, hk0⟩ := va_pl_get (X := []) (f := E) hL
  have he := hE a hL
  rw [ha] at he
  obtain ⟨f, h9, hct, hf⟩ : a40 z (gh.1 o) (gh.2 a) (E a) := he
  have hk := hk0
  rw [h9] at hk
  refine va_iast hx hb hK hP hD hS k 0 hk rfl (ix_in (n := 177) h0 h1) hdg (fun H1 locs1 hP1 hD1 hS1 => ?_)
  refine kk H1 locs1 (ty_up (gh := gh) (gh' := (gc gh a (upd (gh.2 a) i.toNatClampNeg x))) hP1 hD1 hD hm hE hL hk0 ?_ gc_mo) hS1
  rw [ha]
  have e1 : (gc gh a (upd (gh.2 a) i.toNatClampNeg x)).2 a = upd (gh.2 a) i.toNatClampNeg x := gc_at _ _ _
  subst hct
  refine (⟨upd (gh.2 a) i.toNatClampNeg x, rfl, e1.symm, fun j hj => ?_⟩ : a40 z (gh.1 o) ((gc gh a (upd (gh.2 a) i.toNatClampNeg x)).2 a) _)
  by_cases hj2 : j = i.toNatClampNeg
  · subst hj2
    rw [show upd (gh.2 a) i.toNatClampNeg x i.toNatClampNeg = x from if_pos rfl]
    exact hv
  · rw [show upd (gh.2 a) i.toNatClampNeg x j = (gh.2 a) j from if_neg hj2]
    exact hf j hj
theorem al_41 {i : Int32} (hx : p.tables.exec = Jvm.exec) (hb : c.code = cc) (hK : va_K (zD z) vwCl (zT z) s) (hT : TY z A gh H) (ha : zG z a = (41, o)) (h0 : 0 ≤ i.toInt) (h1 : i.toInt < 59) (hdg : decode cc pc = .ok (.iaload, 1)) (kk : ∀ x : Int32, x = gh.2 a i.toNatClampNeg → p41 (gh.1 o) i.toNatClampNeg x.toInt → W p l e R s m args below meth c H locs cells slots Q (F0 m (pc + 1) ls (.int x :: rest))) : W p l e R s m args below meth c H locs cells slots Q (F0 m pc ls (.int i :: .ref a :: rest)) := by
  obtain ⟨E, hP, hD, hm, hE⟩ := hT
  have hL : a ∈ zL z := hm a (by rw [ha]; exact Nat.succ_ne_zero _)
  obtain ⟨k, hk0⟩ := va_pl_get (X := []) (f := E) hL
  have he := hE a hL
  rw [ha] at he
  obtain ⟨f, h9, hct, hf⟩ : a41 z (gh.1 o) (gh.2 a) (E a) := he
  have hk := hk0
  rw [h9] at hk
  exact va_iald hx hb hK hP k 0 hk rfl (ix_in (n := 59) h0 h1) hdg (kk _ (by rw [hct]) (hf _ (ix_lt (n := 59) h0 h1)))
theorem an_41 (hx : p.tables.exec = Jvm.exec) (hb : c.code = cc) (hK : va_K (zD z) vwCl (zT z) s) (hT : TY z A gh H) (ha : zG z a = (41, o)) (hdg : decode cc pc = .ok (.arraylength, 1)) (kk : ∀ x : Int32, x.toInt = 59 → W p l e R s m args below meth c H locs cells slots Q (F0 m (pc + 1) ls (.int x :: rest))) : W p l e R s m args below meth c H locs cells slots Q (F0 m pc ls (.ref a :: rest)) := by
  obtain ⟨E, hP, hD, hm, hE⟩ := hT
  have hL : a ∈ zL z := hm a (by rw [ha]; exact Nat.succ_ne_zero _)
  obtain ⟨k, hk0⟩ := va_pl_get (X := []) (f := E) hL
  have he := hE a hL
  rw [ha] at he
  obtain ⟨f, h9, hct, hf⟩ : a41 z (gh.1 o) (gh.2 a) (E a) := he
  have hk := hk0
  rw [h9] at hk
  exact va_alen hx hb hK hP k 0 hk rfl (v := 59) rfl hdg (kk _ rfl)
theorem as_41 {i x : Int32} (hx : p.tables.exec = Jvm.exec) (hb : c.code = cc) (hK : va_K (zD z) vwCl (zT z) s) (hT : TY z A gh H) (hS : va_S A H0 H locs) (ha : zG z a = (41, o)) (h0 : 0 ≤ i.toInt) (h1 : i.toInt < 59) (hv : p41 (gh.1 o) i.toNatClampNeg x.toInt) (hdg : decode cc pc = .ok (.iastore, 1)) (kk : ∀ (H1 : Heap) (locs1 : List Loc), TY z A (gc gh a (upd (gh.2 a) i.toNatClampNeg x)) H1 → va_S A H0 H1 locs1 → W p l e R s m args below meth c H1 locs1 cells slots Q (F0 m (pc + 1) ls (rest))) : W p l e R s m args below meth c H locs cells slots Q (F0 m pc ls (.int x :: .int i :: .ref a :: rest)) := by
  obtain ⟨E, hP, hD, hm, hE⟩ := hT
  have hL : a ∈ zL z := hm a (by rw [ha]; exact Nat.succ_ne_zero _)
  obtain ⟨k, hk0⟩ := va_pl_get (X := []) (f := E) hL
  have he := hE a hL
  rw [ha] at he
  obtain ⟨f, h9, hct, hf⟩ : a41 z (gh.1 o) (gh.2 a) (E a) := he
  have hk := hk0
  rw [h9] at hk
  refine va_iast hx hb hK hP hD hS k 0 hk rfl (ix_in (n := 59) h0 h1) hdg (fun H1 locs1 hP1 hD1 hS1 => ?_)
  refine kk H1 locs1 (ty_up (gh := gh) (gh' := (gc gh a (upd (gh.2 a) i.toNatClampNeg x))) hP1 hD1 hD hm hE hL hk0 ?_ gc_mo) hS1
  rw [ha]
  have e1 : (gc gh a (upd (gh.2 a) i.toNatClampNeg x)).2 a = upd (gh.2 a) i.toNatClampNeg x := gc_at _ _ _
  subst hct
  refine (⟨upd (gh.2 a) i.toNatClampNeg x, rfl, e1.symm, fun j hj => ?_⟩ : a41 z (gh.1 o) ((gc gh a (upd (gh.2 a) i.toNatClampNeg x)).2 a) _)
  by_cases hj2 : j = i.toNatClampNeg
  · subst hj2
    rw [show upd (gh.2 a) i.toNatClampNeg x i.toNatClampNeg = x from if_pos rfl]
    exact hv
  · rw [show upd (gh.2 a) i.toNatClampNeg x j = (gh.2 a) j from if_neg hj2]
    exact hf j hj
theorem al_42 {i : Int32} (hx : p.tables.exec = Jvm.exec) (hb : c.code = cc) (hK : va_K (zD z) vwCl (zT z) s) (hT : TY z A gh H) (ha : zG z a = (42, o)) (h0 : 0 ≤ i.toInt) (h1 : i.toInt < 2) (hdg : decode cc pc = .ok (.baload, 1)) (kk : ∀ x : Int32, p42 (gh.1 o) i.toNatClampNeg x.toInt → W p l e R s m args below meth c H locs cells slots Q (F0 m (pc + 1) ls (.int x :: rest))) : W p l e R s m args below meth c H locs cells slots Q (F0 m pc ls (.int i :: .ref a :: rest)) := by
  obtain ⟨E, hP, hD, hm, hE⟩ := hT
  have hL : a ∈ zL z := hm a (by rw [ha]; exact Nat.succ_ne_zero _)
  obtain ⟨k, hk0⟩ := va_pl_get (X := []) (f := E) hL
  have he := hE a hL
  rw [ha] at he
  obtain ⟨f, h9, hf⟩ : a42 z (gh.1 o) (gh.2 a) (E a) := he
  have hk := hk0
  rw [h9] at hk
  exact va_zald hx hb hK hP k 1 hk rfl (ix_in (n := 2) h0 h1) hdg (kk _ (hf _ (ix_lt (n := 2) h0 h1)))
theorem an_42 (hx : p.tables.exec = Jvm.exec) (hb : c.code = cc) (hK : va_K (zD z) vwCl (zT z) s) (hT : TY z A gh H) (ha : zG z a = (42, o)) (hdg : decode cc pc = .ok (.arraylength, 1)) (kk : ∀ x : Int32, x.toInt = 2 → W p l e R s m args below meth c H locs cells slots Q (F0 m (pc + 1) ls (.int x :: rest))) : W p l e R s m args below meth c H locs cells slots Q (F0 m pc ls (.ref a :: rest)) := by
  obtain ⟨E, hP, hD, hm, hE⟩ := hT
  have hL : a ∈ zL z := hm a (by rw [ha]; exact Nat.succ_ne_zero _)
  obtain ⟨k, hk0⟩ := va_pl_get (X := []) (f := E) hL
  have he := hE a hL
  rw [ha] at he
  obtain ⟨f, h9, hf⟩ : a42 z (gh.1 o) (gh.2 a) (E a) := he
  have hk := hk0
  rw [h9] at hk
  exact va_alen hx hb hK hP k 1 hk rfl (v := 2) rfl hdg (kk _ rfl)
theorem al_43 {i : Int32} (hx : p.tables.exec = Jvm.exec) (hb : c.code = cc) (hK : va_K (zD z) vwCl (zT z) s) (hT : TY z A gh H) (ha : zG z a = (43, o)) (h0 : 0 ≤ i.toInt) (h1 : i.toInt < 59) (hdg : decode cc pc = .ok (.iaload, 1)) (kk : ∀ x : Int32, x = gh.2 a i.toNatClampNeg → p43 (gh.1 o) i.toNatClampNeg x.toInt → W p l e R s m args below meth c H locs cells slots Q (F0 m (pc + 1) ls (.int x :: rest))) : W p l e R s m args below meth c H locs cells slots Q (F0 m pc ls (.int i :: .ref a :: rest)) := by
  obtain ⟨E, hP, hD, hm, hE⟩ := hT
  have hL : a ∈ zL z := hm a (by rw [ha]; exact Nat.succ_ne_zero _)
  obtain ⟨k, hk0⟩ := va_pl_get (X := []) (f := E) hL
  have he := hE a hL
  rw [ha] at he
  obtain ⟨f, h9, hct, hf⟩ : a43 z (gh.1 o) (gh.2 a) (E a) := he
  have hk := hk0
  rw [h9] at hk
  exact va_iald hx hb hK hP k 0 hk rfl (ix_in (n := 59) h0 h1) hdg (kk _ (by rw [hct]) (hf _ (ix_lt (n := 59) h0 h1)))
theorem an_43 (hx : p.tables.exec = Jvm.exec) (hb : c.code = cc) (hK : va_K (zD z) vwCl (zT z) s) (hT : TY z A gh H) (ha : zG z a = (43, o)) (hdg : decode cc pc = .ok (.arraylength, 1)) (kk : ∀ x : Int32, x.toInt = 59 → W p l e R s m args below meth c H locs cells slots Q (F0 m (pc + 1) ls (.int x :: rest))) : W p l e R s m args below meth c H locs cells slots Q (F0 m pc ls (.ref a :: rest)) := by
  obtain ⟨E, hP, hD, hm, hE⟩ := hT
  have hL : a ∈ zL z := hm a (by rw [ha]; exact Nat.succ_ne_zero _)
  obtain ⟨k, hk0⟩ := va_pl_get (X := []) (f := E) hL
  have he := hE a hL
  rw [ha] at he
  obtain ⟨f, h9, hct, hf⟩ : a43 z (gh.1 o) (gh.2 a) (E a) := he
  have hk := hk0
  rw [h9] at hk
  exact va_alen hx hb hK hP k 0 hk rfl (v := 59) rfl hdg (kk _ rfl)
theorem as_43 {i x : Int32} (hx : p.tables.exec = Jvm.exec) (hb : c.code = cc) (hK : va_K (zD z) vwCl (zT z) s) (hT : TY z A gh H) (hS : va_S A H0 H locs) (ha : zG z a = (43, o)) (h0 : 0 ≤ i.toInt) (h1 : i.toInt < 59) (hv : p43 (gh.1 o) i.toNatClampNeg x.toInt) (hdg : decode cc pc = .ok (.iastore, 1)) (kk : ∀ (H1 : Heap) (locs1 : List Loc), TY z A (gc gh a (upd (gh.2 a) i.toNatClampNeg x)) H1 → va_S A H0 H1 locs1 → W p l e R s m args below meth c H1 locs1 cells slots Q (F0 m (pc + 1) ls (rest))) : W p l e R s m args below meth c H locs cells slots Q (F0 m pc ls (.int x :: .int i :: .ref a :: rest)) := by
  obtain ⟨E, hP, hD, hm, hE⟩ := hT
  have hL : a ∈ zL z := hm a (by rw [ha]; exact Nat.succ_ne_zero _)
  obtain ⟨k, hk0⟩ := va_pl_get (X := []) (f := E) hL
  have he := hE a hL
  rw [ha] at he
  obtain ⟨f, h9, hct, hf⟩ : a43 z (gh.1 o) (gh.2 a) (E a) := he
  have hk := hk0
  rw [h9] at hk
  refine va_iast hx hb hK hP hD hS k 0 hk rfl (ix_in (n := 59) h0 h1) hdg (fun H1 locs1 hP1 hD1 hS1 => ?_)
  refine kk H1 locs1 (ty_up (gh := gh) (gh' := (gc gh a (upd (gh.2 a) i.toNatClampNeg x))) hP1 hD1 hD hm hE hL hk0 ?_ gc_mo) hS1
  rw [ha]
  have e1 : (gc gh a (upd (gh.2 a) i.toNatClampNeg x)).2 a = upd (gh.2 a) i.toNatClampNeg x := gc_at _ _ _
  subst hct
  refine (⟨upd (gh.2 a) i.toNatClampNeg x, rfl, e1.symm, fun j hj => ?_⟩ : a43 z (gh.1 o) ((gc gh a (upd (gh.2 a) i.toNatClampNeg x)).2 a) _)
  by_cases hj2 : j = i.toNatClampNeg
  · subst hj2
    rw [show upd (gh.2 a) i.toNatClampNeg x i.toNatClampNeg = x from if_pos rfl]
    exact hv
  · rw [show upd (gh.2 a) i.toNatClampNeg x j = (gh.2 a) j from if_neg hj2]
    exact hf j hj
theorem al_44 {i : Int32} (hx : p.tables.exec = Jvm.exec) (hb : c.code = cc) (hK : va_K (zD z) vwCl (zT z) s) (hT : TY z A gh H) (ha : zG z a = (44, o)) (h0 : 0 ≤ i.toInt) (h1 : i.toInt < 160) (hdg : decode cc pc = .ok (.iaload, 1)) (kk : ∀ x : Int32, x = gh.2 a i.toNatClampNeg → p44 (gh.1 o) i.toNatClampNeg x.toInt → W p l e R s m args below meth c H locs cells slots Q (F0 m (pc + 1) ls (.int x :: rest))) : W p l e R s m args below meth c H locs cells slots Q (F0 m pc ls (.int i :: .ref a :: rest)) := by
  obtain ⟨E, hP, hD, hm, hE⟩ := hT
  have hL : a ∈ zL z := hm a (by rw [ha]; exact Nat.succ_ne_zero _)
  obtain ⟨k, hk0⟩ := va_pl_get (X := []) (f := E) hL
  have he := hE a hL
  rw [ha] at he
  obtain ⟨f, h9, hct, hf⟩ : a44 z (gh.1 o) (gh.2 a) (E a) := he
  have hk := hk0
  rw [h9] at hk
  exact va_iald hx hb hK hP k 0 hk rfl (ix_in (n := 160) h0 h1) hdg (kk _ (by rw [hct]) (hf _ (ix_lt (n := 160) h0 h1)))
theorem an_44 (hx : p.tables.exec = Jvm.exec) (hb : c.code = cc) (hK : va_K (zD z) vwCl (zT z) s) (hT : TY z A gh H) (ha : zG z a = (44, o)) (hdg : decode cc pc = .ok (.arraylength, 1)) (kk : ∀ x : Int32, x.toInt = 160 → W p l e R s m args below meth c H locs cells slots Q (F0 m (pc + 1) ls (.int x :: rest))) : W p l e R s m args below meth c H locs cells slots Q (F0 m pc ls (.ref a :: rest)) := by
  obtain ⟨E, hP, hD, hm, hE⟩ := hT
  have hL : a ∈ zL z := hm a (by rw [ha]; exact Nat.succ_ne_zero _)
  obtain ⟨k, hk0⟩ := va_pl_get (X := []) (f := E) hL
  have he := hE a hL
  rw [ha] at he
  obtain ⟨f, h9, hct, hf⟩ : a44 z (gh.1 o) (gh.2 a) (E a) := he
  have hk := hk0
  rw [h9] at hk
  exact va_alen hx hb hK hP k 0 hk rfl (v := 160) rfl hdg (kk _ rfl)
theorem as_44 {i x : Int32} (hx : p.tables.exec = Jvm.exec) (hb : c.code = cc) (hK : va_K (zD z) vwCl (zT z) s) (hT : TY z A gh H) (hS : va_S A H0 H locs) (ha : zG z a = (44, o)) (h0 : 0 ≤ i.toInt) (h1 : i.toInt < 160) (hv : p44 (gh.1 o) i.toNatClampNeg x.toInt) (hdg : decode cc pc = .ok (.iastore, 1)) (kk : ∀ (H1 : Heap) (locs1 : List Loc), TY z A (gc gh a (upd (gh.2 a) i.toNatClampNeg x)) H1 → va_S A H0 H1 locs1 → W p l e R s m args below meth c H1 locs1 cells slots Q (F0 m (pc + 1) ls (rest))) : W p l e R s m args below meth c H locs cells slots Q (F0 m pc ls (.int x :: .int i :: .ref a :: rest)) := by
  obtain ⟨E, hP, hD, hm, hE⟩ := hT
  have hL : a ∈ zL z := hm a (by rw [ha]; exact Nat.succ_ne_zero _)
  obtain ⟨k, hk0⟩ := va_pl_get (X := []) (f := E) hL
  have he := hE a hL
  rw [ha] at he
  obtain ⟨f, h9, hct, hf⟩ : a44 z (gh.1 o) (gh.2 a) (E a) := he
  have hk := hk0
  rw [h9] at hk
  refine va_iast hx hb hK hP hD hS k 0 hk rfl (ix_in (n := 160) h0 h1) hdg (fun H1 locs1 hP1 hD1 hS1 => ?_)
  refine kk H1 locs1 (ty_up (gh := gh) (gh' := (gc gh a (upd (gh.2 a) i.toNatClampNeg x))) hP1 hD1 hD hm hE hL hk0 ?_ gc_mo) hS1
  rw [ha]
  have e1 : (gc gh a (upd (gh.2 a) i.toNatClampNeg x)).2 a = upd (gh.2 a) i.toNatClampNeg x := gc_at _ _ _
  subst hct
  refine (⟨upd (gh.2 a) i.toNatClampNeg x, rfl, e1.symm, fun j hj => ?_⟩ : a44 z (gh.1 o) ((gc gh a (upd (gh.2 a) i.toNatClampNeg x)).2 a) _)
  by_cases hj2 : j = i.toNatClampNeg
  · subst hj2
    rw [show upd (gh.2 a) i.toNatClampNeg x i.toNatClampNeg = x from if_pos rfl]
    exact hv
  · rw [show upd (gh.2 a) i.toNatClampNeg x j = (gh.2 a) j from if_neg hj2]
    exact hf j hj
theorem al_45 {i : Int32} (hx : p.tables.exec = Jvm.exec) (hb : c.code = cc) (hK : va_K (zD z) vwCl (zT z) s) (hT : TY z A gh H) (ha : zG z a = (45, o)) (h0 : 0 ≤ i.toInt) (h1 : i.toInt < 5) (hdg : decode cc pc = .ok (.iaload, 1)) (kk : ∀ x : Int32, x = gh.2 a i.toNatClampNeg → p45 (gh.1 o) i.toNatClampNeg x.toInt → W p l e R s m args below meth c H locs cells slots Q (F0 m (pc + 1) ls (.int x :: rest))) : W p l e R s m args below meth c H locs cells slots Q (F0 m pc ls (.int i :: .ref a :: rest)) := by
  obtain ⟨E, hP, hD, hm, hE⟩ := hT
  have hL : a ∈ zL z := hm a (by rw [ha]; exact Nat.succ_ne_zero _)
  obtain ⟨k, hk0⟩ := va_pl_get (X := []) (f := E) hL
  have he := hE a hL
  rw [ha] at he
  obtain ⟨f, h9, hct, hf⟩ : a45 z (gh.1 o) (gh.2 a) (E a) := he
  have hk := hk0
  rw [h9] at hk
  exact va_iald hx hb hK hP k 0 hk rfl (ix_in (n := 5) h0 h1) hdg (kk _ (by rw [hct]) (hf _ (ix_lt (n := 5) h0 h1)))
theorem an_45 (hx : p.tables.exec = Jvm.exec) (hb : c.code = cc) (hK : va_K (zD z) vwCl (zT z) s) (hT : TY z A gh H) (ha : zG z a = (45, o)) (hdg : decode cc pc = .ok (.arraylength, 1)) (kk : ∀ x : Int32, x.toInt = 5 → W p l e R s m args below meth c H locs cells slots Q (F0 m (pc + 1) ls (.int x :: rest))) : W p l e R s m args below meth c H locs cells slots Q (F0 m pc ls (.ref a :: rest)) := by
  obtain ⟨E, hP, hD, hm, hE⟩ := hT
  have hL : a ∈ zL z := hm a (by rw [ha]; exact Nat.succ_ne_zero _)
  obtain ⟨k, hk0⟩ := va_pl_get (X := []) (f := E) hL
  have he := hE a hL
  rw [ha] at he
  obtain ⟨f, h9, hct, hf⟩ : a45 z (gh.1 o) (gh.2 a) (E a) := he
  have hk := hk0
  rw [h9] at hk
  exact va_alen hx hb hK hP k 0 hk rfl (v := 5) rfl hdg (kk _ rfl)
theorem as_45 {i x : Int32} (hx : p.tables.exec = Jvm.exec) (hb : c.code = cc) (hK : va_K (zD z) vwCl (zT z) s) (hT : TY z A gh H) (hS : va_S A H0 H locs) (ha : zG z a = (45, o)) (h0 : 0 ≤ i.toInt) (h1 : i.toInt < 5) (hv : p45 (gh.1 o) i.toNatClampNeg x.toInt) (hdg : decode cc pc = .ok (.iastore, 1)) (kk : ∀ (H1 : Heap) (locs1 : List Loc), TY z A (gc gh a (upd (gh.2 a) i.toNatClampNeg x)) H1 → va_S A H0 H1 locs1 → W p l e R s m args below meth c H1 locs1 cells slots Q (F0 m (pc + 1) ls (rest))) : W p l e R s m args below meth c H locs cells slots Q (F0 m pc ls (.int x :: .int i :: .ref a :: rest)) := by
  obtain ⟨E, hP, hD, hm, hE⟩ := hT
  have hL : a ∈ zL z := hm a (by rw [ha]; exact Nat.succ_ne_zero _)
  obtain ⟨k, hk0⟩ := va_pl_get (X := []) (f := E) hL
  have he := hE a hL
  rw [ha] at he
  obtain ⟨f, h9, hct, hf⟩ : a45 z (gh.1 o) (gh.2 a) (E a) := he
  have hk := hk0
  rw [h9] at hk
  refine va_iast hx hb hK hP hD hS k 0 hk rfl (ix_in (n := 5) h0 h1) hdg (fun H1 locs1 hP1 hD1 hS1 => ?_)
  refine kk H1 locs1 (ty_up (gh := gh) (gh' := (gc gh a (upd (gh.2 a) i.toNatClampNeg x))) hP1 hD1 hD hm hE hL hk0 ?_ gc_mo) hS1
  rw [ha]
  have e1 : (gc gh a (upd (gh.2 a) i.toNatClampNeg x)).2 a = upd (gh.2 a) i.toNatClampNeg x := gc_at _ _ _
  subst hct
  refine (⟨upd (gh.2 a) i.toNatClampNeg x, rfl, e1.symm, fun j hj => ?_⟩ : a45 z (gh.1 o) ((gc gh a (upd (gh.2 a) i.toNatClampNeg x)).2 a) _)
  by_cases hj2 : j = i.toNatClampNeg
  · subst hj2
    rw [show upd (gh.2 a) i.toNatClampNeg x i.toNatClampNeg = x from if_pos rfl]
    exact hv
  · rw [show upd (gh.2 a) i.toNatClampNeg x j = (gh.2 a) j from if_neg hj2]
    exact hf j hj
theorem al_46 {i : Int32} (hx : p.tables.exec = Jvm.exec) (hb : c.code = cc) (hK : va_K (zD z) vwCl (zT z) s) (hT : TY z A gh H) (ha : zG z a = (46, o)) (h0 : 0 ≤ i.toInt) (h1 : i.toInt < 5) (hdg : decode cc pc = .ok (.iaload, 1)) (kk : ∀ x : Int32, p46 (gh.1 o) i.toNatClampNeg x.toInt → W p l e R s m args below meth c H locs cells slots Q (F0 m (pc + 1) ls (.int x :: rest))) : W p l e R s m args below meth c H locs cells slots Q (F0 m pc ls (.int i :: .ref a :: rest)) := by
  obtain ⟨E, hP, hD, hm, hE⟩ := hT
  have hL : a ∈ zL z := hm a (by rw [ha]; exact Nat.succ_ne_zero _)
  obtain ⟨k, hk0⟩ := va_pl_get (X := []) (f := E) hL
  have he := hE a hL
  rw [ha] at he
  obtain ⟨f, h9, hf⟩ : a46 z (gh.1 o) (gh.2 a) (E a) := he
  have hk := hk0
  rw [h9] at hk
  exact va_iald hx hb hK hP k 0 hk rfl (ix_in (n := 5) h0 h1) hdg (kk _ (hf _ (ix_lt (n := 5) h0 h1)))
theorem an_46 (hx : p.tables.exec = Jvm.exec) (hb : c.code = cc) (hK : va_K (zD z) vwCl (zT z) s) (hT : TY z A gh H) (ha : zG z a = (46, o)) (hdg : decode cc pc = .ok (.arraylength, 1)) (kk : ∀ x : Int32, x.toInt = 5 → W p l e R s m args below meth c H locs cells slots Q (F0 m (pc + 1) ls (.int x :: rest))) : W p l e R s m args below meth c H locs cells slots Q (F0 m pc ls (.ref a :: rest)) := by
  obtain ⟨E, hP, hD, hm, hE⟩ := hT
  have hL : a ∈ zL z := hm a (by rw [ha]; exact Nat.succ_ne_zero _)
  obtain ⟨k, hk0⟩ := va_pl_get (X := []) (f := E) hL
  have he := hE a hL
  rw [ha] at he
  obtain ⟨f, h9, hf⟩ : a46 z (gh.1 o) (gh.2 a) (E a) := he
  have hk := hk0
  rw [h9] at hk
  exact va_alen hx hb hK hP k 0 hk rfl (v := 5) rfl hdg (kk _ rfl)
theorem as_46 {i x : Int32} (hx : p.tables.exec = Jvm.exec) (hb : c.code = cc) (hK : va_K (zD z) vwCl (zT z) s) (hT : TY z A gh H) (hS : va_S A H0 H locs) (ha : zG z a = (46, o)) (h0 : 0 ≤ i.toInt) (h1 : i.toInt < 5) (hv : p46 (gh.1 o) i.toNatClampNeg x.toInt) (hdg : decode cc pc = .ok (.iastore, 1)) (kk : ∀ (H1 : Heap) (locs1 : List Loc), TY z A gh H1 → va_S A H0 H1 locs1 → W p l e R s m args below meth c H1 locs1 cells slots Q (F0 m (pc + 1) ls (rest))) : W p l e R s m args below meth c H locs cells slots Q (F0 m pc ls (.int x :: .int i :: .ref a :: rest)) := by
  obtain ⟨E, hP, hD, hm, hE⟩ := hT
  have hL : a ∈ zL z := hm a (by rw [ha]; exact Nat.succ_ne_zero _)
  obtain ⟨k, hk0⟩ := va_pl_get (X := []) (f := E) hL
  have he := hE a hL
  rw [ha] at he
  obtain ⟨f, h9, hf⟩ : a46 z (gh.1 o) (gh.2 a) (E a) := he
  have hk := hk0
  rw [h9] at hk
  refine va_iast hx hb hK hP hD hS k 0 hk rfl (ix_in (n := 5) h0 h1) hdg (fun H1 locs1 hP1 hD1 hS1 => ?_)
  refine kk H1 locs1 (ty_up (gh := gh) (gh' := gh) hP1 hD1 hD hm hE hL hk0 ?_ (fun _ _ _ h => h)) hS1
  rw [ha]
  refine (⟨upd f i.toNatClampNeg x, rfl, fun j hj => ?_⟩ : a46 z _ _ _)
  by_cases hj2 : j = i.toNatClampNeg
  · subst hj2
    rw [show upd f i.toNatClampNeg x i.toNatClampNeg = x from if_pos rfl]
    exact hv
  · rw [show upd f i.toNatClampNeg x j = f j from if_neg hj2]
    exact hf j hj
theorem al_47 {i : Int32} (hx : p.tables.exec = Jvm.exec) (hb : c.code = cc) (hK : va_K (zD z) vwCl (zT z) s) (hT : TY z A gh H) (ha : zG z a = (47, o)) (h0 : 0 ≤ i.toInt) (h1 : i.toInt < 4) (hdg : decode cc pc = .ok (.iaload, 1)) (kk : ∀ x : Int32, p47 (gh.1 o) i.toNatClampNeg x.toInt → W p l e R s m args below meth c H locs cells slots Q (F0 m (pc + 1) ls (.int x :: rest))) : W p l e R s m args below meth c H locs cells slots Q (F0 m pc ls (.int i :: .ref a :: rest)) := by
  obtain ⟨E, hP, hD, hm, hE⟩ := hT
  have hL : a ∈ zL z := hm a (by rw [ha]; exact Nat.succ_ne_zero _)
  obtain ⟨k, hk0⟩ := va_pl_get (X := []) (f := E) hL
  have he := hE a hL
  rw [ha] at he
  obtain ⟨f, h9, hf⟩ : a47 z (gh.1 o) (gh.2 a) (E a) := he
  have hk := hk0
  rw [h9] at hk
  exact va_iald hx hb hK hP k 0 hk rfl (ix_in (n := 4) h0 h1) hdg (kk _ (hf _ (ix_lt (n := 4) h0 h1)))
theorem an_47 (hx : p.tables.exec = Jvm.exec) (hb : c.code = cc) (hK : va_K (zD z) vwCl (zT z) s) (hT : TY z A gh H) (ha : zG z a = (47, o)) (hdg : decode cc pc = .ok (.arraylength, 1)) (kk : ∀ x : Int32, x.toInt = 4 → W p l e R s m args below meth c H locs cells slots Q (F0 m (pc + 1) ls (.int x :: rest))) : W p l e R s m args below meth c H locs cells slots Q (F0 m pc ls (.ref a :: rest)) := by
  obtain ⟨E, hP, hD, hm, hE⟩ := hT
  have hL : a ∈ zL z := hm a (by rw [ha]; exact Nat.succ_ne_zero _)
  obtain ⟨k, hk0⟩ := va_pl_get (X := []) (f := E) hL
  have he := hE a hL
  rw [ha] at he
  obtain ⟨f, h9, hf⟩ : a47 z (gh.1 o) (gh.2 a) (E a) := he
  have hk := hk0
  rw [h9] at hk
  exact va_alen hx hb hK hP k 0 hk rfl (v := 4) rfl hdg (kk _ rfl)
theorem al_48 {i : Int32} (hx : p.tables.exec = Jvm.exec) (hb : c.code = cc) (hK : va_K (zD z) vwCl (zT z) s) (hT : TY z A gh H) (ha : zG z a = (48, o)) (h0 : 0 ≤ i.toInt) (h1 : i.toInt < 4) (hdg : decode cc pc = .ok (.iaload, 1)) (kk : ∀ x : Int32, p48 (gh.1 o) i.toNatClampNeg x.toInt → W p l e R s m args below meth c H locs cells slots Q (F0 m (pc + 1) ls (.int x :: rest))) : W p l e R s m args below meth c H locs cells slots Q (F0 m pc ls (.int i :: .ref a :: rest)) := by
  obtain ⟨E, hP, hD, hm, hE⟩ := hT
  have hL : a ∈ zL z := hm a (by rw [ha]; exact Nat.succ_ne_zero _)
  obtain ⟨k, hk0⟩ := va_pl_get (X := []) (f := E) hL
  have he := hE a hL
  rw [ha] at he
  obtain ⟨f, h9, hf⟩ : a48 z (gh.1 o) (gh.2 a) (E a) := he
  have hk := hk0
  rw [h9] at hk
  exact va_iald hx hb hK hP k 0 hk rfl (ix_in (n := 4) h0 h1) hdg (kk _ (hf _ (ix_lt (n := 4) h0 h1)))
theorem an_48 (hx : p.tables.exec = Jvm.exec) (hb : c.code = cc) (hK : va_K (zD z) vwCl (zT z) s) (hT : TY z A gh H) (ha : zG z a = (48, o)) (hdg : decode cc pc = .ok (.arraylength, 1)) (kk : ∀ x : Int32, x.toInt = 4 → W p l e R s m args below meth c H locs cells slots Q (F0 m (pc + 1) ls (.int x :: rest))) : W p l e R s m args below meth c H locs cells slots Q (F0 m pc ls (.ref a :: rest)) := by
  obtain ⟨E, hP, hD, hm, hE⟩ := hT
  have hL : a ∈ zL z := hm a (by rw [ha]; exact Nat.succ_ne_zero _)
  obtain ⟨k, hk0⟩ := va_pl_get (X := []) (f := E) hL
  have he := hE a hL
  rw [ha] at he
  obtain ⟨f, h9, hf⟩ : a48 z (gh.1 o) (gh.2 a) (E a) := he
  have hk := hk0
  rw [h9] at hk
  exact va_alen hx hb hK hP k 0 hk rfl (v := 4) rfl hdg (kk _ rfl)
theorem al_49 {i : Int32} (hx : p.tables.exec = Jvm.exec) (hb : c.code = cc) (hK : va_K (zD z) vwCl (zT z) s) (hT : TY z A gh H) (ha : zG z a = (49, o)) (h0 : 0 ≤ i.toInt) (h1 : i.toInt < 160) (hdg : decode cc pc = .ok (.iaload, 1)) (kk : ∀ x : Int32, W p l e R s m args below meth c H locs cells slots Q (F0 m (pc + 1) ls (.int x :: rest))) : W p l e R s m args below meth c H locs cells slots Q (F0 m pc ls (.int i :: .ref a :: rest)) := by
  obtain ⟨E, hP, hD, hm, hE⟩ := hT
  have hL : a ∈ zL z := hm a (by rw [ha]; exact Nat.succ_ne_zero _)
  obtain ⟨k, hk0⟩ := va_pl_get (X := []) (f := E) hL
  have he := hE a hL
  rw [ha] at he
  obtain ⟨f, h9, hf⟩ : a49 z (gh.1 o) (gh.2 a) (E a) := he
  have hk := hk0
  rw [h9] at hk
  exact va_iald hx hb hK hP k 0 hk rfl (ix_in (n := 160) h0 h1) hdg (kk _)
theorem an_49 (hx : p.tables.exec = Jvm.exec) (hb : c.code = cc) (hK : va_K (zD z) vwCl (zT z) s) (hT : TY z A gh H) (ha : zG z a = (49, o)) (hdg : decode cc pc = .ok (.arraylength, 1)) (kk : ∀ x : Int32, x.toInt = 160 → W p l e R s m args below meth c H locs cells slots Q (F0 m (pc + 1) ls (.int x :: rest))) : W p l e R s m args below meth c H locs cells slots Q (F0 m pc ls (.ref a :: rest)) := by
  obtain ⟨E, hP, hD, hm, hE⟩ := hT
  have hL : a ∈ zL z := hm a (by rw [ha]; exact Nat.succ_ne_zero _)
  obtain ⟨k, hk0⟩ := va_pl_get (X := []) (f := E) hL
  have he := hE a hL
  rw [ha] at he
  obtain ⟨f, h9, hf⟩ : a49 z (gh.1 o) (gh.2 a) (E a) := he
  have hk := hk0
  rw [h9] at hk
  exact va_alen hx hb hK hP k 0 hk rfl (v := 160) rfl hdg (kk _ rfl)
theorem as_49 {i x : Int32} (hx : p.tables.exec = Jvm.exec) (hb : c.code = cc) (hK : va_K (zD z) vwCl (zT z) s) (hT : TY z A gh H) (hS : va_S A H0 H locs) (ha : zG z a = (49, o)) (h0 : 0 ≤ i.toInt) (h1 : i.toInt < 160) (hdg : decode cc pc = .ok (.iastore, 1)) (kk : ∀ (H1 : Heap) (locs1 : List Loc), TY z A gh H1 → va_S A H0 H1 locs1 → W p l e R s m args below meth c H1 locs1 cells slots Q (F0 m (pc + 1) ls (rest))) : W p l e R s m args below meth c H locs cells slots Q (F0 m pc ls (.int x :: .int i :: .ref a :: rest)) := by
  obtain ⟨E, hP, hD, hm, hE⟩ := hT
  have hL : a ∈ zL z := hm a (by rw [ha]; exact Nat.succ_ne_zero _)
  obtain ⟨k, hk0⟩ := va_pl_get (X := []) (f := E) hL
  have he := hE a hL
  rw [ha] at he
  obtain ⟨f, h9, hf⟩ : a49 z (gh.1 o) (gh.2 a) (E a) := he
  have hk := hk0
  rw [h9] at hk
  refine va_iast hx hb hK hP hD hS k 0 hk rfl (ix_in (n := 160) h0 h1) hdg (fun H1 locs1 hP1 hD1 hS1 => ?_)
  refine kk H1 locs1 (ty_up (gh := gh) (gh' := gh) hP1 hD1 hD hm hE hL hk0 ?_ (fun _ _ _ h => h)) hS1
  rw [ha]
  exact (⟨upd f i.toNatClampNeg x, rfl, trivial⟩ : a49 z _ _ _)
theorem al_50 {i : Int32} (hx : p.tables.exec = Jvm.exec) (hb : c.code = cc) (hK : va_K (zD z) vwCl (zT z) s) (hT : TY z A gh H) (ha : zG z a = (50, o)) (h0 : 0 ≤ i.toInt) (h1 : i.toInt < 59) (hdg : decode cc pc = .ok (.iaload, 1)) (kk : ∀ x : Int32, p50 (gh.1 o) i.toNatClampNeg x.toInt → W p l e R s m args below meth c H locs cells slots Q (F0 m (pc + 1) ls (.int x :: rest))) : W p l e R s m args below meth c H locs cells slots Q (F0 m pc ls (.int i :: .ref a :: rest)) := by
  obtain ⟨E, hP, hD, hm, hE⟩ := hT
  have hL : a ∈ zL z := hm a (by rw [ha]; exact Nat.succ_ne_zero _)
  obtain ⟨k, hk0⟩ := va_pl_get (X := []) (f := E) hL
  have he := hE a hL
  rw [ha] at he
  obtain ⟨f, h9, hf⟩ : a50 z (gh.1 o) (gh.2 a) (E a) := he
  have hk := hk0
  rw [h9] at hk
  exact va_iald hx hb hK hP k 0 hk rfl (ix_in (n := 59) h0 h1) hdg (kk _ (hf _ (ix_lt (n := 59) h0 h1)))
theorem an_50 (hx : p.tables.exec = Jvm.exec) (hb : c.code = cc) (hK : va_K (zD z) vwCl (zT z) s) (hT : TY z A gh H) (ha : zG z a = (50, o)) (hdg : decode cc pc = .ok (.arraylength, 1)) (kk : ∀ x : Int32, x.toInt = 59 → W p l e R s m args below meth c H locs cells slots Q (F0 m (pc + 1) ls (.int x :: rest))) : W p l e R s m args below meth c H locs cells slots Q (F0 m pc ls (.ref a :: rest)) := by
  obtain ⟨E, hP, hD, hm, hE⟩ := hT
  have hL : a ∈ zL z := hm a (by rw [ha]; exact Nat.succ_ne_zero _)
  obtain ⟨k, hk0⟩ := va_pl_get (X := []) (f := E) hL
  have he := hE a hL
  rw [ha] at he
  obtain ⟨f, h9, hf⟩ : a50 z (gh.1 o) (gh.2 a) (E a) := he
  have hk := hk0
  rw [h9] at hk
  exact va_alen hx hb hK hP k 0 hk rfl (v := 59) rfl hdg (kk _ rfl)
theorem as_50 {i x : Int32} (hx : p.tables.exec = Jvm.exec) (hb : c.code = cc) (hK : va_K (zD z) vwCl (zT z) s) (hT : TY z A gh H) (hS : va_S A H0 H locs) (ha : zG z a = (50, o)) (h0 : 0 ≤ i.toInt) (h1 : i.toInt < 59) (hv : p50 (gh.1 o) i.toNatClampNeg x.toInt) (hdg : decode cc pc = .ok (.iastore, 1)) (kk : ∀ (H1 : Heap) (locs1 : List Loc), TY z A gh H1 → va_S A H0 H1 locs1 → W p l e R s m args below meth c H1 locs1 cells slots Q (F0 m (pc + 1) ls (rest))) : W p l e R s m args below meth c H locs cells slots Q (F0 m pc ls (.int x :: .int i :: .ref a :: rest)) := by
  obtain ⟨E, hP, hD, hm, hE⟩ := hT
  have hL : a ∈ zL z := hm a (by rw [ha]; exact Nat.succ_ne_zero _)
  obtain ⟨k, hk0⟩ := va_pl_get (X := []) (f := E) hL
  have he := hE a hL
  rw [ha] at he
  obtain ⟨f, h9, hf⟩ : a50 z (gh.1 o) (gh.2 a) (E a) := he
  have hk := hk0
  rw [h9] at hk
  refine va_iast hx hb hK hP hD hS k 0 hk rfl (ix_in (n := 59) h0 h1) hdg (fun H1 locs1 hP1 hD1 hS1 => ?_)
  refine kk H1 locs1 (ty_up (gh := gh) (gh' := gh) hP1 hD1 hD hm hE hL hk0 ?_ (fun _ _ _ h => h)) hS1
  rw [ha]
  refine (⟨upd f i.toNatClampNeg x, rfl, fun j hj => ?_⟩ : a50 z _ _ _)
  by_cases hj2 : j = i.toNatClampNeg
  · subst hj2
    rw [show upd f i.toNatClampNeg x i.toNatClampNeg = x from if_pos rfl]
    exact hv
  · rw [show upd f i.toNatClampNeg x j = f j from if_neg hj2]
    exact hf j hj
theorem al_35 {i : Int32} (hx : p.tables.exec = Jvm.exec) (hb : c.code = cc) (hK : va_K (zD z) vwCl (zT z) s) (hT : TY z A gh H) (ha : zG z a = (35, o)) (h0 : 0 ≤ i.toInt) (h1 : i.toInt < 6) (hdg : decode cc pc = .ok (.aaload, 1)) (kk : ∀ q : Nat, zG z q = (11, 6 + i.toNatClampNeg) → W p l e R s m args below meth c H locs cells slots Q (F0 m (pc + 1) ls (.ref q :: rest))) : W p l e R s m args below meth c H locs cells slots Q (F0 m pc ls (.int i :: .ref a :: rest)) := by
  obtain ⟨E, hP, hD, hm, hE⟩ := hT
  have hL : a ∈ zL z := hm a (by rw [ha]; exact Nat.succ_ne_zero _)
  obtain ⟨k, hk0⟩ := va_pl_get (X := []) (f := E) hL
  have he := hE a hL
  rw [ha] at he
  obtain ⟨f, h9, hf⟩ : a35 z (gh.1 o) (gh.2 a) (E a) := he
  have hk := hk0
  rw [h9] at hk
  obtain ⟨q, h5, h6⟩ := hf _ (ix_lt (n := 6) h0 h1)
  refine va_aldq hx hb hK hP k 3 hk rfl (ix_in (n := 6) h0 h1) hdg ?_
  rw [h5]
  exact kk q h6
theorem al_36 {i : Int32} (hx : p.tables.exec = Jvm.exec) (hb : c.code = cc) (hK : va_K (zD z) vwCl (zT z) s) (hT : TY z A gh H) (ha : zG z a = (36, o)) (h0 : 0 ≤ i.toInt) (h1 : i.toInt < 2) (hdg : decode cc pc = .ok (.aaload, 1)) (kk : ∀ q : Nat, zG z q = (10, 3 + i.toNatClampNeg) → W p l e R s m args below meth c H locs cells slots Q (F0 m (pc + 1) ls (.ref q :: rest))) : W p l e R s m args below meth c H locs cells slots Q (F0 m pc ls (.int i :: .ref a :: rest)) := by
  obtain ⟨E, hP, hD, hm, hE⟩ := hT
  have hL : a ∈ zL z := hm a (by rw [ha]; exact Nat.succ_ne_zero _)
  obtain ⟨k, hk0⟩ := va_pl_get (X := []) (f := E) hL
  have he := hE a hL
  rw [ha] at he
  obtain ⟨f, h9, hf⟩ : a36 z (gh.1 o) (gh.2 a) (E a) := he
  have hk := hk0
  rw [h9] at hk
  obtain ⟨q, h5, h6⟩ := hf _ (ix_lt (n := 2) h0 h1)
  refine va_aldq hx hb hK hP k 2 hk rfl (ix_in (n := 2) h0 h1) hdg ?_
  rw [h5]
  exact kk q h6
theorem al_37 {i : Int32} (hx : p.tables.exec = Jvm.exec) (hb : c.code = cc) (hK : va_K (zD z) vwCl (zT z) s) (hT : TY z A gh H) (ha : zG z a = (37, o)) (h0 : 0 ≤ i.toInt) (h1 : i.toInt < 4) (hdg : decode cc pc = .ok (.aaload, 1)) (kk : ∀ q : Nat, zG z q = (13, i.toNatClampNeg) → W p l e R s m args below meth c H locs cells slots Q (F0 m (pc + 1) ls (.ref q :: rest))) : W p l e R s m args below meth c H locs cells slots Q (F0 m pc ls (.int i :: .ref a :: rest)) := by
  obtain ⟨E, hP, hD, hm, hE⟩ := hT
  have hL : a ∈ zL z := hm a (by rw [ha]; exact Nat.succ_ne_zero _)
  obtain ⟨k, hk0⟩ := va_pl_get (X := []) (f := E) hL
  have he := hE a hL
  rw [ha] at he
  obtain ⟨f, h9, hf⟩ : a37 z (gh.1 o) (gh.2 a) (E a) := he
  have hk := hk0
  rw [h9] at hk
  obtain ⟨q, h5, h6⟩ := hf _ (ix_lt (n := 4) h0 h1)
  refine va_aldq hx hb hK hP k 4 hk rfl (ix_in (n := 4) h0 h1) hdg ?_
  rw [h5]
  exact kk q h6
end TYA
section TYI
variable {p : Program} {l : Launch} {e : Env} {R : Room} {s : State} {m : MethodId} {args : Array Value} {below : List Frame} {meth : Method} {c : Code} {H H0 : Heap} {locs : List Loc} {cells slots : Nat} {Q : State → Prop}
variable {cc : ByteArray} {pc : Nat} {ls : Array Slot} {rest : List Value} {z : Zt} {A : Nat → Prop} {a o index : Nat} {gh : Gh} {Ts : List Cond} {own : String}
variable {x y : Int32}
theorem i_mx (x : Int32) : -2147483648 ≤ x.toInt ∧ x.toInt ≤ 2147483647 := by have h1 := x.le_toInt; have h2 := x.toInt_lt; omega
theorem i_add {x y : Int32} (h1 : -2147483648 ≤ x.toInt + y.toInt) (h2 : x.toInt + y.toInt ≤ 2147483647) : (x + y).toInt = x.toInt + y.toInt := by
  rw [Int32.toInt_add]
  exact Int.bmod_eq_of_le (by omega) (by omega)
theorem i_sub {x y : Int32} (h1 : -2147483648 ≤ x.toInt - y.toInt) (h2 : x.toInt - y.toInt ≤ 2147483647) : (x - y).toInt = x.toInt - y.toInt := by
  rw [Int32.toInt_sub]
  exact Int.bmod_eq_of_le (by omega) (by omega)
theorem i_mul {x y : Int32} (h1 : -2147483648 ≤ x.toInt * y.toInt) (h2 : x.toInt * y.toInt ≤ 2147483647) : (x * y).toInt = x.toInt * y.toInt := by
  rw [Int32.toInt_mul]
  exact Int.bmod_eq_of_le (by omega) (by omega)
theorem i_ofI {n : Int} (h1 : -2147483648 ≤ n) (h2 : n ≤ 2147483647) : (Int32.ofInt n).toInt = n := by
  have e : ((Int32.size : Nat) : Int) = 4294967296 := rfl
  rw [Int32.toInt_ofInt]
  exact Int.bmod_eq_of_le (by omega) (by omega)
theorem r_iadd (hx : p.tables.exec = Jvm.exec) (hb : c.code = cc) (hdg : decode cc pc = .ok (.iadd, 1)) (h1 : -2147483648 ≤ x.toInt + y.toInt) (h2 : x.toInt + y.toInt ≤ 2147483647) (kk : ∀ w : Int32, w.toInt = x.toInt + y.toInt → W p l e R s m args below meth c H locs cells slots Q (F0 m (pc + 1) ls (.int w :: rest))) : W p l e R s m args below meth c H locs cells slots Q (F0 m pc ls (.int y :: .int x :: rest)) := lv_iadd hx hb hdg (kk _ (i_add h1 h2))
theorem r_isub (hx : p.tables.exec = Jvm.exec) (hb : c.code = cc) (hdg : decode cc pc = .ok (.isub, 1)) (h1 : -2147483648 ≤ x.toInt - y.toInt) (h2 : x.toInt - y.toInt ≤ 2147483647) (kk : ∀ w : Int32, w.toInt = x.toInt - y.toInt → W p l e R s m args below meth c H locs cells slots Q (F0 m (pc + 1) ls (.int w :: rest))) : W p l e R s m args below meth c H locs cells slots Q (F0 m pc ls (.int y :: .int x :: rest)) := lv_isub hx hb hdg (kk _ (i_sub h1 h2))
theorem r_imul (k : Int) (hk : y.toInt = k) (hx : p.tables.exec = Jvm.exec) (hb : c.code = cc) (hdg : decode cc pc = .ok (.imul, 1)) (h1 : -2147483648 ≤ x.toInt * k) (h2 : x.toInt * k ≤ 2147483647) (kk : ∀ w : Int32, w.toInt = x.toInt * k → W p l e R s m args below meth c H locs cells slots Q (F0 m (pc + 1) ls (.int w :: rest))) : W p l e R s m args below meth c H locs cells slots Q (F0 m pc ls (.int y :: .int x :: rest)) := by
  subst hk
  exact lv_imul hx hb hdg (kk _ (i_mul h1 h2))
theorem r_imulL (k : Int) (hk : x.toInt = k) (hx : p.tables.exec = Jvm.exec) (hb : c.code = cc) (hdg : decode cc pc = .ok (.imul, 1)) (h1 : -2147483648 ≤ k * y.toInt) (h2 : k * y.toInt ≤ 2147483647) (kk : ∀ w : Int32, w.toInt = k * y.toInt → W p l e R s m args below meth c H locs cells slots Q (F0 m (pc + 1) ls (.int w :: rest))) : W p l e R s m args below meth c H locs cells slots Q (F0 m pc ls (.int y :: .int x :: rest)) := by
  subst hk
  exact lv_imul hx hb hdg (kk _ (i_mul h1 h2))
theorem w_iadd (hx : p.tables.exec = Jvm.exec) (hb : c.code = cc) (hdg : decode cc pc = .ok (.iadd, 1)) (kk : ∀ w : Int32, W p l e R s m args below meth c H locs cells slots Q (F0 m (pc + 1) ls (.int w :: rest))) : W p l e R s m args below meth c H locs cells slots Q (F0 m pc ls (.int y :: .int x :: rest)) := lv_iadd hx hb hdg (kk _)
theorem w_isub (hx : p.tables.exec = Jvm.exec) (hb : c.code = cc) (hdg : decode cc pc = .ok (.isub, 1)) (kk : ∀ w : Int32, W p l e R s m args below meth c H locs cells slots Q (F0 m (pc + 1) ls (.int w :: rest))) : W p l e R s m args below meth c H locs cells slots Q (F0 m pc ls (.int y :: .int x :: rest)) := lv_isub hx hb hdg (kk _)
theorem w_imul (hx : p.tables.exec = Jvm.exec) (hb : c.code = cc) (hdg : decode cc pc = .ok (.imul, 1)) (kk : ∀ w : Int32, W p l e R s m args below meth c H locs cells slots Q (F0 m (pc + 1) ls (.int w :: rest))) : W p l e R s m args below meth c H locs cells slots Q (F0 m pc ls (.int y :: .int x :: rest)) := lv_imul hx hb hdg (kk _)
theorem w_iand (hx : p.tables.exec = Jvm.exec) (hb : c.code = cc) (hdg : decode cc pc = .ok (.iand, 1)) (kk : ∀ w : Int32, W p l e R s m args below meth c H locs cells slots Q (F0 m (pc + 1) ls (.int w :: rest))) : W p l e R s m args below meth c H locs cells slots Q (F0 m pc ls (.int y :: .int x :: rest)) := lv_iand hx hb hdg (kk _)
theorem w_ior (hx : p.tables.exec = Jvm.exec) (hb : c.code = cc) (hdg : decode cc pc = .ok (.ior, 1)) (kk : ∀ w : Int32, W p l e R s m args below meth c H locs cells slots Q (F0 m (pc + 1) ls (.int w :: rest))) : W p l e R s m args below meth c H locs cells slots Q (F0 m pc ls (.int y :: .int x :: rest)) := lv_ior hx hb hdg (kk _)
theorem w_ixor (hx : p.tables.exec = Jvm.exec) (hb : c.code = cc) (hdg : decode cc pc = .ok (.ixor, 1)) (kk : ∀ w : Int32, W p l e R s m args below meth c H locs cells slots Q (F0 m (pc + 1) ls (.int w :: rest))) : W p l e R s m args below meth c H locs cells slots Q (F0 m pc ls (.int y :: .int x :: rest)) := lv_ixor hx hb hdg (kk _)
theorem w_ishl (hx : p.tables.exec = Jvm.exec) (hb : c.code = cc) (hdg : decode cc pc = .ok (.ishl, 1)) (kk : ∀ w : Int32, W p l e R s m args below meth c H locs cells slots Q (F0 m (pc + 1) ls (.int w :: rest))) : W p l e R s m args below meth c H locs cells slots Q (F0 m pc ls (.int y :: .int x :: rest)) := lv_ishl hx hb hdg (kk _)
theorem w_ishr (hx : p.tables.exec = Jvm.exec) (hb : c.code = cc) (hdg : decode cc pc = .ok (.ishr, 1)) (kk : ∀ w : Int32, W p l e R s m args below meth c H locs cells slots Q (F0 m (pc + 1) ls (.int w :: rest))) : W p l e R s m args below meth c H locs cells slots Q (F0 m pc ls (.int y :: .int x :: rest)) := lv_ishr hx hb hdg (kk _)
theorem r_iconst {n : Int} (hx : p.tables.exec = Jvm.exec) (hb : c.code = cc) (hdg : decode cc pc = .ok (.iconst n, 1)) (h1 : -2147483648 ≤ n) (h2 : n ≤ 2147483647) (kk : ∀ w : Int32, w.toInt = n → W p l e R s m args below meth c H locs cells slots Q (F0 m (pc + 1) ls (.int w :: rest))) : W p l e R s m args below meth c H locs cells slots Q (F0 m pc ls (rest)) := lv_iconst hx hb hdg rfl (kk _ (i_ofI h1 h2))
theorem r_bipush {n : Int} (hx : p.tables.exec = Jvm.exec) (hb : c.code = cc) (hdg : decode cc pc = .ok (.bipush n, 2)) (h : (Int8.ofInt n).toInt32.toInt = n) (kk : ∀ w : Int32, w.toInt = n → W p l e R s m args below meth c H locs cells slots Q (F0 m (pc + 2) ls (.int w :: rest))) : W p l e R s m args below meth c H locs cells slots Q (F0 m pc ls (rest)) := lv_bipush hx hb hdg rfl (kk _ h)
theorem r_sipush {n : Int} (hx : p.tables.exec = Jvm.exec) (hb : c.code = cc) (hdg : decode cc pc = .ok (.sipush n, 3)) (h : (Int16.ofInt n).toInt32.toInt = n) (kk : ∀ w : Int32, w.toInt = n → W p l e R s m args below meth c H locs cells slots Q (F0 m (pc + 3) ls (.int w :: rest))) : W p l e R s m args below meth c H locs cells slots Q (F0 m pc ls (rest)) := lv_sipush hx hb hdg rfl (kk _ h)
theorem r_icmp_eq {off : Int} {tgt : Nat} (hx : p.tables.exec = Jvm.exec) (hb : c.code = cc) (hdg : decode cc pc = .ok (.if_icmp .eq off, 3)) (ht : (pc : Int) + off = (tgt : Int)) (kt : x.toInt = y.toInt → W p l e R s m args below meth c H locs cells slots Q (F0 m tgt ls (rest))) (kf : x.toInt ≠ y.toInt → W p l e R s m args below meth c H locs cells slots Q (F0 m (pc + 3) ls (rest))) : W p l e R s m args below meth c H locs cells slots Q (F0 m pc ls (.int y :: .int x :: rest)) := by
  refine lv_icmp_eq hx hb hdg ht (fun h => kt ?_) (fun h => kf ?_)
  · rw [h]
  · exact fun q => h (Int32.toInt_inj.mp q)
theorem r_if_eq {off : Int} {tgt : Nat} (hx : p.tables.exec = Jvm.exec) (hb : c.code = cc) (hdg : decode cc pc = .ok (.ifCond .eq off, 3)) (ht : (pc : Int) + off = (tgt : Int)) (kt : x.toInt = 0 → W p l e R s m args below meth c H locs cells slots Q (F0 m tgt ls (rest))) (kf : x.toInt ≠ 0 → W p l e R s m args below meth c H locs cells slots Q (F0 m (pc + 3) ls (rest))) : W p l e R s m args below meth c H locs cells slots Q (F0 m pc ls (.int x :: rest)) := by
  refine lv_if_eq hx hb hdg ht (fun h => kt ?_) (fun h => kf ?_)
  · show x.toInt = (0 : Int32).toInt; rw [h]
  · show x.toInt ≠ (0 : Int32).toInt; exact fun q => h (Int32.toInt_inj.mp q)
theorem r_icmp_ne {off : Int} {tgt : Nat} (hx : p.tables.exec = Jvm.exec) (hb : c.code = cc) (hdg : decode cc pc = .ok (.if_icmp .ne off, 3)) (ht : (pc : Int) + off = (tgt : Int)) (kt : x.toInt ≠ y.toInt → W p l e R s m args below meth c H locs cells slots Q (F0 m tgt ls (rest))) (kf : x.toInt = y.toInt → W p l e R s m args below meth c H locs cells slots Q (F0 m (pc + 3) ls (rest))) : W p l e R s m args below meth c H locs cells slots Q (F0 m pc ls (.int y :: .int x :: rest)) := by
  refine lv_icmp_ne hx hb hdg ht (fun h => kt ?_) (fun h => kf ?_)
  · exact fun q => h (Int32.toInt_inj.mp q)
  · rw [h]
theorem r_if_ne {off : Int} {tgt : Nat} (hx : p.tables.exec = Jvm.exec) (hb : c.code = cc) (hdg : decode cc pc = .ok (.ifCond .ne off, 3)) (ht : (pc : Int) + off = (tgt : Int)) (kt : x.toInt ≠ 0 → W p l e R s m args below meth c H locs cells slots Q (F0 m tgt ls (rest))) (kf : x.toInt = 0 → W p l e R s m args below meth c H locs cells slots Q (F0 m (pc + 3) ls (rest))) : W p l e R s m args below meth c H locs cells slots Q (F0 m pc ls (.int x :: rest)) := by
  refine lv_if_ne hx hb hdg ht (fun h => kt ?_) (fun h => kf ?_)
  · show x.toInt ≠ (0 : Int32).toInt; exact fun q => h (Int32.toInt_inj.mp q)
  · show x.toInt = (0 : Int32).toInt; rw [h]
theorem r_icmp_lt {off : Int} {tgt : Nat} (hx : p.tables.exec = Jvm.exec) (hb : c.code = cc) (hdg : decode cc pc = .ok (.if_icmp .lt off, 3)) (ht : (pc : Int) + off = (tgt : Int)) (kt : x.toInt < y.toInt → W p l e R s m args below meth c H locs cells slots Q (F0 m tgt ls (rest))) (kf : x.toInt ≥ y.toInt → W p l e R s m args below meth c H locs cells slots Q (F0 m (pc + 3) ls (rest))) : W p l e R s m args below meth c H locs cells slots Q (F0 m pc ls (.int y :: .int x :: rest)) := by
  refine lv_icmp_lt hx hb hdg ht (fun h => kt ?_) (fun h => kf ?_)
  · exact Int32.lt_iff_toInt_lt.mp h
  · have := mt Int32.lt_iff_toInt_lt.mpr h; omega
theorem r_if_lt {off : Int} {tgt : Nat} (hx : p.tables.exec = Jvm.exec) (hb : c.code = cc) (hdg : decode cc pc = .ok (.ifCond .lt off, 3)) (ht : (pc : Int) + off = (tgt : Int)) (kt : x.toInt < 0 → W p l e R s m args below meth c H locs cells slots Q (F0 m tgt ls (rest))) (kf : x.toInt ≥ 0 → W p l e R s m args below meth c H locs cells slots Q (F0 m (pc + 3) ls (rest))) : W p l e R s m args below meth c H locs cells slots Q (F0 m pc ls (.int x :: rest)) := by
  refine lv_if_lt hx hb hdg ht (fun h => kt ?_) (fun h => kf ?_)
  · show x.toInt < (0 : Int32).toInt; exact Int32.lt_iff_toInt_lt.mp h
  · show x.toInt ≥ (0 : Int32).toInt; have := mt Int32.lt_iff_toInt_lt.mpr h; omega
theorem r_icmp_ge {off : Int} {tgt : Nat} (hx : p.tables.exec = Jvm.exec) (hb : c.code = cc) (hdg : decode cc pc = .ok (.if_icmp .ge off, 3)) (ht : (pc : Int) + off = (tgt : Int)) (kt : x.toInt ≥ y.toInt → W p l e R s m args below meth c H locs cells slots Q (F0 m tgt ls (rest))) (kf : x.toInt < y.toInt → W p l e R s m args below meth c H locs cells slots Q (F0 m (pc + 3) ls (rest))) : W p l e R s m args below meth c H locs cells slots Q (F0 m pc ls (.int y :: .int x :: rest)) := by
  refine lv_icmp_ge hx hb hdg ht (fun h => kt ?_) (fun h => kf ?_)
  · exact Int32.le_iff_toInt_le.mp h
  · have := mt Int32.le_iff_toInt_le.mpr h; omega
theorem r_if_ge {off : Int} {tgt : Nat} (hx : p.tables.exec = Jvm.exec) (hb : c.code = cc) (hdg : decode cc pc = .ok (.ifCond .ge off, 3)) (ht : (pc : Int) + off = (tgt : Int)) (kt : x.toInt ≥ 0 → W p l e R s m args below meth c H locs cells slots Q (F0 m tgt ls (rest))) (kf : x.toInt < 0 → W p l e R s m args below meth c H locs cells slots Q (F0 m (pc + 3) ls (rest))) : W p l e R s m args below meth c H locs cells slots Q (F0 m pc ls (.int x :: rest)) := by
  refine lv_if_ge hx hb hdg ht (fun h => kt ?_) (fun h => kf ?_)
  · show x.toInt ≥ (0 : Int32).toInt; exact Int32.le_iff_toInt_le.mp h
  · show x.toInt < (0 : Int32).toInt; have := mt Int32.le_iff_toInt_le.mpr h; omega
theorem r_icmp_gt {off : Int} {tgt : Nat} (hx : p.tables.exec = Jvm.exec) (hb : c.code = cc) (hdg : decode cc pc = .ok (.if_icmp .gt off, 3)) (ht : (pc : Int) + off = (tgt : Int)) (kt : x.toInt > y.toInt → W p l e R s m args below meth c H locs cells slots Q (F0 m tgt ls (rest))) (kf : x.toInt ≤ y.toInt → W p l e R s m args below meth c H locs cells slots Q (F0 m (pc + 3) ls (rest))) : W p l e R s m args below meth c H locs cells slots Q (F0 m pc ls (.int y :: .int x :: rest)) := by
  refine lv_icmp_gt hx hb hdg ht (fun h => kt ?_) (fun h => kf ?_)
  · exact Int32.lt_iff_toInt_lt.mp h
  · have := mt Int32.lt_iff_toInt_lt.mpr h; omega
theorem r_if_gt {off : Int} {tgt : Nat} (hx : p.tables.exec = Jvm.exec) (hb : c.code = cc) (hdg : decode cc pc = .ok (.ifCond .gt off, 3)) (ht : (pc : Int) + off = (tgt : Int)) (kt : x.toInt > 0 → W p l e R s m args below meth c H locs cells slots Q (F0 m tgt ls (rest))) (kf : x.toInt ≤ 0 → W p l e R s m args below meth c H locs cells slots Q (F0 m (pc + 3) ls (rest))) : W p l e R s m args below meth c H locs cells slots Q (F0 m pc ls (.int x :: rest)) := by
  refine lv_if_gt hx hb hdg ht (fun h => kt ?_) (fun h => kf ?_)
  · show x.toInt > (0 : Int32).toInt; exact Int32.lt_iff_toInt_lt.mp h
  · show x.toInt ≤ (0 : Int32).toInt; have := mt Int32.lt_iff_toInt_lt.mpr h; omega
theorem r_icmp_le {off : Int} {tgt : Nat} (hx : p.tables.exec = Jvm.exec) (hb : c.code = cc) (hdg : decode cc pc = .ok (.if_icmp .le off, 3)) (ht : (pc : Int) + off = (tgt : Int)) (kt : x.toInt ≤ y.toInt → W p l e R s m args below meth c H locs cells slots Q (F0 m tgt ls (rest))) (kf : x.toInt > y.toInt → W p l e R s m args below meth c H locs cells slots Q (F0 m (pc + 3) ls (rest))) : W p l e R s m args below meth c H locs cells slots Q (F0 m pc ls (.int y :: .int x :: rest)) := by
  refine lv_icmp_le hx hb hdg ht (fun h => kt ?_) (fun h => kf ?_)
  · exact Int32.le_iff_toInt_le.mp h
  · have := mt Int32.le_iff_toInt_le.mpr h; omega
theorem r_if_le {off : Int} {tgt : Nat} (hx : p.tables.exec = Jvm.exec) (hb : c.code = cc) (hdg : decode cc pc = .ok (.ifCond .le off, 3)) (ht : (pc : Int) + off = (tgt : Int)) (kt : x.toInt ≤ 0 → W p l e R s m args below meth c H locs cells slots Q (F0 m tgt ls (rest))) (kf : x.toInt > 0 → W p l e R s m args below meth c H locs cells slots Q (F0 m (pc + 3) ls (rest))) : W p l e R s m args below meth c H locs cells slots Q (F0 m pc ls (.int x :: rest)) := by
  refine lv_if_le hx hb hdg ht (fun h => kt ?_) (fun h => kf ?_)
  · show x.toInt ≤ (0 : Int32).toInt; exact Int32.le_iff_toInt_le.mp h
  · show x.toInt > (0 : Int32).toInt; have := mt Int32.le_iff_toInt_le.mpr h; omega
end TYI
