def uw (y : MethodName) (cd : ByteArray) (n : Nat) (r : Option FieldType) : List Cond := .code y cd n r :: lw_ok
theorem uw_good {v : Cond} (h : v ∈ lw_ok) : ((v.onTables && v.keeps) = true ∨ ∃ ty, v = .arrayClass ty) := good_of_word (List.mem_filter.mp h).2
theorem uw_G {y : MethodName} {cd : ByteArray} {n : Nat} {r : Option FieldType} (h : Cond.code y cd n r ∈ lw_ok) : GoodIn lw_ok (uw y cd n r) := by
  intro v hv
  have hm : v ∈ lw_ok := by
    rcases List.mem_cons.mp hv with rfl | q
    · exact h
    · exact q
  exact ⟨hm, uw_good hm⟩
abbrev rmF (f lo : Nat) : Room := { frames := f, cells := 0, slots := 0, locals := lo }
/-- a String that the machine holds outside of the pool: coder 0, its byte array t of N -/
def sOK (z : Zt) (U : State) (H : Heap) (q t w : Nat) : Prop := (w < 10 ∧ wdN w ≤ 7) ∧ va_O "java/lang/String" q (zA z) U H ∧ va_OF "java/lang/String" "coder" "B" (.int 0) q (zA z) U H ∧ va_OF "java/lang/String" "value" "[B" (.ref t) q (zA z) U H ∧ va_T .byte t (wdN w) (fun j => .int (Int32.ofInt (wdC w j))) (zA z) U H
theorem sOK.moved {z : Zt} {u U : State} {H : Heap} {q t N : Nat} (hvm : u.vm.Alike U.vm) (h : sOK z u H q t N) : sOK z U H q t N := by
  obtain ⟨h1, h2, h3, h4, h5⟩ := h
  exact ⟨h1, va_O.moved hvm h2, va_OF.moved hvm h3, va_OF.moved hvm h4, va_T.moved hvm h5⟩
theorem sOK.kept {z : Zt} {U : State} {H H1 : Heap} {q t N : Nat} (h : sOK z U H q t N) (hq : ∀ a : Nat, a < H.size → ¬ zA z a → H1[a]? = H[a]?) : sOK z U H1 q t N := by
  obtain ⟨h1, h2, h3, h4, h5⟩ := h
  exact ⟨h1, va_O.kept h2 hq, va_OF.kept h3 hq, va_OF.kept h4 hq, va_T.kept h5 hq⟩
def skT : List String := ["plain", "booted", "bent", "hearth", "cousins", "program", "up", "down", "waltz", "mirror"]
def SK (z : Zt) (U : State) (H : Heap) : Prop := (∀ i : Nat, i < 10 → vk_R "HeelDance$Tape" (140 + 2 * i) (skT.getD i "") (zK z i) U ∧ ∃ t : Nat, sOK z U H (zK z i) t i) ∧ va_Z "java/lang/String" "COMPACT_STRINGS" "Z" (.int 1) (zA z) U H ∧ va_Zq "jdk/internal/util/Preconditions" "SIOOBE_FORMATTER" "Ljava/util/function/BiFunction;" (zA z) U H
theorem SK.warm {z : Zt} {s U : State} {H : Heap} (hW : s.WarmedH U.vm) (h : SK z s H) : SK z U H :=
  ⟨fun i hi => by
    obtain ⟨h1, t, h2⟩ := h.1 i hi
    exact ⟨h1.warm hW, t, h2.moved hW.alike⟩, va_Z.moved hW.alike h.2.1, va_Zq.moved hW.alike h.2.2⟩
theorem SK.same {z : Zt} {u U : State} {H : Heap} (hv : U.vm = u.vm) (h : SK z u H) : SK z U H :=
  ⟨fun i hi => by
    obtain ⟨h1, t, h2⟩ := h.1 i hi
    exact ⟨h1.same hv, t, h2.moved (by rw [hv]; exact Vm.Alike.refl _)⟩, va_Z.moved (by rw [hv]; exact Vm.Alike.refl _) h.2.1, va_Zq.moved (by rw [hv]; exact Vm.Alike.refl _) h.2.2⟩
theorem SK.kept {z : Zt} {U : State} {H H1 : Heap} (h : SK z U H) (hq : ∀ a : Nat, a < H.size → ¬ zA z a → H1[a]? = H[a]?) : SK z U H1 :=
  ⟨fun i hi => by
    obtain ⟨h1, t, h2⟩ := h.1 i hi
    exact ⟨h1, t, h2.kept hq⟩, va_Z.kept h.2.1 hq, va_Zq.kept h.2.2 hq⟩
def PcW (z : Zt) (av : List Value) (P : Heap → Prop) : Array Value → State → Prop := va_Pc av (fun U => P U.heap ∧ va_K (zD z) vwCl (zT z) U ∧ SK z U U.heap)
theorem PcW.blind {z : Zt} {av : List Value} {P : Heap → Prop} : FrameBlind (PcW z av P) := fun a U g mk q => ⟨q.1, q.2.1, va_K.moved (u := U) (U := U.calling g mk a) (Vm.Alike.refl U.vm) q.2.2.1, SK.same (u := U) (U := U.calling g mk a) rfl q.2.2.2⟩
def PcS (z : Zt) (av : List Value) (P : Heap → Prop) (q t N : Nat) : Array Value → State → Prop := va_Pc av (fun U => P U.heap ∧ va_K (zD z) vwCl (zT z) U ∧ SK z U U.heap ∧ sOK z U U.heap q t N)
theorem PcS.blind {z : Zt} {av : List Value} {P : Heap → Prop} {q t N : Nat} : FrameBlind (PcS z av P q t N) := fun a U g mk h => ⟨h.1, h.2.1, va_K.moved (u := U) (U := U.calling g mk a) (Vm.Alike.refl U.vm) h.2.2.1, SK.same (u := U) (U := U.calling g mk a) rfl h.2.2.2.1, sOK.moved (u := U) (U := U.calling g mk a) (Vm.Alike.refl U.vm) h.2.2.2.2⟩
theorem fr_A {A B : Nat → Prop} {H0 H : Heap} {locs : List Loc} (hS : va_S A H0 H locs) (hN : ∀ q, q < H0.size → ¬ B q → ¬ A q) : ∀ a : Nat, a < H0.size → ¬ B a → H[a]? = H0[a]? := fun a h1 h2 => hS.2.1 a h1 (hN a h1 h2)
abbrev QcI (z : Zt) (P : Int32 → Heap → Prop) : Array Value → State → Outcome → State → Prop := va_Qi (S := Int32) (fun r u => r = u) (fun u t => P u t.heap) (zA z)
abbrev QcL (z : Zt) (P : Int64 → Heap → Prop) : Array Value → State → Outcome → State → Prop := va_Ql (S := Int64) (fun r u => r = u) (fun u t => P u t.heap) (zA z)
abbrev QcV (z : Zt) (P : Heap → Prop) : Array Value → State → Outcome → State → Prop := va_Qv (S := Unit) (fun _ => True) (fun _ t => P t.heap) (zA z)
abbrev QcR (z : Zt) (P : Nat → Heap → Prop) : Array Value → State → Outcome → State → Prop := va_Qr (S := Unit) (fun _ => True) (fun _ a t => P a t.heap) (zA z)
/-- what a call needs to know of its callee -/
def cBV (y : MethodName) (cd : ByteArray) (n : Nat) (r : Option FieldType) (k : Nat) : Prop := Cond.instanceMethod y ∈ lw_ok ∧ Cond.selects y.cls y y ∈ lw_ok ∧ Cond.initialized y.cls ∈ lw_ok ∧ Cond.code y cd n r ∈ lw_ok ∧ (y.cls ≠ "java/lang/invoke/MethodHandle" ∧ y.cls ≠ "java/lang/invoke/VarHandle" ∧ (parseMethodDescriptor y.desc).map (fun d => d.parameters.length) = some k)
def cBS (y : MethodName) (cd : ByteArray) (n : Nat) (r : Option FieldType) (k : Nat) : Prop := Cond.static y ∈ lw_ok ∧ Cond.initialized y.cls ∈ lw_ok ∧ Cond.code y cd n r ∈ lw_ok ∧ (y.cls ≠ "java/lang/invoke/MethodHandle" ∧ y.cls ≠ "java/lang/invoke/VarHandle" ∧ (parseMethodDescriptor y.desc).map (fun d => d.parameters.length) = some k)
section TYC
variable {p : Program} {l : Launch} {e : Env} {R : Room} {s : State} {m : MethodId} {args : Array Value} {below : List Frame} {meth : Method} {c : Code} {H H0 : Heap} {locs : List Loc} {cells slots : Nat} {Q : State → Prop}
variable {cc : ByteArray} {pc : Nat} {ls : Array Slot} {rest : List Value} {z : Zt} {A : Nat → Prop} {a o index : Nat} {σ : Sg} {Ts : List Cond} {own : String}
variable {y : MethodName} {bytes : ByteArray} {maxL nL n : Nat} {ret : Option FieldType} {rm : Room} {b : Nat} {As st0 : List Value} {P : Heap → Prop}
theorem cl_Vi {Po : Int32 → Heap → Prop} (hC : CallFix p m c cc nL s args lw_ok own) (hK : va_K (zD z) vwCl (zT z) s) (hSK : SK z s s.heap) (hM : Met l y (uw y bytes maxL ret) rm (PcW z (.ref b :: As) P) (QcI z Po) 0 0 (zA z)) (hk : cBV y bytes maxL ret n) (hl : Cond.methodLink own index y ∈ lw_ok) (hR : rm.cells = 0 ∧ rm.slots = 0 ∧ rm.frames + 1 ≤ R.frames ∧ 8 + (maxL + 11) + rm.locals ≤ R.locals) (hrv : ∃ cell : Cell, H[b]? = some cell ∧ cell.vm.isStatics = false ∧ s.vm.findClass y.cls = some cell.cls) (hp : P H) (hn : As.length = n) (hsz : ls.size = nL) (hst : st0 = As.reverse ++ .ref b :: rest) (hrm : (rest.map fun v => v.category).sum ≤ 8) (hdg : decode cc pc = .ok (.invokevirtual index, 3)) (hf : cells ≤ R.cells ∧ slots ≤ R.slots) (hS : va_S A s.heap H locs) (hAA : ∀ q, zA z q → A q) (hNA : ∀ q, q < s.heap.size → ¬ zA z q → ¬ A q) (kk : ∀ (r : Int32) (H1 : Heap) (locs1 : List Loc), Po r H1 → va_S A s.heap H1 locs1 → W p l e R s m args below meth c H1 locs1 cells slots Q (F0 m (pc + 3) ls (.int r :: rest))) : W p l e R s m args below meth c H locs cells slots Q (F0 m pc ls (st0)) := by
  subst hst
  refine va_calli (va_runV (C := y.cls) hC hM ⟨callB_of n hC.2.2.2.2 (uw_G hk.2.2.2.1) rfl hR.1 hR.2.1 (hC.2.2.2.2 _ hk.2.2.1) (hC.2.2.2.2 _ hl) hk.2.2.2.2 ⟨hR.2.2.1, hR.2.2.2⟩, hC.2.2.2.2 _ hk.1, hC.2.2.2.2 _ hk.2.1⟩ ⟨PcW.blind, hrv, fun U hU hW => ⟨rfl, by rw [hU]; exact hp, va_K.moved hW.alike hK, by rw [hU]; exact (hSK.kept (fr_A hS hNA)).warm hW⟩⟩ rfl hn hsz rfl (lv_room hrm) hdg hf) hS (fun q _ h => hAA q h) (fun q h => hAA q h) (fun r u t H1 locs1 ht hvm hw hB hz1 hk1 hS1 => ?_)
  subst hw; subst ht
  exact kk _ _ _ hB hS1
theorem cl_Vl {Po : Int64 → Heap → Prop} (hC : CallFix p m c cc nL s args lw_ok own) (hK : va_K (zD z) vwCl (zT z) s) (hSK : SK z s s.heap) (hM : Met l y (uw y bytes maxL ret) rm (PcW z (.ref b :: As) P) (QcL z Po) 0 0 (zA z)) (hk : cBV y bytes maxL ret n) (hl : Cond.methodLink own index y ∈ lw_ok) (hR : rm.cells = 0 ∧ rm.slots = 0 ∧ rm.frames + 1 ≤ R.frames ∧ 8 + (maxL + 11) + rm.locals ≤ R.locals) (hrv : ∃ cell : Cell, H[b]? = some cell ∧ cell.vm.isStatics = false ∧ s.vm.findClass y.cls = some cell.cls) (hp : P H) (hn : As.length = n) (hsz : ls.size = nL) (hst : st0 = As.reverse ++ .ref b :: rest) (hrm : (rest.map fun v => v.category).sum ≤ 8) (hdg : decode cc pc = .ok (.invokevirtual index, 3)) (hf : cells ≤ R.cells ∧ slots ≤ R.slots) (hS : va_S A s.heap H locs) (hAA : ∀ q, zA z q → A q) (hNA : ∀ q, q < s.heap.size → ¬ zA z q → ¬ A q) (kk : ∀ (r : Int64) (H1 : Heap) (locs1 : List Loc), Po r H1 → va_S A s.heap H1 locs1 → W p l e R s m args below meth c H1 locs1 cells slots Q (F0 m (pc + 3) ls (.long r :: rest))) : W p l e R s m args below meth c H locs cells slots Q (F0 m pc ls (st0)) := by
  subst hst
  refine va_calll (va_runV (C := y.cls) hC hM ⟨callB_of n hC.2.2.2.2 (uw_G hk.2.2.2.1) rfl hR.1 hR.2.1 (hC.2.2.2.2 _ hk.2.2.1) (hC.2.2.2.2 _ hl) hk.2.2.2.2 ⟨hR.2.2.1, hR.2.2.2⟩, hC.2.2.2.2 _ hk.1, hC.2.2.2.2 _ hk.2.1⟩ ⟨PcW.blind, hrv, fun U hU hW => ⟨rfl, by rw [hU]; exact hp, va_K.moved hW.alike hK, by rw [hU]; exact (hSK.kept (fr_A hS hNA)).warm hW⟩⟩ rfl hn hsz rfl (lv_room hrm) hdg hf) hS (fun q _ h => hAA q h) (fun q h => hAA q h) (fun r u t H1 locs1 ht hvm hw hB hz1 hk1 hS1 => ?_)
  subst hw; subst ht
  exact kk _ _ _ hB hS1
theorem cl_Vv {Po : Heap → Prop} (hC : CallFix p m c cc nL s args lw_ok own) (hK : va_K (zD z) vwCl (zT z) s) (hSK : SK z s s.heap) (hM : Met l y (uw y bytes maxL ret) rm (PcW z (.ref b :: As) P) (QcV z Po) 0 0 (zA z)) (hk : cBV y bytes maxL ret n) (hl : Cond.methodLink own index y ∈ lw_ok) (hR : rm.cells = 0 ∧ rm.slots = 0 ∧ rm.frames + 1 ≤ R.frames ∧ 8 + (maxL + 11) + rm.locals ≤ R.locals) (hrv : ∃ cell : Cell, H[b]? = some cell ∧ cell.vm.isStatics = false ∧ s.vm.findClass y.cls = some cell.cls) (hp : P H) (hn : As.length = n) (hsz : ls.size = nL) (hst : st0 = As.reverse ++ .ref b :: rest) (hrm : (rest.map fun v => v.category).sum ≤ 8) (hdg : decode cc pc = .ok (.invokevirtual index, 3)) (hf : cells ≤ R.cells ∧ slots ≤ R.slots) (hS : va_S A s.heap H locs) (hAA : ∀ q, zA z q → A q) (hNA : ∀ q, q < s.heap.size → ¬ zA z q → ¬ A q) (kk : ∀ (H1 : Heap) (locs1 : List Loc), Po H1 → va_S A s.heap H1 locs1 → W p l e R s m args below meth c H1 locs1 cells slots Q (F0 m (pc + 3) ls (rest))) : W p l e R s m args below meth c H locs cells slots Q (F0 m pc ls (st0)) := by
  subst hst
  refine va_callv (va_runV (C := y.cls) hC hM ⟨callB_of n hC.2.2.2.2 (uw_G hk.2.2.2.1) rfl hR.1 hR.2.1 (hC.2.2.2.2 _ hk.2.2.1) (hC.2.2.2.2 _ hl) hk.2.2.2.2 ⟨hR.2.2.1, hR.2.2.2⟩, hC.2.2.2.2 _ hk.1, hC.2.2.2.2 _ hk.2.1⟩ ⟨PcW.blind, hrv, fun U hU hW => ⟨rfl, by rw [hU]; exact hp, va_K.moved hW.alike hK, by rw [hU]; exact (hSK.kept (fr_A hS hNA)).warm hW⟩⟩ rfl hn hsz rfl (lv_room hrm) hdg hf) hS (fun q _ h => hAA q h) (fun q h => hAA q h) (fun u t H1 locs1 ht hvm hw hB hz1 hk1 hS1 => ?_)
  subst ht
  exact kk _ _ hB hS1
theorem cl_Vr {Po : Nat → Heap → Prop} (hC : CallFix p m c cc nL s args lw_ok own) (hK : va_K (zD z) vwCl (zT z) s) (hSK : SK z s s.heap) (hM : Met l y (uw y bytes maxL ret) rm (PcW z (.ref b :: As) P) (QcR z Po) 0 0 (zA z)) (hk : cBV y bytes maxL ret n) (hl : Cond.methodLink own index y ∈ lw_ok) (hR : rm.cells = 0 ∧ rm.slots = 0 ∧ rm.frames + 1 ≤ R.frames ∧ 8 + (maxL + 11) + rm.locals ≤ R.locals) (hrv : ∃ cell : Cell, H[b]? = some cell ∧ cell.vm.isStatics = false ∧ s.vm.findClass y.cls = some cell.cls) (hp : P H) (hn : As.length = n) (hsz : ls.size = nL) (hst : st0 = As.reverse ++ .ref b :: rest) (hrm : (rest.map fun v => v.category).sum ≤ 8) (hdg : decode cc pc = .ok (.invokevirtual index, 3)) (hf : cells ≤ R.cells ∧ slots ≤ R.slots) (hS : va_S A s.heap H locs) (hAA : ∀ q, zA z q → A q) (hNA : ∀ q, q < s.heap.size → ¬ zA z q → ¬ A q) (kk : ∀ (r : Nat) (H1 : Heap) (locs1 : List Loc), Po r H1 → va_S A s.heap H1 locs1 → W p l e R s m args below meth c H1 locs1 cells slots Q (F0 m (pc + 3) ls (.ref r :: rest))) : W p l e R s m args below meth c H locs cells slots Q (F0 m pc ls (st0)) := by
  subst hst
  refine va_callr (va_runV (C := y.cls) hC hM ⟨callB_of n hC.2.2.2.2 (uw_G hk.2.2.2.1) rfl hR.1 hR.2.1 (hC.2.2.2.2 _ hk.2.2.1) (hC.2.2.2.2 _ hl) hk.2.2.2.2 ⟨hR.2.2.1, hR.2.2.2⟩, hC.2.2.2.2 _ hk.1, hC.2.2.2.2 _ hk.2.1⟩ ⟨PcW.blind, hrv, fun U hU hW => ⟨rfl, by rw [hU]; exact hp, va_K.moved hW.alike hK, by rw [hU]; exact (hSK.kept (fr_A hS hNA)).warm hW⟩⟩ rfl hn hsz rfl (lv_room hrm) hdg hf) hS (fun q _ h => hAA q h) (fun q h => hAA q h) (fun u r t H1 locs1 ht hvm hw hB hz1 hk1 hS1 => ?_)
  subst ht
  exact kk _ _ _ hB hS1
theorem cl_Si {Po : Int32 → Heap → Prop} (hC : CallFix p m c cc nL s args lw_ok own) (hK : va_K (zD z) vwCl (zT z) s) (hSK : SK z s s.heap) (hM : Met l y (uw y bytes maxL ret) rm (PcW z As P) (QcI z Po) 0 0 (zA z)) (hk : cBS y bytes maxL ret n) (hl : Cond.methodLink own index y ∈ lw_ok) (hR : rm.cells = 0 ∧ rm.slots = 0 ∧ rm.frames + 1 ≤ R.frames ∧ 8 + (maxL + 11) + rm.locals ≤ R.locals) (hp : P H) (hn : As.length = n) (hsz : ls.size = nL) (hst : st0 = As.reverse ++ rest) (hrm : (rest.map fun v => v.category).sum ≤ 8) (hdg : decode cc pc = .ok (.invokestatic index, 3)) (hf : cells ≤ R.cells ∧ slots ≤ R.slots) (hS : va_S A s.heap H locs) (hAA : ∀ q, zA z q → A q) (hNA : ∀ q, q < s.heap.size → ¬ zA z q → ¬ A q) (kk : ∀ (r : Int32) (H1 : Heap) (locs1 : List Loc), Po r H1 → va_S A s.heap H1 locs1 → W p l e R s m args below meth c H1 locs1 cells slots Q (F0 m (pc + 3) ls (.int r :: rest))) : W p l e R s m args below meth c H locs cells slots Q (F0 m pc ls (st0)) := by
  subst hst
  refine va_calli (va_runS hC hM ⟨callB_of n hC.2.2.2.2 (uw_G hk.2.2.1) rfl hR.1 hR.2.1 (hC.2.2.2.2 _ hk.2.1) (hC.2.2.2.2 _ hl) hk.2.2.2 ⟨hR.2.2.1, hR.2.2.2⟩, hC.2.2.2.2 _ hk.1⟩ ⟨PcW.blind, fun U hU hW => ⟨rfl, by rw [hU]; exact hp, va_K.moved hW.alike hK, by rw [hU]; exact (hSK.kept (fr_A hS hNA)).warm hW⟩⟩ rfl hn hsz rfl (lv_room hrm) hdg hf) hS (fun q _ h => hAA q h) (fun q h => hAA q h) (fun r u t H1 locs1 ht hvm hw hB hz1 hk1 hS1 => ?_)
  subst hw; subst ht
  exact kk _ _ _ hB hS1
theorem cl_Sl {Po : Int64 → Heap → Prop} (hC : CallFix p m c cc nL s args lw_ok own) (hK : va_K (zD z) vwCl (zT z) s) (hSK : SK z s s.heap) (hM : Met l y (uw y bytes maxL ret) rm (PcW z As P) (QcL z Po) 0 0 (zA z)) (hk : cBS y bytes maxL ret n) (hl : Cond.methodLink own index y ∈ lw_ok) (hR : rm.cells = 0 ∧ rm.slots = 0 ∧ rm.frames + 1 ≤ R.frames ∧ 8 + (maxL + 11) + rm.locals ≤ R.locals) (hp : P H) (hn : As.length = n) (hsz : ls.size = nL) (hst : st0 = As.reverse ++ rest) (hrm : (rest.map fun v => v.category).sum ≤ 8) (hdg : decode cc pc = .ok (.invokestatic index, 3)) (hf : cells ≤ R.cells ∧ slots ≤ R.slots) (hS : va_S A s.heap H locs) (hAA : ∀ q, zA z q → A q) (hNA : ∀ q, q < s.heap.size → ¬ zA z q → ¬ A q) (kk : ∀ (r : Int64) (H1 : Heap) (locs1 : List Loc), Po r H1 → va_S A s.heap H1 locs1 → W p l e R s m args below meth c H1 locs1 cells slots Q (F0 m (pc + 3) ls (.long r :: rest))) : W p l e R s m args below meth c H locs cells slots Q (F0 m pc ls (st0)) := by
  subst hst
  refine va_calll (va_runS hC hM ⟨callB_of n hC.2.2.2.2 (uw_G hk.2.2.1) rfl hR.1 hR.2.1 (hC.2.2.2.2 _ hk.2.1) (hC.2.2.2.2 _ hl) hk.2.2.2 ⟨hR.2.2.1, hR.2.2.2⟩, hC.2.2.2.2 _ hk.1⟩ ⟨PcW.blind, fun U hU hW => ⟨rfl, by rw [hU]; exact hp, va_K.moved hW.alike hK, by rw [hU]; exact (hSK.kept (fr_A hS hNA)).warm hW⟩⟩ rfl hn hsz rfl (lv_room hrm) hdg hf) hS (fun q _ h => hAA q h) (fun q h => hAA q h) (fun r u t H1 locs1 ht hvm hw hB hz1 hk1 hS1 => ?_)
  subst hw; subst ht
  exact kk _ _ _ hB hS1
theorem cl_Sv {Po : Heap → Prop} (hC : CallFix p m c cc nL s args lw_ok own) (hK : va_K (zD z) vwCl (zT z) s) (hSK : SK z s s.heap) (hM : Met l y (uw y bytes maxL ret) rm (PcW z As P) (QcV z Po) 0 0 (zA z)) (hk : cBS y bytes maxL ret n) (hl : Cond.methodLink own index y ∈ lw_ok) (hR : rm.cells = 0 ∧ rm.slots = 0 ∧ rm.frames + 1 ≤ R.frames ∧ 8 + (maxL + 11) + rm.locals ≤ R.locals) (hp : P H) (hn : As.length = n) (hsz : ls.size = nL) (hst : st0 = As.reverse ++ rest) (hrm : (rest.map fun v => v.category).sum ≤ 8) (hdg : decode cc pc = .ok (.invokestatic index, 3)) (hf : cells ≤ R.cells ∧ slots ≤ R.slots) (hS : va_S A s.heap H locs) (hAA : ∀ q, zA z q → A q) (hNA : ∀ q, q < s.heap.size → ¬ zA z q → ¬ A q) (kk : ∀ (H1 : Heap) (locs1 : List Loc), Po H1 → va_S A s.heap H1 locs1 → W p l e R s m args below meth c H1 locs1 cells slots Q (F0 m (pc + 3) ls (rest))) : W p l e R s m args below meth c H locs cells slots Q (F0 m pc ls (st0)) := by
  subst hst
  refine va_callv (va_runS hC hM ⟨callB_of n hC.2.2.2.2 (uw_G hk.2.2.1) rfl hR.1 hR.2.1 (hC.2.2.2.2 _ hk.2.1) (hC.2.2.2.2 _ hl) hk.2.2.2 ⟨hR.2.2.1, hR.2.2.2⟩, hC.2.2.2.2 _ hk.1⟩ ⟨PcW.blind, fun U hU hW => ⟨rfl, by rw [hU]; exact hp, va_K.moved hW.alike hK, by rw [hU]; exact (hSK.kept (fr_A hS hNA)).warm hW⟩⟩ rfl hn hsz rfl (lv_room hrm) hdg hf) hS (fun q _ h => hAA q h) (fun q h => hAA q h) (fun u t H1 locs1 ht hvm hw hB hz1 hk1 hS1 => ?_)
  subst ht
  exact kk _ _ hB hS1
theorem cl_Sr {Po : Nat → Heap → Prop} (hC : CallFix p m c cc nL s args lw_ok own) (hK : va_K (zD z) vwCl (zT z) s) (hSK : SK z s s.heap) (hM : Met l y (uw y bytes maxL ret) rm (PcW z As P) (QcR z Po) 0 0 (zA z)) (hk : cBS y bytes maxL ret n) (hl : Cond.methodLink own index y ∈ lw_ok) (hR : rm.cells = 0 ∧ rm.slots = 0 ∧ rm.frames + 1 ≤ R.frames ∧ 8 + (maxL + 11) + rm.locals ≤ R.locals) (hp : P H) (hn : As.length = n) (hsz : ls.size = nL) (hst : st0 = As.reverse ++ rest) (hrm : (rest.map fun v => v.category).sum ≤ 8) (hdg : decode cc pc = .ok (.invokestatic index, 3)) (hf : cells ≤ R.cells ∧ slots ≤ R.slots) (hS : va_S A s.heap H locs) (hAA : ∀ q, zA z q → A q) (hNA : ∀ q, q < s.heap.size → ¬ zA z q → ¬ A q) (kk : ∀ (r : Nat) (H1 : Heap) (locs1 : List Loc), Po r H1 → va_S A s.heap H1 locs1 → W p l e R s m args below meth c H1 locs1 cells slots Q (F0 m (pc + 3) ls (.ref r :: rest))) : W p l e R s m args below meth c H locs cells slots Q (F0 m pc ls (st0)) := by
  subst hst
  refine va_callr (va_runS hC hM ⟨callB_of n hC.2.2.2.2 (uw_G hk.2.2.1) rfl hR.1 hR.2.1 (hC.2.2.2.2 _ hk.2.1) (hC.2.2.2.2 _ hl) hk.2.2.2 ⟨hR.2.2.1, hR.2.2.2⟩, hC.2.2.2.2 _ hk.1⟩ ⟨PcW.blind, fun U hU hW => ⟨rfl, by rw [hU]; exact hp, va_K.moved hW.alike hK, by rw [hU]; exact (hSK.kept (fr_A hS hNA)).warm hW⟩⟩ rfl hn hsz rfl (lv_room hrm) hdg hf) hS (fun q _ h => hAA q h) (fun q h => hAA q h) (fun u r t H1 locs1 ht hvm hw hB hz1 hk1 hS1 => ?_)
  subst ht
  exact kk _ _ _ hB hS1
theorem cs_Vi {Po : Int32 → Heap → Prop} {qs ts N : Nat} (hC : CallFix p m c cc nL s args lw_ok own) (hK : va_K (zD z) vwCl (zT z) s) (hSK : SK z s s.heap) (hsq : sOK z s s.heap qs ts N) (hM : Met l y (uw y bytes maxL ret) rm (PcS z (.ref b :: As) P qs ts N) (QcI z Po) 0 0 (zA z)) (hk : cBV y bytes maxL ret n) (hl : Cond.methodLink own index y ∈ lw_ok) (hR : rm.cells = 0 ∧ rm.slots = 0 ∧ rm.frames + 1 ≤ R.frames ∧ 8 + (maxL + 11) + rm.locals ≤ R.locals) (hrv : ∃ cell : Cell, H[b]? = some cell ∧ cell.vm.isStatics = false ∧ s.vm.findClass y.cls = some cell.cls) (hp : P H) (hn : As.length = n) (hsz : ls.size = nL) (hst : st0 = As.reverse ++ .ref b :: rest) (hrm : (rest.map fun v => v.category).sum ≤ 8) (hdg : decode cc pc = .ok (.invokevirtual index, 3)) (hf : cells ≤ R.cells ∧ slots ≤ R.slots) (hS : va_S A s.heap H locs) (hAA : ∀ q, zA z q → A q) (hNA : ∀ q, q < s.heap.size → ¬ zA z q → ¬ A q) (kk : ∀ (r : Int32) (H1 : Heap) (locs1 : List Loc), Po r H1 → va_S A s.heap H1 locs1 → W p l e R s m args below meth c H1 locs1 cells slots Q (F0 m (pc + 3) ls (.int r :: rest))) : W p l e R s m args below meth c H locs cells slots Q (F0 m pc ls (st0)) := by
  subst hst
  refine va_calli (va_runV (C := y.cls) hC hM ⟨callB_of n hC.2.2.2.2 (uw_G hk.2.2.2.1) rfl hR.1 hR.2.1 (hC.2.2.2.2 _ hk.2.2.1) (hC.2.2.2.2 _ hl) hk.2.2.2.2 ⟨hR.2.2.1, hR.2.2.2⟩, hC.2.2.2.2 _ hk.1, hC.2.2.2.2 _ hk.2.1⟩ ⟨PcS.blind, hrv, fun U hU hW => ⟨rfl, by rw [hU]; exact hp, va_K.moved hW.alike hK, by rw [hU]; exact (hSK.kept (fr_A hS hNA)).warm hW, by rw [hU]; exact (hsq.kept (fr_A hS hNA)).moved hW.alike⟩⟩ rfl hn hsz rfl (lv_room hrm) hdg hf) hS (fun q _ h => hAA q h) (fun q h => hAA q h) (fun r u t H1 locs1 ht hvm hw hB hz1 hk1 hS1 => ?_)
  subst hw; subst ht
  exact kk _ _ _ hB hS1
theorem cs_Si {Po : Int32 → Heap → Prop} {qs ts N : Nat} (hC : CallFix p m c cc nL s args lw_ok own) (hK : va_K (zD z) vwCl (zT z) s) (hSK : SK z s s.heap) (hsq : sOK z s s.heap qs ts N) (hM : Met l y (uw y bytes maxL ret) rm (PcS z As P qs ts N) (QcI z Po) 0 0 (zA z)) (hk : cBS y bytes maxL ret n) (hl : Cond.methodLink own index y ∈ lw_ok) (hR : rm.cells = 0 ∧ rm.slots = 0 ∧ rm.frames + 1 ≤ R.frames ∧ 8 + (maxL + 11) + rm.locals ≤ R.locals) (hp : P H) (hn : As.length = n) (hsz : ls.size = nL) (hst : st0 = As.reverse ++ rest) (hrm : (rest.map fun v => v.category).sum ≤ 8) (hdg : decode cc pc = .ok (.invokestatic index, 3)) (hf : cells ≤ R.cells ∧ slots ≤ R.slots) (hS : va_S A s.heap H locs) (hAA : ∀ q, zA z q → A q) (hNA : ∀ q, q < s.heap.size → ¬ zA z q → ¬ A q) (kk : ∀ (r : Int32) (H1 : Heap) (locs1 : List Loc), Po r H1 → va_S A s.heap H1 locs1 → W p l e R s m args below meth c H1 locs1 cells slots Q (F0 m (pc + 3) ls (.int r :: rest))) : W p l e R s m args below meth c H locs cells slots Q (F0 m pc ls (st0)) := by
  subst hst
  refine va_calli (va_runS hC hM ⟨callB_of n hC.2.2.2.2 (uw_G hk.2.2.1) rfl hR.1 hR.2.1 (hC.2.2.2.2 _ hk.2.1) (hC.2.2.2.2 _ hl) hk.2.2.2 ⟨hR.2.2.1, hR.2.2.2⟩, hC.2.2.2.2 _ hk.1⟩ ⟨PcS.blind, fun U hU hW => ⟨rfl, by rw [hU]; exact hp, va_K.moved hW.alike hK, by rw [hU]; exact (hSK.kept (fr_A hS hNA)).warm hW, by rw [hU]; exact (hsq.kept (fr_A hS hNA)).moved hW.alike⟩⟩ rfl hn hsz rfl (lv_room hrm) hdg hf) hS (fun q _ h => hAA q h) (fun q h => hAA q h) (fun r u t H1 locs1 ht hvm hw hB hz1 hk1 hS1 => ?_)
  subst hw; subst ht
  exact kk _ _ _ hB hS1
end TYC
section TYT
variable {p : Program} {l : Launch} {e : Env} {R : Room} {s : State} {m : MethodId} {args : Array Value} {below : List Frame} {meth : Method} {c : Code} {H H0 : Heap} {locs : List Loc} {cells slots : Nat} {Q : State → Prop}
variable {cc : ByteArray} {pc : Nat} {ls : Array Slot} {rest : List Value} {z : Zt} {A : Nat → Prop} {a o index : Nat} {σ : Sg} {Ts : List Cond} {own : String}
theorem rt_i {v : Int32} {Po : Int32 → Heap → Prop} (hx : p.tables.exec = Jvm.exec) (hb : c.code = cc) (hr : meth.sig.returnType = some .int) (hlk : meth.locks = false) (hS : va_S (zA z) s.heap H locs) (hpo : Po v H) (hdg : decode cc pc = .ok (.ireturn, 1)) : W p l e R s m args below meth c H locs 0 0 (MQ below (QcI z Po) args s 0 0 (zA z)) (F0 m pc ls [.int v]) := W.iret hx hb hr (fun t ht hW => ⟨⟨v, v, rfl, rfl, by show Po v t.heap; rw [ht]; exact hpo⟩, hS.F ht⟩) hS.2.2 hdg hlk
theorem rt_z {v : Int32} {Po : Int32 → Heap → Prop} (hx : p.tables.exec = Jvm.exec) (hb : c.code = cc) (hr : meth.sig.returnType = some .boolean) (hlk : meth.locks = false) (hS : va_S (zA z) s.heap H locs) (h1 : 0 ≤ v.toInt) (h2 : v.toInt ≤ 1) (hpo : Po v H) (hdg : decode cc pc = .ok (.ireturn, 1)) : W p l e R s m args below meth c H locs 0 0 (MQ below (QcI z Po) args s 0 0 (zA z)) (F0 m pc ls [.int v]) := W.zret hx hb hr (bo_n h1 h2) (fun t ht hW => ⟨⟨v, v, rfl, rfl, by show Po v t.heap; rw [ht]; exact hpo⟩, hS.F ht⟩) hS.2.2 hdg hlk
theorem rt_l {v : Int64} {Po : Int64 → Heap → Prop} (hx : p.tables.exec = Jvm.exec) (hb : c.code = cc) (hr : meth.sig.returnType = some .long) (hlk : meth.locks = false) (hS : va_S (zA z) s.heap H locs) (hpo : Po v H) (hdg : decode cc pc = .ok (.lreturn, 1)) : W p l e R s m args below meth c H locs 0 0 (MQ below (QcL z Po) args s 0 0 (zA z)) (F0 m pc ls [.long v]) := W.lret hx hb hr (fun t ht hW => ⟨⟨v, v, rfl, rfl, by show Po v t.heap; rw [ht]; exact hpo⟩, hS.F ht⟩) hS.2.2 hdg hlk
theorem rt_v {Po : Heap → Prop} (hx : p.tables.exec = Jvm.exec) (hb : c.code = cc) (hr : meth.sig.returnType = none) (hlk : meth.locks = false) (hS : va_S (zA z) s.heap H locs) (hpo : Po H) (hdg : decode cc pc = .ok (.return_, 1)) : W p l e R s m args below meth c H locs 0 0 (MQ below (QcV z Po) args s 0 0 (zA z)) (F0 m pc ls []) := W.vret hx hb hr (fun t ht hW => ⟨⟨(), rfl, trivial, by show Po t.heap; rw [ht]; exact hpo⟩, hS.F ht⟩) hS.2.2 hdg hlk
theorem rt_r {v : Nat} {rt : FieldType} {Po : Nat → Heap → Prop} (hx : p.tables.exec = Jvm.exec) (hb : c.code = cc) (hr : meth.sig.returnType = some rt) (hrt : (∃ n, rt = .object n) ∨ ∃ t, rt = .array t) (hlk : meth.locks = false) (hS : va_S (zA z) s.heap H locs) (hpo : Po v H) (hdg : decode cc pc = .ok (.areturn, 1)) : W p l e R s m args below meth c H locs 0 0 (MQ below (QcR z Po) args s 0 0 (zA z)) (F0 m pc ls [.ref v]) := W.aret hx hb hr hrt (Or.inr ⟨v, rfl⟩) (fun t ht hW => ⟨⟨(), v, rfl, trivial, by show Po v t.heap; rw [ht]; exact hpo⟩, hS.F ht⟩) hS.2.2 hdg hlk
theorem r_iinc {i nL k : Nat} {n : Int} {x : Int32} {lv : List (Nat × Value)} {lv' : Int32 → List (Nat × Value)} (hx : p.tables.exec = Jvm.exec) (hb : c.code = cc) (hdg : decode cc pc = .ok (.iinc i n, 3)) (h : lv_has ls nL lv) (hk : lv[k]? = some (i, .int x)) (hn : i < nL) (hl : ∀ v : Int32, (i, Value.int v) :: lv.filter (fun q => !(q.1 == i) && !(q.1 + 1 == i && q.2.category == 2)) = lv' v) (hr : -2147483648 ≤ n ∧ n ≤ 2147483647) (h1 : -2147483648 ≤ x.toInt + n) (h2 : x.toInt + n ≤ 2147483647) (kk : ∀ (v : Int32) (ls' : Array Slot), v.toInt = x.toInt + n → lv_has ls' nL (lv' v) → W p l e R s m args below meth c H locs cells slots Q (F0 m (pc + 3) ls' rest)) : W p l e R s m args below meth c H locs cells slots Q (F0 m pc ls (rest)) := by
  refine lv_iinc hx hb hdg h hk rfl hn (hl _) (fun ls' hl' => kk _ ls' ?_ hl')
  have e := i_ofI (n := n) hr.1 hr.2
  rw [i_add (by rw [e]; exact h1) (by rw [e]; exact h2), e]
theorem w_iinc {i nL k : Nat} {n : Int} {x : Int32} {lv : List (Nat × Value)} {lv' : Int32 → List (Nat × Value)} (hx : p.tables.exec = Jvm.exec) (hb : c.code = cc) (hdg : decode cc pc = .ok (.iinc i n, 3)) (h : lv_has ls nL lv) (hk : lv[k]? = some (i, .int x)) (hn : i < nL) (hl : ∀ v : Int32, (i, Value.int v) :: lv.filter (fun q => !(q.1 == i) && !(q.1 + 1 == i && q.2.category == 2)) = lv' v) (kk : ∀ (v : Int32) (ls' : Array Slot), lv_has ls' nL (lv' v) → W p l e R s m args below meth c H locs cells slots Q (F0 m (pc + 3) ls' rest)) : W p l e R s m args below meth c H locs cells slots Q (F0 m pc ls (rest)) := lv_iinc hx hb hdg h hk rfl hn (hl _) (fun ls' hl' => kk _ ls' hl')
variable {x y : Int32}
theorem i_ne0 {y : Int32} (h : y.toInt ≠ 0) : ¬ y = 0 := fun q => h (by rw [q]; rfl)
theorem i_nI {x : Int32} (h : 0 ≤ x.toInt) : ∃ j : Nat, j < 2 ^ 31 ∧ x = nI j ∧ (j : Int) = x.toInt := by
  obtain ⟨j, h1, h2⟩ := nI_of (x := x) (fun q => by have := Int32.lt_iff_toInt_lt.mp q; have e : (0 : Int32).toInt = 0 := rfl; omega)
  exact ⟨j, h1, h2, by rw [h2, nI_toInt h1]⟩
theorem i_rem {x y : Int32} (h0 : 0 ≤ x.toInt) (h1 : 0 < y.toInt) : (x - x / y * y).toInt = x.toInt % y.toInt := by
  obtain ⟨i, a1, a2, a3⟩ := i_nI h0
  obtain ⟨j, b1, b2, b3⟩ := i_nI (Int.le_of_lt h1)
  rw [a2, b2, pk_rem a1 (by omega) b1, nI_toInt (Nat.lt_of_le_of_lt (Nat.mod_le _ _) a1), nI_toInt a1, nI_toInt b1]
  rfl
theorem i_div {x y : Int32} (h0 : 0 ≤ x.toInt) (h1 : 0 < y.toInt) : (x / y).toInt = x.toInt / y.toInt := by
  obtain ⟨i, a1, a2, a3⟩ := i_nI h0
  obtain ⟨j, b1, b2, b3⟩ := i_nI (Int.le_of_lt h1)
  rw [a2, b2, pk_div a1 (by omega) b1, nI_toInt (Nat.lt_of_le_of_lt (Nat.div_le_self _ _) a1), nI_toInt a1, nI_toInt b1]
  rfl
theorem i_shl {x y : Int32} (hx : x.toInt = 1) (h0 : 0 ≤ y.toInt) (h1 : y.toInt ≤ 8) : (x <<< (y &&& 31)).toInt = 2 ^ y.toInt.toNat := by
  have ex : x = 1 := Int32.toInt_inj.mp hx
  subst ex
  have h : y.toInt = 0 ∨ y.toInt = 1 ∨ y.toInt = 2 ∨ y.toInt = 3 ∨ y.toInt = 4 ∨ y.toInt = 5 ∨ y.toInt = 6 ∨ y.toInt = 7 ∨ y.toInt = 8 := by omega
  rcases h with h | h | h | h | h | h | h | h | h
  · have e : y = 0 := Int32.toInt_inj.mp h
    subst e; decide
  · have e : y = 1 := Int32.toInt_inj.mp h
    subst e; decide
  · have e : y = 2 := Int32.toInt_inj.mp h
    subst e; decide
  · have e : y = 3 := Int32.toInt_inj.mp h
    subst e; decide
  · have e : y = 4 := Int32.toInt_inj.mp h
    subst e; decide
  · have e : y = 5 := Int32.toInt_inj.mp h
    subst e; decide
  · have e : y = 6 := Int32.toInt_inj.mp h
    subst e; decide
  · have e : y = 7 := Int32.toInt_inj.mp h
    subst e; decide
  · have e : y = 8 := Int32.toInt_inj.mp h
    subst e; decide
theorem i_pw {n : Int} (h0 : 0 ≤ n) (h1 : n ≤ 8) : (1 : Int) ≤ 2 ^ n.toNat ∧ (2 : Int) ^ n.toNat ≤ 256 := by
  have h : n = 0 ∨ n = 1 ∨ n = 2 ∨ n = 3 ∨ n = 4 ∨ n = 5 ∨ n = 6 ∨ n = 7 ∨ n = 8 := by omega
  rcases h with rfl | rfl | rfl | rfl | rfl | rfl | rfl | rfl | rfl <;> decide
theorem r_irem (hx : p.tables.exec = Jvm.exec) (hb : c.code = cc) (hdg : decode cc pc = .ok (.irem, 1)) (h0 : 0 ≤ x.toInt) (h1 : 0 < y.toInt) (kk : ∀ w : Int32, w.toInt = x.toInt % y.toInt → 0 ≤ w.toInt → w.toInt < y.toInt → W p l e R s m args below meth c H locs cells slots Q (F0 m (pc + 1) ls (.int w :: rest))) : W p l e R s m args below meth c H locs cells slots Q (F0 m pc ls (.int y :: .int x :: rest)) := lv_irem hx hb hdg (i_ne0 (by omega)) (kk _ (i_rem h0 h1) (by rw [i_rem h0 h1]; exact Int.emod_nonneg _ (by omega)) (by rw [i_rem h0 h1]; exact Int.emod_lt_of_pos _ h1))
theorem w_irem (hx : p.tables.exec = Jvm.exec) (hb : c.code = cc) (hdg : decode cc pc = .ok (.irem, 1)) (h1 : y.toInt ≠ 0) (kk : ∀ w : Int32, W p l e R s m args below meth c H locs cells slots Q (F0 m (pc + 1) ls (.int w :: rest))) : W p l e R s m args below meth c H locs cells slots Q (F0 m pc ls (.int y :: .int x :: rest)) := lv_irem hx hb hdg (i_ne0 h1) (kk _)
theorem r_idiv (hx : p.tables.exec = Jvm.exec) (hb : c.code = cc) (hdg : decode cc pc = .ok (.idiv, 1)) (h0 : 0 ≤ x.toInt) (h1 : 0 < y.toInt) (kk : ∀ w : Int32, w.toInt = x.toInt / y.toInt → 0 ≤ w.toInt → w.toInt ≤ x.toInt → W p l e R s m args below meth c H locs cells slots Q (F0 m (pc + 1) ls (.int w :: rest))) : W p l e R s m args below meth c H locs cells slots Q (F0 m pc ls (.int y :: .int x :: rest)) := lv_idiv hx hb hdg (i_ne0 (by omega)) (kk _ (i_div h0 h1) (by rw [i_div h0 h1]; exact Int.ediv_nonneg h0 (by omega)) (by rw [i_div h0 h1]; exact Int.ediv_le_self _ h0))
theorem w_idiv (hx : p.tables.exec = Jvm.exec) (hb : c.code = cc) (hdg : decode cc pc = .ok (.idiv, 1)) (h1 : y.toInt ≠ 0) (kk : ∀ w : Int32, W p l e R s m args below meth c H locs cells slots Q (F0 m (pc + 1) ls (.int w :: rest))) : W p l e R s m args below meth c H locs cells slots Q (F0 m pc ls (.int y :: .int x :: rest)) := lv_idiv hx hb hdg (i_ne0 h1) (kk _)
theorem r_shl1 (hx : p.tables.exec = Jvm.exec) (hb : c.code = cc) (hdg : decode cc pc = .ok (.ishl, 1)) (h1 : x.toInt = 1) (h2 : 0 ≤ y.toInt) (h3 : y.toInt ≤ 8) (kk : ∀ w : Int32, w.toInt = 2 ^ y.toInt.toNat → 1 ≤ w.toInt → w.toInt ≤ 256 → W p l e R s m args below meth c H locs cells slots Q (F0 m (pc + 1) ls (.int w :: rest))) : W p l e R s m args below meth c H locs cells slots Q (F0 m pc ls (.int y :: .int x :: rest)) := lv_ishl hx hb hdg (kk _ (i_shl h1 h2 h3) (by rw [i_shl h1 h2 h3]; exact (i_pw h2 h3).1) (by rw [i_shl h1 h2 h3]; exact (i_pw h2 h3).2))
theorem w_iushr (hx : p.tables.exec = Jvm.exec) (hb : c.code = cc) (hdg : decode cc pc = .ok (.iushr, 1)) (kk : ∀ w : Int32, W p l e R s m args below meth c H locs cells slots Q (F0 m (pc + 1) ls (.int w :: rest))) : W p l e R s m args below meth c H locs cells slots Q (F0 m pc ls (.int y :: .int x :: rest)) := lv_iushr hx hb hdg rfl (kk _)
theorem w_i2b (hx : p.tables.exec = Jvm.exec) (hb : c.code = cc) (hdg : decode cc pc = .ok (.i2b, 1)) (kk : ∀ w : Int32, W p l e R s m args below meth c H locs cells slots Q (F0 m (pc + 1) ls (.int w :: rest))) : W p l e R s m args below meth c H locs cells slots Q (F0 m pc ls (.int x :: rest)) := lv_i2b hx hb hdg rfl (kk _)
theorem w_i2s (hx : p.tables.exec = Jvm.exec) (hb : c.code = cc) (hdg : decode cc pc = .ok (.i2s, 1)) (kk : ∀ w : Int32, W p l e R s m args below meth c H locs cells slots Q (F0 m (pc + 1) ls (.int w :: rest))) : W p l e R s m args below meth c H locs cells slots Q (F0 m pc ls (.int x :: rest)) := lv_i2s hx hb hdg rfl (kk _)
theorem w_i2c (hx : p.tables.exec = Jvm.exec) (hb : c.code = cc) (hdg : decode cc pc = .ok (.i2c, 1)) (kk : ∀ w : Int32, W p l e R s m args below meth c H locs cells slots Q (F0 m (pc + 1) ls (.int w :: rest))) : W p l e R s m args below meth c H locs cells slots Q (F0 m pc ls (.int x :: rest)) := lv_i2c hx hb hdg rfl (kk _)
theorem r_ldc {v : Int32} (k : Int) (hv : v.toInt = k) (hx : p.tables.exec = Jvm.exec) (hb : c.code = cc) (hts : ∀ w ∈ lw_ok, w.before args s = true) (hown : s.vm.findClass own = some m.cls) (hm : Cond.constant own index v ∈ lw_ok) (hdg : decode cc pc = .ok (.ldc index, 2)) (kk : ∀ w : Int32, w.toInt = k → W p l e R s m args below meth c H locs cells slots Q (F0 m (pc + 2) ls (.int w :: rest))) : W p l e R s m args below meth c H locs cells slots Q (F0 m pc ls (rest)) := lv_ldc hx hb hown (hts _ hm) hdg (kk _ hv)
theorem r_ldcw {v : Int32} (k : Int) (hv : v.toInt = k) (hx : p.tables.exec = Jvm.exec) (hb : c.code = cc) (hts : ∀ w ∈ lw_ok, w.before args s = true) (hown : s.vm.findClass own = some m.cls) (hm : Cond.constant own index v ∈ lw_ok) (hdg : decode cc pc = .ok (.ldc_w index, 3)) (kk : ∀ w : Int32, w.toInt = k → W p l e R s m args below meth c H locs cells slots Q (F0 m (pc + 3) ls (.int w :: rest))) : W p l e R s m args below meth c H locs cells slots Q (F0 m pc ls (rest)) := lv_ldcw hx hb hown (hts _ hm) hdg (kk _ hv)
variable {u v : Int64}
theorem r_i2l (hx : p.tables.exec = Jvm.exec) (hb : c.code = cc) (hdg : decode cc pc = .ok (.i2l, 1)) (kk : ∀ w : Int64, w.toInt = x.toInt → W p l e R s m args below meth c H locs cells slots Q (F0 m (pc + 1) ls (.long w :: rest))) : W p l e R s m args below meth c H locs cells slots Q (F0 m pc ls (.int x :: rest)) := lv_i2l hx hb hdg rfl (kk _ x.toInt_toInt64)
theorem r_lconst0 (hx : p.tables.exec = Jvm.exec) (hb : c.code = cc) (hdg : decode cc pc = .ok (.lconst 0, 1)) (kk : ∀ w : Int64, w.toInt = 0 → W p l e R s m args below meth c H locs cells slots Q (F0 m (pc + 1) ls (.long w :: rest))) : W p l e R s m args below meth c H locs cells slots Q (F0 m pc ls (rest)) := lv_lconst hx hb hdg rfl (kk _ rfl)
theorem r_lconst1 (hx : p.tables.exec = Jvm.exec) (hb : c.code = cc) (hdg : decode cc pc = .ok (.lconst 1, 1)) (kk : ∀ w : Int64, w.toInt = 1 → W p l e R s m args below meth c H locs cells slots Q (F0 m (pc + 1) ls (.long w :: rest))) : W p l e R s m args below meth c H locs cells slots Q (F0 m pc ls (rest)) := lv_lconst hx hb hdg rfl (kk _ rfl)
theorem r_ldc2 (k : Int) (hv : v.toInt = k) (hx : p.tables.exec = Jvm.exec) (hb : c.code = cc) (hts : ∀ w ∈ lw_ok, w.before args s = true) (hown : s.vm.findClass own = some m.cls) (hm : Cond.constantLong own index v ∈ lw_ok) (hdg : decode cc pc = .ok (.ldc2_w index, 3)) (kk : ∀ w : Int64, w.toInt = k → W p l e R s m args below meth c H locs cells slots Q (F0 m (pc + 3) ls (.long w :: rest))) : W p l e R s m args below meth c H locs cells slots Q (F0 m pc ls (rest)) := lv_ldc2 hx hb hown (hts _ hm) hdg (kk _ hv)
theorem l_cmp (u v : Int64) : (u.toInt < v.toInt → (lg_cmp u v).toInt = -1) ∧ (u.toInt = v.toInt → (lg_cmp u v).toInt = 0) ∧ (v.toInt < u.toInt → (lg_cmp u v).toInt = 1) := by
  unfold lg_cmp
  simp only [gt_iff_lt, Int64.lt_iff_toInt_lt, ← Int64.toInt_inj]
  refine ⟨fun h => ?_, fun h => ?_, fun h => ?_⟩
  · rw [if_neg (by omega), if_neg (by omega)]; rfl
  · rw [if_neg (by omega), if_pos h]; rfl
  · rw [if_pos h]; rfl
theorem l_add {x y : Int64} (h1 : -9223372036854775808 ≤ x.toInt + y.toInt) (h2 : x.toInt + y.toInt ≤ 9223372036854775807) : (x + y).toInt = x.toInt + y.toInt := by
  rw [Int64.toInt_add]
  exact Int.bmod_eq_of_le (by omega) (by omega)
theorem l_ne0 {y : Int64} (h : y.toInt ≠ 0) : ¬ y = 0 := fun q => h (by rw [q]; rfl)
theorem r_lcmp (hx : p.tables.exec = Jvm.exec) (hb : c.code = cc) (hdg : decode cc pc = .ok (.lcmp, 1)) (kk : ∀ w : Int32, (u.toInt < v.toInt → w.toInt = -1) → (u.toInt = v.toInt → w.toInt = 0) → (v.toInt < u.toInt → w.toInt = 1) → W p l e R s m args below meth c H locs cells slots Q (F0 m (pc + 1) ls (.int w :: rest))) : W p l e R s m args below meth c H locs cells slots Q (F0 m pc ls (.long v :: .long u :: rest)) := W.lcmp hx hb hdg (kk _ (l_cmp u v).1 (l_cmp u v).2.1 (l_cmp u v).2.2)
theorem r_ladd (hx : p.tables.exec = Jvm.exec) (hb : c.code = cc) (hdg : decode cc pc = .ok (.ladd, 1)) (h1 : -9223372036854775808 ≤ u.toInt + v.toInt) (h2 : u.toInt + v.toInt ≤ 9223372036854775807) (kk : ∀ w : Int64, w.toInt = u.toInt + v.toInt → W p l e R s m args below meth c H locs cells slots Q (F0 m (pc + 1) ls (.long w :: rest))) : W p l e R s m args below meth c H locs cells slots Q (F0 m pc ls (.long v :: .long u :: rest)) := lv_ladd hx hb hdg (kk _ (l_add h1 h2))
theorem w_ladd (hx : p.tables.exec = Jvm.exec) (hb : c.code = cc) (hdg : decode cc pc = .ok (.ladd, 1)) (kk : ∀ w : Int64, W p l e R s m args below meth c H locs cells slots Q (F0 m (pc + 1) ls (.long w :: rest))) : W p l e R s m args below meth c H locs cells slots Q (F0 m pc ls (.long v :: .long u :: rest)) := lv_ladd hx hb hdg (kk _)
theorem w_lmul (hx : p.tables.exec = Jvm.exec) (hb : c.code = cc) (hdg : decode cc pc = .ok (.lmul, 1)) (kk : ∀ w : Int64, W p l e R s m args below meth c H locs cells slots Q (F0 m (pc + 1) ls (.long w :: rest))) : W p l e R s m args below meth c H locs cells slots Q (F0 m pc ls (.long v :: .long u :: rest)) := lv_lmul hx hb hdg (kk _)
theorem w_lsub (hx : p.tables.exec = Jvm.exec) (hb : c.code = cc) (hdg : decode cc pc = .ok (.lsub, 1)) (kk : ∀ w : Int64, W p l e R s m args below meth c H locs cells slots Q (F0 m (pc + 1) ls (.long w :: rest))) : W p l e R s m args below meth c H locs cells slots Q (F0 m pc ls (.long v :: .long u :: rest)) := lv_lsub hx hb hdg (kk _)
theorem w_ldiv (hx : p.tables.exec = Jvm.exec) (hb : c.code = cc) (hdg : decode cc pc = .ok (.ldiv, 1)) (h : v.toInt ≠ 0) (kk : ∀ w : Int64, W p l e R s m args below meth c H locs cells slots Q (F0 m (pc + 1) ls (.long w :: rest))) : W p l e R s m args below meth c H locs cells slots Q (F0 m pc ls (.long v :: .long u :: rest)) := lv_ldiv hx hb hdg (l_ne0 h) (kk _)
theorem l_rem {x y : Int64} (h : y.toInt ≠ 0) : (x - x / y * y).toInt.natAbs < y.toInt.natAbs := by
  have e : (x - x / y * y).toInt = x.toInt.tmod y.toInt := by
    rw [Int64.toInt_sub, Int64.toInt_mul, Int64.toInt_div]
    have h1 : ((x.toInt.tdiv y.toInt).bmod (2 ^ 64) * y.toInt).bmod (2 ^ 64) = (x.toInt.tdiv y.toInt * y.toInt).bmod (2 ^ 64) := Int.bmod_mul_bmod ..
    rw [h1]
    have h2 : (x.toInt - (x.toInt.tdiv y.toInt * y.toInt).bmod (2 ^ 64)).bmod (2 ^ 64) = (x.toInt - x.toInt.tdiv y.toInt * y.toInt).bmod (2 ^ 64) := Int.sub_bmod_bmod
    rw [h2]
    have h3 : x.toInt - x.toInt.tdiv y.toInt * y.toInt = x.toInt.tmod y.toInt := by
      have := Int.tmod_def x.toInt y.toInt
      rw [this, Int.mul_comm]
    rw [h3]
    have h4 : (x.toInt.tmod y.toInt).natAbs < y.toInt.natAbs := by rw [Int.natAbs_tmod]; exact Nat.mod_lt _ (by omega)
    have h5 := y.le_toInt
    have h6 := y.toInt_lt
    exact Int.bmod_eq_of_le (by omega) (by omega)
  rw [e, Int.natAbs_tmod]
  exact Nat.mod_lt _ (by omega)
theorem r_lrem (hx : p.tables.exec = Jvm.exec) (hb : c.code = cc) (hdg : decode cc pc = .ok (.lrem, 1)) (h : v.toInt ≠ 0) (kk : ∀ w : Int64, w.toInt.natAbs < v.toInt.natAbs → W p l e R s m args below meth c H locs cells slots Q (F0 m (pc + 1) ls (.long w :: rest))) : W p l e R s m args below meth c H locs cells slots Q (F0 m pc ls (.long v :: .long u :: rest)) := lv_lrem hx hb hdg (l_ne0 h) (kk _ (l_rem h))
theorem r_min (hx : p.tables.exec = Jvm.exec) (hb : c.code = cc) (hml : c.maxLocals = ls.size) (hts : ∀ w ∈ lw_ok, w.before args s = true) (hown : s.vm.findClass own = some m.cls) (hl : Cond.methodLink own index Lib.Math.min.name ∈ lw_ok) (hfr : 1 ≤ R.frames) (hlo : (rest.map fun v => v.category).sum + 13 ≤ R.locals) (hcs : cells ≤ R.cells ∧ slots ≤ R.slots) (hdg : decode cc pc = .ok (.invokestatic index, 3)) (kk : ∀ w : Int32, w.toInt = min x.toInt y.toInt → W p l e R s m args below meth c H locs cells slots Q (F0 m (pc + 3) ls (.int w :: rest))) : W p l e R s m args below meth c H locs cells slots Q (F0 m pc ls (.int y :: .int x :: rest)) := by
  refine va_mmin hx hb hml hown (hts _ hl) (hts _ m_min_st) (hts _ m_math) (hts _ m_min_cd) hfr hlo hcs.1 hcs.2 hdg ?_
  by_cases h : y < x
  · rw [if_pos h]
    have h2 := Int32.lt_iff_toInt_lt.mp h
    exact kk _ (by omega)
  · rw [if_neg h]
    have h2 := mt Int32.lt_iff_toInt_lt.mpr h
    exact kk _ (by omega)
theorem r_max (hx : p.tables.exec = Jvm.exec) (hb : c.code = cc) (hml : c.maxLocals = ls.size) (hts : ∀ w ∈ lw_ok, w.before args s = true) (hown : s.vm.findClass own = some m.cls) (hl : Cond.methodLink own index Lib.Math.max.name ∈ lw_ok) (hfr : 1 ≤ R.frames) (hlo : (rest.map fun v => v.category).sum + 13 ≤ R.locals) (hcs : cells ≤ R.cells ∧ slots ≤ R.slots) (hdg : decode cc pc = .ok (.invokestatic index, 3)) (kk : ∀ w : Int32, w.toInt = max x.toInt y.toInt → W p l e R s m args below meth c H locs cells slots Q (F0 m (pc + 3) ls (.int w :: rest))) : W p l e R s m args below meth c H locs cells slots Q (F0 m pc ls (.int y :: .int x :: rest)) := by
  refine va_mmax hx hb hml hown (hts _ hl) (hts _ m_max_st) (hts _ m_math) (hts _ m_max_cd) hfr hlo hcs.1 hcs.2 hdg ?_
  by_cases h : x < y
  · rw [if_pos h]
    have h2 := Int32.lt_iff_toInt_lt.mp h
    exact kk _ (by omega)
  · rw [if_neg h]
    have h2 := mt Int32.lt_iff_toInt_lt.mpr h
    exact kk _ (by omega)
theorem r_nn {x : Int32} (h : 0 ≤ x.toInt) : ¬ x < 0 := fun q => by have := Int32.lt_iff_toInt_lt.mp q; have e : (0 : Int32).toInt = 0 := rfl; omega
theorem cp_20_20 {sp dp n : Int32} {a0 o0 : Nat} (hx : p.tables.exec = Jvm.exec) (hb : c.code = cc) (hml : c.maxLocals = ls.size) (hts : ∀ w ∈ lw_ok, w.before args s = true) (hown : s.vm.findClass own = some m.cls) (hl : Cond.methodLink own index arraycopyName ∈ lw_ok) (hK : va_K (zD z) vwCl (zT z) s) (hT : TY z A σ H) (hS : va_S A H0 H locs) (ha0 : zG z a0 = (20, o0)) (ha : zG z a = (20, o)) (h1 : 0 ≤ sp.toInt) (h2 : 0 ≤ dp.toInt) (h3 : 0 ≤ n.toInt) (h4 : sp.toInt + n.toInt ≤ 5) (h5 : dp.toInt + n.toInt ≤ 5) (hfr : 1 ≤ R.frames) (hlo : (rest.map fun v => v.category).sum + (nativeFrameWords "java/lang/System" "arraycopy" 5 + 11) ≤ R.locals) (hdg : decode cc pc = .ok (.invokestatic index, 3)) (kk : ∀ (H1 : Heap) (locs1 : List Loc), TY z A (gset σ o (cpl (σ o) (σ o0) 20 sp.toInt.toNat 20 dp.toInt.toNat n.toInt.toNat)) H1 → va_S A H0 H1 locs1 → W p l e R s m args below meth c H1 locs1 cells slots Q (F0 m (pc + 3) ls (rest))) : W p l e R s m args below meth c H locs cells slots Q (F0 m pc ls (.int n :: .int dp :: .ref a :: .int sp :: .ref a0 :: rest)) := by
  obtain ⟨E, hP, hD, hm, hz, hE⟩ := hT
  have hL0 : a0 ∈ zL z := hm a0 (by rw [ha0]; exact Nat.succ_ne_zero _)
  have hL : a ∈ zL z := hm a (by rw [ha]; exact Nat.succ_ne_zero _)
  obtain ⟨k0, hk0⟩ := va_pl_get (X := []) (f := E) hL0
  obtain ⟨k, hk1⟩ := va_pl_get (X := []) (f := E) hL
  have he0 := hE a0 hL0
  rw [ha0] at he0
  obtain ⟨f, h9, hf⟩ : a20 z (σ o0 20) (E a0) := he0
  have he := hE a hL
  rw [ha] at he
  obtain ⟨g, h8, hg⟩ : a20 z (σ o 20) (E a) := he
  have hk2 := hk1
  rw [h9] at hk0
  rw [h8] at hk2
  have e1 := ix_nat h1
  have e2 := ix_nat h2
  have e3 := ix_nat h3
  refine va_copyi hx hb hml hown (hts _ hl) (hts _ m_cp_nat) (hts _ m_cp_st) (hts _ m_cp_sys) hK hP hD hS k0 k 0 0 hk0 hk2 rfl rfl rfl (r_nn h1) (r_nn h2) (r_nn h3) (by omega) (by omega) (fun i hi => rfl) hfr hlo hdg (fun H1 locs1 hP1 hD1 hS1 => ?_)
  refine kk H1 locs1 (ty_up hP1 hD1 hD hm hz hE hL hk1 ?_ (up_mo hz hE ha (fun r' hr' => cpl_nr _ _ hr'))) hS1
  rw [ha]
  show eOK z (gset σ o (cpl (σ o) (σ o0) 20 sp.toInt.toNat 20 dp.toInt.toNat n.toInt.toNat) o 20) (20, o) _
  rw [gset_at]
  refine (⟨_, rfl, fun j hj => ?_⟩ : a20 z (cpl (σ o) (σ o0) 20 sp.toInt.toNat 20 dp.toInt.toNat n.toInt.toNat 20) _)
  by_cases hq : dp.toNatClampNeg ≤ j ∧ j < dp.toNatClampNeg + n.toNatClampNeg
  · rw [pk_cpy_in hq.1 hq.2]
    have h7 := hf (sp.toNatClampNeg + (j - dp.toNatClampNeg)) (by omega)
    exact ⟨h7.1.trans (if_pos ⟨rfl, hq⟩).symm, trivial⟩
  · rw [pk_cpy_out (by omega)]
    exact ⟨(hg j hj).1.trans (if_neg (fun q => hq q.2)).symm, (hg j hj).2⟩
theorem cp_21_21 {sp dp n : Int32} {a0 o0 : Nat} (hx : p.tables.exec = Jvm.exec) (hb : c.code = cc) (hml : c.maxLocals = ls.size) (hts : ∀ w ∈ lw_ok, w.before args s = true) (hown : s.vm.findClass own = some m.cls) (hl : Cond.methodLink own index arraycopyName ∈ lw_ok) (hK : va_K (zD z) vwCl (zT z) s) (hT : TY z A σ H) (hS : va_S A H0 H locs) (ha0 : zG z a0 = (21, o0)) (ha : zG z a = (21, o)) (h1 : 0 ≤ sp.toInt) (h2 : 0 ≤ dp.toInt) (h3 : 0 ≤ n.toInt) (h4 : sp.toInt + n.toInt ≤ 8) (h5 : dp.toInt + n.toInt ≤ 8) (hfr : 1 ≤ R.frames) (hlo : (rest.map fun v => v.category).sum + (nativeFrameWords "java/lang/System" "arraycopy" 5 + 11) ≤ R.locals) (hdg : decode cc pc = .ok (.invokestatic index, 3)) (kk : ∀ (H1 : Heap) (locs1 : List Loc), TY z A (gset σ o (cpl (σ o) (σ o0) 21 sp.toInt.toNat 21 dp.toInt.toNat n.toInt.toNat)) H1 → va_S A H0 H1 locs1 → W p l e R s m args below meth c H1 locs1 cells slots Q (F0 m (pc + 3) ls (rest))) : W p l e R s m args below meth c H locs cells slots Q (F0 m pc ls (.int n :: .int dp :: .ref a :: .int sp :: .ref a0 :: rest)) := by
  obtain ⟨E, hP, hD, hm, hz, hE⟩ := hT
  have hL0 : a0 ∈ zL z := hm a0 (by rw [ha0]; exact Nat.succ_ne_zero _)
  have hL : a ∈ zL z := hm a (by rw [ha]; exact Nat.succ_ne_zero _)
  obtain ⟨k0, hk0⟩ := va_pl_get (X := []) (f := E) hL0
  obtain ⟨k, hk1⟩ := va_pl_get (X := []) (f := E) hL
  have he0 := hE a0 hL0
  rw [ha0] at he0
  obtain ⟨f, h9, hf⟩ : a21 z (σ o0 21) (E a0) := he0
  have he := hE a hL
  rw [ha] at he
  obtain ⟨g, h8, hg⟩ : a21 z (σ o 21) (E a) := he
  have hk2 := hk1
  rw [h9] at hk0
  rw [h8] at hk2
  have e1 := ix_nat h1
  have e2 := ix_nat h2
  have e3 := ix_nat h3
  refine va_copyi hx hb hml hown (hts _ hl) (hts _ m_cp_nat) (hts _ m_cp_st) (hts _ m_cp_sys) hK hP hD hS k0 k 0 0 hk0 hk2 rfl rfl rfl (r_nn h1) (r_nn h2) (r_nn h3) (by omega) (by omega) (fun i hi => rfl) hfr hlo hdg (fun H1 locs1 hP1 hD1 hS1 => ?_)
  refine kk H1 locs1 (ty_up hP1 hD1 hD hm hz hE hL hk1 ?_ (up_mo hz hE ha (fun r' hr' => cpl_nr _ _ hr'))) hS1
  rw [ha]
  show eOK z (gset σ o (cpl (σ o) (σ o0) 21 sp.toInt.toNat 21 dp.toInt.toNat n.toInt.toNat) o 21) (21, o) _
  rw [gset_at]
  refine (⟨_, rfl, fun j hj => ?_⟩ : a21 z (cpl (σ o) (σ o0) 21 sp.toInt.toNat 21 dp.toInt.toNat n.toInt.toNat 21) _)
  by_cases hq : dp.toNatClampNeg ≤ j ∧ j < dp.toNatClampNeg + n.toNatClampNeg
  · rw [pk_cpy_in hq.1 hq.2]
    have h7 := hf (sp.toNatClampNeg + (j - dp.toNatClampNeg)) (by omega)
    exact ⟨h7.1.trans (if_pos ⟨rfl, hq⟩).symm, trivial⟩
  · rw [pk_cpy_out (by omega)]
    exact ⟨(hg j hj).1.trans (if_neg (fun q => hq q.2)).symm, (hg j hj).2⟩
theorem cp_22_22 {sp dp n : Int32} {a0 o0 : Nat} (hx : p.tables.exec = Jvm.exec) (hb : c.code = cc) (hml : c.maxLocals = ls.size) (hts : ∀ w ∈ lw_ok, w.before args s = true) (hown : s.vm.findClass own = some m.cls) (hl : Cond.methodLink own index arraycopyName ∈ lw_ok) (hK : va_K (zD z) vwCl (zT z) s) (hT : TY z A σ H) (hS : va_S A H0 H locs) (ha0 : zG z a0 = (22, o0)) (ha : zG z a = (22, o)) (h1 : 0 ≤ sp.toInt) (h2 : 0 ≤ dp.toInt) (h3 : 0 ≤ n.toInt) (h4 : sp.toInt + n.toInt ≤ 6) (h5 : dp.toInt + n.toInt ≤ 6) (hfr : 1 ≤ R.frames) (hlo : (rest.map fun v => v.category).sum + (nativeFrameWords "java/lang/System" "arraycopy" 5 + 11) ≤ R.locals) (hdg : decode cc pc = .ok (.invokestatic index, 3)) (kk : ∀ (H1 : Heap) (locs1 : List Loc), TY z A (gset σ o (cpl (σ o) (σ o0) 22 sp.toInt.toNat 22 dp.toInt.toNat n.toInt.toNat)) H1 → va_S A H0 H1 locs1 → W p l e R s m args below meth c H1 locs1 cells slots Q (F0 m (pc + 3) ls (rest))) : W p l e R s m args below meth c H locs cells slots Q (F0 m pc ls (.int n :: .int dp :: .ref a :: .int sp :: .ref a0 :: rest)) := by
  obtain ⟨E, hP, hD, hm, hz, hE⟩ := hT
  have hL0 : a0 ∈ zL z := hm a0 (by rw [ha0]; exact Nat.succ_ne_zero _)
  have hL : a ∈ zL z := hm a (by rw [ha]; exact Nat.succ_ne_zero _)
  obtain ⟨k0, hk0⟩ := va_pl_get (X := []) (f := E) hL0
  obtain ⟨k, hk1⟩ := va_pl_get (X := []) (f := E) hL
  have he0 := hE a0 hL0
  rw [ha0] at he0
  obtain ⟨f, h9, hf⟩ : a22 z (σ o0 22) (E a0) := he0
  have he := hE a hL
  rw [ha] at he
  obtain ⟨g, h8, hg⟩ : a22 z (σ o 22) (E a) := he
  have hk2 := hk1
  rw [h9] at hk0
  rw [h8] at hk2
  have e1 := ix_nat h1
  have e2 := ix_nat h2
  have e3 := ix_nat h3
  refine va_copyi hx hb hml hown (hts _ hl) (hts _ m_cp_nat) (hts _ m_cp_st) (hts _ m_cp_sys) hK hP hD hS k0 k 0 0 hk0 hk2 rfl rfl rfl (r_nn h1) (r_nn h2) (r_nn h3) (by omega) (by omega) (fun i hi => rfl) hfr hlo hdg (fun H1 locs1 hP1 hD1 hS1 => ?_)
  refine kk H1 locs1 (ty_up hP1 hD1 hD hm hz hE hL hk1 ?_ (up_mo hz hE ha (fun r' hr' => cpl_nr _ _ hr'))) hS1
  rw [ha]
  show eOK z (gset σ o (cpl (σ o) (σ o0) 22 sp.toInt.toNat 22 dp.toInt.toNat n.toInt.toNat) o 22) (22, o) _
  rw [gset_at]
  refine (⟨_, rfl, fun j hj => ?_⟩ : a22 z (cpl (σ o) (σ o0) 22 sp.toInt.toNat 22 dp.toInt.toNat n.toInt.toNat 22) _)
  by_cases hq : dp.toNatClampNeg ≤ j ∧ j < dp.toNatClampNeg + n.toNatClampNeg
  · rw [pk_cpy_in hq.1 hq.2]
    have h7 := hf (sp.toNatClampNeg + (j - dp.toNatClampNeg)) (by omega)
    exact ⟨h7.1.trans (if_pos ⟨rfl, hq⟩).symm, trivial⟩
  · rw [pk_cpy_out (by omega)]
    exact ⟨(hg j hj).1.trans (if_neg (fun q => hq q.2)).symm, (hg j hj).2⟩
theorem cp_25_25 {sp dp n : Int32} {a0 o0 : Nat} (hx : p.tables.exec = Jvm.exec) (hb : c.code = cc) (hml : c.maxLocals = ls.size) (hts : ∀ w ∈ lw_ok, w.before args s = true) (hown : s.vm.findClass own = some m.cls) (hl : Cond.methodLink own index arraycopyName ∈ lw_ok) (hK : va_K (zD z) vwCl (zT z) s) (hT : TY z A σ H) (hS : va_S A H0 H locs) (ha0 : zG z a0 = (25, o0)) (ha : zG z a = (25, o)) (h1 : 0 ≤ sp.toInt) (h2 : 0 ≤ dp.toInt) (h3 : 0 ≤ n.toInt) (h4 : sp.toInt + n.toInt ≤ 6) (h5 : dp.toInt + n.toInt ≤ 6) (hfr : 1 ≤ R.frames) (hlo : (rest.map fun v => v.category).sum + (nativeFrameWords "java/lang/System" "arraycopy" 5 + 11) ≤ R.locals) (hdg : decode cc pc = .ok (.invokestatic index, 3)) (kk : ∀ (H1 : Heap) (locs1 : List Loc), TY z A (gset σ o (cpl (σ o) (σ o0) 25 sp.toInt.toNat 25 dp.toInt.toNat n.toInt.toNat)) H1 → va_S A H0 H1 locs1 → W p l e R s m args below meth c H1 locs1 cells slots Q (F0 m (pc + 3) ls (rest))) : W p l e R s m args below meth c H locs cells slots Q (F0 m pc ls (.int n :: .int dp :: .ref a :: .int sp :: .ref a0 :: rest)) := by
  obtain ⟨E, hP, hD, hm, hz, hE⟩ := hT
  have hL0 : a0 ∈ zL z := hm a0 (by rw [ha0]; exact Nat.succ_ne_zero _)
  have hL : a ∈ zL z := hm a (by rw [ha]; exact Nat.succ_ne_zero _)
  obtain ⟨k0, hk0⟩ := va_pl_get (X := []) (f := E) hL0
  obtain ⟨k, hk1⟩ := va_pl_get (X := []) (f := E) hL
  have he0 := hE a0 hL0
  rw [ha0] at he0
  obtain ⟨f, h9, hf⟩ : a25 z (σ o0 25) (E a0) := he0
  have he := hE a hL
  rw [ha] at he
  obtain ⟨g, h8, hg⟩ : a25 z (σ o 25) (E a) := he
  have hk2 := hk1
  rw [h9] at hk0
  rw [h8] at hk2
  have e1 := ix_nat h1
  have e2 := ix_nat h2
  have e3 := ix_nat h3
  refine va_copyi hx hb hml hown (hts _ hl) (hts _ m_cp_nat) (hts _ m_cp_st) (hts _ m_cp_sys) hK hP hD hS k0 k 0 0 hk0 hk2 rfl rfl rfl (r_nn h1) (r_nn h2) (r_nn h3) (by omega) (by omega) (fun i hi => rfl) hfr hlo hdg (fun H1 locs1 hP1 hD1 hS1 => ?_)
  refine kk H1 locs1 (ty_up hP1 hD1 hD hm hz hE hL hk1 ?_ (up_mo hz hE ha (fun r' hr' => cpl_nr _ _ hr'))) hS1
  rw [ha]
  show eOK z (gset σ o (cpl (σ o) (σ o0) 25 sp.toInt.toNat 25 dp.toInt.toNat n.toInt.toNat) o 25) (25, o) _
  rw [gset_at]
  refine (⟨_, rfl, fun j hj => ?_⟩ : a25 z (cpl (σ o) (σ o0) 25 sp.toInt.toNat 25 dp.toInt.toNat n.toInt.toNat 25) _)
  by_cases hq : dp.toNatClampNeg ≤ j ∧ j < dp.toNatClampNeg + n.toNatClampNeg
  · rw [pk_cpy_in hq.1 hq.2]
    have h7 := hf (sp.toNatClampNeg + (j - dp.toNatClampNeg)) (by omega)
    exact ⟨h7.1.trans (if_pos ⟨rfl, hq⟩).symm, h7.2⟩
  · rw [pk_cpy_out (by omega)]
    exact ⟨(hg j hj).1.trans (if_neg (fun q => hq q.2)).symm, (hg j hj).2⟩
theorem cp_26_26 {sp dp n : Int32} {a0 o0 : Nat} (hx : p.tables.exec = Jvm.exec) (hb : c.code = cc) (hml : c.maxLocals = ls.size) (hts : ∀ w ∈ lw_ok, w.before args s = true) (hown : s.vm.findClass own = some m.cls) (hl : Cond.methodLink own index arraycopyName ∈ lw_ok) (hK : va_K (zD z) vwCl (zT z) s) (hT : TY z A σ H) (hS : va_S A H0 H locs) (ha0 : zG z a0 = (26, o0)) (ha : zG z a = (26, o)) (h1 : 0 ≤ sp.toInt) (h2 : 0 ≤ dp.toInt) (h3 : 0 ≤ n.toInt) (h4 : sp.toInt + n.toInt ≤ 6) (h5 : dp.toInt + n.toInt ≤ 6) (hfr : 1 ≤ R.frames) (hlo : (rest.map fun v => v.category).sum + (nativeFrameWords "java/lang/System" "arraycopy" 5 + 11) ≤ R.locals) (hdg : decode cc pc = .ok (.invokestatic index, 3)) (kk : ∀ (H1 : Heap) (locs1 : List Loc), TY z A (gset σ o (cpl (σ o) (σ o0) 26 sp.toInt.toNat 26 dp.toInt.toNat n.toInt.toNat)) H1 → va_S A H0 H1 locs1 → W p l e R s m args below meth c H1 locs1 cells slots Q (F0 m (pc + 3) ls (rest))) : W p l e R s m args below meth c H locs cells slots Q (F0 m pc ls (.int n :: .int dp :: .ref a :: .int sp :: .ref a0 :: rest)) := by
  obtain ⟨E, hP, hD, hm, hz, hE⟩ := hT
  have hL0 : a0 ∈ zL z := hm a0 (by rw [ha0]; exact Nat.succ_ne_zero _)
  have hL : a ∈ zL z := hm a (by rw [ha]; exact Nat.succ_ne_zero _)
  obtain ⟨k0, hk0⟩ := va_pl_get (X := []) (f := E) hL0
  obtain ⟨k, hk1⟩ := va_pl_get (X := []) (f := E) hL
  have he0 := hE a0 hL0
  rw [ha0] at he0
  obtain ⟨f, h9, hf⟩ : a26 z (σ o0 26) (E a0) := he0
  have he := hE a hL
  rw [ha] at he
  obtain ⟨g, h8, hg⟩ : a26 z (σ o 26) (E a) := he
  have hk2 := hk1
  rw [h9] at hk0
  rw [h8] at hk2
  have e1 := ix_nat h1
  have e2 := ix_nat h2
  have e3 := ix_nat h3
  refine va_copyi hx hb hml hown (hts _ hl) (hts _ m_cp_nat) (hts _ m_cp_st) (hts _ m_cp_sys) hK hP hD hS k0 k 0 0 hk0 hk2 rfl rfl rfl (r_nn h1) (r_nn h2) (r_nn h3) (by omega) (by omega) (fun i hi => rfl) hfr hlo hdg (fun H1 locs1 hP1 hD1 hS1 => ?_)
  refine kk H1 locs1 (ty_up hP1 hD1 hD hm hz hE hL hk1 ?_ (up_mo hz hE ha (fun r' hr' => cpl_nr _ _ hr'))) hS1
  rw [ha]
  show eOK z (gset σ o (cpl (σ o) (σ o0) 26 sp.toInt.toNat 26 dp.toInt.toNat n.toInt.toNat) o 26) (26, o) _
  rw [gset_at]
  refine (⟨_, rfl, fun j hj => ?_⟩ : a26 z (cpl (σ o) (σ o0) 26 sp.toInt.toNat 26 dp.toInt.toNat n.toInt.toNat 26) _)
  by_cases hq : dp.toNatClampNeg ≤ j ∧ j < dp.toNatClampNeg + n.toNatClampNeg
  · rw [pk_cpy_in hq.1 hq.2]
    have h7 := hf (sp.toNatClampNeg + (j - dp.toNatClampNeg)) (by omega)
    exact ⟨h7.1.trans (if_pos ⟨rfl, hq⟩).symm, h7.2⟩
  · rw [pk_cpy_out (by omega)]
    exact ⟨(hg j hj).1.trans (if_neg (fun q => hq q.2)).symm, (hg j hj).2⟩
theorem cp_27_24 {sp dp n : Int32} {a0 o0 : Nat} (hx : p.tables.exec = Jvm.exec) (hb : c.code = cc) (hml : c.maxLocals = ls.size) (hts : ∀ w ∈ lw_ok, w.before args s = true) (hown : s.vm.findClass own = some m.cls) (hl : Cond.methodLink own index arraycopyName ∈ lw_ok) (hK : va_K (zD z) vwCl (zT z) s) (hT : TY z A σ H) (hS : va_S A H0 H locs) (ha0 : zG z a0 = (27, o0)) (ha : zG z a = (24, o)) (h1 : 0 ≤ sp.toInt) (h2 : 0 ≤ dp.toInt) (h3 : 0 ≤ n.toInt) (h4 : sp.toInt + n.toInt ≤ 5) (h5 : dp.toInt + n.toInt ≤ 45) (hfr : 1 ≤ R.frames) (hlo : (rest.map fun v => v.category).sum + (nativeFrameWords "java/lang/System" "arraycopy" 5 + 11) ≤ R.locals) (hdg : decode cc pc = .ok (.invokestatic index, 3)) (kk : ∀ (H1 : Heap) (locs1 : List Loc), TY z A (gset σ o (cpl (σ o) (σ o0) 27 sp.toInt.toNat 24 dp.toInt.toNat n.toInt.toNat)) H1 → va_S A H0 H1 locs1 → W p l e R s m args below meth c H1 locs1 cells slots Q (F0 m (pc + 3) ls (rest))) : W p l e R s m args below meth c H locs cells slots Q (F0 m pc ls (.int n :: .int dp :: .ref a :: .int sp :: .ref a0 :: rest)) := by
  obtain ⟨E, hP, hD, hm, hz, hE⟩ := hT
  have hL0 : a0 ∈ zL z := hm a0 (by rw [ha0]; exact Nat.succ_ne_zero _)
  have hL : a ∈ zL z := hm a (by rw [ha]; exact Nat.succ_ne_zero _)
  obtain ⟨k0, hk0⟩ := va_pl_get (X := []) (f := E) hL0
  obtain ⟨k, hk1⟩ := va_pl_get (X := []) (f := E) hL
  have he0 := hE a0 hL0
  rw [ha0] at he0
  obtain ⟨f, h9, hf⟩ : a27 z (σ o0 27) (E a0) := he0
  have he := hE a hL
  rw [ha] at he
  obtain ⟨g, h8, hg⟩ : a24 z (σ o 24) (E a) := he
  have hk2 := hk1
  rw [h9] at hk0
  rw [h8] at hk2
  have e1 := ix_nat h1
  have e2 := ix_nat h2
  have e3 := ix_nat h3
  refine va_copyi hx hb hml hown (hts _ hl) (hts _ m_cp_nat) (hts _ m_cp_st) (hts _ m_cp_sys) hK hP hD hS k0 k 0 0 hk0 hk2 rfl rfl rfl (r_nn h1) (r_nn h2) (r_nn h3) (by omega) (by omega) (fun i hi => rfl) hfr hlo hdg (fun H1 locs1 hP1 hD1 hS1 => ?_)
  refine kk H1 locs1 (ty_up hP1 hD1 hD hm hz hE hL hk1 ?_ (up_mo hz hE ha (fun r' hr' => cpl_nr _ _ hr'))) hS1
  rw [ha]
  show eOK z (gset σ o (cpl (σ o) (σ o0) 27 sp.toInt.toNat 24 dp.toInt.toNat n.toInt.toNat) o 24) (24, o) _
  rw [gset_at]
  refine (⟨_, rfl, fun j hj => ?_⟩ : a24 z (cpl (σ o) (σ o0) 27 sp.toInt.toNat 24 dp.toInt.toNat n.toInt.toNat 24) _)
  by_cases hq : dp.toNatClampNeg ≤ j ∧ j < dp.toNatClampNeg + n.toNatClampNeg
  · rw [pk_cpy_in hq.1 hq.2]
    have h7 := hf (sp.toNatClampNeg + (j - dp.toNatClampNeg)) (by omega)
    exact ⟨h7.1.trans (if_pos ⟨rfl, hq⟩).symm, h7.2⟩
  · rw [pk_cpy_out (by omega)]
    exact ⟨(hg j hj).1.trans (if_neg (fun q => hq q.2)).symm, (hg j hj).2⟩
theorem cp_56_57 {sp dp n : Int32} {a0 o0 : Nat} (hx : p.tables.exec = Jvm.exec) (hb : c.code = cc) (hml : c.maxLocals = ls.size) (hts : ∀ w ∈ lw_ok, w.before args s = true) (hown : s.vm.findClass own = some m.cls) (hl : Cond.methodLink own index arraycopyName ∈ lw_ok) (hK : va_K (zD z) vwCl (zT z) s) (hT : TY z A σ H) (hS : va_S A H0 H locs) (ha0 : zG z a0 = (56, o0)) (ha : zG z a = (57, o)) (h1 : 0 ≤ sp.toInt) (h2 : 0 ≤ dp.toInt) (h3 : 0 ≤ n.toInt) (h4 : sp.toInt + n.toInt ≤ 5) (h5 : dp.toInt + n.toInt ≤ 5) (hfr : 1 ≤ R.frames) (hlo : (rest.map fun v => v.category).sum + (nativeFrameWords "java/lang/System" "arraycopy" 5 + 11) ≤ R.locals) (hdg : decode cc pc = .ok (.invokestatic index, 3)) (kk : ∀ (H1 : Heap) (locs1 : List Loc), TY z A (gset σ o (cpl (σ o) (σ o0) 56 sp.toInt.toNat 57 dp.toInt.toNat n.toInt.toNat)) H1 → va_S A H0 H1 locs1 → W p l e R s m args below meth c H1 locs1 cells slots Q (F0 m (pc + 3) ls (rest))) : W p l e R s m args below meth c H locs cells slots Q (F0 m pc ls (.int n :: .int dp :: .ref a :: .int sp :: .ref a0 :: rest)) := by
  obtain ⟨E, hP, hD, hm, hz, hE⟩ := hT
  have hL0 : a0 ∈ zL z := hm a0 (by rw [ha0]; exact Nat.succ_ne_zero _)
  have hL : a ∈ zL z := hm a (by rw [ha]; exact Nat.succ_ne_zero _)
  obtain ⟨k0, hk0⟩ := va_pl_get (X := []) (f := E) hL0
  obtain ⟨k, hk1⟩ := va_pl_get (X := []) (f := E) hL
  have he0 := hE a0 hL0
  rw [ha0] at he0
  obtain ⟨f, h9, hf⟩ : a56 z (σ o0 56) (E a0) := he0
  have he := hE a hL
  rw [ha] at he
  obtain ⟨g, h8, hg⟩ : a57 z (σ o 57) (E a) := he
  have hk2 := hk1
  rw [h9] at hk0
  rw [h8] at hk2
  have e1 := ix_nat h1
  have e2 := ix_nat h2
  have e3 := ix_nat h3
  refine va_copyi hx hb hml hown (hts _ hl) (hts _ m_cp_nat) (hts _ m_cp_st) (hts _ m_cp_sys) hK hP hD hS k0 k 0 0 hk0 hk2 rfl rfl rfl (r_nn h1) (r_nn h2) (r_nn h3) (by omega) (by omega) (fun i hi => rfl) hfr hlo hdg (fun H1 locs1 hP1 hD1 hS1 => ?_)
  refine kk H1 locs1 (ty_up hP1 hD1 hD hm hz hE hL hk1 ?_ (up_mo hz hE ha (fun r' hr' => cpl_nr _ _ hr'))) hS1
  rw [ha]
  show eOK z (gset σ o (cpl (σ o) (σ o0) 56 sp.toInt.toNat 57 dp.toInt.toNat n.toInt.toNat) o 57) (57, o) _
  rw [gset_at]
  refine (⟨_, rfl, fun j hj => ?_⟩ : a57 z (cpl (σ o) (σ o0) 56 sp.toInt.toNat 57 dp.toInt.toNat n.toInt.toNat 57) _)
  by_cases hq : dp.toNatClampNeg ≤ j ∧ j < dp.toNatClampNeg + n.toNatClampNeg
  · rw [pk_cpy_in hq.1 hq.2]
    have h7 := hf (sp.toNatClampNeg + (j - dp.toNatClampNeg)) (by omega)
    exact ⟨h7.1.trans (if_pos ⟨rfl, hq⟩).symm, trivial⟩
  · rw [pk_cpy_out (by omega)]
    exact ⟨(hg j hj).1.trans (if_neg (fun q => hq q.2)).symm, (hg j hj).2⟩
theorem cp_56_58 {sp dp n : Int32} {a0 o0 : Nat} (hx : p.tables.exec = Jvm.exec) (hb : c.code = cc) (hml : c.maxLocals = ls.size) (hts : ∀ w ∈ lw_ok, w.before args s = true) (hown : s.vm.findClass own = some m.cls) (hl : Cond.methodLink own index arraycopyName ∈ lw_ok) (hK : va_K (zD z) vwCl (zT z) s) (hT : TY z A σ H) (hS : va_S A H0 H locs) (ha0 : zG z a0 = (56, o0)) (ha : zG z a = (58, o)) (h1 : 0 ≤ sp.toInt) (h2 : 0 ≤ dp.toInt) (h3 : 0 ≤ n.toInt) (h4 : sp.toInt + n.toInt ≤ 5) (h5 : dp.toInt + n.toInt ≤ 5) (hfr : 1 ≤ R.frames) (hlo : (rest.map fun v => v.category).sum + (nativeFrameWords "java/lang/System" "arraycopy" 5 + 11) ≤ R.locals) (hdg : decode cc pc = .ok (.invokestatic index, 3)) (kk : ∀ (H1 : Heap) (locs1 : List Loc), TY z A (gset σ o (cpl (σ o) (σ o0) 56 sp.toInt.toNat 58 dp.toInt.toNat n.toInt.toNat)) H1 → va_S A H0 H1 locs1 → W p l e R s m args below meth c H1 locs1 cells slots Q (F0 m (pc + 3) ls (rest))) : W p l e R s m args below meth c H locs cells slots Q (F0 m pc ls (.int n :: .int dp :: .ref a :: .int sp :: .ref a0 :: rest)) := by
  obtain ⟨E, hP, hD, hm, hz, hE⟩ := hT
  have hL0 : a0 ∈ zL z := hm a0 (by rw [ha0]; exact Nat.succ_ne_zero _)
  have hL : a ∈ zL z := hm a (by rw [ha]; exact Nat.succ_ne_zero _)
  obtain ⟨k0, hk0⟩ := va_pl_get (X := []) (f := E) hL0
  obtain ⟨k, hk1⟩ := va_pl_get (X := []) (f := E) hL
  have he0 := hE a0 hL0
  rw [ha0] at he0
  obtain ⟨f, h9, hf⟩ : a56 z (σ o0 56) (E a0) := he0
  have he := hE a hL
  rw [ha] at he
  obtain ⟨g, h8, hg⟩ : a58 z (σ o 58) (E a) := he
  have hk2 := hk1
  rw [h9] at hk0
  rw [h8] at hk2
  have e1 := ix_nat h1
  have e2 := ix_nat h2
  have e3 := ix_nat h3
  refine va_copyi hx hb hml hown (hts _ hl) (hts _ m_cp_nat) (hts _ m_cp_st) (hts _ m_cp_sys) hK hP hD hS k0 k 0 0 hk0 hk2 rfl rfl rfl (r_nn h1) (r_nn h2) (r_nn h3) (by omega) (by omega) (fun i hi => rfl) hfr hlo hdg (fun H1 locs1 hP1 hD1 hS1 => ?_)
  refine kk H1 locs1 (ty_up hP1 hD1 hD hm hz hE hL hk1 ?_ (up_mo hz hE ha (fun r' hr' => cpl_nr _ _ hr'))) hS1
  rw [ha]
  show eOK z (gset σ o (cpl (σ o) (σ o0) 56 sp.toInt.toNat 58 dp.toInt.toNat n.toInt.toNat) o 58) (58, o) _
  rw [gset_at]
  refine (⟨_, rfl, fun j hj => ?_⟩ : a58 z (cpl (σ o) (σ o0) 56 sp.toInt.toNat 58 dp.toInt.toNat n.toInt.toNat 58) _)
  by_cases hq : dp.toNatClampNeg ≤ j ∧ j < dp.toNatClampNeg + n.toNatClampNeg
  · rw [pk_cpy_in hq.1 hq.2]
    have h7 := hf (sp.toNatClampNeg + (j - dp.toNatClampNeg)) (by omega)
    exact ⟨h7.1.trans (if_pos ⟨rfl, hq⟩).symm, trivial⟩
  · rw [pk_cpy_out (by omega)]
    exact ⟨(hg j hj).1.trans (if_neg (fun q => hq q.2)).symm, (hg j hj).2⟩
end TYT
