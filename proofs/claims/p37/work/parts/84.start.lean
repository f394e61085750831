theorem mx_1_27 : Jvm.Cond.methodLinkNest "HeelDance" (9 : Nat) ({ cls := "HeelDance$Tape", name := "<init>", desc := "()V" } : Jvm.MethodName) "HeelDance" ∈ lw_tbl := in_1 (List.mem_of_getElem? (i := 27) rfl)
theorem mx_1_33 : Jvm.Cond.methodLinkNest "HeelDance$Tape" (17 : Nat) ({ cls := "HeelDance$Evening", name := "<init>", desc := "()V" } : Jvm.MethodName) "HeelDance" ∈ lw_tbl := in_1 (List.mem_of_getElem? (i := 33) rfl)
theorem mx_1_39 : Jvm.Cond.methodLinkNest "HeelDance$Evening" (11 : Nat) ({ cls := "HeelDance$Floor", name := "<init>", desc := "()V" } : Jvm.MethodName) "HeelDance" ∈ lw_tbl := in_1 (List.mem_of_getElem? (i := 39) rfl)
theorem mx_1_166 : Jvm.Cond.methodLinkNest "HeelDance" (18 : Nat) ({ cls := "HeelDance$Evening", name := "<init>", desc := "()V" } : Jvm.MethodName) "HeelDance" ∈ lw_tbl := in_1 (List.mem_of_getElem? (i := 166) rfl)
theorem mx_1_167 : Jvm.Cond.arrayOver (Jvm.ClassFile.FieldType.object "HeelDance$Evening") ∈ lw_tbl := in_1 (List.mem_of_getElem? (i := 167) rfl)
theorem mx_1_170 : Jvm.Cond.methodLinkNest "HeelDance" (33 : Nat) ({ cls := "HeelDance$Walk", name := "<init>", desc := "()V" } : Jvm.MethodName) "HeelDance" ∈ lw_tbl := in_1 (List.mem_of_getElem? (i := 170) rfl)
theorem mx_1_175 : Jvm.Cond.methodLinkNest "HeelDance$Walk" (11 : Nat) ({ cls := "HeelDance$Floor", name := "<init>", desc := "()V" } : Jvm.MethodName) "HeelDance" ∈ lw_tbl := in_1 (List.mem_of_getElem? (i := 175) rfl)
theorem mx_1_196 : Jvm.Cond.arrayOver (Jvm.ClassFile.FieldType.object "HeelDance$Floor") ∈ lw_tbl := in_1 (List.mem_of_getElem? (i := 196) rfl)
theorem mx_1_197 : Jvm.Cond.methodLinkNest "HeelDance$Search" (27 : Nat) ({ cls := "HeelDance$Floor", name := "<init>", desc := "()V" } : Jvm.MethodName) "HeelDance" ∈ lw_tbl := in_1 (List.mem_of_getElem? (i := 197) rfl)
theorem mx_1_228 : Jvm.Cond.arrayOver (Jvm.ClassFile.FieldType.object "HeelDance$Sheet") ∈ lw_tbl := in_1 (List.mem_of_getElem? (i := 228) rfl)
theorem mx_1_230 : Jvm.Cond.methodLinkNest "HeelDance" (51 : Nat) ({ cls := "HeelDance$Sheet", name := "<init>", desc := "()V" } : Jvm.MethodName) "HeelDance" ∈ lw_tbl := in_1 (List.mem_of_getElem? (i := 230) rfl)
theorem mx_2_81 : Jvm.Cond.stringRef "HeelDance$Tape" (140 : Nat) "plain" ∈ lw_tbl := in_2 (List.mem_of_getElem? (i := 81) rfl)
theorem mx_2_82 : Jvm.Cond.stringRef "HeelDance$Tape" (142 : Nat) "booted" ∈ lw_tbl := in_2 (List.mem_of_getElem? (i := 82) rfl)
theorem mx_2_83 : Jvm.Cond.stringRef "HeelDance$Tape" (144 : Nat) "bent" ∈ lw_tbl := in_2 (List.mem_of_getElem? (i := 83) rfl)
theorem mx_2_84 : Jvm.Cond.stringRef "HeelDance$Tape" (146 : Nat) "hearth" ∈ lw_tbl := in_2 (List.mem_of_getElem? (i := 84) rfl)
theorem mx_2_85 : Jvm.Cond.stringRef "HeelDance$Tape" (148 : Nat) "cousins" ∈ lw_tbl := in_2 (List.mem_of_getElem? (i := 85) rfl)
theorem mx_2_86 : Jvm.Cond.stringRef "HeelDance$Tape" (150 : Nat) "program" ∈ lw_tbl := in_2 (List.mem_of_getElem? (i := 86) rfl)
theorem mx_2_100 : Jvm.Cond.laysStatic "java/lang/String" "COMPACT_STRINGS" "Z" ∈ lw_tbl := in_2 (List.mem_of_getElem? (i := 100) rfl)
theorem mx_2_116 : Jvm.Cond.laysStatic "jdk/internal/util/Preconditions" "SIOOBE_FORMATTER" "Ljava/util/function/BiFunction;" ∈ lw_tbl := in_2 (List.mem_of_getElem? (i := 116) rfl)
theorem mx_2_134 : Jvm.Cond.laysStatic "java/lang/StringUTF16" "$assertionsDisabled" "Z" ∈ lw_tbl := in_2 (List.mem_of_getElem? (i := 134) rfl)
theorem mx_2_136 : Jvm.Cond.laysStatic "java/lang/StringUTF16" "HI_BYTE_SHIFT" "I" ∈ lw_tbl := in_2 (List.mem_of_getElem? (i := 136) rfl)
theorem mx_2_138 : Jvm.Cond.laysStatic "java/lang/StringUTF16" "LO_BYTE_SHIFT" "I" ∈ lw_tbl := in_2 (List.mem_of_getElem? (i := 138) rfl)
theorem mx_2_184 : Jvm.Cond.stringRef "HeelDance$Tape" (152 : Nat) "up" ∈ lw_tbl := in_2 (List.mem_of_getElem? (i := 184) rfl)
theorem mx_2_185 : Jvm.Cond.stringRef "HeelDance$Tape" (154 : Nat) "down" ∈ lw_tbl := in_2 (List.mem_of_getElem? (i := 185) rfl)
theorem mx_2_186 : Jvm.Cond.stringRef "HeelDance$Tape" (156 : Nat) "waltz" ∈ lw_tbl := in_2 (List.mem_of_getElem? (i := 186) rfl)
theorem mx_2_187 : Jvm.Cond.stringRef "HeelDance$Tape" (158 : Nat) "mirror" ∈ lw_tbl := in_2 (List.mem_of_getElem? (i := 187) rfl)
theorem ok_tbl {s : State} {b : Nat} (hts : ∀ w ∈ lw_tbl, w.before #[Value.ref b] s = true) : ∀ w ∈ lw_ok, w.before #[Value.ref b] s = true := fun w hw => hts w (List.mem_filter.mp hw).1
theorem NW_ini {s : State} {b : Nat} (hts : ∀ w ∈ lw_tbl, w.before #[Value.ref b] s = true) : NW s := ⟨⟨va_Nw.of rfl (hts _ mx_1_166), va_Nw.of rfl (hts _ mx_1_170), va_Nw.of rfl (hts _ mx_1_230), va_Nw.of rfl (hts _ mx_1_27), va_Nw.of rfl (hts _ mx_1_39), va_Nw.of rfl (hts _ mx_1_197), va_Nw.of rfl (hts _ mx_1_33), va_Nw.of rfl (hts _ mx_1_175)⟩, va_AO.of (hts _ mx_1_167), va_AO.of (hts _ mx_1_196), va_AO.of (hts _ mx_1_228)⟩
theorem vk_one {args : Array Value} {s : State} {t : Term} {n : Nat} {f : Nat → Int32} {A : Nat → Prop} (hN : n < 2 ^ 31) (hex : (Cond.exactly t "java/lang/String").before args s = true) (hco : (Cond.eq (.field t "java/lang/String" "coder" "B") (.int 0)).before args s = true) (har : (Cond.arrayOf (.field t "java/lang/String" "value" "[B") .byte).before args s = true) (hle : (Cond.eq (.length (.field t "java/lang/String" "value" "[B")) (.int (Int32.ofNat n))).before args s = true) (hel : ∀ j : Nat, j < n → (Cond.eq (.elem (.field t "java/lang/String" "value" "[B") (.int (Int32.ofNat j))) (.int (f j))).before args s = true) (hA : ∀ a : Nat, a < s.heap.size → ¬ A a) : ∃ a tt : Nat, t.eval args s none [] s = some (.ref a) ∧ va_O "java/lang/String" a A s s.heap ∧ va_OF "java/lang/String" "coder" "B" (.int 0) a A s s.heap ∧ va_OF "java/lang/String" "value" "[B" (.ref tt) a A s s.heap ∧ va_T .byte tt n (fun j => .int (f j)) A s s.heap := by
  obtain ⟨a, c, cA, kA, q1, q2, q3, q4, q5, q6, -⟩ := Cond.exactly_spec (args := args) (first := s) (o := none) (s := s) (idx := []) (t := t) (cls := "java/lang/String") hex
  obtain ⟨tt, ht, hT⟩ := va_Tof (f := fun j => .int (f j)) (A := A) hN har (va_eqt hle) (fun j hj => va_eqt (hel j hj)) hA
  exact ⟨a, tt, q1, ⟨cA, q3, q5, by rw [q6]; exact q2, hA a (Array.getElem?_eq_some_iff.mp q3).1⟩, vk_OFof q1 (va_eqt hco) hA, vk_OFof q1 ht hA, hT⟩
def kA (s : State) : Nat → Prop := fun q => s.heap.size ≤ q
def kS (s : State) (i a : Nat) : Prop := vk_R "HeelDance$Tape" (140 + 2 * i) (skT.getD i "") a s ∧ ∃ t : Nat, (i < 10 ∧ wdN i ≤ 7) ∧ va_O "java/lang/String" a (kA s) s s.heap ∧ va_OF "java/lang/String" "coder" "B" (.int 0) a (kA s) s s.heap ∧ va_OF "java/lang/String" "value" "[B" (.ref t) a (kA s) s s.heap ∧ va_T .byte t (wdN i) (fun j => .int (Int32.ofInt (wdC i j))) (kA s) s s.heap
theorem ks_0 {s : State} {b : Nat} (hts : ∀ w ∈ lw_tbl, w.before #[Value.ref b] s = true) (hgv : (Jvm.Cond.and given_1 narrow_1).before #[Value.ref b] s = true) : ∃ a, kS s 0 a := by
  have hs := flat_of_before _ hgv
  obtain ⟨a, tt, h1, h2, h3, h4, h5⟩ := vk_one (t := (.string "HeelDance$Tape" 140)) (n := 5) (f := fun j => Int32.ofInt (wdC 0 j)) (A := kA s) (by decide) (hs _ (by decide +kernel)) (hs _ (by decide +kernel)) (hs _ (by decide +kernel)) (hs _ (by decide +kernel)) (fun j hj => by rcases (show j = 0 ∨ j = 1 ∨ j = 2 ∨ j = 3 ∨ j = 4 by omega) with rfl | rfl | rfl | rfl | rfl <;> exact hs _ (by decide +kernel)) (fun a h1 h2 => absurd h1 (Nat.not_lt.mpr h2))
  exact ⟨a, vk_R.of (hts _ mx_2_81) h1, tt, ⟨by decide, by decide⟩, h2, h3, h4, h5⟩
theorem ks_1 {s : State} {b : Nat} (hts : ∀ w ∈ lw_tbl, w.before #[Value.ref b] s = true) (hgv : (Jvm.Cond.and given_1 narrow_1).before #[Value.ref b] s = true) : ∃ a, kS s 1 a := by
  have hs := flat_of_before _ hgv
  obtain ⟨a, tt, h1, h2, h3, h4, h5⟩ := vk_one (t := (.string "HeelDance$Tape" 142)) (n := 6) (f := fun j => Int32.ofInt (wdC 1 j)) (A := kA s) (by decide) (hs _ (by decide +kernel)) (hs _ (by decide +kernel)) (hs _ (by decide +kernel)) (hs _ (by decide +kernel)) (fun j hj => by rcases (show j = 0 ∨ j = 1 ∨ j = 2 ∨ j = 3 ∨ j = 4 ∨ j = 5 by omega) with rfl | rfl | rfl | rfl | rfl | rfl <;> exact hs _ (by decide +kernel)) (fun a h1 h2 => absurd h1 (Nat.not_lt.mpr h2))
  exact ⟨a, vk_R.of (hts _ mx_2_82) h1, tt, ⟨by decide, by decide⟩, h2, h3, h4, h5⟩
theorem ks_2 {s : State} {b : Nat} (hts : ∀ w ∈ lw_tbl, w.before #[Value.ref b] s = true) (hgv : (Jvm.Cond.and given_1 narrow_1).before #[Value.ref b] s = true) : ∃ a, kS s 2 a := by
  have hs := flat_of_before _ hgv
  obtain ⟨a, tt, h1, h2, h3, h4, h5⟩ := vk_one (t := (.string "HeelDance$Tape" 144)) (n := 4) (f := fun j => Int32.ofInt (wdC 2 j)) (A := kA s) (by decide) (hs _ (by decide +kernel)) (hs _ (by decide +kernel)) (hs _ (by decide +kernel)) (hs _ (by decide +kernel)) (fun j hj => by rcases (show j = 0 ∨ j = 1 ∨ j = 2 ∨ j = 3 by omega) with rfl | rfl | rfl | rfl <;> exact hs _ (by decide +kernel)) (fun a h1 h2 => absurd h1 (Nat.not_lt.mpr h2))
  exact ⟨a, vk_R.of (hts _ mx_2_83) h1, tt, ⟨by decide, by decide⟩, h2, h3, h4, h5⟩
theorem ks_3 {s : State} {b : Nat} (hts : ∀ w ∈ lw_tbl, w.before #[Value.ref b] s = true) (hgv : (Jvm.Cond.and given_1 narrow_1).before #[Value.ref b] s = true) : ∃ a, kS s 3 a := by
  have hs := flat_of_before _ hgv
  obtain ⟨a, tt, h1, h2, h3, h4, h5⟩ := vk_one (t := (.string "HeelDance$Tape" 146)) (n := 6) (f := fun j => Int32.ofInt (wdC 3 j)) (A := kA s) (by decide) (hs _ (by decide +kernel)) (hs _ (by decide +kernel)) (hs _ (by decide +kernel)) (hs _ (by decide +kernel)) (fun j hj => by rcases (show j = 0 ∨ j = 1 ∨ j = 2 ∨ j = 3 ∨ j = 4 ∨ j = 5 by omega) with rfl | rfl | rfl | rfl | rfl | rfl <;> exact hs _ (by decide +kernel)) (fun a h1 h2 => absurd h1 (Nat.not_lt.mpr h2))
  exact ⟨a, vk_R.of (hts _ mx_2_84) h1, tt, ⟨by decide, by decide⟩, h2, h3, h4, h5⟩
theorem ks_4 {s : State} {b : Nat} (hts : ∀ w ∈ lw_tbl, w.before #[Value.ref b] s = true) (hgv : (Jvm.Cond.and given_1 narrow_1).before #[Value.ref b] s = true) : ∃ a, kS s 4 a := by
  have hs := flat_of_before _ hgv
  obtain ⟨a, tt, h1, h2, h3, h4, h5⟩ := vk_one (t := (.string "HeelDance$Tape" 148)) (n := 7) (f := fun j => Int32.ofInt (wdC 4 j)) (A := kA s) (by decide) (hs _ (by decide +kernel)) (hs _ (by decide +kernel)) (hs _ (by decide +kernel)) (hs _ (by decide +kernel)) (fun j hj => by rcases (show j = 0 ∨ j = 1 ∨ j = 2 ∨ j = 3 ∨ j = 4 ∨ j = 5 ∨ j = 6 by omega) with rfl | rfl | rfl | rfl | rfl | rfl | rfl <;> exact hs _ (by decide +kernel)) (fun a h1 h2 => absurd h1 (Nat.not_lt.mpr h2))
  exact ⟨a, vk_R.of (hts _ mx_2_85) h1, tt, ⟨by decide, by decide⟩, h2, h3, h4, h5⟩
theorem ks_5 {s : State} {b : Nat} (hts : ∀ w ∈ lw_tbl, w.before #[Value.ref b] s = true) (hgv : (Jvm.Cond.and given_1 narrow_1).before #[Value.ref b] s = true) : ∃ a, kS s 5 a := by
  have hs := flat_of_before _ hgv
  obtain ⟨a, tt, h1, h2, h3, h4, h5⟩ := vk_one (t := (.string "HeelDance$Tape" 150)) (n := 7) (f := fun j => Int32.ofInt (wdC 5 j)) (A := kA s) (by decide) (hs _ (by decide +kernel)) (hs _ (by decide +kernel)) (hs _ (by decide +kernel)) (hs _ (by decide +kernel)) (fun j hj => by rcases (show j = 0 ∨ j = 1 ∨ j = 2 ∨ j = 3 ∨ j = 4 ∨ j = 5 ∨ j = 6 by omega) with rfl | rfl | rfl | rfl | rfl | rfl | rfl <;> exact hs _ (by decide +kernel)) (fun a h1 h2 => absurd h1 (Nat.not_lt.mpr h2))
  exact ⟨a, vk_R.of (hts _ mx_2_86) h1, tt, ⟨by decide, by decide⟩, h2, h3, h4, h5⟩
theorem ks_6 {s : State} {b : Nat} (hts : ∀ w ∈ lw_tbl, w.before #[Value.ref b] s = true) (hgv : (Jvm.Cond.and given_1 narrow_1).before #[Value.ref b] s = true) : ∃ a, kS s 6 a := by
  have hs := flat_of_before _ hgv
  obtain ⟨a, tt, h1, h2, h3, h4, h5⟩ := vk_one (t := (.string "HeelDance$Tape" 152)) (n := 2) (f := fun j => Int32.ofInt (wdC 6 j)) (A := kA s) (by decide) (hs _ (by decide +kernel)) (hs _ (by decide +kernel)) (hs _ (by decide +kernel)) (hs _ (by decide +kernel)) (fun j hj => by rcases (show j = 0 ∨ j = 1 by omega) with rfl | rfl <;> exact hs _ (by decide +kernel)) (fun a h1 h2 => absurd h1 (Nat.not_lt.mpr h2))
  exact ⟨a, vk_R.of (hts _ mx_2_184) h1, tt, ⟨by decide, by decide⟩, h2, h3, h4, h5⟩
theorem ks_7 {s : State} {b : Nat} (hts : ∀ w ∈ lw_tbl, w.before #[Value.ref b] s = true) (hgv : (Jvm.Cond.and given_1 narrow_1).before #[Value.ref b] s = true) : ∃ a, kS s 7 a := by
  have hs := flat_of_before _ hgv
  obtain ⟨a, tt, h1, h2, h3, h4, h5⟩ := vk_one (t := (.string "HeelDance$Tape" 154)) (n := 4) (f := fun j => Int32.ofInt (wdC 7 j)) (A := kA s) (by decide) (hs _ (by decide +kernel)) (hs _ (by decide +kernel)) (hs _ (by decide +kernel)) (hs _ (by decide +kernel)) (fun j hj => by rcases (show j = 0 ∨ j = 1 ∨ j = 2 ∨ j = 3 by omega) with rfl | rfl | rfl | rfl <;> exact hs _ (by decide +kernel)) (fun a h1 h2 => absurd h1 (Nat.not_lt.mpr h2))
  exact ⟨a, vk_R.of (hts _ mx_2_185) h1, tt, ⟨by decide, by decide⟩, h2, h3, h4, h5⟩
theorem ks_8 {s : State} {b : Nat} (hts : ∀ w ∈ lw_tbl, w.before #[Value.ref b] s = true) (hgv : (Jvm.Cond.and given_1 narrow_1).before #[Value.ref b] s = true) : ∃ a, kS s 8 a := by
  have hs := flat_of_before _ hgv
  obtain ⟨a, tt, h1, h2, h3, h4, h5⟩ := vk_one (t := (.string "HeelDance$Tape" 156)) (n := 5) (f := fun j => Int32.ofInt (wdC 8 j)) (A := kA s) (by decide) (hs _ (by decide +kernel)) (hs _ (by decide +kernel)) (hs _ (by decide +kernel)) (hs _ (by decide +kernel)) (fun j hj => by rcases (show j = 0 ∨ j = 1 ∨ j = 2 ∨ j = 3 ∨ j = 4 by omega) with rfl | rfl | rfl | rfl | rfl <;> exact hs _ (by decide +kernel)) (fun a h1 h2 => absurd h1 (Nat.not_lt.mpr h2))
  exact ⟨a, vk_R.of (hts _ mx_2_186) h1, tt, ⟨by decide, by decide⟩, h2, h3, h4, h5⟩
theorem ks_9 {s : State} {b : Nat} (hts : ∀ w ∈ lw_tbl, w.before #[Value.ref b] s = true) (hgv : (Jvm.Cond.and given_1 narrow_1).before #[Value.ref b] s = true) : ∃ a, kS s 9 a := by
  have hs := flat_of_before _ hgv
  obtain ⟨a, tt, h1, h2, h3, h4, h5⟩ := vk_one (t := (.string "HeelDance$Tape" 158)) (n := 6) (f := fun j => Int32.ofInt (wdC 9 j)) (A := kA s) (by decide) (hs _ (by decide +kernel)) (hs _ (by decide +kernel)) (hs _ (by decide +kernel)) (hs _ (by decide +kernel)) (fun j hj => by rcases (show j = 0 ∨ j = 1 ∨ j = 2 ∨ j = 3 ∨ j = 4 ∨ j = 5 by omega) with rfl | rfl | rfl | rfl | rfl | rfl <;> exact hs _ (by decide +kernel)) (fun a h1 h2 => absurd h1 (Nat.not_lt.mpr h2))
  exact ⟨a, vk_R.of (hts _ mx_2_187) h1, tt, ⟨by decide, by decide⟩, h2, h3, h4, h5⟩
theorem ks_all {s : State} {b : Nat} (hts : ∀ w ∈ lw_tbl, w.before #[Value.ref b] s = true) (hgv : (Jvm.Cond.and given_1 narrow_1).before #[Value.ref b] s = true) : ∃ K : Nat → Nat, ∀ i : Nat, i < 10 → kS s i (K i) := by
  have h0 : ∀ i : Nat, ∃ a : Nat, i < 10 → kS s i a := by
    intro i
    by_cases hi : i < 10
    · rcases (show i = 0 ∨ i = 1 ∨ i = 2 ∨ i = 3 ∨ i = 4 ∨ i = 5 ∨ i = 6 ∨ i = 7 ∨ i = 8 ∨ i = 9 by omega) with rfl | rfl | rfl | rfl | rfl | rfl | rfl | rfl | rfl | rfl
      · obtain ⟨a, h⟩ := ks_0 hts hgv; exact ⟨a, fun _ => h⟩
      · obtain ⟨a, h⟩ := ks_1 hts hgv; exact ⟨a, fun _ => h⟩
      · obtain ⟨a, h⟩ := ks_2 hts hgv; exact ⟨a, fun _ => h⟩
      · obtain ⟨a, h⟩ := ks_3 hts hgv; exact ⟨a, fun _ => h⟩
      · obtain ⟨a, h⟩ := ks_4 hts hgv; exact ⟨a, fun _ => h⟩
      · obtain ⟨a, h⟩ := ks_5 hts hgv; exact ⟨a, fun _ => h⟩
      · obtain ⟨a, h⟩ := ks_6 hts hgv; exact ⟨a, fun _ => h⟩
      · obtain ⟨a, h⟩ := ks_7 hts hgv; exact ⟨a, fun _ => h⟩
      · obtain ⟨a, h⟩ := ks_8 hts hgv; exact ⟨a, fun _ => h⟩
      · obtain ⟨a, h⟩ := ks_9 hts hgv; exact ⟨a, fun _ => h⟩
    · exact ⟨0, fun h => absurd h hi⟩
  obtain ⟨K, hK⟩ := Classical.axiomOfChoice h0
  exact ⟨K, hK⟩
theorem SK_base {s : State} {b : Nat} (hts : ∀ w ∈ lw_tbl, w.before #[Value.ref b] s = true) (hgv : (Jvm.Cond.and given_1 narrow_1).before #[Value.ref b] s = true) {K : Nat → Nat} (hKK : ∀ i : Nat, i < 10 → kS s i (K i)) (z : Zt) (hz : zK z = K) (hL : ∀ q ∈ zL z, s.heap.size ≤ q) : SK z s s.heap := by
  have hs := flat_of_before _ hgv
  have nA : ∀ q, zA z q → kA s q := fun q h => hL q h
  have n0 : ∀ a : Nat, a < s.heap.size → ¬ kA s a := fun a h1 h2 => absurd h1 (Nat.not_lt.mpr h2)
  refine ⟨fun i hi => ?_, ?_, ?_⟩
  · rw [hz]
    obtain ⟨h1, t, h2, h3, h4, h5, h6⟩ := hKK i hi
    exact ⟨h1, t, h2, h3.narrow nA, h4.narrow nA, h5.narrow nA, h6.narrow nA⟩
  · exact (va_Zof (hts _ mx_2_100) (ok_tbl hts _ mw_1_10) (va_eqi (hs _ (by decide +kernel))) n0).narrow nA
  · rcases va_Zqof (A := kA s) (hts _ mx_2_116) (ok_tbl hts _ mw_1_12) (hs _ (by decide +kernel)) n0 with h | ⟨t, h⟩
    · exact Or.inl (h.narrow nA)
    · exact Or.inr ⟨t, h.narrow nA⟩
theorem ac_of {args : Array Value} {s : State} {ty : FieldType} (h : (Cond.arrayClass ty).before args s = true) (hty : ∀ C, ty ≠ .object C) : ∃ cA : ClassId, ArrOfT s cA ty ∧ va_RA s cA ty := by
  obtain ⟨c, k, comp, h1, h2, h3⟩ := Cond.arrayClass_spec h
  refine ⟨c, fun N z => ⟨fun k h => (by cases h), k, h2, comp, h3⟩, ?_⟩
  cases ty with
  | object C => exact absurd rfl (hty C)
  | _ => exact h1
theorem ao_of {s : State} {C : String} (h : va_AO C s) : ∃ cA : ClassId, ArrOfT s cA (.object C) ∧ va_RA s cA (.object C) := by
  obtain ⟨comp, c, k, h1, h2, h3, h4, h5⟩ := Cond.arrayOver_spec h
  exact ⟨c, fun N z => ⟨fun k h => (by cases h), k, h3, comp, h4⟩, k, comp, h3, h4, h1, h5⟩
theorem K_ini {s : State} {b : Nat} (hts : ∀ w ∈ lw_ok, w.before #[Value.ref b] s = true) (hNW : NW s) : ∃ z0 : Zt, va_K (zD z0) vwCl (zT z0) s := by
  obtain ⟨c0, i0, k0⟩ := u_known (C := RX0) (T := TX0) (N := 8) (n := 8) hts ic_Evening (hts _ mw_1_32)
  obtain ⟨c1, i1, k1⟩ := u_known (C := RX1) (T := TX1) (N := 10) (n := 10) hts ic_Floor (hts _ mw_1_38)
  obtain ⟨c2, i2, k2⟩ := u_known (C := RX2) (T := TX2) (N := 8) (n := 8) hts ic_Search (hts _ mw_1_190)
  obtain ⟨c3, i3, k3⟩ := u_known (C := RX3) (T := TX3) (N := 3) (n := 3) hts ic_Sheet (hts _ mw_1_229)
  obtain ⟨c4, i4, k4⟩ := u_known (C := RX4) (T := TX4) (N := 10) (n := 10) hts ic_Tape (hts _ mw_1_26)
  obtain ⟨c5, i5, k5⟩ := u_known (C := RX5) (T := TX5) (N := 3) (n := 3) hts ic_Walk (hts _ mw_1_169)
  obtain ⟨c6, i6, k6⟩ := u_known (C := RX6) (T := TX6) (N := 9) (n := 9) hts ic_HeelDance (hts _ mw_1_18)
  obtain ⟨c7, i7, k7⟩ := u_known (C := RX7) (T := TX7) (N := 26) (n := 26) hts ic_Model (hts _ mw_4_57)
  obtain ⟨aI, pI, rI⟩ := ac_of (hts (.arrayClass .int) mw_1_88) (fun C h => by cases h)
  obtain ⟨aZ, pZ, rZ⟩ := ac_of (hts (.arrayClass .boolean) mw_1_188) (fun C h => by cases h)
  obtain ⟨aE, pE, rE⟩ := ao_of hNW.2.1
  obtain ⟨aF, pF, rF⟩ := ao_of hNW.2.2.1
  obtain ⟨aS, pS, rS⟩ := ao_of hNW.2.2.2
  refine ⟨((fun k => match k with | 0 => c0 | 1 => c1 | 2 => c2 | 3 => c3 | 4 => c4 | 5 => c5 | 6 => c6 | _ => c7, fun k => match k with | 0 => i0 | 1 => i1 | 2 => i2 | 3 => i3 | 4 => i4 | 5 => i5 | 6 => i6 | _ => i7), (aI, aZ, aE, aF, aS), [], fun _ => (0, 0), fun _ => 0), ?_, ?_⟩
  · intro k q hq
    match k, hq with
    | 0, hq => cases hq; exact k0
    | 1, hq => cases hq; exact k1
    | 2, hq => cases hq; exact k2
    | 3, hq => cases hq; exact k3
    | 4, hq => cases hq; exact k4
    | 5, hq => cases hq; exact k5
    | 6, hq => cases hq; exact k6
    | 7, hq => cases hq; exact k7
    | k + 8, hq => simp [vwCl] at hq
  · intro k q hq
    match k, hq with
    | 0, hq => cases hq; exact ⟨pI, rI⟩
    | 1, hq => cases hq; exact ⟨pZ, rZ⟩
    | 2, hq => cases hq; exact ⟨pE, rE⟩
    | 3, hq => cases hq; exact ⟨pF, rF⟩
    | 4, hq => cases hq; exact ⟨pS, rS⟩
    | k + 5, hq => simp at hq
