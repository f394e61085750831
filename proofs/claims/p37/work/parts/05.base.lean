abbrev Lo : Type := Nat → Nat → Int
abbrev Sg : Type := Nat → Lo
def wrl (φ : Lo) (r i : Nat) (v : Int) : Lo := fun r' i' => if r' = r ∧ i' = i then v else φ r' i'
def gset (σ : Sg) (o : Nat) (φ : Lo) : Sg := fun o' => if o' = o then φ else σ o'
def wr (σ : Sg) (o r i : Nat) (v : Int) : Sg := gset σ o (wrl (σ o) r i v)
/-- n cells of role r from b on become those of role q of ψ from a on -/
def cpl (φ ψ : Lo) (q a r b n : Nat) : Lo := fun r' i' => if r' = r ∧ b ≤ i' ∧ i' < b + n then ψ q (a + (i' - b)) else φ r' i'
def FR (σ σ' : Sg) (o : Nat) : Prop := ∀ o', o' ≠ o → σ' o' = σ o'
theorem gset_at (σ : Sg) (o : Nat) (φ : Lo) : gset σ o φ o = φ := if_pos rfl
theorem gset_ne (σ : Sg) {o o' : Nat} (φ : Lo) (h : o' ≠ o) : gset σ o φ o' = σ o' := if_neg h
theorem gset_self (σ : Sg) (o : Nat) : gset σ o (σ o) = σ := by
  funext o'
  by_cases h : o' = o
  · subst h; exact gset_at _ _ _
  · exact gset_ne _ _ h
theorem wrl_at (φ : Lo) (r i : Nat) (v : Int) : wrl φ r i v r i = v := if_pos ⟨rfl, rfl⟩
theorem wrl_nr (φ : Lo) {r i : Nat} (v : Int) {r' : Nat} (h : r' ≠ r) : wrl φ r i v r' = φ r' := by
  funext i'; exact if_neg (fun q => h q.1)
theorem wrl_ni (φ : Lo) {r i : Nat} (v : Int) {r' i' : Nat} (h : i' ≠ i) : wrl φ r i v r' i' = φ r' i' := if_neg (fun q => h q.2)
theorem cpl_nr (φ ψ : Lo) {q a r b n : Nat} {r' : Nat} (h : r' ≠ r) : cpl φ ψ q a r b n r' = φ r' := by
  funext i'; exact if_neg (fun q => h q.1)
/-! the words of the functions: a value is bound, a condition is tested, a call may fail -/
def bnd {α : Type} (v : Int) (k : Int → Option α) : Option α := k v
def bns {S α : Type} (v : S) (k : S → Option α) : Option α := k v
def chk {α : Type} (p : Prop) [Decidable p] (k : Option α) : Option α := if p then k else none
def bd0 {α : Type} (d : Option Int) (k : Int → Option α) : Option α := match d with | none => none | some v => k v
def bd1 {S α : Type} (d : Option S) (k : S → Option α) : Option α := match d with | none => none | some v => k v
def bd2 {S α : Type} (d : Option (Int × S)) (k : Int → S → Option α) : Option α := match d with | none => none | some v => k v.1 v.2
def gd59 (i : Nat) (x : Int) : Prop := (i < 20 → 0 ≤ x ∧ x ≤ 9) ∧ ((20 ≤ i ∧ i ≤ 24) → 0 ≤ x ∧ x ≤ 4) ∧ (i = 30 → 0 ≤ x ∧ x ≤ 999) ∧ (i = 31 → 0 ≤ x ∧ x ≤ 8) ∧ (i = 40 → 0 ≤ x ∧ x ≤ 6) ∧ ((41 ≤ i ∧ i % 3 = 2) → 0 ≤ x ∧ x ≤ 4)
def gd177 (i : Nat) (x : Int) : Prop := (i < 59 → gd59 i x) ∧ (59 ≤ i → i < 118 → gd59 (i - 59) x) ∧ (118 ≤ i → gd59 (i - 118) x)
def gd59_dec (i : Nat) (x : Int) : Decidable (gd59 i x) := by unfold gd59; infer_instance
def gd177_dec (i : Nat) (x : Int) : Decidable (gd177 i x) := by
  unfold gd177
  have h := gd59_dec i x
  have h2 := gd59_dec (i - 59) x
  have h3 := gd59_dec (i - 118) x
  infer_instance
theorem gd59_19 {i : Nat} {x : Int} (h : gd59 i x) (hi : i < 20) : 0 ≤ x ∧ x ≤ 9 := h.1 hi
theorem gd59_20 {i : Nat} {x : Int} (h : gd59 i x) (h1 : 20 ≤ i) (h2 : i ≤ 24) : 0 ≤ x ∧ x ≤ 4 := h.2.1 ⟨h1, h2⟩
theorem gd59_30 {i : Nat} {x : Int} (h : gd59 i x) (hi : i = 30) : 0 ≤ x ∧ x ≤ 999 := h.2.2.1 hi
theorem gd59_31 {i : Nat} {x : Int} (h : gd59 i x) (hi : i = 31) : 0 ≤ x ∧ x ≤ 8 := h.2.2.2.1 hi
theorem gd59_40 {i : Nat} {x : Int} (h : gd59 i x) (hi : i = 40) : 0 ≤ x ∧ x ≤ 6 := h.2.2.2.2.1 hi
theorem gd59_41 {i : Nat} {x : Int} (h : gd59 i x) (h1 : 41 ≤ i) (h2 : i % 3 = 2) : 0 ≤ x ∧ x ≤ 4 := h.2.2.2.2.2 ⟨h1, h2⟩
theorem gd59_m19 {i : Nat} {x : Int} (hi : i < 20) (h : 0 ≤ x ∧ x ≤ 9) : gd59 i x := by unfold gd59; omega
theorem gd59_m20 {i : Nat} {x : Int} (h1 : 20 ≤ i) (h2 : i ≤ 24) (h : 0 ≤ x ∧ x ≤ 4) : gd59 i x := by unfold gd59; omega
theorem gd59_m30 {i : Nat} {x : Int} (hi : i = 30) (h : 0 ≤ x ∧ x ≤ 999) : gd59 i x := by unfold gd59; omega
theorem gd59_m31 {i : Nat} {x : Int} (hi : i = 31) (h : 0 ≤ x ∧ x ≤ 8) : gd59 i x := by unfold gd59; omega
theorem gd59_m40 {i : Nat} {x : Int} (hi : i = 40) (h : 0 ≤ x ∧ x ≤ 6) : gd59 i x := by unfold gd59; omega
theorem gd59_mf {i : Nat} {x : Int} (hi : (25 ≤ i ∧ i ≤ 29) ∨ (32 ≤ i ∧ i ≤ 39)) : gd59 i x := by unfold gd59; omega
theorem gd177_e {i : Nat} {x : Int} (h : gd177 i x) (hi : i < 59) : gd59 i x := h.1 hi
theorem gd177_m {i : Nat} {x : Int} (hi : i < 59) (h : gd59 i x) : gd177 i x := ⟨fun _ => h, fun q => absurd hi (by omega), fun q => absurd hi (by omega)⟩
theorem no_s {α : Type} {out : α} (h : (none : Option α) = some out) : False := by cases h
def w32 (v : Int) : Int := (Int32.ofInt v).toInt
def b_and (x y : Int) : Int := (Int32.ofInt x &&& Int32.ofInt y).toInt
def b_or (x y : Int) : Int := (Int32.ofInt x ||| Int32.ofInt y).toInt
def b_xor (x y : Int) : Int := (Int32.ofInt x ^^^ Int32.ofInt y).toInt
def b_shl (x y : Int) : Int := (Int32.ofInt x <<< (Int32.ofInt y &&& 31)).toInt
def b_shr (x y : Int) : Int := (Int32.ofInt x >>> (Int32.ofInt y &&& 31)).toInt
def b_ushr (x y : Int) : Int := ((Int32.ofInt x).toUInt32 >>> ((Int32.ofInt y).toUInt32 &&& Int32.toUInt32 31)).toInt32.toInt
def b_i2c (x : Int) : Int := ((Int32.ofInt x).toUInt32 % 65536).toInt32.toInt
def b_i2b (x : Int) : Int := (Int32.ofInt x).toInt8.toInt32.toInt
def b_i2s (x : Int) : Int := (Int32.ofInt x).toInt16.toInt32.toInt
def w64 (v : Int) : Int := (Int64.ofInt v).toInt
def l_cm (u v : Int) : Int := if u < v then -1 else if u = v then 0 else 1
theorem bn {α : Type} {v : Int} {k : Int → Option α} {out : α} {x : Int} (hF : bnd v k = some out) (e : x = v) : k x = some out := by subst e; exact hF
theorem ck {α : Type} {p : Prop} [Decidable p] {k : Option α} {out : α} (hF : chk p k = some out) : p ∧ k = some out := by
  unfold chk at hF
  by_cases h : p
  · rw [if_pos h] at hF; exact ⟨h, hF⟩
  · rw [if_neg h] at hF; cases hF
theorem ifp {α : Type} {p : Prop} [Decidable p] {k j : Option α} {out : α} (hF : (if p then k else j) = some out) (h : p) : k = some out := by rw [if_pos h] at hF; exact hF
theorem ifn {α : Type} {p : Prop} [Decidable p] {k j : Option α} {out : α} (hF : (if p then k else j) = some out) (h : ¬ p) : j = some out := by rw [if_neg h] at hF; exact hF
theorem bd0_s {α : Type} {d : Option Int} {k : Int → Option α} {out : α} (hF : bd0 d k = some out) : ∃ v, d = some v ∧ k v = some out := by
  cases d with
  | none => cases hF
  | some v => exact ⟨v, rfl, hF⟩
theorem bd1_s {S α : Type} {d : Option S} {k : S → Option α} {out : α} (hF : bd1 d k = some out) : ∃ v, d = some v ∧ k v = some out := by
  cases d with
  | none => cases hF
  | some v => exact ⟨v, rfl, hF⟩
theorem bd2_s {S α : Type} {d : Option (Int × S)} {k : Int → S → Option α} {out : α} (hF : bd2 d k = some out) : ∃ v s, d = some (v, s) ∧ k v s = some out := by
  cases d with
  | none => cases hF
  | some v => exact ⟨v.1, v.2, rfl, hF⟩
theorem bd0_r {α : Type} {d : Option Int} {k : Int → Option α} {out : α} {v x : Int} (hF : bd0 d k = some out) (hd : d = some v) (he : some x = some v) : k x = some out := by cases he; subst hd; exact hF
theorem bd1_r {S α : Type} {d : Option S} {k : S → Option α} {out : α} {v x : S} (hF : bd1 d k = some out) (hd : d = some v) (he : some x = some v) : k x = some out := by cases he; subst hd; exact hF
theorem bd2_r {S α : Type} {d : Option (Int × S)} {k : Int → S → Option α} {out : α} {v x : Int} {s t : S} (hF : bd2 d k = some out) (hd : d = some (v, s)) (he : some (x, t) = some (v, s)) : k x t = some out := by cases he; subst hd; exact hF
theorem FR_rf (σ : Sg) (o : Nat) : FR σ σ o := fun _ _ => rfl
theorem FR_tr {σ σ' σ'' : Sg} {o : Nat} (h2 : FR σ' σ'' o) (h : FR σ σ' o) : FR σ σ'' o := fun o' ho => (h2 o' ho).trans (h o' ho)
theorem FR_eq {σ σ' : Sg} {o : Nat} (h : FR σ σ' o) : gset σ o (σ' o) = σ' := by
  funext o'
  by_cases q : o' = o
  · subst q; exact gset_at _ _ _
  · rw [gset_ne _ _ q, h o' q]
theorem gsL {α : Type} {σ σ' : Sg} {o : Nat} {k : Sg → Option α} {out : α} (hF : bns (gset σ o (σ' o)) k = some out) (h : FR σ σ' o) : k σ' = some out := by
  rw [FR_eq h] at hF; exact hF
/-- what stands there when all has been made -/
def iniS : Sg := fun _ r i => if r = 13 ∧ i = 1 then -1 else if r = 47 then -4 else 0
/-- the words that the class compares THE TAPE with -/
def wdT : List (List Int) := [[112, 108, 97, 105, 110], [98, 111, 111, 116, 101, 100], [98, 101, 110, 116], [104, 101, 97, 114, 116, 104], [99, 111, 117, 115, 105, 110, 115], [112, 114, 111, 103, 114, 97, 109], [117, 112], [100, 111, 119, 110], [119, 97, 108, 116, 122], [109, 105, 114, 114, 111, 114]]
def wdN (w : Nat) : Nat := (wdT.getD w []).length
def wdC (w i : Nat) : Int := (wdT.getD w []).getD i 0
