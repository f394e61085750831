theorem wrL {α : Type} {z : Zt} {A : Nat → Prop} {σ0 σ : Sg} {o r i : Nat} {v : Int} {K : Lo → Option α} {out : α} {H : Heap} (hF : bns (wrl (σ o) r i v) K = some out) (hfr : FR σ0 σ o) (hT : TY z A (wr σ o r i v) H) : ∃ σ' : Sg, K (σ' o) = some out ∧ FR σ0 σ' o ∧ TY z A σ' H :=
  ⟨wr σ o r i v, by rw [show wr σ o r i v o = wrl (σ o) r i v from gset_at _ _ _]; exact hF, fun o' h => (gset_ne _ _ h).trans (hfr o' h), hT⟩
theorem cpL {α : Type} {z : Zt} {A : Nat → Prop} {σ0 σ : Sg} {o : Nat} {φ : Lo} {K : Lo → Option α} {out : α} {H : Heap} (hF : bns φ K = some out) (hfr : FR σ0 σ o) (hT : TY z A (gset σ o φ) H) : ∃ σ' : Sg, K (σ' o) = some out ∧ FR σ0 σ' o ∧ TY z A σ' H :=
  ⟨gset σ o φ, by rw [gset_at]; exact hF, fun o' h => (gset_ne _ _ h).trans (hfr o' h), hT⟩
theorem wrG {α : Type} {z : Zt} {A : Nat → Prop} {σ : Sg} {K : Sg → Option α} {out : α} {H : Heap} (hF : bns σ K = some out) (hT : TY z A σ H) : ∃ σ' : Sg, K σ' = some out ∧ TY z A σ' H := ⟨σ, hF, hT⟩
theorem ckd {α : Type} {p : Prop} {i : Decidable p} {k : Option α} {out : α} (hF : @chk α p i k = some out) : p ∧ k = some out := @ck α p i k out hF
