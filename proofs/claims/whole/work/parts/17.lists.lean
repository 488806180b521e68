/-! ArrayList's members, over the abstract memory -/
def wL_init (a t : Nat) (post : St → Prop) (σ : St) : Prop := sK σ a = 19 ∧ sI σ 952 a 0 = 0 ∧ (20 ≤ t ∧ t < 23) ∧ post (uT σ a t)
def wL_size (a : Nat) (post : Int32 → St → Prop) (σ : St) : Prop := (20 ≤ sK σ a ∧ sK σ a < 23) ∧ post (nI (sL σ a).length) σ
def wL_get (a : Nat) (i : Int32) (post : Option Nat → St → Prop) (σ : St) : Prop := (20 ≤ sK σ a ∧ sK σ a < 23) ∧ ∃ x, (sL σ a)[i.toNatClampNeg]? = some x ∧ ¬ i < 0 ∧ post (some x) σ
def wL_add (a : Nat) (x : Option Nat) (post : Int32 → St → Prop) (σ : St) : Prop := (20 ≤ sK σ a ∧ sK σ a < 23) ∧ ∃ y, x = some y ∧ sK σ y = rElt (sK σ a) ∧ (sL σ a).length < 65 ∧ post 1 (uL σ a (sL σ a ++ [y]))
def wL_addAt (a : Nat) (i : Int32) (x : Option Nat) (post : St → Prop) (σ : St) : Prop := (20 ≤ sK σ a ∧ sK σ a < 23) ∧ ∃ y, x = some y ∧ sK σ y = rElt (sK σ a) ∧ ¬ i < 0 ∧ i.toNatClampNeg ≤ (sL σ a).length ∧ (sL σ a).length < 65 ∧ post (uL σ a ((sL σ a).take i.toNatClampNeg ++ y :: (sL σ a).drop i.toNatClampNeg))
def wL_remove (a : Nat) (i : Int32) (post : Option Nat → St → Prop) (σ : St) : Prop := (20 ≤ sK σ a ∧ sK σ a < 23) ∧ ∃ x, (sL σ a)[i.toNatClampNeg]? = some x ∧ ¬ i < 0 ∧ post (some x) (uL σ a ((sL σ a).eraseIdx i.toNatClampNeg))
def wL_clear (a : Nat) (post : St → Prop) (σ : St) : Prop := (20 ≤ sK σ a ∧ sK σ a < 23) ∧ post (uL σ a [])
abbrev rmL_init : Room := { frames := 3, cells := 0, slots := 0, locals := 80 }
abbrev rmL_size : Room := { frames := 0, cells := 0, slots := 0, locals := 0 }
abbrev rmL_get : Room := { frames := 2, cells := 0, slots := 0, locals := 80 }
abbrev rmL_add : Room := { frames := 6, cells := 1, slots := 128, locals := 200 }
abbrev rmL_addAt : Room := { frames := 6, cells := 1, slots := 128, locals := 200 }
abbrev rmL_remove : Room := { frames := 3, cells := 0, slots := 0, locals := 100 }
abbrev rmL_clear : Room := { frames := 0, cells := 0, slots := 0, locals := 0 }
theorem kL_init (l : Launch) (Γ : rGam) (a t : Nat) (post : St → Prop) (σ : St) (h : wL_init a t post σ) : Met l yJx4a65c_init_da8c8 wsJx4a65c_init_da8c8 rmL_init (rPc Γ vwCl [.ref a] (Rep Γ σ)) (va_Qv post (fun σ' t => Rep Γ σ' t.heap) (rA Γ)) 0 0 (rA Γ) := sorry
theorem kL_size (l : Launch) (Γ : rGam) (a : Nat) (post : Int32 → St → Prop) (σ : St) (h : wL_size a post σ) : Met l yJx4a65c_size_8abf5 wsJx4a65c_size_8abf5 rmL_size (rPc Γ vwCl [.ref a] (Rep Γ σ)) (va_Qi post (fun σ' t => Rep Γ σ' t.heap) (rA Γ)) 0 0 (rA Γ) := sorry
theorem kL_get (l : Launch) (Γ : rGam) (a : Nat) (i : Int32) (post : Option Nat → St → Prop) (σ : St) (h : wL_get a i post σ) : Met l yJx4a65c_get_915e3 wsJx4a65c_get_915e3 rmL_get (rPc Γ vwCl [.ref a, .int i] (Rep Γ σ)) (va_Qq post (fun σ' t => Rep Γ σ' t.heap) (rA Γ)) 0 0 (rA Γ) := sorry
theorem kL_add (l : Launch) (Γ : rGam) (a : Nat) (x : Option Nat) (post : Int32 → St → Prop) (σ : St) (h : wL_add a x post σ) : Met l yJx4a65c_add_9ea2d wsJx4a65c_add_9ea2d rmL_add (rPc Γ vwCl [.ref a, va_rf x] (Rep Γ σ)) (va_Qi post (fun σ' t => Rep Γ σ' t.heap) (rA Γ)) 1 128 (rA Γ) := sorry
theorem kL_addAt (l : Launch) (Γ : rGam) (a : Nat) (i : Int32) (x : Option Nat) (post : St → Prop) (σ : St) (h : wL_addAt a i x post σ) : Met l yJx4a65c_add_7a177 wsJx4a65c_add_7a177 rmL_addAt (rPc Γ vwCl [.ref a, .int i, va_rf x] (Rep Γ σ)) (va_Qv post (fun σ' t => Rep Γ σ' t.heap) (rA Γ)) 1 128 (rA Γ) := sorry
theorem kL_remove (l : Launch) (Γ : rGam) (a : Nat) (i : Int32) (post : Option Nat → St → Prop) (σ : St) (h : wL_remove a i post σ) : Met l yJx4a65c_remove_915e3 wsJx4a65c_remove_915e3 rmL_remove (rPc Γ vwCl [.ref a, .int i] (Rep Γ σ)) (va_Qq post (fun σ' t => Rep Γ σ' t.heap) (rA Γ)) 0 0 (rA Γ) := sorry
theorem kL_clear (l : Launch) (Γ : rGam) (a : Nat) (post : St → Prop) (σ : St) (h : wL_clear a post σ) : Met l yJx4a65c_clear_da8c8 wsJx4a65c_clear_da8c8 rmL_clear (rPc Γ vwCl [.ref a] (Rep Γ σ)) (va_Qv post (fun σ' t => Rep Γ σ' t.heap) (rA Γ)) 0 0 (rA Γ) := sorry
