/-! ArrayList's members, the rest: made, added to, taken from, emptied -/
theorem rGs_none {Γ : rGam} {σ : St} {X : rHid} {q : Nat} (hq : rGs Γ σ X q = none) : sK σ q = 0 ∧ X.2.2.2 q = 0 := by
  have hk : sK σ q = 0 := by
    by_cases hk : sK σ q = 0
    · exact hk
    · simp only [rGs, hk, if_false] at hq
      split at hq <;> cases hq
  refine ⟨hk, ?_⟩
  by_cases hx : X.2.2.2 q = 0
  · exact hx
  · simp [rGs, hk, hx] at hq
theorem Rep_done {Γ : rGam} {σ : St} {X : rHid} {a b n : Nat} {m v : Int32} {l : List Nat} {g : Nat → Option Nat} {G : rG} {H : Heap} (hW : rWf Γ σ X) (hk : 20 ≤ sK σ a ∧ sK σ a < 23) (hb : sK σ b = 0) (ho : X.2.2.2 b = 0 ∨ X.2.2.2 b = a + 1) (hl : l.length ≤ n) (hn : n < 100000) (hn0 : 10 ≤ n) (he : ∀ x ∈ l, sK σ x = rElt (sK σ a)) (hO : ∀ z, z ≠ a → z ≠ b → G z = rGs Γ σ X z) (hg : g = fun i => l[i]?) (hv : v = nI l.length) (hG : rW Γ vwCl (rup (rup G b (.inl (Γ.2.2.1 4, n, .inr (.inr (.inr (.inr g)))))) a (.inr (0, [.int m, .ref b, .int v]))) H) : Rep Γ (uL σ a l) H := by
  subst hg
  subst hv
  have hba : b ≠ a := fun e => by rw [e] at hb; omega
  exact Rep_upd hW hk hb ho hl hn hn0 he hG (rup_self _ _ _) ((rup_ne _ _ hba).trans (rup_self _ _ _)) (fun z h1 h2 => (rup_ne _ _ h1).trans ((rup_ne _ _ h2).trans (hO z h1 h2)))
theorem app_get (L : List Nat) (y : Nat) : va_up (fun i => L[i]?) L.length (some y) = fun i => (L ++ [y])[i]? := by
  funext i
  unfold va_up
  by_cases h : i = L.length
  · rw [if_pos h, h]; simp
  · rw [if_neg h]
    by_cases h2 : i < L.length
    · rw [List.getElem?_append_left h2]
    · show L[i]? = _
      rw [List.getElem?_eq_none (show L.length ≤ i by omega), List.getElem?_eq_none (show (L ++ [y]).length ≤ i by rw [List.length_append, List.length_singleton]; omega)]
theorem ins_get (L : List Nat) (j y : Nat) (hj : j ≤ L.length) : va_up (va_cpy (fun i => L[i]?) (fun i => L[i]?) j (j + 1) (L.length - j)) j (some y) = fun i => (L.take j ++ y :: L.drop j)[i]? := by
  funext i
  have hlt : (L.take j).length = j := by rw [List.length_take]; omega
  unfold va_up va_cpy
  by_cases h : i = j
  · rw [if_pos h, h, List.getElem?_append_right (by omega), hlt]; simp
  · rw [if_neg h]
    by_cases h2 : i < j
    · rw [if_neg (by omega), List.getElem?_append_left (by omega), List.getElem?_take_of_lt h2]
    · rw [List.getElem?_append_right (by omega), hlt]
      obtain ⟨d, rfl⟩ : ∃ d, i = j + 1 + d := ⟨i - j - 1, by omega⟩
      rw [show j + 1 + d - j = d + 1 by omega, List.getElem?_cons_succ, List.getElem?_drop]
      by_cases h3 : j + 1 + d < j + 1 + (L.length - j)
      · rw [if_pos (by omega), show j + 1 + d - (j + 1) = d by omega]
      · rw [if_neg (by omega)]
        show L[j + 1 + d]? = _
        rw [List.getElem?_eq_none (show L.length ≤ j + 1 + d by omega), List.getElem?_eq_none (show L.length ≤ j + d by omega)]
def rmv (f : Nat → Option Nat) (j w : Nat) : Nat → Option Nat := va_up (va_cpy f f (j + 1) j (w - 1 - j)) (w - 1) none
theorem rmv_get (L : List Nat) (j : Nat) (hj : j < L.length) : rmv (fun i => L[i]?) j L.length = fun i => (L.eraseIdx j)[i]? := by
  funext i
  unfold rmv va_up va_cpy
  rw [List.getElem?_eraseIdx]
  by_cases h : i = L.length - 1
  · rw [if_pos h]
    by_cases h2 : i < j
    · omega
    · rw [if_neg h2, List.getElem?_eq_none (by omega)]
  · rw [if_neg h]
    by_cases h2 : i < j
    · rw [if_neg (by omega), if_pos h2]
    · rw [if_neg h2]
      by_cases h3 : i < j + (L.length - 1 - j)
      · rw [if_pos (by omega), show j + 1 + (i - j) = i + 1 by omega]
      · rw [if_neg (by omega)]
        show L[i]? = _
        rw [List.getElem?_eq_none (show L.length ≤ i by omega), List.getElem?_eq_none (show L.length ≤ i + 1 by omega)]

set_option maxHeartbeats 4000000 in
set_option maxRecDepth 100000 in
theorem kJ_ac (l : Launch) (Γ : rGam) (P : Heap → Prop) (a : Nat) : Met l yJxa1e45_init_da8c8 wsJxa1e45_init_da8c8 { frames := 1, cells := 0, slots := 0, locals := 21 } (rPc Γ vwCl [.ref a] P) (va_Qv (fun (_ : Unit) => True) (fun _ t => P t.heap) (rA Γ)) 0 0 (rA Γ) := by
  refine Met.ofW (cc := cJxa1e45_init_da8c8) (maxL := 1) (ret := none) (by decide) rfl ?_
  intro p e s m args below meth c s₁ B hml hv
  obtain ⟨rfl, hP, hE⟩ := hv
  have F : Fx Γ p s m meth c _ cJxa1e45_init_da8c8 1 RJxa1e45 wsJxa1e45_init_da8c8 none := ⟨⟨B.exec, B.bytes, hml, findClass_of_methodNamed B.named, atoms_spec (ws := wsJxa1e45_init_da8c8) B.pre⟩, hE, B.notSynchronized, B.returns⟩
  have hx := F.1.1
  have hb := F.1.2.1
  have hts := F.1.2.2.2.2
  have hown := F.1.2.2.2.1
  have hS : va_S (rA Γ) s.heap s.heap [] := va_S.rf
  have hl := lv_entry ([.ref a]) (n := 1) (Nat.le_of_ble_eq_true rfl)
  rw [lg_entry_eq]
  generalize (lg_sl ([.ref a]) ++ List.replicate (1 - (lg_sl ([.ref a])).length) Slot.unset).toArray = ls at hl ⊢
  have hl : lv_has ls 1 [(0, .ref a)] := hl
  refine lv_aload_n hx hb dJxa1e45_init_da8c8_0 rfl (lv_at hl 0 rfl) ?_
  refine W.objInit hx hb hown (hts _ (by decide +kernel : Cond.methodLink RJxa1e45 1 objectInit ∈ wsJxa1e45_init_da8c8)) (hts _ (by decide +kernel : Cond.instanceMethod objectInit ∈ wsJxa1e45_init_da8c8)) (hts _ (by decide +kernel : Cond.code objectInit ⟨#[0xb1]⟩ 1 none ∈ wsJxa1e45_init_da8c8)) rfl (by rw [F.1.2.2.1]; exact hl.1) rfl dJxa1e45_init_da8c8_1 (Nat.le_of_ble_eq_true rfl) (Nat.le_of_ble_eq_true rfl) ?_
  refine W.eq (g2 := F0 m 4 ls []) rfl ?_
  exact g_vret F () hP hS trivial ⟨Nat.le_of_ble_eq_true rfl, Nat.le_of_ble_eq_true rfl⟩ dJxa1e45_init_da8c8_4
set_option maxHeartbeats 4000000 in
set_option maxRecDepth 100000 in
theorem kJ_al (l : Launch) (Γ : rGam) (G : rG) {a : Nat} {v w0 w1 : Value} (hA : G a = some (.inr (0, [w0, v, w1]))) : Met l yJxc12de_init_da8c8 wsJxc12de_init_da8c8 { frames := 2, cells := 0, slots := 0, locals := 41 } (rPc Γ vwCl [.ref a] (rW Γ vwCl G)) (va_Qv (fun (_ : Unit) => True) (fun _ t => rW Γ vwCl (rup G a (.inr (0, [.int 0, v, w1]))) t.heap) (rA Γ)) 0 0 (rA Γ) := by
  refine Met.ofW (cc := cJxc12de_init_da8c8) (maxL := 1) (ret := none) (by decide) rfl ?_
  intro p e s m args below meth c s₁ B hml hv
  obtain ⟨rfl, hP, hE⟩ := hv
  have F : Fx Γ p s m meth c _ cJxc12de_init_da8c8 1 RJxc12de wsJxc12de_init_da8c8 none := ⟨⟨B.exec, B.bytes, hml, findClass_of_methodNamed B.named, atoms_spec (ws := wsJxc12de_init_da8c8) B.pre⟩, hE, B.notSynchronized, B.returns⟩
  have hx := F.1.1
  have hb := F.1.2.1
  have hts := F.1.2.2.2.2
  have hown := F.1.2.2.2.1
  have hS : va_S (rA Γ) s.heap s.heap [] := va_S.rf
  have hl := lv_entry ([.ref a]) (n := 1) (Nat.le_of_ble_eq_true rfl)
  rw [lg_entry_eq]
  generalize (lg_sl ([.ref a]) ++ List.replicate (1 - (lg_sl ([.ref a])).length) Slot.unset).toArray = ls at hl ⊢
  have hl : lv_has ls 1 [(0, .ref a)] := hl
  refine lv_aload_n hx hb dJxc12de_init_da8c8_0 rfl (lv_at hl 0 rfl) ?_
  refine g_cv hS (k_runI F hP hS hl 0 [] (kJ_ac l Γ (rW Γ vwCl G) a) gJxc12de_init_da8c8_Jxa1e45_init_da8c8 rfl rfl rfl (by decide +kernel) (by decide +kernel) (by decide +kernel) rfl (by decide +kernel) ⟨Nat.le_of_ble_eq_true rfl, Nat.le_of_ble_eq_true rfl⟩ rfl (Nat.le_of_ble_eq_true rfl) dJxc12de_init_da8c8_1 ⟨Nat.le_of_ble_eq_true rfl, Nat.le_of_ble_eq_true rfl⟩) (fun u H locs h hP hS => ?_)
  refine lv_aload_n hx hb dJxc12de_init_da8c8_4 rfl (lv_at hl 0 rfl) ?_
  refine lv_iconst (v := 0) hx hb dJxc12de_init_da8c8_5 (by decide) ?_
  refine g_put (ref := "java/util/AbstractList") (C := RJx4a65c) (T := TJx4a65c) (N := 3) hx hb hts (fun _ h => List.mem_cons_of_mem _ (List.mem_append_right _ h)) tyJx4a65c tyJx4a65c_ok nmJx4a65c hown F.2.1 hP hS hA rfl 0 (by decide) (hts (.fieldLink RJxc12de 7 "java/util/AbstractList" "modCount" "I") (by decide +kernel)) (fun _ h => h) rfl (v := .int 0) rfl rfl (Nat.le_of_ble_eq_true rfl) dJxc12de_init_da8c8_6 (fun H locs hP hS => ?_)
  exact g_vret F () hP hS trivial ⟨Nat.le_of_ble_eq_true rfl, Nat.le_of_ble_eq_true rfl⟩ dJxc12de_init_da8c8_9
set_option maxHeartbeats 4000000 in
set_option maxRecDepth 100000 in
theorem kL_init (l : Launch) (Γ : rGam) (a t : Nat) (post : St → Prop) (σ : St) (h : wL_init a t post σ) : Met l yJx4a65c_init_da8c8 wsJx4a65c_init_da8c8 rmL_init (rPc Γ vwCl [.ref a] (Rep Γ σ)) (va_Qv post (fun σ' t => Rep Γ σ' t.heap) (rA Γ)) 0 0 (rA Γ) := by
  obtain ⟨hk, hz, ht, hpost⟩ := h
  refine Met.ofW (cc := cJx4a65c_init_da8c8) (maxL := 1) (ret := none) (by decide) rfl ?_
  intro p e s m args below meth c s₁ B hml hv
  obtain ⟨rfl, hR, hE⟩ := hv
  have F : Fx Γ p s m meth c _ cJx4a65c_init_da8c8 1 RJx4a65c wsJx4a65c_init_da8c8 none := ⟨⟨B.exec, B.bytes, hml, findClass_of_methodNamed B.named, atoms_spec (ws := wsJx4a65c_init_da8c8) B.pre⟩, hE, B.notSynchronized, B.returns⟩
  have hx := F.1.1
  have hb := F.1.2.1
  have hts := F.1.2.2.2.2
  have hown := F.1.2.2.2.1
  have hS : va_S (rA Γ) s.heap s.heap [] := va_S.rf
  have hl := lv_entry ([.ref a]) (n := 1) (Nat.le_of_ble_eq_true rfl)
  rw [lg_entry_eq]
  generalize (lg_sl ([.ref a]) ++ List.replicate (1 - (lg_sl ([.ref a])).length) Slot.unset).toArray = ls at hl ⊢
  have hl : lv_has ls 1 [(0, .ref a)] := hl
  obtain ⟨X, hW, hP⟩ := hR
  have hA : rGs Γ σ X a = some (.inr (0, [.int (sI σ 950 a 0), va_rf (sR σ 951 a 0), .int (nI 0)])) := by
    rw [rGs_ob hk (by decide) (by omega), rEnt, if_pos (by decide), nI_0, ← hz]
    rfl
  refine lv_aload_n hx hb dJx4a65c_init_da8c8_0 rfl (lv_at hl 0 rfl) ?_
  refine g_cv hS (k_runI F hP hS hl 0 [] (kJ_al l Γ (rGs Γ σ X) hA) gJx4a65c_init_da8c8_Jxc12de_init_da8c8 rfl rfl rfl (by decide +kernel) (by decide +kernel) (by decide +kernel) rfl (by decide +kernel) ⟨Nat.le_of_ble_eq_true rfl, Nat.le_of_ble_eq_true rfl⟩ rfl (Nat.le_of_ble_eq_true rfl) dJx4a65c_init_da8c8_1 ⟨Nat.le_of_ble_eq_true rfl, Nat.le_of_ble_eq_true rfl⟩) (fun u H locs h hP hS => ?_)
  refine lv_aload_n hx hb dJx4a65c_init_da8c8_4 rfl (lv_at hl 0 rfl) ?_
  refine va_gets hx hb F.2.1.2.2.1 hS hown (hts (.fieldLink RJx4a65c 39 "java/util/ArrayList" "DEFAULTCAPACITY_EMPTY_ELEMENTDATA" "[Ljava/lang/Object;") (by decide +kernel)) (fun _ h => h) dJx4a65c_init_da8c8_5 ?_
  refine g_put (ref := "java/util/ArrayList") (C := RJx4a65c) (T := TJx4a65c) (N := 3) hx hb hts (fun _ h => List.mem_cons_of_mem _ (List.mem_append_right _ h)) tyJx4a65c tyJx4a65c_ok nmJx4a65c hown F.2.1 hP hS (rup_self _ _ _) rfl 1 (by decide) (hts (.fieldLink RJx4a65c 9 "java/util/ArrayList" "elementData" "[Ljava/lang/Object;") (by decide +kernel)) (fun _ h => h) rfl (v := .ref (Γ.2.2.2 0)) rfl rfl (Nat.le_of_ble_eq_true rfl) dJx4a65c_init_da8c8_8 (fun H locs hP hS => ?_)
  exact s_vret F (Rep_init hW hk ht hP (rup_self _ _ _) (fun z hz => (rup_ne _ _ hz).trans (rup_ne _ _ hz))) hS hpost ⟨Nat.le_of_ble_eq_true rfl, Nat.le_of_ble_eq_true rfl⟩ dJx4a65c_init_da8c8_11
set_option maxHeartbeats 4000000 in
set_option maxRecDepth 100000 in
theorem kL_add (l : Launch) (Γ : rGam) (a : Nat) (x : Option Nat) (post : Int32 → St → Prop) (σ : St) (h : wL_add a x post σ) : Met l yJx4a65c_add_9ea2d wsJx4a65c_add_9ea2d rmL_add (rPc Γ vwCl [.ref a, va_rf x] (Rep Γ σ)) (va_Qi post (fun σ' t => Rep Γ σ' t.heap) (rA Γ)) 1 128 (rA Γ) := by
  obtain ⟨hk, y, rfl, hy, hlen, hpost⟩ := h
  rw [show va_rf (some y) = Value.ref y from rfl]
  refine Met.ofW (cc := cJx4a65c_add_9ea2d) (maxL := 2) (ret := (some .boolean)) (by decide) rfl ?_
  intro p e s m args below meth c s₁ B hml hv
  obtain ⟨rfl, hR, hE⟩ := hv
  have F : Fx Γ p s m meth c _ cJx4a65c_add_9ea2d 2 RJx4a65c wsJx4a65c_add_9ea2d (some .boolean) := ⟨⟨B.exec, B.bytes, hml, findClass_of_methodNamed B.named, atoms_spec (ws := wsJx4a65c_add_9ea2d) B.pre⟩, hE, B.notSynchronized, B.returns⟩
  have hx := F.1.1
  have hb := F.1.2.1
  have hts := F.1.2.2.2.2
  have hown := F.1.2.2.2.1
  have hS : va_S (rA Γ) s.heap s.heap [] := va_S.rf
  have hl := lv_entry ([.ref a, .ref y]) (n := 2) (Nat.le_of_ble_eq_true rfl)
  rw [lg_entry_eq]
  generalize (lg_sl ([.ref a, .ref y]) ++ List.replicate (2 - (lg_sl ([.ref a, .ref y])).length) Slot.unset).toArray = ls at hl ⊢
  have hl : lv_has ls 2 [(0, .ref a), (1, .ref y)] := hl
  obtain ⟨X, hW, hP⟩ := hR
  obtain ⟨w1, w2, w3, w4⟩ := hW.1 a hk
  obtain ⟨ci, r, hc, hca, hel⟩ := elt_cls (Γ := Γ) (X := X) hk
  have hne : ∀ z, sK σ z = rElt (sK σ a) → z ≠ a := fun z hz e => by
    rw [e] at hz
    have h3 : rElt (sK σ a) < 20 := by unfold rElt; split <;> (try split) <;> decide
    omega

  refine lv_aload_n hx hb dJx4a65c_add_9ea2d_0 rfl (lv_at hl 0 rfl) ?_
  refine lv_dup hx hb dJx4a65c_add_9ea2d_1 rfl ?_
  refine g_get (ref := "java/util/ArrayList") (C := RJx4a65c) (T := TJx4a65c) (N := 3) hx hb hts (fun _ h => List.mem_cons_of_mem _ (List.mem_append_right _ h)) hown F.2.1 hP (rGs_ls hk) rfl 0 (by decide) (hts (.fieldLink RJx4a65c 63 "java/util/ArrayList" "modCount" "I") (by decide +kernel)) (fun x hx => u_same (hts (.sameField "java/util/ArrayList" "java/util/AbstractList" "modCount" "I") (by decide +kernel)) x hx) (v := .int (X.1 a)) rfl dJx4a65c_add_9ea2d_2 ?_
  refine lv_iconst (v := 1) hx hb dJx4a65c_add_9ea2d_5 (by decide) ?_
  refine lv_iadd hx hb dJx4a65c_add_9ea2d_6 ?_
  refine g_put (ref := "java/util/ArrayList") (C := RJx4a65c) (T := TJx4a65c) (N := 3) hx hb hts (fun _ h => List.mem_cons_of_mem _ (List.mem_append_right _ h)) tyJx4a65c tyJx4a65c_ok nmJx4a65c hown F.2.1 hP hS (rGs_ls hk) rfl 0 (by decide) (hts (.fieldLink RJx4a65c 63 "java/util/ArrayList" "modCount" "I") (by decide +kernel)) (fun x hx => u_same (hts (.sameField "java/util/ArrayList" "java/util/AbstractList" "modCount" "I") (by decide +kernel)) x hx) rfl (v := .int (X.1 a + 1)) rfl rfl (Nat.le_of_ble_eq_true rfl) dJx4a65c_add_9ea2d_7 (fun H locs hP hS => ?_)
  replace hP : rW Γ vwCl (rup (rGs Γ σ X) a (.inr (0, [.int (X.1 a + 1), .ref (X.2.1 a), .int (nI (sL σ a).length)]))) H := hP
  have hG1 : ∀ z, z ≠ a → rup (rGs Γ σ X) a (.inr (0, [.int (X.1 a + 1), .ref (X.2.1 a), .int (nI (sL σ a).length)])) z = rGs Γ σ X z := fun z hz => rup_ne _ _ hz
  have hA : rup (rGs Γ σ X) a (.inr (0, [.int (X.1 a + 1), .ref (X.2.1 a), .int (nI (sL σ a).length)])) a = some (.inr (0, [.int (X.1 a + 1), .ref (X.2.1 a), .int (nI (sL σ a).length)])) := rup_self _ _ _
  generalize rup (rGs Γ σ X) a (.inr (0, [.int (X.1 a + 1), .ref (X.2.1 a), .int (nI (sL σ a).length)])) = G1 at hP hG1 hA
  have hf : ∀ i, (sL σ a).length ≤ i → (fun i => (sL σ a)[i]?) i = none := fun i hi => List.getElem?_eq_none hi
  have hX : ∃ vs0, G1 y = some (.inr (ci, vs0)) := by
    obtain ⟨vs, hv⟩ := hel y hy
    exact ⟨vs, (hG1 y (hne y hy)).trans hv⟩
  obtain ⟨vs0, hX⟩ := hX
  have hE0 : ∀ i z, i < (sL σ a).length → (fun i => (sL σ a)[i]?) i = some z → ∃ vs, G1 z = some (.inr (ci, vs)) := fun i z hi hz => by
    have hz2 := w3 z (List.mem_of_getElem? hz)
    obtain ⟨vs, hv⟩ := hel z hz2
    exact ⟨vs, (hG1 z (hne z hz2)).trans hv⟩

  have hBB : (X.2.1 a = Γ.2.2.2 0 ∧ (sL σ a).length = 0 ∧ X.2.2.1 a = 0) ∨ (G1 (X.2.1 a) = some (.inl (Γ.2.2.1 4, X.2.2.1 a, .inr (.inr (.inr (.inr (fun i => (sL σ a)[i]?)))))) ∧ 10 ≤ X.2.2.1 a ∧ X.2.2.1 a < 100000 ∧ (sL σ a).length ≤ X.2.2.1 a) := by
    rcases w4 with ⟨w4, w5⟩ | ⟨w4, w5, w6⟩
    · exact Or.inl ⟨w4, by omega, w5⟩
    · exact Or.inr ⟨(hG1 _ (fun e => by rw [e] at w5; omega)).trans (rGs_bk w5 w4), w6, w2, w1⟩
  refine lv_aload_n hx hb dJx4a65c_add_9ea2d_10 rfl (lv_at hl 0 rfl) ?_
  refine lv_aload_n hx hb dJx4a65c_add_9ea2d_11 rfl (lv_at hl 1 rfl) ?_
  refine lv_aload_n hx hb dJx4a65c_add_9ea2d_12 rfl (lv_at hl 0 rfl) ?_
  refine g_get (ref := "java/util/ArrayList") (C := RJx4a65c) (T := TJx4a65c) (N := 3) hx hb hts (fun _ h => List.mem_cons_of_mem _ (List.mem_append_right _ h)) hown F.2.1 hP hA rfl 1 (by decide) (hts (.fieldLink RJx4a65c 9 "java/util/ArrayList" "elementData" "[Ljava/lang/Object;") (by decide +kernel)) (fun _ h => h) (v := .ref (X.2.1 a)) rfl dJx4a65c_add_9ea2d_13 ?_
  refine lv_aload_n hx hb dJx4a65c_add_9ea2d_16 rfl (lv_at hl 0 rfl) ?_
  refine g_get (ref := "java/util/ArrayList") (C := RJx4a65c) (T := TJx4a65c) (N := 3) hx hb hts (fun _ h => List.mem_cons_of_mem _ (List.mem_append_right _ h)) hown F.2.1 hP hA rfl 2 (by decide) (hts (.fieldLink RJx4a65c 48 "java/util/ArrayList" "size" "I") (by decide +kernel)) (fun _ h => h) (v := .int (nI (sL σ a).length)) rfl dJx4a65c_add_9ea2d_17 ?_
  refine g_cv hS (k_runV F hP hS hl 3 [.ref y, .ref (X.2.1 a), .int (nI (sL σ a).length)] (kJ_add3 l Γ G1 hA hBB hlen hf ci r hc hca hX hE0) gJx4a65c_add_9ea2d_Jx4a65c_add_72be8 rfl rfl rfl (by decide +kernel) ⟨Nat.le_of_ble_eq_true rfl, Nat.le_of_ble_eq_true rfl⟩ (g_recv (q := (RJx4a65c, TJx4a65c, 3)) F.2.1 hP rfl hA) rfl (Nat.le_of_ble_eq_true rfl) dJx4a65c_add_9ea2d_20 ⟨Nat.le_of_ble_eq_true rfl, Nat.le_of_ble_eq_true rfl⟩) (fun u H locs h hP hS => ?_)
  obtain ⟨b', n'⟩ := u
  dsimp only at h hP
  rw [app_get] at hP
  have hR : Rep Γ (uL σ a (sL σ a ++ [y])) H := by
    have hel2 : ∀ z ∈ sL σ a ++ [y], sK σ z = rElt (sK σ a) := fun z hz => by
      rcases List.mem_append.mp hz with hz | hz
      · exact w3 z hz
      · rw [List.mem_singleton.mp hz]; exact hy
    rcases h with ⟨h1, h2, h3⟩ | ⟨h1, h2, h3, h4⟩
    · subst h1
      subst h2
      rcases w4 with ⟨w4, w5⟩ | ⟨w4, w5, w6⟩
      · omega
      · exact Rep_done hW hk w5 (Or.inr w4) (by simp; omega) w2 w6 hel2 (fun z h1 h2 => hG1 z h1) rfl (by simp) hP
    · have hba : b' ≠ a := fun e => by rw [e, hA] at h1; cases h1
      obtain ⟨k1, k2⟩ := rGs_none ((hG1 b' hba).symm.trans h1)
      exact Rep_done hW hk k1 (Or.inl k2) (by simp; omega) (by omega) h3 hel2 (fun z h1 h2 => hG1 z h1) rfl (by simp) hP
  refine lv_iconst (v := 1) hx hb dJx4a65c_add_9ea2d_23 (by decide) ?_
  exact s_zret F hR hS (by unfold isB; decide) hpost ⟨Nat.le_of_ble_eq_true rfl, Nat.le_of_ble_eq_true rfl⟩ dJx4a65c_add_9ea2d_24
set_option maxHeartbeats 4000000 in
set_option maxRecDepth 100000 in
theorem kJ_rc (l : Launch) (Γ : rGam) (G : rG) {a b w j : Nat} {mm : Int32} (hA : G a = some (.inr (0, [.int mm, .ref b, .int (nI w)]))) (hj : j ≤ w) (hw : w < 65) : Met l yJx4a65c_rangeCheckForAdd_d00df wsJx4a65c_rangeCheckForAdd_d00df { frames := 0, cells := 0, slots := 0, locals := 0 } (rPc Γ vwCl [.ref a, .int (nI j)] (rW Γ vwCl G)) (va_Qv (fun (_ : Unit) => True) (fun _ t => rW Γ vwCl G t.heap) (rA Γ)) 0 0 (rA Γ) := by
  refine Met.ofW (cc := cJx4a65c_rangeCheckForAdd_d00df) (maxL := 2) (ret := none) (by decide) rfl ?_
  intro p e s m args below meth c s₁ B hml hv
  obtain ⟨rfl, hP, hE⟩ := hv
  have F : Fx Γ p s m meth c _ cJx4a65c_rangeCheckForAdd_d00df 2 RJx4a65c wsJx4a65c_rangeCheckForAdd_d00df none := ⟨⟨B.exec, B.bytes, hml, findClass_of_methodNamed B.named, atoms_spec (ws := wsJx4a65c_rangeCheckForAdd_d00df) B.pre⟩, hE, B.notSynchronized, B.returns⟩
  have hx := F.1.1
  have hb := F.1.2.1
  have hts := F.1.2.2.2.2
  have hown := F.1.2.2.2.1
  have hS : va_S (rA Γ) s.heap s.heap [] := va_S.rf
  have hl := lv_entry ([.ref a, .int (nI j)]) (n := 2) (Nat.le_of_ble_eq_true rfl)
  rw [lg_entry_eq]
  generalize (lg_sl ([.ref a, .int (nI j)]) ++ List.replicate (2 - (lg_sl ([.ref a, .int (nI j)])).length) Slot.unset).toArray = ls at hl ⊢
  have hl : lv_has ls 2 [(0, .ref a), (1, .int (nI j))] := hl
  refine lv_iload_n hx hb dJx4a65c_rangeCheckForAdd_d00df_0 rfl (lv_at hl 1 rfl) ?_
  refine lv_aload_n hx hb dJx4a65c_rangeCheckForAdd_d00df_1 rfl (lv_at hl 0 rfl) ?_
  refine g_get (ref := "java/util/ArrayList") (C := RJx4a65c) (T := TJx4a65c) (N := 3) hx hb hts (fun _ h => List.mem_cons_of_mem _ (List.mem_append_right _ h)) hown F.2.1 hP hA rfl 2 (by decide) (hts (.fieldLink RJx4a65c 48 "java/util/ArrayList" "size" "I") (by decide +kernel)) (fun _ h => h) (v := .int (nI w)) rfl dJx4a65c_rangeCheckForAdd_d00df_2 ?_
  refine lv_icmp_gt (tgt := 12) hx hb dJx4a65c_rangeCheckForAdd_d00df_5 (by decide) (fun c => absurd c (nI_nlt hj (by omega))) (fun _ => ?_)
  refine lv_iload_n hx hb dJx4a65c_rangeCheckForAdd_d00df_8 rfl (lv_at hl 1 rfl) ?_
  refine lv_if_ge (tgt := 25) hx hb dJx4a65c_rangeCheckForAdd_d00df_9 (by decide) (fun _ => ?_) (fun c => absurd (nI_pos' (by omega)) c)
  exact g_vret F () hP hS trivial ⟨Nat.le_of_ble_eq_true rfl, Nat.le_of_ble_eq_true rfl⟩ dJx4a65c_rangeCheckForAdd_d00df_25
set_option maxHeartbeats 4000000 in
set_option maxRecDepth 100000 in
theorem kL_addAt (l : Launch) (Γ : rGam) (a : Nat) (i : Int32) (x : Option Nat) (post : St → Prop) (σ : St) (h : wL_addAt a i x post σ) : Met l yJx4a65c_add_7a177 wsJx4a65c_add_7a177 rmL_addAt (rPc Γ vwCl [.ref a, .int i, va_rf x] (Rep Γ σ)) (va_Qv post (fun σ' t => Rep Γ σ' t.heap) (rA Γ)) 1 128 (rA Γ) := by
  obtain ⟨hk, y, rfl, hy, hi0, hil, hlen, hpost⟩ := h
  rw [show va_rf (some y) = Value.ref y from rfl]
  obtain ⟨j, hj31, rfl⟩ := nI_of hi0
  rw [nI_clamp hj31] at hil hpost
  refine Met.ofW (cc := cJx4a65c_add_7a177) (maxL := 5) (ret := none) (by decide) rfl ?_
  intro p e s m args below meth c s₁ B hml hv
  obtain ⟨rfl, hR, hE⟩ := hv
  have F : Fx Γ p s m meth c _ cJx4a65c_add_7a177 5 RJx4a65c wsJx4a65c_add_7a177 none := ⟨⟨B.exec, B.bytes, hml, findClass_of_methodNamed B.named, atoms_spec (ws := wsJx4a65c_add_7a177) B.pre⟩, hE, B.notSynchronized, B.returns⟩
  have hx := F.1.1
  have hb := F.1.2.1
  have hts := F.1.2.2.2.2
  have hown := F.1.2.2.2.1
  have hS : va_S (rA Γ) s.heap s.heap [] := va_S.rf
  have hl := lv_entry ([.ref a, .int (nI j), .ref y]) (n := 5) (Nat.le_of_ble_eq_true rfl)
  rw [lg_entry_eq]
  generalize (lg_sl ([.ref a, .int (nI j), .ref y]) ++ List.replicate (5 - (lg_sl ([.ref a, .int (nI j), .ref y])).length) Slot.unset).toArray = ls at hl ⊢
  have hl : lv_has ls 5 [(0, .ref a), (1, .int (nI j)), (2, .ref y)] := hl
  obtain ⟨X, hW, hP⟩ := hR
  obtain ⟨w1, w2, w3, w4⟩ := hW.1 a hk
  obtain ⟨ci, r, hc, hca, hel⟩ := elt_cls (Γ := Γ) (X := X) hk
  have hne : ∀ z, sK σ z = rElt (sK σ a) → z ≠ a := fun z hz e => by
    rw [e] at hz
    have h3 : rElt (sK σ a) < 20 := by unfold rElt; split <;> (try split) <;> decide
    omega

  refine lv_aload_n hx hb dJx4a65c_add_7a177_0 rfl (lv_at hl 0 rfl) ?_
  refine lv_iload_n hx hb dJx4a65c_add_7a177_1 rfl (lv_at hl 1 rfl) ?_
  refine g_cv hS (k_runV F hP hS hl 1 [.int (nI j)] (kJ_rc l Γ (rGs Γ σ X) (rGs_ls hk) hil hlen) gJx4a65c_add_7a177_Jx4a65c_rangeCheckForAdd_d00df rfl rfl rfl (by decide +kernel) ⟨Nat.le_of_ble_eq_true rfl, Nat.le_of_ble_eq_true rfl⟩ (g_recv (q := (RJx4a65c, TJx4a65c, 3)) F.2.1 hP rfl (rGs_ls hk)) rfl (Nat.le_of_ble_eq_true rfl) dJx4a65c_add_7a177_2 ⟨Nat.le_of_ble_eq_true rfl, Nat.le_of_ble_eq_true rfl⟩) (fun u H locs h hP hS => ?_)
  refine lv_aload_n hx hb dJx4a65c_add_7a177_5 rfl (lv_at hl 0 rfl) ?_
  refine lv_dup hx hb dJx4a65c_add_7a177_6 rfl ?_
  refine g_get (ref := "java/util/ArrayList") (C := RJx4a65c) (T := TJx4a65c) (N := 3) hx hb hts (fun _ h => List.mem_cons_of_mem _ (List.mem_append_right _ h)) hown F.2.1 hP (rGs_ls hk) rfl 0 (by decide) (hts (.fieldLink RJx4a65c 63 "java/util/ArrayList" "modCount" "I") (by decide +kernel)) (fun x hx => u_same (hts (.sameField "java/util/ArrayList" "java/util/AbstractList" "modCount" "I") (by decide +kernel)) x hx) (v := .int (X.1 a)) rfl dJx4a65c_add_7a177_7 ?_
  refine lv_iconst (v := 1) hx hb dJx4a65c_add_7a177_10 (by decide) ?_
  refine lv_iadd hx hb dJx4a65c_add_7a177_11 ?_
  refine g_put (ref := "java/util/ArrayList") (C := RJx4a65c) (T := TJx4a65c) (N := 3) hx hb hts (fun _ h => List.mem_cons_of_mem _ (List.mem_append_right _ h)) tyJx4a65c tyJx4a65c_ok nmJx4a65c hown F.2.1 hP hS (rGs_ls hk) rfl 0 (by decide) (hts (.fieldLink RJx4a65c 63 "java/util/ArrayList" "modCount" "I") (by decide +kernel)) (fun x hx => u_same (hts (.sameField "java/util/ArrayList" "java/util/AbstractList" "modCount" "I") (by decide +kernel)) x hx) rfl (v := .int (X.1 a + 1)) rfl rfl (Nat.le_of_ble_eq_true rfl) dJx4a65c_add_7a177_12 (fun H locs hP hS => ?_)
  replace hP : rW Γ vwCl (rup (rGs Γ σ X) a (.inr (0, [.int (X.1 a + 1), .ref (X.2.1 a), .int (nI (sL σ a).length)]))) H := hP
  have hG1 : ∀ z, z ≠ a → rup (rGs Γ σ X) a (.inr (0, [.int (X.1 a + 1), .ref (X.2.1 a), .int (nI (sL σ a).length)])) z = rGs Γ σ X z := fun z hz => rup_ne _ _ hz
  have hA : rup (rGs Γ σ X) a (.inr (0, [.int (X.1 a + 1), .ref (X.2.1 a), .int (nI (sL σ a).length)])) a = some (.inr (0, [.int (X.1 a + 1), .ref (X.2.1 a), .int (nI (sL σ a).length)])) := rup_self _ _ _
  generalize rup (rGs Γ σ X) a (.inr (0, [.int (X.1 a + 1), .ref (X.2.1 a), .int (nI (sL σ a).length)])) = G1 at hP hG1 hA
  have hf : ∀ i, (sL σ a).length ≤ i → (fun i => (sL σ a)[i]?) i = none := fun i hi => List.getElem?_eq_none hi
  have hX : ∃ vs0, G1 y = some (.inr (ci, vs0)) := by
    obtain ⟨vs, hv⟩ := hel y hy
    exact ⟨vs, (hG1 y (hne y hy)).trans hv⟩
  obtain ⟨vs0, hX⟩ := hX
  have hE0 : ∀ i z, i < (sL σ a).length → (fun i => (sL σ a)[i]?) i = some z → ∃ vs, G1 z = some (.inr (ci, vs)) := fun i z hi hz => by
    have hz2 := w3 z (List.mem_of_getElem? hz)
    obtain ⟨vs, hv⟩ := hel z hz2
    exact ⟨vs, (hG1 z (hne z hz2)).trans hv⟩

  have hcs : va_Nw (.castable r.1 "java/lang/Object") s := rEv_cast F.2.1 hca
  have hel2 : ∀ z ∈ (sL σ a).take j ++ y :: (sL σ a).drop j, sK σ z = rElt (sK σ a) := fun z hz => by
    rcases List.mem_append.mp hz with hz | hz
    · exact w3 z (List.mem_of_mem_take hz)
    · rcases List.mem_cons.mp hz with hz | hz
      · rw [hz]; exact hy
      · exact w3 z (List.mem_of_mem_drop hz)
  have hll : ((sL σ a).take j ++ y :: (sL σ a).drop j).length = (sL σ a).length + 1 := by
    rw [List.length_append, List.length_cons, List.length_take, List.length_drop]; omega
  have tail : ∀ (b' n' : Nat) (G2 : rG) (H : Heap) (locs : List Loc) (ls : Array Slot) (cells slots : Nat), G2 a = some (.inr (0, [.int (X.1 a + 1), .ref b', .int (nI (sL σ a).length)])) → G2 b' = some (.inl (Γ.2.2.1 4, n', .inr (.inr (.inr (.inr (fun i => (sL σ a)[i]?)))))) → b' ≠ a → (sL σ a).length < n' → n' < 100000 → 10 ≤ n' → sK σ b' = 0 → (X.2.2.2 b' = 0 ∨ X.2.2.2 b' = a + 1) → (∀ z, z ≠ a → z ≠ b' → G2 z = rGs Γ σ X z) → rW Γ vwCl G2 H → va_S (rA Γ) s.heap H locs → lv_has ls 5 [(4, .ref b'), (3, .int (nI (sL σ a).length)), (0, .ref a), (1, .int (nI j)), (2, .ref y)] → cells ≤ 1 ∧ slots ≤ 128 → W p l e (headSpec wsJx4a65c_add_7a177 rmL_addAt).room s m #[.ref a, .int (nI j), .ref y] below meth c H locs cells slots (MQ below (va_Qv post (fun σ' t => Rep Γ σ' t.heap) (rA Γ)) #[.ref a, .int (nI j), .ref y] s 1 128 (rA Γ)) (F0 m 38 ls []) := by
    intro b' n' G2 H locs ls cells slots hA2 hB2 hba hwn hn hn10 hb0 hbo hO hP hS hl hcc
    have hz2 : ∀ z, sK σ z = rElt (sK σ a) → z ≠ a ∧ z ≠ b' := fun z hz => ⟨hne z hz, fun e => by rw [e, hb0] at hz; exact rElt_ne _ hz.symm⟩
    refine lv_aload hx hb dJx4a65c_add_7a177_38 (lv_at hl 0 rfl) ?_
    refine lv_iload_n hx hb dJx4a65c_add_7a177_40 rfl (lv_at hl 3 rfl) ?_
    refine lv_aload hx hb dJx4a65c_add_7a177_41 (lv_at hl 0 rfl) ?_
    refine lv_iload_n hx hb dJx4a65c_add_7a177_43 rfl (lv_at hl 3 rfl) ?_
    refine lv_iconst (v := 1) hx hb dJx4a65c_add_7a177_44 (by decide) ?_
    refine lv_iadd hx hb dJx4a65c_add_7a177_45 ?_
    rw [nI_1]
    refine lv_iload_n hx hb dJx4a65c_add_7a177_46 rfl (lv_at hl 1 rfl) ?_
    refine lv_iload_n hx hb dJx4a65c_add_7a177_47 rfl (lv_at hl 3 rfl) ?_
    refine lv_isub hx hb dJx4a65c_add_7a177_48 ?_
    rw [pk_sub hil]
    have hcj : (nI j).toNatClampNeg = j := nI_clamp (by omega)
    have hcj1 : (nI (j + 1)).toNatClampNeg = j + 1 := nI_clamp (by omega)
    have hcw : (nI ((sL σ a).length - j)).toNatClampNeg = (sL σ a).length - j := nI_clamp (by omega)
    refine g_copyq hx hb (F.1.2.2.1.trans hl.1.symm) hown (hts _ (by decide +kernel : Cond.methodLink RJx4a65c 112 arraycopyName ∈ wsJx4a65c_add_7a177)) (hts _ (by decide +kernel : Cond.native arraycopyName ∈ wsJx4a65c_add_7a177)) (hts _ (by decide +kernel : Cond.static arraycopyName ∈ wsJx4a65c_add_7a177)) (hts _ (by decide +kernel : Cond.initialized "java/lang/System" ∈ wsJx4a65c_add_7a177)) F.2.1 hP hS hB2 hB2 (nI_pos (by omega)) (nI_pos (by omega)) (nI_pos (by omega)) (by rw [hcj, hcw]; omega) (by rw [hcj1, hcw]; omega) ci r hc hca (fun i hi z hz => by
      have hz3 := w3 z (List.mem_of_getElem? hz)
      obtain ⟨vs, hv⟩ := hel z hz3
      exact ⟨vs, (hO z (hz2 z hz3).1 (hz2 z hz3).2).trans hv⟩) (Nat.le_of_ble_eq_true rfl) (Nat.le_of_ble_eq_true rfl) dJx4a65c_add_7a177_49 (fun H locs hP hS => ?_)
    rw [hcj, hcj1, hcw] at hP
    refine lv_aload hx hb dJx4a65c_add_7a177_52 (lv_at hl 0 rfl) ?_
    refine lv_iload_n hx hb dJx4a65c_add_7a177_54 rfl (lv_at hl 3 rfl) ?_
    refine lv_aload_n hx hb dJx4a65c_add_7a177_55 rfl (lv_at hl 4 rfl) ?_
    have hX3 : ∃ vs3, rup G2 b' (.inl (Γ.2.2.1 4, n', .inr (.inr (.inr (.inr (va_cpy (fun i => (sL σ a)[i]?) (fun i => (sL σ a)[i]?) j (j + 1) ((sL σ a).length - j))))))) y = some (.inr (ci, vs3)) := by
      obtain ⟨vs, hv⟩ := hel y hy
      exact ⟨vs, (rup_ne _ _ (hz2 y hy).2).trans ((hO y (hz2 y hy).1 (hz2 y hy).2).trans hv)⟩
    obtain ⟨vs3, hX3⟩ := hX3
    refine g_aast hx hb F.2.1 hP hS 4 ci (rup_self _ _ _) rfl hcs hX3 hc (vp_in_nI (by omega) (by omega)) dJx4a65c_add_7a177_56 (fun H locs hP hS => ?_)
    rw [hcj, rup_rup, ins_get _ _ _ hil] at hP
    refine lv_aload_n hx hb dJx4a65c_add_7a177_57 rfl (lv_at hl 2 rfl) ?_
    refine lv_iload_n hx hb dJx4a65c_add_7a177_58 rfl (lv_at hl 1 rfl) ?_
    refine lv_iconst (v := 1) hx hb dJx4a65c_add_7a177_59 (by decide) ?_
    refine lv_iadd hx hb dJx4a65c_add_7a177_60 ?_
    rw [nI_1]
    refine g_put (ref := "java/util/ArrayList") (C := RJx4a65c) (T := TJx4a65c) (N := 3) hx hb hts (fun _ h => List.mem_cons_of_mem _ (List.mem_append_right _ h)) tyJx4a65c tyJx4a65c_ok nmJx4a65c hown F.2.1 hP hS ((rup_ne _ _ (Ne.symm hba)).trans hA2) rfl 2 (by decide) (hts (.fieldLink RJx4a65c 48 "java/util/ArrayList" "size" "I") (by decide +kernel)) (fun _ h => h) rfl (v := .int (nI ((sL σ a).length + 1))) rfl rfl (Nat.le_of_ble_eq_true rfl) dJx4a65c_add_7a177_61 (fun H locs hP hS => ?_)
    exact s_vret F (Rep_done hW hk hb0 hbo (by omega) hn hn10 hel2 hO rfl (by rw [hll]) hP) hS hpost hcc dJx4a65c_add_7a177_64
  refine lv_aload_n hx hb dJx4a65c_add_7a177_15 rfl (lv_at hl 0 rfl) ?_
  refine g_get (ref := "java/util/ArrayList") (C := RJx4a65c) (T := TJx4a65c) (N := 3) hx hb hts (fun _ h => List.mem_cons_of_mem _ (List.mem_append_right _ h)) hown F.2.1 hP hA rfl 2 (by decide) (hts (.fieldLink RJx4a65c 48 "java/util/ArrayList" "size" "I") (by decide +kernel)) (fun _ h => h) (v := .int (nI (sL σ a).length)) rfl dJx4a65c_add_7a177_16 ?_
  refine lv_dup hx hb dJx4a65c_add_7a177_19 rfl ?_
  refine s_istore_n (lk := [(2, .ref y)]) (lv' := [(3, .int (nI (sL σ a).length)), (0, .ref a), (1, .int (nI j)), (2, .ref y)]) hx hb dJx4a65c_add_7a177_20 rfl hl (by decide) rfl (lk_1 rfl) rfl (fun ls hl => ?_)
  refine lv_aload_n hx hb dJx4a65c_add_7a177_21 rfl (lv_at hl 1 rfl) ?_
  refine g_get (ref := "java/util/ArrayList") (C := RJx4a65c) (T := TJx4a65c) (N := 3) hx hb hts (fun _ h => List.mem_cons_of_mem _ (List.mem_append_right _ h)) hown F.2.1 hP hA rfl 1 (by decide) (hts (.fieldLink RJx4a65c 9 "java/util/ArrayList" "elementData" "[Ljava/lang/Object;") (by decide +kernel)) (fun _ h => h) (v := .ref (X.2.1 a)) rfl dJx4a65c_add_7a177_22 ?_
  refine lv_dup hx hb dJx4a65c_add_7a177_25 rfl ?_
  refine s_astore (r := some (X.2.1 a)) (lk := [(3, .int (nI (sL σ a).length))]) (lv' := [(4, .ref (X.2.1 a)), (3, .int (nI (sL σ a).length)), (0, .ref a), (1, .int (nI j)), (2, .ref y)]) hx hb dJx4a65c_add_7a177_26 hl (by decide) rfl (lk_1 rfl) rfl (fun ls hl => ?_)
  have grow : ∀ (hBB : (X.2.1 a = Γ.2.2.2 0 ∧ (sL σ a).length = 0) ∨ (G1 (X.2.1 a) = some (.inl (Γ.2.2.1 4, (sL σ a).length, .inr (.inr (.inr (.inr (fun i => (sL σ a)[i]?)))))) ∧ 10 ≤ (sL σ a).length)), W p l e (headSpec wsJx4a65c_add_7a177 rmL_addAt).room s m #[.ref a, .int (nI j), .ref y] below meth c H locs (0 + 0) (0 + 0) (MQ below (va_Qv post (fun σ' t => Rep Γ σ' t.heap) (rA Γ)) #[.ref a, .int (nI j), .ref y] s 1 128 (rA Γ)) (F0 m 32 ls []) := by
    intro hBB
    refine lv_aload_n hx hb dJx4a65c_add_7a177_32 rfl (lv_at hl 2 rfl) ?_
    refine g_cq hS (k_runV F hP hS hl 0 [] (kJ_grow l Γ G1 hA hBB hlen hf ci r hc hca hE0) gJx4a65c_add_7a177_Jx4a65c_grow_d5877 rfl rfl rfl (by decide +kernel) ⟨Nat.le_of_ble_eq_true rfl, Nat.le_of_ble_eq_true rfl⟩ (g_recv (q := (RJx4a65c, TJx4a65c, 3)) F.2.1 hP rfl hA) rfl (Nat.le_of_ble_eq_true rfl) dJx4a65c_add_7a177_33 ⟨Nat.le_of_ble_eq_true rfl, Nat.le_of_ble_eq_true rfl⟩) (fun y2 u H locs h hP hS => ?_)
    obtain ⟨q, N⟩ := u
    obtain ⟨rfl, hq, hN1, hN2, hN3⟩ := h
    dsimp only at hq hN1 hN2 hN3 hP
    have hqa : q ≠ a := fun z => by rw [z, hA] at hq; cases hq
    obtain ⟨k1, k2⟩ := rGs_none ((hG1 q hqa).symm.trans hq)
    refine s_astore (r := some q) (lk := [(3, .int (nI (sL σ a).length))]) (lv' := [(4, .ref q), (3, .int (nI (sL σ a).length)), (0, .ref a), (1, .int (nI j)), (2, .ref y)]) hx hb dJx4a65c_add_7a177_36 hl (by decide) rfl (lk_1 rfl) rfl (fun ls hl => ?_)
    exact tail q N _ _ _ _ _ _ (rup_self _ _ _) ((rup_ne _ _ hqa).trans (rup_self _ _ _)) hqa hN1 (by omega) hN2 k1 (Or.inl k2) (fun z h1 h2 => (rup_ne _ _ h1).trans ((rup_ne _ _ h2).trans (hG1 z h1))) hP hS hl ⟨Nat.le_of_ble_eq_true rfl, Nat.le_of_ble_eq_true rfl⟩
  rcases w4 with ⟨w4, w5⟩ | ⟨w4, w5, w6⟩
  · have hl0 : (sL σ a).length = 0 := by omega
    rw [w4] at hl ⊢
    refine va_tlen hx hb F.2.1.2.2.2.1 hS (v := 0) (by decide) dJx4a65c_add_7a177_28 ?_
    refine lv_icmp_ne (tgt := 38) hx hb dJx4a65c_add_7a177_29 (by decide) (fun z => absurd (by rw [hl0]; decide) z) (fun _ => ?_)
    rw [← w4] at hl
    exact grow (Or.inl ⟨w4, hl0⟩)
  · have hba : X.2.1 a ≠ a := fun e => by rw [e] at w5; omega
    have hB : G1 (X.2.1 a) = some (.inl (Γ.2.2.1 4, X.2.2.1 a, .inr (.inr (.inr (.inr (fun i => (sL σ a)[i]?)))))) := (hG1 _ hba).trans (rGs_bk w5 w4)
    refine g_alen hx hb F.2.1 hP 4 rfl hB rfl dJx4a65c_add_7a177_28 ?_
    refine lv_icmp_ne (tgt := 38) hx hb dJx4a65c_add_7a177_29 (by decide) (fun z => ?_) (fun z => ?_)
    · have hlt : (sL σ a).length < X.2.2.1 a := by
        rcases Nat.lt_or_ge (sL σ a).length (X.2.2.1 a) with h | h
        · exact h
        · exact absurd (by rw [Nat.le_antisymm w1 h]) z
      exact tail _ _ G1 _ _ _ _ _ hA hB hba hlt w2 w6 w5 (Or.inr w4) (fun z h1 h2 => hG1 z h1) hP hS hl ⟨Nat.le_of_ble_eq_true rfl, Nat.le_of_ble_eq_true rfl⟩
    · have e1 : (sL σ a).length = X.2.2.1 a := (nI_eq (by omega) (by omega)).mp z
      rw [← e1] at hB w6
      exact grow (Or.inr ⟨hB, w6⟩)
set_option maxHeartbeats 4000000 in
set_option maxRecDepth 100000 in
theorem kJ_fr (l : Launch) (Γ : rGam) (G : rG) {a b w n j : Nat} {mm : Int32} {f : Nat → Option Nat} (hA : G a = some (.inr (0, [.int mm, .ref b, .int (nI w)]))) (hB : G b = some (.inl (Γ.2.2.1 4, n, .inr (.inr (.inr (.inr f)))))) (hj : j < w) (hwn : w ≤ n) (hn : n < 100000) (ci : Nat) (r : vw_C) (hc : vwCl[ci]? = some r) (hca : r.1 = "ClearingFiles$Bank" ∨ r.1 = "ClearingFiles$Account" ∨ r.1 = "ClearingFiles$Entry") (hE0 : ∀ i y, f i = some y → ∃ vs, G y = some (.inr (ci, vs))) (hxx : ∀ i y, f i = some y → y ≠ a ∧ y ≠ b) : Met l yJx4a65c_fastRemove_b59b0 wsJx4a65c_fastRemove_b59b0 { frames := 1, cells := 0, slots := 0, locals := 40 } (rPc Γ vwCl [.ref a, .ref b, .int (nI j)] (rW Γ vwCl G)) (va_Qv (fun (_ : Unit) => True) (fun _ t => rW Γ vwCl (rup (rup G b (.inl (Γ.2.2.1 4, n, .inr (.inr (.inr (.inr (rmv f j w))))))) a (.inr (0, [.int (mm + 1), .ref b, .int (nI (w - 1))]))) t.heap) (rA Γ)) 0 0 (rA Γ) := by
  refine Met.ofW (cc := cJx4a65c_fastRemove_b59b0) (maxL := 4) (ret := none) (by decide) rfl ?_
  intro p e s m args below meth c s₁ B hml hv
  obtain ⟨rfl, hP, hE⟩ := hv
  have F : Fx Γ p s m meth c _ cJx4a65c_fastRemove_b59b0 4 RJx4a65c wsJx4a65c_fastRemove_b59b0 none := ⟨⟨B.exec, B.bytes, hml, findClass_of_methodNamed B.named, atoms_spec (ws := wsJx4a65c_fastRemove_b59b0) B.pre⟩, hE, B.notSynchronized, B.returns⟩
  have hx := F.1.1
  have hb := F.1.2.1
  have hts := F.1.2.2.2.2
  have hown := F.1.2.2.2.1
  have hS : va_S (rA Γ) s.heap s.heap [] := va_S.rf
  have hl := lv_entry ([.ref a, .ref b, .int (nI j)]) (n := 4) (Nat.le_of_ble_eq_true rfl)
  rw [lg_entry_eq]
  generalize (lg_sl ([.ref a, .ref b, .int (nI j)]) ++ List.replicate (4 - (lg_sl ([.ref a, .ref b, .int (nI j)])).length) Slot.unset).toArray = ls at hl ⊢
  have hl : lv_has ls 4 [(0, .ref a), (1, .ref b), (2, .int (nI j))] := hl
  have hba : b ≠ a := fun e => by rw [e, hA] at hB; cases hB
  refine lv_aload_n hx hb dJx4a65c_fastRemove_b59b0_0 rfl (lv_at hl 0 rfl) ?_
  refine lv_dup hx hb dJx4a65c_fastRemove_b59b0_1 rfl ?_
  refine g_get (ref := "java/util/ArrayList") (C := RJx4a65c) (T := TJx4a65c) (N := 3) hx hb hts (fun _ h => List.mem_cons_of_mem _ (List.mem_append_right _ h)) hown F.2.1 hP hA rfl 0 (by decide) (hts (.fieldLink RJx4a65c 63 "java/util/ArrayList" "modCount" "I") (by decide +kernel)) (fun x hx => u_same (hts (.sameField "java/util/ArrayList" "java/util/AbstractList" "modCount" "I") (by decide +kernel)) x hx) (v := .int mm) rfl dJx4a65c_fastRemove_b59b0_2 ?_
  refine lv_iconst (v := 1) hx hb dJx4a65c_fastRemove_b59b0_5 (by decide) ?_
  refine lv_iadd hx hb dJx4a65c_fastRemove_b59b0_6 ?_
  refine g_put (ref := "java/util/ArrayList") (C := RJx4a65c) (T := TJx4a65c) (N := 3) hx hb hts (fun _ h => List.mem_cons_of_mem _ (List.mem_append_right _ h)) tyJx4a65c tyJx4a65c_ok nmJx4a65c hown F.2.1 hP hS hA rfl 0 (by decide) (hts (.fieldLink RJx4a65c 63 "java/util/ArrayList" "modCount" "I") (by decide +kernel)) (fun x hx => u_same (hts (.sameField "java/util/ArrayList" "java/util/AbstractList" "modCount" "I") (by decide +kernel)) x hx) rfl (v := .int (mm + 1)) rfl rfl (Nat.le_of_ble_eq_true rfl) dJx4a65c_fastRemove_b59b0_7 (fun H locs hP hS => ?_)
  replace hP : rW Γ vwCl (rup G a (.inr (0, [.int (mm + 1), .ref b, .int (nI w)]))) H := hP
  refine lv_aload_n hx hb dJx4a65c_fastRemove_b59b0_10 rfl (lv_at hl 0 rfl) ?_
  refine g_get (ref := "java/util/ArrayList") (C := RJx4a65c) (T := TJx4a65c) (N := 3) hx hb hts (fun _ h => List.mem_cons_of_mem _ (List.mem_append_right _ h)) hown F.2.1 hP (rup_self _ _ _) rfl 2 (by decide) (hts (.fieldLink RJx4a65c 48 "java/util/ArrayList" "size" "I") (by decide +kernel)) (fun _ h => h) (v := .int (nI w)) rfl dJx4a65c_fastRemove_b59b0_11 ?_
  refine lv_iconst (v := 1) hx hb dJx4a65c_fastRemove_b59b0_14 (by decide) ?_
  refine lv_isub hx hb dJx4a65c_fastRemove_b59b0_15 ?_
  rw [show nI w - 1 = nI (w - 1) from pk_sub (b := 1) (by omega)]
  refine lv_dup hx hb dJx4a65c_fastRemove_b59b0_16 rfl ?_
  refine s_istore_n (lk := [(2, .int (nI j))]) (lv' := [(3, .int (nI (w - 1))), (0, .ref a), (1, .ref b), (2, .int (nI j))]) hx hb dJx4a65c_fastRemove_b59b0_17 rfl hl (by decide) rfl (lk_1 rfl) rfl (fun ls hl => ?_)
  refine lv_iload_n hx hb dJx4a65c_fastRemove_b59b0_18 rfl (lv_at hl 3 rfl) ?_
  have hB1 : rup G a (.inr (0, [.int (mm + 1), .ref b, .int (nI w)])) b = some (.inl (Γ.2.2.1 4, n, .inr (.inr (.inr (.inr f))))) := (rup_ne _ _ hba).trans hB
  have tail : ∀ (H : Heap) (locs : List Loc), rW Γ vwCl (rup (rup G a (.inr (0, [.int (mm + 1), .ref b, .int (nI w)]))) b (.inl (Γ.2.2.1 4, n, .inr (.inr (.inr (.inr (va_cpy f f (j + 1) j (w - 1 - j)))))))) H → va_S (rA Γ) s.heap H locs → W p l e (headSpec wsJx4a65c_fastRemove_b59b0 { frames := 1, cells := 0, slots := 0, locals := 40 }).room s m #[.ref a, .ref b, .int (nI j)] below meth c H locs 0 0 (MQ below (va_Qv (fun (_ : Unit) => True) (fun _ t => rW Γ vwCl (rup (rup G b (.inl (Γ.2.2.1 4, n, .inr (.inr (.inr (.inr (rmv f j w))))))) a (.inr (0, [.int (mm + 1), .ref b, .int (nI (w - 1))]))) t.heap) (rA Γ)) #[.ref a, .ref b, .int (nI j)] s 0 0 (rA Γ)) (F0 m 34 ls []) := by
    intro H locs hP hS
    refine lv_aload_n hx hb dJx4a65c_fastRemove_b59b0_34 rfl (lv_at hl 2 rfl) ?_
    refine lv_aload_n hx hb dJx4a65c_fastRemove_b59b0_35 rfl (lv_at hl 1 rfl) ?_
    refine lv_iload_n hx hb dJx4a65c_fastRemove_b59b0_36 rfl (lv_at hl 0 rfl) ?_
    refine lv_dup_x1 hx hb dJx4a65c_fastRemove_b59b0_37 rfl rfl ?_
    refine g_put (ref := "java/util/ArrayList") (C := RJx4a65c) (T := TJx4a65c) (N := 3) hx hb hts (fun _ h => List.mem_cons_of_mem _ (List.mem_append_right _ h)) tyJx4a65c tyJx4a65c_ok nmJx4a65c hown F.2.1 hP hS ((rup_ne _ _ (Ne.symm hba)).trans (rup_self _ _ _)) rfl 2 (by decide) (hts (.fieldLink RJx4a65c 48 "java/util/ArrayList" "size" "I") (by decide +kernel)) (fun _ h => h) rfl (v := .int (nI (w - 1))) rfl rfl (Nat.le_of_ble_eq_true rfl) dJx4a65c_fastRemove_b59b0_38 (fun H locs hP hS => ?_)
    refine lv_null hx hb dJx4a65c_fastRemove_b59b0_41 ?_
    refine g_aastN hx hb F.2.1 hP hS 4 (C := "java/lang/Object") ((rup_ne _ _ hba).trans (rup_self _ _ _)) rfl (vp_in_nI (by omega) (by omega)) dJx4a65c_fastRemove_b59b0_42 (fun H locs hP hS => ?_)
    rw [nI_clamp (by omega)] at hP
    refine g_vret F () ?_ hS trivial ⟨Nat.le_of_ble_eq_true rfl, Nat.le_of_ble_eq_true rfl⟩ dJx4a65c_fastRemove_b59b0_43
    rw [rup_comm G hba.symm, rup_rup, rup_comm _ hba.symm, rup_rup] at hP
    exact hP
  refine lv_icmp_le (tgt := 34) hx hb dJx4a65c_fastRemove_b59b0_19 (by decide) (fun z => ?_) (fun z => ?_)
  · have hz : w - 1 - j = 0 := by
      rcases Nat.lt_or_ge j (w - 1) with h | h
      · exact absurd z (nI_ge h (by omega))
      · omega
    refine tail H locs ?_ hS
    have ef : va_cpy f f (j + 1) j (w - 1 - j) = f := by
      funext i
      unfold va_cpy
      rw [if_neg (by omega)]
    rw [ef]
    exact hP.mono (fun z e hz => by
      by_cases h : z = b
      · subst h
        rw [rup_self] at hz
        exact hB1.trans hz
      · rw [rup_ne _ _ h] at hz
        exact hz)
  · refine lv_aload_n hx hb dJx4a65c_fastRemove_b59b0_22 rfl (lv_at hl 2 rfl) ?_
    refine lv_iload_n hx hb dJx4a65c_fastRemove_b59b0_23 rfl (lv_at hl 3 rfl) ?_
    refine lv_iconst (v := 1) hx hb dJx4a65c_fastRemove_b59b0_24 (by decide) ?_
    refine lv_iadd hx hb dJx4a65c_fastRemove_b59b0_25 ?_
    rw [nI_1]
    refine lv_aload_n hx hb dJx4a65c_fastRemove_b59b0_26 rfl (lv_at hl 2 rfl) ?_
    refine lv_iload_n hx hb dJx4a65c_fastRemove_b59b0_27 rfl (lv_at hl 3 rfl) ?_
    refine lv_iload_n hx hb dJx4a65c_fastRemove_b59b0_28 rfl (lv_at hl 0 rfl) ?_
    refine lv_iload_n hx hb dJx4a65c_fastRemove_b59b0_29 rfl (lv_at hl 3 rfl) ?_
    refine lv_isub hx hb dJx4a65c_fastRemove_b59b0_30 ?_
    rw [pk_sub (a := w - 1) (b := j) (by omega)]
    have hcj : (nI j).toNatClampNeg = j := nI_clamp (by omega)
    have hcj1 : (nI (j + 1)).toNatClampNeg = j + 1 := nI_clamp (by omega)
    have hcw : (nI (w - 1 - j)).toNatClampNeg = w - 1 - j := nI_clamp (by omega)
    refine g_copyq hx hb (F.1.2.2.1.trans hl.1.symm) hown (hts _ (by decide +kernel : Cond.methodLink RJx4a65c 112 arraycopyName ∈ wsJx4a65c_fastRemove_b59b0)) (hts _ (by decide +kernel : Cond.native arraycopyName ∈ wsJx4a65c_fastRemove_b59b0)) (hts _ (by decide +kernel : Cond.static arraycopyName ∈ wsJx4a65c_fastRemove_b59b0)) (hts _ (by decide +kernel : Cond.initialized "java/lang/System" ∈ wsJx4a65c_fastRemove_b59b0)) F.2.1 hP hS hB1 hB1 (nI_pos (by omega)) (nI_pos (by omega)) (nI_pos (by omega)) (by rw [hcj1, hcw]; omega) (by rw [hcj, hcw]; omega) ci r hc hca (fun i hi z hz => by
      obtain ⟨vs, hv⟩ := hE0 _ z hz
      exact ⟨vs, (rup_ne _ _ (hxx _ z hz).1).trans hv⟩) (Nat.le_of_ble_eq_true rfl) (Nat.le_of_ble_eq_true rfl) dJx4a65c_fastRemove_b59b0_31 (fun H locs hP hS => ?_)
    rw [hcj, hcj1, hcw] at hP
    exact tail H locs hP hS
set_option maxHeartbeats 4000000 in
set_option maxRecDepth 100000 in
theorem kL_remove (l : Launch) (Γ : rGam) (a : Nat) (i : Int32) (post : Option Nat → St → Prop) (σ : St) (h : wL_remove a i post σ) : Met l yJx4a65c_remove_915e3 wsJx4a65c_remove_915e3 rmL_remove (rPc Γ vwCl [.ref a, .int i] (Rep Γ σ)) (va_Qq post (fun σ' t => Rep Γ σ' t.heap) (rA Γ)) 0 0 (rA Γ) := by
  obtain ⟨hk, x, hxi, hi0, hpost⟩ := h
  obtain ⟨j, hj31, rfl⟩ := nI_of hi0
  rw [nI_clamp hj31] at hxi hpost
  refine Met.ofW (cc := cJx4a65c_remove_915e3) (maxL := 4) (ret := (some (.object "java/lang/Object"))) (by decide) rfl ?_
  intro p e s m args below meth c s₁ B hml hv
  obtain ⟨rfl, hR, hE⟩ := hv
  have F : Fx Γ p s m meth c _ cJx4a65c_remove_915e3 4 RJx4a65c wsJx4a65c_remove_915e3 (some (.object "java/lang/Object")) := ⟨⟨B.exec, B.bytes, hml, findClass_of_methodNamed B.named, atoms_spec (ws := wsJx4a65c_remove_915e3) B.pre⟩, hE, B.notSynchronized, B.returns⟩
  have hx := F.1.1
  have hb := F.1.2.1
  have hts := F.1.2.2.2.2
  have hown := F.1.2.2.2.1
  have hS : va_S (rA Γ) s.heap s.heap [] := va_S.rf
  have hl := lv_entry ([.ref a, .int (nI j)]) (n := 4) (Nat.le_of_ble_eq_true rfl)
  rw [lg_entry_eq]
  generalize (lg_sl ([.ref a, .int (nI j)]) ++ List.replicate (4 - (lg_sl ([.ref a, .int (nI j)])).length) Slot.unset).toArray = ls at hl ⊢
  have hl : lv_has ls 4 [(0, .ref a), (1, .int (nI j))] := hl
  obtain ⟨X, hW, hP⟩ := hR
  obtain ⟨w1, w2, w3, w4⟩ := hW.1 a hk
  obtain ⟨ci, r, hc, hca, hel⟩ := elt_cls (Γ := Γ) (X := X) hk
  have hne : ∀ z, sK σ z = rElt (sK σ a) → z ≠ a := fun z hz e => by
    rw [e] at hz
    have h3 : rElt (sK σ a) < 20 := by unfold rElt; split <;> (try split) <;> decide
    omega

  have hlt : j < (sL σ a).length := (List.getElem?_eq_some_iff.mp hxi).1
  have w4 : X.2.2.2 (X.2.1 a) = a + 1 ∧ sK σ (X.2.1 a) = 0 ∧ 10 ≤ X.2.2.1 a := by
    rcases w4 with ⟨-, w4⟩ | w4
    · omega
    · exact w4
  have hB := rGs_bk (Γ := Γ) w4.2.1 w4.1
  refine lv_iload_n hx hb dJx4a65c_remove_915e3_0 rfl (lv_at hl 1 rfl) ?_
  refine lv_aload_n hx hb dJx4a65c_remove_915e3_1 rfl (lv_at hl 0 rfl) ?_
  refine g_get (ref := "java/util/ArrayList") (C := RJx4a65c) (T := TJx4a65c) (N := 3) hx hb hts (fun _ h => List.mem_cons_of_mem _ (List.mem_append_right _ h)) hown F.2.1 hP (rGs_ls hk) rfl 2 (by decide) (hts (.fieldLink RJx4a65c 48 "java/util/ArrayList" "size" "I") (by decide +kernel)) (fun _ h => h) (v := .int (nI (sL σ a).length)) rfl dJx4a65c_remove_915e3_2 ?_
  refine g_ci hS (k_runS F hP hS hl 2 [.int (nI j), .int (nI (sL σ a).length)] (kJ15 l Γ (rW Γ vwCl (rGs Γ σ X)) (nI j) _ hi0 (nI_lt hlt (by omega))) gJx4a65c_remove_915e3_J15_checkIndex_7cf53 rfl rfl rfl (by decide +kernel) ⟨Nat.le_of_ble_eq_true rfl, Nat.le_of_ble_eq_true rfl⟩ rfl (Nat.le_of_ble_eq_true rfl) dJx4a65c_remove_915e3_5 ⟨Nat.le_of_ble_eq_true rfl, Nat.le_of_ble_eq_true rfl⟩) (fun r2 u H locs h hP hS => ?_)
  refine lv_pop hx hb dJx4a65c_remove_915e3_8 rfl ?_
  refine lv_aload_n hx hb dJx4a65c_remove_915e3_9 rfl (lv_at hl 0 rfl) ?_
  refine g_get (ref := "java/util/ArrayList") (C := RJx4a65c) (T := TJx4a65c) (N := 3) hx hb hts (fun _ h => List.mem_cons_of_mem _ (List.mem_append_right _ h)) hown F.2.1 hP (rGs_ls hk) rfl 1 (by decide) (hts (.fieldLink RJx4a65c 9 "java/util/ArrayList" "elementData" "[Ljava/lang/Object;") (by decide +kernel)) (fun _ h => h) (v := .ref (X.2.1 a)) rfl dJx4a65c_remove_915e3_10 ?_
  refine s_astore_n (r := some (X.2.1 a)) (lk := [(1, .int (nI j))]) (lv' := [(2, .ref (X.2.1 a)), (0, .ref a), (1, .int (nI j))]) hx hb dJx4a65c_remove_915e3_13 rfl hl (by decide) rfl (lk_1 rfl) rfl (fun ls hl => ?_)
  refine lv_aload_n hx hb dJx4a65c_remove_915e3_14 rfl (lv_at hl 0 rfl) ?_
  refine lv_iload_n hx hb dJx4a65c_remove_915e3_15 rfl (lv_at hl 2 rfl) ?_
  refine g_aald hx hb F.2.1 hP 4 (C := "java/lang/Object") rfl hB (vp_in_nI (by omega) (by omega)) dJx4a65c_remove_915e3_16 ?_
  rw [show (sL σ a)[(nI j).toNatClampNeg]? = some x by rw [nI_clamp (by omega)]; exact hxi]
  refine s_astore_n (r := some x) (lk := [(2, .ref (X.2.1 a))]) (lv' := [(3, .ref x), (2, .ref (X.2.1 a)), (0, .ref a), (1, .int (nI j))]) hx hb dJx4a65c_remove_915e3_17 rfl hl (by decide) rfl (lk_1 rfl) rfl (fun ls hl => ?_)
  refine lv_aload_n hx hb dJx4a65c_remove_915e3_18 rfl (lv_at hl 2 rfl) ?_
  refine lv_aload_n hx hb dJx4a65c_remove_915e3_19 rfl (lv_at hl 1 rfl) ?_
  refine lv_iload_n hx hb dJx4a65c_remove_915e3_20 rfl (lv_at hl 3 rfl) ?_
  refine g_cv hS (k_runV F hP hS hl 2 [.ref (X.2.1 a), .int (nI j)] (kJ_fr l Γ (rGs Γ σ X) (rGs_ls hk) hB hlt w1 w2 ci r hc hca (fun i z hz => hel z (w3 z (List.mem_of_getElem? hz))) (fun i z hz => ⟨hne z (w3 z (List.mem_of_getElem? hz)), fun e => by
    have h3 := w3 z (List.mem_of_getElem? hz)
    rw [e, w4.2.1] at h3
    exact rElt_ne _ h3.symm⟩)) gJx4a65c_remove_915e3_Jx4a65c_fastRemove_b59b0 rfl rfl rfl (by decide +kernel) ⟨Nat.le_of_ble_eq_true rfl, Nat.le_of_ble_eq_true rfl⟩ (g_recv (q := (RJx4a65c, TJx4a65c, 3)) F.2.1 hP rfl (rGs_ls hk)) rfl (Nat.le_of_ble_eq_true rfl) dJx4a65c_remove_915e3_21 ⟨Nat.le_of_ble_eq_true rfl, Nat.le_of_ble_eq_true rfl⟩) (fun u H locs h hP hS => ?_)
  refine lv_aload_n hx hb dJx4a65c_remove_915e3_24 rfl (lv_at hl 0 rfl) ?_
  have hle : ((sL σ a).eraseIdx j).length = (sL σ a).length - 1 := by rw [List.length_eraseIdx, if_pos hlt]
  exact s_aret (r := some x) F (Rep_done hW hk w4.2.1 (Or.inr w4.1) (by omega) w2 w4.2.2 (fun z hz => w3 z (List.mem_of_mem_eraseIdx hz)) (fun z _ _ => rfl) (rmv_get _ _ hlt) (by rw [hle]) hP) hS hpost ⟨Nat.le_of_ble_eq_true rfl, Nat.le_of_ble_eq_true rfl⟩ dJx4a65c_remove_915e3_25
set_option maxHeartbeats 4000000 in
set_option maxRecDepth 100000 in
theorem kL_clear (l : Launch) (Γ : rGam) (a : Nat) (post : St → Prop) (σ : St) (h : wL_clear a post σ) : Met l yJx4a65c_clear_da8c8 wsJx4a65c_clear_da8c8 rmL_clear (rPc Γ vwCl [.ref a] (Rep Γ σ)) (va_Qv post (fun σ' t => Rep Γ σ' t.heap) (rA Γ)) 0 0 (rA Γ) := by
  obtain ⟨hk, hpost⟩ := h
  refine Met.ofW (cc := cJx4a65c_clear_da8c8) (maxL := 4) (ret := none) (by decide) rfl ?_
  intro p e s m args below meth c s₁ B hml hv
  obtain ⟨rfl, hR, hE⟩ := hv
  have F : Fx Γ p s m meth c _ cJx4a65c_clear_da8c8 4 RJx4a65c wsJx4a65c_clear_da8c8 none := ⟨⟨B.exec, B.bytes, hml, findClass_of_methodNamed B.named, atoms_spec (ws := wsJx4a65c_clear_da8c8) B.pre⟩, hE, B.notSynchronized, B.returns⟩
  have hx := F.1.1
  have hb := F.1.2.1
  have hts := F.1.2.2.2.2
  have hown := F.1.2.2.2.1
  have hS : va_S (rA Γ) s.heap s.heap [] := va_S.rf
  have hl := lv_entry ([.ref a]) (n := 4) (Nat.le_of_ble_eq_true rfl)
  rw [lg_entry_eq]
  generalize (lg_sl ([.ref a]) ++ List.replicate (4 - (lg_sl ([.ref a])).length) Slot.unset).toArray = ls at hl ⊢
  have hl : lv_has ls 4 [(0, .ref a)] := hl
  obtain ⟨X, hW, hP⟩ := hR
  obtain ⟨w1, w2, w3, w4⟩ := hW.1 a hk
  refine lv_aload_n hx hb dJx4a65c_clear_da8c8_0 rfl (lv_at hl 0 rfl) ?_
  refine lv_dup hx hb dJx4a65c_clear_da8c8_1 rfl ?_
  refine g_get (ref := "java/util/ArrayList") (C := RJx4a65c) (T := TJx4a65c) (N := 3) hx hb hts (fun _ h => List.mem_cons_of_mem _ (List.mem_append_right _ h)) hown F.2.1 hP (rGs_ls hk) rfl 0 (by decide) (hts (.fieldLink RJx4a65c 63 "java/util/ArrayList" "modCount" "I") (by decide +kernel)) (fun x hx => u_same (hts (.sameField "java/util/ArrayList" "java/util/AbstractList" "modCount" "I") (by decide +kernel)) x hx) (v := .int (X.1 a)) rfl dJx4a65c_clear_da8c8_2 ?_
  refine lv_iconst (v := 1) hx hb dJx4a65c_clear_da8c8_5 (by decide) ?_
  refine lv_iadd hx hb dJx4a65c_clear_da8c8_6 ?_
  refine g_put (ref := "java/util/ArrayList") (C := RJx4a65c) (T := TJx4a65c) (N := 3) hx hb hts (fun _ h => List.mem_cons_of_mem _ (List.mem_append_right _ h)) tyJx4a65c tyJx4a65c_ok nmJx4a65c hown F.2.1 hP hS (rGs_ls hk) rfl 0 (by decide) (hts (.fieldLink RJx4a65c 63 "java/util/ArrayList" "modCount" "I") (by decide +kernel)) (fun x hx => u_same (hts (.sameField "java/util/ArrayList" "java/util/AbstractList" "modCount" "I") (by decide +kernel)) x hx) rfl (v := .int (X.1 a + 1)) rfl rfl (Nat.le_of_ble_eq_true rfl) dJx4a65c_clear_da8c8_7 (fun H locs hP hS => ?_)
  replace hP : rW Γ vwCl (rup (rGs Γ σ X) a (.inr (0, [.int (X.1 a + 1), .ref (X.2.1 a), .int (nI (sL σ a).length)]))) H := hP
  refine lv_aload_n hx hb dJx4a65c_clear_da8c8_10 rfl (lv_at hl 0 rfl) ?_
  refine g_get (ref := "java/util/ArrayList") (C := RJx4a65c) (T := TJx4a65c) (N := 3) hx hb hts (fun _ h => List.mem_cons_of_mem _ (List.mem_append_right _ h)) hown F.2.1 hP (rup_self _ _ _) rfl 1 (by decide) (hts (.fieldLink RJx4a65c 9 "java/util/ArrayList" "elementData" "[Ljava/lang/Object;") (by decide +kernel)) (fun _ h => h) (v := .ref (X.2.1 a)) rfl dJx4a65c_clear_da8c8_11 ?_
  refine s_astore_n (r := some (X.2.1 a)) (lk := [(0, .ref a)]) (lv' := [(1, .ref (X.2.1 a)), (0, .ref a)]) hx hb dJx4a65c_clear_da8c8_14 rfl hl (by decide) rfl (lk_1 rfl) rfl (fun ls hl => ?_)
  refine lv_aload_n hx hb dJx4a65c_clear_da8c8_15 rfl (lv_at hl 1 rfl) ?_
  refine g_get (ref := "java/util/ArrayList") (C := RJx4a65c) (T := TJx4a65c) (N := 3) hx hb hts (fun _ h => List.mem_cons_of_mem _ (List.mem_append_right _ h)) hown F.2.1 hP (rup_self _ _ _) rfl 2 (by decide) (hts (.fieldLink RJx4a65c 48 "java/util/ArrayList" "size" "I") (by decide +kernel)) (fun _ h => h) (v := .int (nI (sL σ a).length)) rfl dJx4a65c_clear_da8c8_16 ?_
  refine s_istore_n (lk := [(1, .ref (X.2.1 a))]) (lv' := [(2, .int (nI (sL σ a).length)), (1, .ref (X.2.1 a)), (0, .ref a)]) hx hb dJx4a65c_clear_da8c8_19 rfl hl (by decide) rfl (lk_1 rfl) rfl (fun ls hl => ?_)
  refine lv_aload_n hx hb dJx4a65c_clear_da8c8_20 rfl (lv_at hl 2 rfl) ?_
  refine lv_iconst (v := 0) hx hb dJx4a65c_clear_da8c8_21 (by decide) ?_
  refine lv_dup_x1 hx hb dJx4a65c_clear_da8c8_22 rfl rfl ?_
  refine g_put (ref := "java/util/ArrayList") (C := RJx4a65c) (T := TJx4a65c) (N := 3) hx hb hts (fun _ h => List.mem_cons_of_mem _ (List.mem_append_right _ h)) tyJx4a65c tyJx4a65c_ok nmJx4a65c hown F.2.1 hP hS (rup_self _ _ _) rfl 2 (by decide) (hts (.fieldLink RJx4a65c 48 "java/util/ArrayList" "size" "I") (by decide +kernel)) (fun _ h => h) rfl (v := .int 0) rfl rfl (Nat.le_of_ble_eq_true rfl) dJx4a65c_clear_da8c8_23 (fun H locs hP hS => ?_)
  rw [rup_rup] at hP
  replace hP : rW Γ vwCl (rup (rGs Γ σ X) a (.inr (0, [.int (X.1 a + 1), .ref (X.2.1 a), .int (nI 0)]))) H := hP
  refine s_istore_n (lk := [(2, .int (nI (sL σ a).length))]) (lv' := [(3, .int (nI 0)), (2, .int (nI (sL σ a).length)), (1, .ref (X.2.1 a)), (0, .ref a)]) hx hb dJx4a65c_clear_da8c8_26 rfl hl (by decide) rfl (lk_1 rfl) rfl (fun ls hl => ?_)
  rcases w4 with ⟨w4, w5⟩ | ⟨w4, w5, w6⟩
  · have hl0 : (sL σ a).length = 0 := by omega
    refine lv_iload_n hx hb dJx4a65c_clear_da8c8_27 rfl (lv_at hl 0 rfl) ?_
    refine lv_iload_n hx hb dJx4a65c_clear_da8c8_28 rfl (lv_at hl 1 rfl) ?_
    refine lv_icmp_ge (tgt := 42) hx hb dJx4a65c_clear_da8c8_29 (by decide) (fun _ => ?_) (fun z => absurd (by rw [hl0]; decide) z)
    exact s_vret F (Rep_upd0 hW hk ⟨w4, w5⟩ hP (rup_self _ _ _) (fun z hz => rup_ne _ _ hz)) hS hpost ⟨Nat.le_of_ble_eq_true rfl, Nat.le_of_ble_eq_true rfl⟩ dJx4a65c_clear_da8c8_42
  · have hba : X.2.1 a ≠ a := fun e => by rw [e] at w5; omega
    have loop : ∀ (d i : Nat) (H : Heap) (locs : List Loc) (ls : Array Slot), i + d = (sL σ a).length → rW Γ vwCl (rup (rup (rGs Γ σ X) (X.2.1 a) (.inl (Γ.2.2.1 4, X.2.2.1 a, .inr (.inr (.inr (.inr (fun z => if z < i then none else (sL σ a)[z]?))))))) a (.inr (0, [.int (X.1 a + 1), .ref (X.2.1 a), .int (nI 0)]))) H → va_S (rA Γ) s.heap H locs → lv_has ls 4 [(3, .int (nI i)), (2, .int (nI (sL σ a).length)), (1, .ref (X.2.1 a)), (0, .ref a)] → W p l e (headSpec wsJx4a65c_clear_da8c8 rmL_clear).room s m #[.ref a] below meth c H locs 0 0 (MQ below (va_Qv post (fun σ' t => Rep Γ σ' t.heap) (rA Γ)) #[.ref a] s 0 0 (rA Γ)) (F0 m 27 ls []) := by
      intro d
      induction d with
      | zero =>
        intro i H locs ls hi hP hS hl
        refine lv_iload_n hx hb dJx4a65c_clear_da8c8_27 rfl (lv_at hl 0 rfl) ?_
        refine lv_iload_n hx hb dJx4a65c_clear_da8c8_28 rfl (lv_at hl 1 rfl) ?_
        refine lv_icmp_ge (tgt := 42) hx hb dJx4a65c_clear_da8c8_29 (by decide) (fun _ => ?_) (fun z => absurd (nI_le (by omega) (by omega)) z)
        refine s_vret F (Rep_done hW hk w5 (Or.inr w4) (Nat.zero_le _) w2 w6 (fun _ h => absurd h List.not_mem_nil) (fun z _ _ => rfl) ?_ rfl hP) hS hpost ⟨Nat.le_of_ble_eq_true rfl, Nat.le_of_ble_eq_true rfl⟩ dJx4a65c_clear_da8c8_42
        funext z
        by_cases h : z < i
        · rw [if_pos h]; rfl
        · rw [if_neg h, List.getElem?_eq_none (by omega)]; rfl
      | succ d ih =>
        intro i H locs ls hi hP hS hl
        refine lv_iload_n hx hb dJx4a65c_clear_da8c8_27 rfl (lv_at hl 0 rfl) ?_
        refine lv_iload_n hx hb dJx4a65c_clear_da8c8_28 rfl (lv_at hl 1 rfl) ?_
        refine lv_icmp_ge (tgt := 42) hx hb dJx4a65c_clear_da8c8_29 (by decide) (fun z => absurd z (nI_ge (by omega) (by omega))) (fun _ => ?_)
        refine lv_aload_n hx hb dJx4a65c_clear_da8c8_32 rfl (lv_at hl 2 rfl) ?_
        refine lv_iload_n hx hb dJx4a65c_clear_da8c8_33 rfl (lv_at hl 0 rfl) ?_
        refine lv_null hx hb dJx4a65c_clear_da8c8_34 ?_
        refine g_aastN hx hb F.2.1 hP hS 4 (C := "java/lang/Object") ((rup_ne _ _ hba).trans (rup_self _ _ _)) rfl (vp_in_nI (by omega) (by omega)) dJx4a65c_clear_da8c8_35 (fun H locs hP hS => ?_)
        rw [nI_clamp (by omega), rup_comm _ hba.symm, rup_rup] at hP
        refine s_iinc (d := 1) (k := 0) (x := nI i) (lk := [(2, .int (nI (sL σ a).length))]) (lv' := [(3, .int (nI (i + 1))), (2, .int (nI (sL σ a).length)), (1, .ref (X.2.1 a)), (0, .ref a)]) hx hb dJx4a65c_clear_da8c8_36 hl rfl (by decide) (by decide) rfl (lk_1 rfl) (v := nI (i + 1)) (nI_1 i).symm rfl (fun ls hl => ?_)
        refine lv_goto (tgt := 27) hx hb dJx4a65c_clear_da8c8_39 (by decide) ?_
        refine ih (i + 1) H locs ls (by omega) ?_ hS hl
        have ef : va_up (fun z => if z < i then none else (sL σ a)[z]?) i none = fun z => if z < i + 1 then none else (sL σ a)[z]? := by
          funext z
          unfold va_up
          by_cases h : z = i
          · rw [if_pos h, if_pos (by omega)]
          · rw [if_neg h]
            dsimp only
            by_cases h2 : z < i
            · rw [if_pos h2, if_pos (by omega)]
            · rw [if_neg h2, if_neg (by omega)]
        rw [← ef]
        exact hP
    refine loop (sL σ a).length 0 H locs ls (by omega) ?_ hS hl
    refine hP.mono (fun z e hz => ?_)
    by_cases h : z = a
    · subst h
      rw [rup_self] at hz ⊢
      exact hz
    · rw [rup_ne _ _ h] at hz ⊢
      by_cases h2 : z = X.2.1 a
      · subst h2
        rw [rup_self] at hz
        rw [rGs_bk w5 w4]
        simp only [Nat.not_lt_zero, if_false] at hz
        exact hz
      · rw [rup_ne _ _ h2] at hz
        exact hz
