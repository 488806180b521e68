/-! X0_init -/
theorem mX0_init_0 : Cond.methodLink RX0 1 objectInit ∈ wsX0_init := by decide +kernel
theorem mX0_init_1 : Cond.instanceMethod objectInit ∈ wsX0_init := by decide +kernel
theorem mX0_init_2 : Cond.code objectInit ⟨#[0xb1]⟩ 1 none ∈ wsX0_init := by decide +kernel
theorem mX0_init_3 : Cond.fieldLink RX0 7 "ClearingFiles$Account" "bank" "LClearingFiles$Bank;" ∈ wsX0_init := by decide +kernel
theorem mX0_init_4 : Cond.fieldLink RX0 13 "ClearingFiles$Account" "number" "I" ∈ wsX0_init := by decide +kernel
theorem mX0_init_5 : Cond.fieldLink RX0 17 "ClearingFiles$Account" "balance" "J" ∈ wsX0_init := by decide +kernel
theorem nX0_init_X0 : ∀ w ∈ u_ws RX0 TX0 4, w ∈ wsX0_init := fun _ h => List.mem_cons_of_mem _ (List.mem_append_right _ h)
abbrev rmX0_init : Room := { frames := 1, cells := 0, slots := 0, locals := 21 }
set_option maxRecDepth 100000 in
def wX0_init (o : Nat) (p1 : Option Nat) (p2 : Int32) (p3 : Int32) (post : St → Prop) (σ0 : St) : Prop :=
  sK σ0 o = 1 ∧ (∀ σ2 : St, σ2 = uR σ0 50 o 0 p1 → (sK σ2 o = 1 ∧ (∀ σ4 : St, σ4 = uI σ2 51 o 0 p2 → (sK σ4 o = 1 ∧ (∀ σ6 : St, σ6 = uJ σ4 52 o 0 p3.toInt64 → (post σ6))))))
set_option maxHeartbeats 4000000 in
set_option maxRecDepth 100000 in
theorem bX0_init {p : Program} {l : Launch} {e : Env} {s : State} {m : MethodId} {args : Array Value} {below : List Frame} {meth : Method} {c : Code} {Γ : rGam} {o : Nat} {post : St → Prop} (F : Fx Γ p s m meth c args cX0_init 4 RX0 wsX0_init none) (hN : meth.name = "<init>") {H : Heap} {locs : List Loc} {ls : Array Slot} {cells slots : Nat} {p1 : Option Nat} {p2 : Int32} {p3 : Int32} {σ0 : St} (h : wX0_init o p1 p2 p3 post σ0) (hR : Rep Γ σ0 H) (hS : va_S (rA Γ) s.heap H locs) (hl : lv_has ls 4 [(0, .ref o), (1, va_rf p1), (2, .int p2), (3, .int p3)]) (hc : cells ≤ 0 ∧ slots ≤ 0) : W p l e rmX0_init s m args below meth c H locs cells slots (rQv Γ below post args s 0 0) (F0 m 0 ls []) := by
  have hx := F.1.1
  have hb := F.1.2.1
  unfold wX0_init at h
  refine lv_aload_n hx hb dX0_init_0 rfl (lv_at hl 0 rfl) ?_
  refine W.objInit hx hb F.1.2.2.2.1 (F.1.2.2.2.2 _ mX0_init_0) (F.1.2.2.2.2 _ mX0_init_1) (F.1.2.2.2.2 _ mX0_init_2) rfl (by rw [F.1.2.2.1]; exact hl.1) rfl dX0_init_1 (Nat.le_of_ble_eq_true rfl) (Nat.le_of_ble_eq_true rfl) ?_
  refine W.eq (g2 := F0 m 4 ls []) rfl ?_
  refine lv_aload_n hx hb dX0_init_4 rfl (lv_at hl 0 rfl) ?_
  refine s_aload_n hx hb dX0_init_5 rfl (lv_at hl 1 rfl) ?_
  obtain ⟨k1, h⟩ := h
  refine s_putR (v := p1) F hR hS k1 (by decide) (C := RX0) (T := TX0) (N := 4) rfl nX0_init_X0 tyX0 tyX0_ok nmX0 0 (by decide) mX0_init_3 (Or.inr ⟨rfl, hN, rfl⟩) (rf_nar _ _) (rf_fit _ _) (f := 50) rfl rnd_1 dX0_init_6 (fun σ2 eσ2 H locs hR hS => ?_)
  replace h := h σ2 eσ2
  refine lv_aload_n hx hb dX0_init_9 rfl (lv_at hl 0 rfl) ?_
  refine lv_iload_n hx hb dX0_init_10 rfl (lv_at hl 2 rfl) ?_
  obtain ⟨k3, h⟩ := h
  refine s_putI (v := p2) F hR hS k3 (by decide) (C := RX0) (T := TX0) (N := 4) rfl nX0_init_X0 tyX0 tyX0_ok nmX0 1 (by decide) mX0_init_4 (Or.inr ⟨rfl, hN, rfl⟩) rfl rfl (f := 51) rfl rnd_1 dX0_init_11 (fun σ4 eσ4 H locs hR hS => ?_)
  replace h := h σ4 eσ4
  refine lv_aload_n hx hb dX0_init_14 rfl (lv_at hl 0 rfl) ?_
  refine lv_iload_n hx hb dX0_init_15 rfl (lv_at hl 3 rfl) ?_
  refine lv_i2l hx hb dX0_init_16 rfl ?_
  obtain ⟨k5, h⟩ := h
  refine s_putJ (v := p3.toInt64) F hR hS k5 (by decide) (C := RX0) (T := TX0) (N := 4) rfl nX0_init_X0 tyX0 tyX0_ok nmX0 2 (by decide) mX0_init_5 (Or.inl rfl) rfl rfl (f := 52) rfl rnd_1 dX0_init_17 (fun σ6 eσ6 H locs hR hS => ?_)
  replace h := h σ6 eσ6
  exact s_vret F hR hS h hc dX0_init_20
set_option maxHeartbeats 4000000 in
set_option maxRecDepth 100000 in
theorem kX0_init (l : Launch) (Γ : rGam) (o : Nat) (p1 : Option Nat) (p2 : Int32) (p3 : Int32) (post : St → Prop) (σ0 : St) (h : wX0_init o p1 p2 p3 post σ0) : Met l yX0_init wsX0_init rmX0_init (rPc Γ vwCl [.ref o, va_rf p1, .int p2, .int p3] (Rep Γ σ0)) (va_Qv post (fun σ' t => Rep Γ σ' t.heap) (rA Γ)) 0 0 (rA Γ) := by
  rcases p1 with _ | p1v
  · refine Met.ofW (cc := cX0_init) (maxL := 4) (ret := none) (by decide) rfl ?_
    intro p e s m args below meth c s₁ B hml hv
    obtain ⟨rfl, hR, hE⟩ := hv
    have F : Fx Γ p s m meth c _ cX0_init 4 RX0 wsX0_init none := ⟨⟨B.exec, B.bytes, hml, findClass_of_methodNamed B.named, atoms_spec (ws := wsX0_init) B.pre⟩, hE, B.notSynchronized, B.returns⟩
    have hN : meth.name = "<init>" := (name_of_methodNamed B.named B.method).1
    have hl := lv_entry ([.ref o, va_rf none, .int p2, .int p3]) (n := 4) (Nat.le_of_ble_eq_true rfl)
    rw [lg_entry_eq]
    generalize (lg_sl ([.ref o, va_rf none, .int p2, .int p3]) ++ List.replicate (4 - (lg_sl ([.ref o, va_rf none, .int p2, .int p3])).length) Slot.unset).toArray = ls at hl ⊢
    have hl : lv_has ls 4 [(0, .ref o), (1, va_rf none), (2, .int p2), (3, .int p3)] := hl
    exact bX0_init F hN h hR va_S.rf hl ⟨Nat.le_refl 0, Nat.le_refl 0⟩
  · refine Met.ofW (cc := cX0_init) (maxL := 4) (ret := none) (by decide) rfl ?_
    intro p e s m args below meth c s₁ B hml hv
    obtain ⟨rfl, hR, hE⟩ := hv
    have F : Fx Γ p s m meth c _ cX0_init 4 RX0 wsX0_init none := ⟨⟨B.exec, B.bytes, hml, findClass_of_methodNamed B.named, atoms_spec (ws := wsX0_init) B.pre⟩, hE, B.notSynchronized, B.returns⟩
    have hN : meth.name = "<init>" := (name_of_methodNamed B.named B.method).1
    have hl := lv_entry ([.ref o, va_rf (some p1v), .int p2, .int p3]) (n := 4) (Nat.le_of_ble_eq_true rfl)
    rw [lg_entry_eq]
    generalize (lg_sl ([.ref o, va_rf (some p1v), .int p2, .int p3]) ++ List.replicate (4 - (lg_sl ([.ref o, va_rf (some p1v), .int p2, .int p3])).length) Slot.unset).toArray = ls at hl ⊢
    have hl : lv_has ls 4 [(0, .ref o), (1, va_rf (some p1v)), (2, .int p2), (3, .int p3)] := hl
    exact bX0_init F hN h hR va_S.rf hl ⟨Nat.le_refl 0, Nat.le_refl 0⟩
/-! X3_init -/
theorem mX3_init_0 : Cond.methodLink RX3 1 objectInit ∈ wsX3_init := by decide +kernel
theorem mX3_init_1 : Cond.instanceMethod objectInit ∈ wsX3_init := by decide +kernel
theorem mX3_init_2 : Cond.code objectInit ⟨#[0xb1]⟩ 1 none ∈ wsX3_init := by decide +kernel
abbrev rmX3_init : Room := { frames := 1, cells := 0, slots := 0, locals := 21 }
set_option maxRecDepth 100000 in
def wX3_init (o : Nat)  (post : St → Prop) (σ0 : St) : Prop :=
  post σ0
set_option maxHeartbeats 4000000 in
set_option maxRecDepth 100000 in
theorem bX3_init {p : Program} {l : Launch} {e : Env} {s : State} {m : MethodId} {args : Array Value} {below : List Frame} {meth : Method} {c : Code} {Γ : rGam} {o : Nat} {post : St → Prop} (F : Fx Γ p s m meth c args cX3_init 1 RX3 wsX3_init none) (hN : meth.name = "<init>") {H : Heap} {locs : List Loc} {ls : Array Slot} {cells slots : Nat}  {σ0 : St} (h : wX3_init o  post σ0) (hR : Rep Γ σ0 H) (hS : va_S (rA Γ) s.heap H locs) (hl : lv_has ls 1 [(0, .ref o)]) (hc : cells ≤ 0 ∧ slots ≤ 0) : W p l e rmX3_init s m args below meth c H locs cells slots (rQv Γ below post args s 0 0) (F0 m 0 ls []) := by
  have hx := F.1.1
  have hb := F.1.2.1
  unfold wX3_init at h
  refine lv_aload_n hx hb dX3_init_0 rfl (lv_at hl 0 rfl) ?_
  refine W.objInit hx hb F.1.2.2.2.1 (F.1.2.2.2.2 _ mX3_init_0) (F.1.2.2.2.2 _ mX3_init_1) (F.1.2.2.2.2 _ mX3_init_2) rfl (by rw [F.1.2.2.1]; exact hl.1) rfl dX3_init_1 (Nat.le_of_ble_eq_true rfl) (Nat.le_of_ble_eq_true rfl) ?_
  refine W.eq (g2 := F0 m 4 ls []) rfl ?_
  exact s_vret F hR hS h hc dX3_init_4
set_option maxHeartbeats 4000000 in
set_option maxRecDepth 100000 in
theorem kX3_init (l : Launch) (Γ : rGam) (o : Nat)  (post : St → Prop) (σ0 : St) (h : wX3_init o  post σ0) : Met l yX3_init wsX3_init rmX3_init (rPc Γ vwCl [.ref o] (Rep Γ σ0)) (va_Qv post (fun σ' t => Rep Γ σ' t.heap) (rA Γ)) 0 0 (rA Γ) := by
  refine Met.ofW (cc := cX3_init) (maxL := 1) (ret := none) (by decide) rfl ?_
  intro p e s m args below meth c s₁ B hml hv
  obtain ⟨rfl, hR, hE⟩ := hv
  have F : Fx Γ p s m meth c _ cX3_init 1 RX3 wsX3_init none := ⟨⟨B.exec, B.bytes, hml, findClass_of_methodNamed B.named, atoms_spec (ws := wsX3_init) B.pre⟩, hE, B.notSynchronized, B.returns⟩
  have hN : meth.name = "<init>" := (name_of_methodNamed B.named B.method).1
  have hl := lv_entry ([.ref o]) (n := 1) (Nat.le_of_ble_eq_true rfl)
  rw [lg_entry_eq]
  generalize (lg_sl ([.ref o]) ++ List.replicate (1 - (lg_sl ([.ref o])).length) Slot.unset).toArray = ls at hl ⊢
  have hl : lv_has ls 1 [(0, .ref o)] := hl
  exact bX3_init F hN h hR va_S.rf hl ⟨Nat.le_refl 0, Nat.le_refl 0⟩
/-! X3_goesBefore -/
theorem mX3_goesBefore_0 : Cond.fieldLink RX3 7 "ClearingFiles$Entry" "day" "I" ∈ wsX3_goesBefore := by decide +kernel
theorem mX3_goesBefore_1 : Cond.fieldLink RX3 13 "ClearingFiles$Entry" "originator" "LClearingFiles$Bank;" ∈ wsX3_goesBefore := by decide +kernel
theorem mX3_goesBefore_2 : Cond.fieldLink RX3 17 "ClearingFiles$Bank" "number" "I" ∈ wsX3_goesBefore := by decide +kernel
theorem nX3_goesBefore_X3 : ∀ w ∈ u_ws RX3 TX3 9, w ∈ wsX3_goesBefore := fun _ h => List.mem_cons_of_mem _ (List.mem_append_left _ (List.mem_append_right _ h))
theorem nX3_goesBefore_X1 : ∀ w ∈ u_ws RX1 TX1 6, w ∈ wsX3_goesBefore := fun _ h => List.mem_cons_of_mem _ (List.mem_append_right _ h)
abbrev rmX3_goesBefore : Room := { frames := 0, cells := 0, slots := 0, locals := 0 }
set_option maxRecDepth 100000 in
def wX3_goesBefore (o : Nat) (p1 : Option Nat) (post : Int32 → St → Prop) (σ0 : St) : Prop :=
  sK σ0 o = 4 ∧ (∃ a2 : Nat, p1 = some a2 ∧ (sK σ0 a2 = 4 ∧ (((sI σ0 205 o 0) = (sI σ0 205 a2 0) → (sK σ0 o = 4 ∧ (∀ r6 : Option Nat, r6 = sR σ0 206 o 0 → (∃ a7 : Nat, r6 = some a7 ∧ (sK σ0 a7 = 2 ∧ (sK σ0 a2 = 4 ∧ (∀ r10 : Option Nat, r10 = sR σ0 206 a2 0 → (∃ a11 : Nat, r10 = some a11 ∧ (sK σ0 a11 = 2 ∧ (((sI σ0 100 a11 0) ≤ (sI σ0 100 a7 0) → (post (0 : Int32) σ0)) ∧ (¬ (sI σ0 100 a11 0) ≤ (sI σ0 100 a7 0) → (post (1 : Int32) σ0)))))))))))) ∧ (¬ (sI σ0 205 o 0) = (sI σ0 205 a2 0) → (sK σ0 o = 4 ∧ (sK σ0 a2 = 4 ∧ (((sI σ0 205 a2 0) ≤ (sI σ0 205 o 0) → (post (0 : Int32) σ0)) ∧ (¬ (sI σ0 205 a2 0) ≤ (sI σ0 205 o 0) → (post (1 : Int32) σ0)))))))))
set_option maxHeartbeats 4000000 in
set_option maxRecDepth 100000 in
theorem bX3_goesBefore {p : Program} {l : Launch} {e : Env} {s : State} {m : MethodId} {args : Array Value} {below : List Frame} {meth : Method} {c : Code} {Γ : rGam} {o : Nat} {post : Int32 → St → Prop} (F : Fx Γ p s m meth c args cX3_goesBefore 2 RX3 wsX3_goesBefore (some .boolean)) {H : Heap} {locs : List Loc} {ls : Array Slot} {cells slots : Nat} {p1 : Option Nat} {σ0 : St} (h : wX3_goesBefore o p1 post σ0) (hR : Rep Γ σ0 H) (hS : va_S (rA Γ) s.heap H locs) (hl : lv_has ls 2 [(0, .ref o), (1, va_rf p1)]) (hc : cells ≤ 0 ∧ slots ≤ 0) : W p l e rmX3_goesBefore s m args below meth c H locs cells slots (rQi Γ below post args s 0 0) (F0 m 0 ls []) := by
  have hx := F.1.1
  have hb := F.1.2.1
  unfold wX3_goesBefore at h
  refine lv_aload_n hx hb dX3_goesBefore_0 rfl (lv_at hl 0 rfl) ?_
  obtain ⟨k1, h⟩ := h
  refine s_getI F hR k1 (by decide) (C := RX3) (T := TX3) (N := 9) rfl nX3_goesBefore_X3 5 (by decide) mX3_goesBefore_0 (f := 205) rfl dX3_goesBefore_1 ?_
  refine s_aload_n hx hb dX3_goesBefore_4 rfl (lv_at hl 1 rfl) ?_
  obtain ⟨a2, ea2, h⟩ := h
  subst ea2
  obtain ⟨k3, h⟩ := h
  refine s_getI F hR k3 (by decide) (C := RX3) (T := TX3) (N := 9) rfl nX3_goesBefore_X3 5 (by decide) mX3_goesBefore_0 (f := 205) rfl dX3_goesBefore_5 ?_
  refine lv_icmp_eq (tgt := 28) hx hb dX3_goesBefore_8 (by decide) (fun c4 => ?_) (fun c4 => ?_)
  · replace h := h.1 c4
    refine lv_aload_n hx hb dX3_goesBefore_28 rfl (lv_at hl 0 rfl) ?_
    obtain ⟨k5, h⟩ := h
    refine s_getR F hR k5 (by decide) (C := RX3) (T := TX3) (N := 9) rfl nX3_goesBefore_X3 6 (by decide) mX3_goesBefore_1 (f := 206) rfl dX3_goesBefore_29 (fun r6 er6 => ?_)
    replace h := h r6 er6
    obtain ⟨a7, ea7, h⟩ := h
    subst ea7
    obtain ⟨k8, h⟩ := h
    refine s_getI F hR k8 (by decide) (C := RX1) (T := TX1) (N := 6) rfl nX3_goesBefore_X1 0 (by decide) mX3_goesBefore_2 (f := 100) rfl dX3_goesBefore_32 ?_
    refine lv_aload_n hx hb dX3_goesBefore_35 rfl (lv_at hl 1 rfl) ?_
    obtain ⟨k9, h⟩ := h
    refine s_getR F hR k9 (by decide) (C := RX3) (T := TX3) (N := 9) rfl nX3_goesBefore_X3 6 (by decide) mX3_goesBefore_1 (f := 206) rfl dX3_goesBefore_36 (fun r10 er10 => ?_)
    replace h := h r10 er10
    obtain ⟨a11, ea11, h⟩ := h
    subst ea11
    obtain ⟨k12, h⟩ := h
    refine s_getI F hR k12 (by decide) (C := RX1) (T := TX1) (N := 6) rfl nX3_goesBefore_X1 0 (by decide) mX3_goesBefore_2 (f := 100) rfl dX3_goesBefore_39 ?_
    refine lv_icmp_ge (tgt := 49) hx hb dX3_goesBefore_42 (by decide) (fun c13 => ?_) (fun c13 => ?_)
    · replace h := h.1 c13
      refine lv_iconst (v := 0) hx hb dX3_goesBefore_49 (by decide) ?_
      exact s_zret F hR hS (by unfold isB; decide) h hc dX3_goesBefore_50
    · replace h := h.2 c13
      refine lv_iconst (v := 1) hx hb dX3_goesBefore_45 (by decide) ?_
      refine lv_goto (tgt := 50) hx hb dX3_goesBefore_46 (by decide) ?_
      exact s_zret F hR hS (by unfold isB; decide) h hc dX3_goesBefore_50
  · replace h := h.2 c4
    refine lv_aload_n hx hb dX3_goesBefore_11 rfl (lv_at hl 0 rfl) ?_
    obtain ⟨k14, h⟩ := h
    refine s_getI F hR k14 (by decide) (C := RX3) (T := TX3) (N := 9) rfl nX3_goesBefore_X3 5 (by decide) mX3_goesBefore_0 (f := 205) rfl dX3_goesBefore_12 ?_
    refine lv_aload_n hx hb dX3_goesBefore_15 rfl (lv_at hl 1 rfl) ?_
    obtain ⟨k15, h⟩ := h
    refine s_getI F hR k15 (by decide) (C := RX3) (T := TX3) (N := 9) rfl nX3_goesBefore_X3 5 (by decide) mX3_goesBefore_0 (f := 205) rfl dX3_goesBefore_16 ?_
    refine lv_icmp_ge (tgt := 26) hx hb dX3_goesBefore_19 (by decide) (fun c16 => ?_) (fun c16 => ?_)
    · replace h := h.1 c16
      refine lv_iconst (v := 0) hx hb dX3_goesBefore_26 (by decide) ?_
      exact s_zret F hR hS (by unfold isB; decide) h hc dX3_goesBefore_27
    · replace h := h.2 c16
      refine lv_iconst (v := 1) hx hb dX3_goesBefore_22 (by decide) ?_
      refine lv_goto (tgt := 27) hx hb dX3_goesBefore_23 (by decide) ?_
      exact s_zret F hR hS (by unfold isB; decide) h hc dX3_goesBefore_27
set_option maxHeartbeats 4000000 in
set_option maxRecDepth 100000 in
theorem kX3_goesBefore (l : Launch) (Γ : rGam) (o : Nat) (p1 : Option Nat) (post : Int32 → St → Prop) (σ0 : St) (h : wX3_goesBefore o p1 post σ0) : Met l yX3_goesBefore wsX3_goesBefore rmX3_goesBefore (rPc Γ vwCl [.ref o, va_rf p1] (Rep Γ σ0)) (va_Qi post (fun σ' t => Rep Γ σ' t.heap) (rA Γ)) 0 0 (rA Γ) := by
  rcases p1 with _ | p1v
  · refine Met.ofW (cc := cX3_goesBefore) (maxL := 2) (ret := (some .boolean)) (by decide) rfl ?_
    intro p e s m args below meth c s₁ B hml hv
    obtain ⟨rfl, hR, hE⟩ := hv
    have F : Fx Γ p s m meth c _ cX3_goesBefore 2 RX3 wsX3_goesBefore (some .boolean) := ⟨⟨B.exec, B.bytes, hml, findClass_of_methodNamed B.named, atoms_spec (ws := wsX3_goesBefore) B.pre⟩, hE, B.notSynchronized, B.returns⟩
    have hl := lv_entry ([.ref o, va_rf none]) (n := 2) (Nat.le_of_ble_eq_true rfl)
    rw [lg_entry_eq]
    generalize (lg_sl ([.ref o, va_rf none]) ++ List.replicate (2 - (lg_sl ([.ref o, va_rf none])).length) Slot.unset).toArray = ls at hl ⊢
    have hl : lv_has ls 2 [(0, .ref o), (1, va_rf none)] := hl
    exact bX3_goesBefore F h hR va_S.rf hl ⟨Nat.le_refl 0, Nat.le_refl 0⟩
  · refine Met.ofW (cc := cX3_goesBefore) (maxL := 2) (ret := (some .boolean)) (by decide) rfl ?_
    intro p e s m args below meth c s₁ B hml hv
    obtain ⟨rfl, hR, hE⟩ := hv
    have F : Fx Γ p s m meth c _ cX3_goesBefore 2 RX3 wsX3_goesBefore (some .boolean) := ⟨⟨B.exec, B.bytes, hml, findClass_of_methodNamed B.named, atoms_spec (ws := wsX3_goesBefore) B.pre⟩, hE, B.notSynchronized, B.returns⟩
    have hl := lv_entry ([.ref o, va_rf (some p1v)]) (n := 2) (Nat.le_of_ble_eq_true rfl)
    rw [lg_entry_eq]
    generalize (lg_sl ([.ref o, va_rf (some p1v)]) ++ List.replicate (2 - (lg_sl ([.ref o, va_rf (some p1v)])).length) Slot.unset).toArray = ls at hl ⊢
    have hl : lv_has ls 2 [(0, .ref o), (1, va_rf (some p1v))] := hl
    exact bX3_goesBefore F h hR va_S.rf hl ⟨Nat.le_refl 0, Nat.le_refl 0⟩
/-! X6_init -/
theorem mX6_init_0 : Cond.methodLink RX6 3 objectInit ∈ wsX6_init := by decide +kernel
theorem mX6_init_1 : Cond.instanceMethod objectInit ∈ wsX6_init := by decide +kernel
theorem mX6_init_2 : Cond.code objectInit ⟨#[0xb1]⟩ 1 none ∈ wsX6_init := by decide +kernel
abbrev rmX6_init : Room := { frames := 1, cells := 0, slots := 0, locals := 21 }
set_option maxRecDepth 100000 in
def wX6_init (o : Nat)  (post : St → Prop) (σ0 : St) : Prop :=
  post σ0
set_option maxHeartbeats 4000000 in
set_option maxRecDepth 100000 in
theorem bX6_init {p : Program} {l : Launch} {e : Env} {s : State} {m : MethodId} {args : Array Value} {below : List Frame} {meth : Method} {c : Code} {Γ : rGam} {o : Nat} {post : St → Prop} (F : Fx Γ p s m meth c args cX6_init 1 RX6 wsX6_init none) (hN : meth.name = "<init>") {H : Heap} {locs : List Loc} {ls : Array Slot} {cells slots : Nat}  {σ0 : St} (h : wX6_init o  post σ0) (hR : Rep Γ σ0 H) (hS : va_S (rA Γ) s.heap H locs) (hl : lv_has ls 1 [(0, .ref o)]) (hc : cells ≤ 0 ∧ slots ≤ 0) : W p l e rmX6_init s m args below meth c H locs cells slots (rQv Γ below post args s 0 0) (F0 m 0 ls []) := by
  have hx := F.1.1
  have hb := F.1.2.1
  unfold wX6_init at h
  refine lv_aload_n hx hb dX6_init_0 rfl (lv_at hl 0 rfl) ?_
  refine W.objInit hx hb F.1.2.2.2.1 (F.1.2.2.2.2 _ mX6_init_0) (F.1.2.2.2.2 _ mX6_init_1) (F.1.2.2.2.2 _ mX6_init_2) rfl (by rw [F.1.2.2.1]; exact hl.1) rfl dX6_init_1 (Nat.le_of_ble_eq_true rfl) (Nat.le_of_ble_eq_true rfl) ?_
  refine W.eq (g2 := F0 m 4 ls []) rfl ?_
  exact s_vret F hR hS h hc dX6_init_4
set_option maxHeartbeats 4000000 in
set_option maxRecDepth 100000 in
theorem kX6_init (l : Launch) (Γ : rGam) (o : Nat)  (post : St → Prop) (σ0 : St) (h : wX6_init o  post σ0) : Met l yX6_init wsX6_init rmX6_init (rPc Γ vwCl [.ref o] (Rep Γ σ0)) (va_Qv post (fun σ' t => Rep Γ σ' t.heap) (rA Γ)) 0 0 (rA Γ) := by
  refine Met.ofW (cc := cX6_init) (maxL := 1) (ret := none) (by decide) rfl ?_
  intro p e s m args below meth c s₁ B hml hv
  obtain ⟨rfl, hR, hE⟩ := hv
  have F : Fx Γ p s m meth c _ cX6_init 1 RX6 wsX6_init none := ⟨⟨B.exec, B.bytes, hml, findClass_of_methodNamed B.named, atoms_spec (ws := wsX6_init) B.pre⟩, hE, B.notSynchronized, B.returns⟩
  have hN : meth.name = "<init>" := (name_of_methodNamed B.named B.method).1
  have hl := lv_entry ([.ref o]) (n := 1) (Nat.le_of_ble_eq_true rfl)
  rw [lg_entry_eq]
  generalize (lg_sl ([.ref o]) ++ List.replicate (1 - (lg_sl ([.ref o])).length) Slot.unset).toArray = ls at hl ⊢
  have hl : lv_has ls 1 [(0, .ref o)] := hl
  exact bX6_init F hN h hR va_S.rf hl ⟨Nat.le_refl 0, Nat.le_refl 0⟩
/-! X6_clear -/
theorem mX6_clear_0 : Cond.fieldLink RX6 9 "ClearingFiles$Totals" "count" "J" ∈ wsX6_clear := by decide +kernel
theorem mX6_clear_1 : Cond.fieldLink RX6 15 "ClearingFiles$Totals" "hash" "J" ∈ wsX6_clear := by decide +kernel
theorem mX6_clear_2 : Cond.fieldLink RX6 18 "ClearingFiles$Totals" "debits" "J" ∈ wsX6_clear := by decide +kernel
theorem mX6_clear_3 : Cond.fieldLink RX6 21 "ClearingFiles$Totals" "credits" "J" ∈ wsX6_clear := by decide +kernel
theorem nX6_clear_X6 : ∀ w ∈ u_ws RX6 TX6 4, w ∈ wsX6_clear := fun _ h => List.mem_cons_of_mem _ (List.mem_append_right _ h)
abbrev rmX6_clear : Room := { frames := 0, cells := 0, slots := 0, locals := 0 }
set_option maxRecDepth 100000 in
def wX6_clear (o : Nat)  (post : St → Prop) (σ0 : St) : Prop :=
  sK σ0 o = 7 ∧ (∀ σ2 : St, σ2 = uJ σ0 350 o 0 (0 : Int64) → (sK σ2 o = 7 ∧ (∀ σ4 : St, σ4 = uJ σ2 351 o 0 (0 : Int64) → (sK σ4 o = 7 ∧ (∀ σ6 : St, σ6 = uJ σ4 352 o 0 (0 : Int64) → (sK σ6 o = 7 ∧ (∀ σ8 : St, σ8 = uJ σ6 353 o 0 (0 : Int64) → (post σ8))))))))
set_option maxHeartbeats 4000000 in
set_option maxRecDepth 100000 in
theorem bX6_clear {p : Program} {l : Launch} {e : Env} {s : State} {m : MethodId} {args : Array Value} {below : List Frame} {meth : Method} {c : Code} {Γ : rGam} {o : Nat} {post : St → Prop} (F : Fx Γ p s m meth c args cX6_clear 1 RX6 wsX6_clear none) {H : Heap} {locs : List Loc} {ls : Array Slot} {cells slots : Nat}  {σ0 : St} (h : wX6_clear o  post σ0) (hR : Rep Γ σ0 H) (hS : va_S (rA Γ) s.heap H locs) (hl : lv_has ls 1 [(0, .ref o)]) (hc : cells ≤ 0 ∧ slots ≤ 0) : W p l e rmX6_clear s m args below meth c H locs cells slots (rQv Γ below post args s 0 0) (F0 m 0 ls []) := by
  have hx := F.1.1
  have hb := F.1.2.1
  unfold wX6_clear at h
  refine lv_aload_n hx hb dX6_clear_0 rfl (lv_at hl 0 rfl) ?_
  refine lv_lconst (v := 0) hx hb dX6_clear_1 (by decide) ?_
  obtain ⟨k1, h⟩ := h
  refine s_putJ (v := (0 : Int64)) F hR hS k1 (by decide) (C := RX6) (T := TX6) (N := 4) rfl nX6_clear_X6 tyX6 tyX6_ok nmX6 0 (by decide) mX6_clear_0 (Or.inl rfl) rfl rfl (f := 350) rfl rnd_7 dX6_clear_2 (fun σ2 eσ2 H locs hR hS => ?_)
  replace h := h σ2 eσ2
  refine lv_aload_n hx hb dX6_clear_5 rfl (lv_at hl 0 rfl) ?_
  refine lv_lconst (v := 0) hx hb dX6_clear_6 (by decide) ?_
  obtain ⟨k3, h⟩ := h
  refine s_putJ (v := (0 : Int64)) F hR hS k3 (by decide) (C := RX6) (T := TX6) (N := 4) rfl nX6_clear_X6 tyX6 tyX6_ok nmX6 1 (by decide) mX6_clear_1 (Or.inl rfl) rfl rfl (f := 351) rfl rnd_7 dX6_clear_7 (fun σ4 eσ4 H locs hR hS => ?_)
  replace h := h σ4 eσ4
  refine lv_aload_n hx hb dX6_clear_10 rfl (lv_at hl 0 rfl) ?_
  refine lv_lconst (v := 0) hx hb dX6_clear_11 (by decide) ?_
  obtain ⟨k5, h⟩ := h
  refine s_putJ (v := (0 : Int64)) F hR hS k5 (by decide) (C := RX6) (T := TX6) (N := 4) rfl nX6_clear_X6 tyX6 tyX6_ok nmX6 2 (by decide) mX6_clear_2 (Or.inl rfl) rfl rfl (f := 352) rfl rnd_7 dX6_clear_12 (fun σ6 eσ6 H locs hR hS => ?_)
  replace h := h σ6 eσ6
  refine lv_aload_n hx hb dX6_clear_15 rfl (lv_at hl 0 rfl) ?_
  refine lv_lconst (v := 0) hx hb dX6_clear_16 (by decide) ?_
  obtain ⟨k7, h⟩ := h
  refine s_putJ (v := (0 : Int64)) F hR hS k7 (by decide) (C := RX6) (T := TX6) (N := 4) rfl nX6_clear_X6 tyX6 tyX6_ok nmX6 3 (by decide) mX6_clear_3 (Or.inl rfl) rfl rfl (f := 353) rfl rnd_7 dX6_clear_17 (fun σ8 eσ8 H locs hR hS => ?_)
  replace h := h σ8 eσ8
  exact s_vret F hR hS h hc dX6_clear_20
set_option maxHeartbeats 4000000 in
set_option maxRecDepth 100000 in
theorem kX6_clear (l : Launch) (Γ : rGam) (o : Nat)  (post : St → Prop) (σ0 : St) (h : wX6_clear o  post σ0) : Met l yX6_clear wsX6_clear rmX6_clear (rPc Γ vwCl [.ref o] (Rep Γ σ0)) (va_Qv post (fun σ' t => Rep Γ σ' t.heap) (rA Γ)) 0 0 (rA Γ) := by
  refine Met.ofW (cc := cX6_clear) (maxL := 1) (ret := none) (by decide) rfl ?_
  intro p e s m args below meth c s₁ B hml hv
  obtain ⟨rfl, hR, hE⟩ := hv
  have F : Fx Γ p s m meth c _ cX6_clear 1 RX6 wsX6_clear none := ⟨⟨B.exec, B.bytes, hml, findClass_of_methodNamed B.named, atoms_spec (ws := wsX6_clear) B.pre⟩, hE, B.notSynchronized, B.returns⟩
  have hl := lv_entry ([.ref o]) (n := 1) (Nat.le_of_ble_eq_true rfl)
  rw [lg_entry_eq]
  generalize (lg_sl ([.ref o]) ++ List.replicate (1 - (lg_sl ([.ref o])).length) Slot.unset).toArray = ls at hl ⊢
  have hl : lv_has ls 1 [(0, .ref o)] := hl
  exact bX6_clear F h hR va_S.rf hl ⟨Nat.le_refl 0, Nat.le_refl 0⟩
/-! X6_add -/
theorem mX6_add_0 : Cond.fieldLink RX6 9 "ClearingFiles$Totals" "count" "J" ∈ wsX6_add := by decide +kernel
theorem mX6_add_1 : Cond.fieldLink RX6 15 "ClearingFiles$Totals" "hash" "J" ∈ wsX6_add := by decide +kernel
theorem mX6_add_2 : Cond.fieldLink RX6 24 "ClearingFiles$Entry" "routing" "I" ∈ wsX6_add := by decide +kernel
theorem mX6_add_3 : Cond.fieldLink RX6 30 "ClearingFiles$Entry" "code" "I" ∈ wsX6_add := by decide +kernel
theorem mX6_add_4 : Cond.fieldLink RX6 21 "ClearingFiles$Totals" "credits" "J" ∈ wsX6_add := by decide +kernel
theorem mX6_add_5 : Cond.fieldLink RX6 33 "ClearingFiles$Entry" "amount" "I" ∈ wsX6_add := by decide +kernel
theorem mX6_add_6 : Cond.fieldLink RX6 18 "ClearingFiles$Totals" "debits" "J" ∈ wsX6_add := by decide +kernel
theorem nX6_add_X6 : ∀ w ∈ u_ws RX6 TX6 4, w ∈ wsX6_add := fun _ h => List.mem_cons_of_mem _ (List.mem_append_left _ (List.mem_append_right _ h))
theorem nX6_add_X3 : ∀ w ∈ u_ws RX3 TX3 9, w ∈ wsX6_add := fun _ h => List.mem_cons_of_mem _ (List.mem_append_right _ h)
abbrev rmX6_add : Room := { frames := 0, cells := 0, slots := 0, locals := 0 }
set_option maxRecDepth 100000 in
def wX6_add (o : Nat) (p1 : Option Nat) (post : St → Prop) (σ0 : St) : Prop :=
  sK σ0 o = 7 ∧ (sK σ0 o = 7 ∧ (∀ σ3 : St, σ3 = uJ σ0 350 o 0 ((sJ σ0 350 o 0) + (1 : Int64)) → (sK σ3 o = 7 ∧ (∃ a5 : Nat, p1 = some a5 ∧ (sK σ3 a5 = 4 ∧ (sK σ3 o = 7 ∧ (∀ σ8 : St, σ8 = uJ σ3 351 o 0 ((sJ σ3 351 o 0) + ((sI σ3 201 a5 0).toInt64)) → (sK σ8 a5 = 4 ∧ (((sI σ8 200 a5 0) = (7 : Int32) → (sK σ8 o = 7 ∧ (sK σ8 a5 = 4 ∧ (sK σ8 o = 7 ∧ (∀ σ20 : St, σ20 = uJ σ8 352 o 0 ((sJ σ8 352 o 0) + ((sI σ8 203 a5 0).toInt64)) → (post σ20)))))) ∧ (¬ (sI σ8 200 a5 0) = (7 : Int32) → (sK σ8 a5 = 4 ∧ (((sI σ8 200 a5 0) = (2 : Int32) → (sK σ8 o = 7 ∧ (sK σ8 a5 = 4 ∧ (sK σ8 o = 7 ∧ (∀ σ16 : St, σ16 = uJ σ8 353 o 0 ((sJ σ8 353 o 0) + ((sI σ8 203 a5 0).toInt64)) → (post σ16)))))) ∧ (¬ (sI σ8 200 a5 0) = (2 : Int32) → (post σ8))))))))))))))
set_option maxHeartbeats 4000000 in
set_option maxRecDepth 100000 in
theorem bX6_add {p : Program} {l : Launch} {e : Env} {s : State} {m : MethodId} {args : Array Value} {below : List Frame} {meth : Method} {c : Code} {Γ : rGam} {o : Nat} {post : St → Prop} (F : Fx Γ p s m meth c args cX6_add 2 RX6 wsX6_add none) {H : Heap} {locs : List Loc} {ls : Array Slot} {cells slots : Nat} {p1 : Option Nat} {σ0 : St} (h : wX6_add o p1 post σ0) (hR : Rep Γ σ0 H) (hS : va_S (rA Γ) s.heap H locs) (hl : lv_has ls 2 [(0, .ref o), (1, va_rf p1)]) (hc : cells ≤ 0 ∧ slots ≤ 0) : W p l e rmX6_add s m args below meth c H locs cells slots (rQv Γ below post args s 0 0) (F0 m 0 ls []) := by
  have hx := F.1.1
  have hb := F.1.2.1
  unfold wX6_add at h
  refine lv_aload_n hx hb dX6_add_0 rfl (lv_at hl 0 rfl) ?_
  refine lv_dup hx hb dX6_add_1 rfl ?_
  obtain ⟨k1, h⟩ := h
  refine s_getJ F hR k1 (by decide) (C := RX6) (T := TX6) (N := 4) rfl nX6_add_X6 0 (by decide) mX6_add_0 (f := 350) rfl dX6_add_2 ?_
  refine lv_lconst (v := 1) hx hb dX6_add_5 (by decide) ?_
  refine lv_ladd hx hb dX6_add_6 ?_
  obtain ⟨k2, h⟩ := h
  refine s_putJ (v := ((sJ σ0 350 o 0) + (1 : Int64))) F hR hS k2 (by decide) (C := RX6) (T := TX6) (N := 4) rfl nX6_add_X6 tyX6 tyX6_ok nmX6 0 (by decide) mX6_add_0 (Or.inl rfl) rfl rfl (f := 350) rfl rnd_7 dX6_add_7 (fun σ3 eσ3 H locs hR hS => ?_)
  replace h := h σ3 eσ3
  refine lv_aload_n hx hb dX6_add_10 rfl (lv_at hl 0 rfl) ?_
  refine lv_dup hx hb dX6_add_11 rfl ?_
  obtain ⟨k4, h⟩ := h
  refine s_getJ F hR k4 (by decide) (C := RX6) (T := TX6) (N := 4) rfl nX6_add_X6 1 (by decide) mX6_add_1 (f := 351) rfl dX6_add_12 ?_
  refine s_aload_n hx hb dX6_add_15 rfl (lv_at hl 1 rfl) ?_
  obtain ⟨a5, ea5, h⟩ := h
  subst ea5
  obtain ⟨k6, h⟩ := h
  refine s_getI F hR k6 (by decide) (C := RX3) (T := TX3) (N := 9) rfl nX6_add_X3 1 (by decide) mX6_add_2 (f := 201) rfl dX6_add_16 ?_
  refine lv_i2l hx hb dX6_add_19 rfl ?_
  refine lv_ladd hx hb dX6_add_20 ?_
  obtain ⟨k7, h⟩ := h
  refine s_putJ (v := ((sJ σ3 351 o 0) + ((sI σ3 201 a5 0).toInt64))) F hR hS k7 (by decide) (C := RX6) (T := TX6) (N := 4) rfl nX6_add_X6 tyX6 tyX6_ok nmX6 1 (by decide) mX6_add_1 (Or.inl rfl) rfl rfl (f := 351) rfl rnd_7 dX6_add_21 (fun σ8 eσ8 H locs hR hS => ?_)
  replace h := h σ8 eσ8
  refine lv_aload_n hx hb dX6_add_24 rfl (lv_at hl 1 rfl) ?_
  obtain ⟨k9, h⟩ := h
  refine s_getI F hR k9 (by decide) (C := RX3) (T := TX3) (N := 9) rfl nX6_add_X3 0 (by decide) mX6_add_3 (f := 200) rfl dX6_add_25 ?_
  refine lv_bipush (v := 7) hx hb dX6_add_28 (by decide) ?_
  refine lv_icmp_ne (tgt := 50) hx hb dX6_add_30 (by decide) (fun c10 => ?_) (fun c10 => ?_)
  · replace h := h.2 c10
    refine lv_aload_n hx hb dX6_add_50 rfl (lv_at hl 1 rfl) ?_
    obtain ⟨k11, h⟩ := h
    refine s_getI F hR k11 (by decide) (C := RX3) (T := TX3) (N := 9) rfl nX6_add_X3 0 (by decide) mX6_add_3 (f := 200) rfl dX6_add_51 ?_
    refine lv_iconst (v := 2) hx hb dX6_add_54 (by decide) ?_
    refine lv_icmp_ne (tgt := 72) hx hb dX6_add_55 (by decide) (fun c12 => ?_) (fun c12 => ?_)
    · replace h := h.2 c12
      exact s_vret F hR hS h hc dX6_add_72
    · replace h := h.1 c12
      refine lv_aload_n hx hb dX6_add_58 rfl (lv_at hl 0 rfl) ?_
      refine lv_dup hx hb dX6_add_59 rfl ?_
      obtain ⟨k13, h⟩ := h
      refine s_getJ F hR k13 (by decide) (C := RX6) (T := TX6) (N := 4) rfl nX6_add_X6 3 (by decide) mX6_add_4 (f := 353) rfl dX6_add_60 ?_
      refine lv_aload_n hx hb dX6_add_63 rfl (lv_at hl 1 rfl) ?_
      obtain ⟨k14, h⟩ := h
      refine s_getI F hR k14 (by decide) (C := RX3) (T := TX3) (N := 9) rfl nX6_add_X3 3 (by decide) mX6_add_5 (f := 203) rfl dX6_add_64 ?_
      refine lv_i2l hx hb dX6_add_67 rfl ?_
      refine lv_ladd hx hb dX6_add_68 ?_
      obtain ⟨k15, h⟩ := h
      refine s_putJ (v := ((sJ σ8 353 o 0) + ((sI σ8 203 a5 0).toInt64))) F hR hS k15 (by decide) (C := RX6) (T := TX6) (N := 4) rfl nX6_add_X6 tyX6 tyX6_ok nmX6 3 (by decide) mX6_add_4 (Or.inl rfl) rfl rfl (f := 353) rfl rnd_7 dX6_add_69 (fun σ16 eσ16 H locs hR hS => ?_)
      replace h := h σ16 eσ16
      exact s_vret F hR hS h hc dX6_add_72
  · replace h := h.1 c10
    refine lv_aload_n hx hb dX6_add_33 rfl (lv_at hl 0 rfl) ?_
    refine lv_dup hx hb dX6_add_34 rfl ?_
    obtain ⟨k17, h⟩ := h
    refine s_getJ F hR k17 (by decide) (C := RX6) (T := TX6) (N := 4) rfl nX6_add_X6 2 (by decide) mX6_add_6 (f := 352) rfl dX6_add_35 ?_
    refine lv_aload_n hx hb dX6_add_38 rfl (lv_at hl 1 rfl) ?_
    obtain ⟨k18, h⟩ := h
    refine s_getI F hR k18 (by decide) (C := RX3) (T := TX3) (N := 9) rfl nX6_add_X3 3 (by decide) mX6_add_5 (f := 203) rfl dX6_add_39 ?_
    refine lv_i2l hx hb dX6_add_42 rfl ?_
    refine lv_ladd hx hb dX6_add_43 ?_
    obtain ⟨k19, h⟩ := h
    refine s_putJ (v := ((sJ σ8 352 o 0) + ((sI σ8 203 a5 0).toInt64))) F hR hS k19 (by decide) (C := RX6) (T := TX6) (N := 4) rfl nX6_add_X6 tyX6 tyX6_ok nmX6 2 (by decide) mX6_add_6 (Or.inl rfl) rfl rfl (f := 352) rfl rnd_7 dX6_add_44 (fun σ20 eσ20 H locs hR hS => ?_)
    replace h := h σ20 eσ20
    refine lv_goto (tgt := 72) hx hb dX6_add_47 (by decide) ?_
    exact s_vret F hR hS h hc dX6_add_72
set_option maxHeartbeats 4000000 in
set_option maxRecDepth 100000 in
theorem kX6_add (l : Launch) (Γ : rGam) (o : Nat) (p1 : Option Nat) (post : St → Prop) (σ0 : St) (h : wX6_add o p1 post σ0) : Met l yX6_add wsX6_add rmX6_add (rPc Γ vwCl [.ref o, va_rf p1] (Rep Γ σ0)) (va_Qv post (fun σ' t => Rep Γ σ' t.heap) (rA Γ)) 0 0 (rA Γ) := by
  rcases p1 with _ | p1v
  · refine Met.ofW (cc := cX6_add) (maxL := 2) (ret := none) (by decide) rfl ?_
    intro p e s m args below meth c s₁ B hml hv
    obtain ⟨rfl, hR, hE⟩ := hv
    have F : Fx Γ p s m meth c _ cX6_add 2 RX6 wsX6_add none := ⟨⟨B.exec, B.bytes, hml, findClass_of_methodNamed B.named, atoms_spec (ws := wsX6_add) B.pre⟩, hE, B.notSynchronized, B.returns⟩
    have hl := lv_entry ([.ref o, va_rf none]) (n := 2) (Nat.le_of_ble_eq_true rfl)
    rw [lg_entry_eq]
    generalize (lg_sl ([.ref o, va_rf none]) ++ List.replicate (2 - (lg_sl ([.ref o, va_rf none])).length) Slot.unset).toArray = ls at hl ⊢
    have hl : lv_has ls 2 [(0, .ref o), (1, va_rf none)] := hl
    exact bX6_add F h hR va_S.rf hl ⟨Nat.le_refl 0, Nat.le_refl 0⟩
  · refine Met.ofW (cc := cX6_add) (maxL := 2) (ret := none) (by decide) rfl ?_
    intro p e s m args below meth c s₁ B hml hv
    obtain ⟨rfl, hR, hE⟩ := hv
    have F : Fx Γ p s m meth c _ cX6_add 2 RX6 wsX6_add none := ⟨⟨B.exec, B.bytes, hml, findClass_of_methodNamed B.named, atoms_spec (ws := wsX6_add) B.pre⟩, hE, B.notSynchronized, B.returns⟩
    have hl := lv_entry ([.ref o, va_rf (some p1v)]) (n := 2) (Nat.le_of_ble_eq_true rfl)
    rw [lg_entry_eq]
    generalize (lg_sl ([.ref o, va_rf (some p1v)]) ++ List.replicate (2 - (lg_sl ([.ref o, va_rf (some p1v)])).length) Slot.unset).toArray = ls at hl ⊢
    have hl : lv_has ls 2 [(0, .ref o), (1, va_rf (some p1v))] := hl
    exact bX6_add F h hR va_S.rf hl ⟨Nat.le_refl 0, Nat.le_refl 0⟩
/-! X6_are -/
theorem mX6_are_0 : Cond.fieldLink RX6 9 "ClearingFiles$Totals" "count" "J" ∈ wsX6_are := by decide +kernel
theorem mX6_are_1 : Cond.fieldLink RX6 15 "ClearingFiles$Totals" "hash" "J" ∈ wsX6_are := by decide +kernel
theorem mX6_are_2 : Cond.fieldLink RX6 18 "ClearingFiles$Totals" "debits" "J" ∈ wsX6_are := by decide +kernel
theorem mX6_are_3 : Cond.fieldLink RX6 21 "ClearingFiles$Totals" "credits" "J" ∈ wsX6_are := by decide +kernel
theorem nX6_are_X6 : ∀ w ∈ u_ws RX6 TX6 4, w ∈ wsX6_are := fun _ h => List.mem_cons_of_mem _ (List.mem_append_right _ h)
abbrev rmX6_are : Room := { frames := 0, cells := 0, slots := 0, locals := 0 }
set_option maxRecDepth 100000 in
def wX6_are (o : Nat) (p1 : Int32) (p2 : Int32) (p3 : Int32) (p4 : Int32) (post : Int32 → St → Prop) (σ0 : St) : Prop :=
  sK σ0 o = 7 ∧ (((lg_cmp (sJ σ0 350 o 0) p1.toInt64) = 0 → (sK σ0 o = 7 ∧ (((lg_cmp (sJ σ0 351 o 0) p2.toInt64) = 0 → (sK σ0 o = 7 ∧ (((lg_cmp (sJ σ0 352 o 0) p3.toInt64) = 0 → (sK σ0 o = 7 ∧ (((lg_cmp (sJ σ0 353 o 0) p4.toInt64) = 0 → (post (1 : Int32) σ0)) ∧ (¬ (lg_cmp (sJ σ0 353 o 0) p4.toInt64) = 0 → (post (0 : Int32) σ0))))) ∧ (¬ (lg_cmp (sJ σ0 352 o 0) p3.toInt64) = 0 → (post (0 : Int32) σ0))))) ∧ (¬ (lg_cmp (sJ σ0 351 o 0) p2.toInt64) = 0 → (post (0 : Int32) σ0))))) ∧ (¬ (lg_cmp (sJ σ0 350 o 0) p1.toInt64) = 0 → (post (0 : Int32) σ0)))
set_option maxHeartbeats 4000000 in
set_option maxRecDepth 100000 in
theorem bX6_are {p : Program} {l : Launch} {e : Env} {s : State} {m : MethodId} {args : Array Value} {below : List Frame} {meth : Method} {c : Code} {Γ : rGam} {o : Nat} {post : Int32 → St → Prop} (F : Fx Γ p s m meth c args cX6_are 5 RX6 wsX6_are (some .boolean)) {H : Heap} {locs : List Loc} {ls : Array Slot} {cells slots : Nat} {p1 : Int32} {p2 : Int32} {p3 : Int32} {p4 : Int32} {σ0 : St} (h : wX6_are o p1 p2 p3 p4 post σ0) (hR : Rep Γ σ0 H) (hS : va_S (rA Γ) s.heap H locs) (hl : lv_has ls 5 [(0, .ref o), (1, .int p1), (2, .int p2), (3, .int p3), (4, .int p4)]) (hc : cells ≤ 0 ∧ slots ≤ 0) : W p l e rmX6_are s m args below meth c H locs cells slots (rQi Γ below post args s 0 0) (F0 m 0 ls []) := by
  have hx := F.1.1
  have hb := F.1.2.1
  unfold wX6_are at h
  refine lv_aload_n hx hb dX6_are_0 rfl (lv_at hl 0 rfl) ?_
  obtain ⟨k1, h⟩ := h
  refine s_getJ F hR k1 (by decide) (C := RX6) (T := TX6) (N := 4) rfl nX6_are_X6 0 (by decide) mX6_are_0 (f := 350) rfl dX6_are_1 ?_
  refine lv_iload_n hx hb dX6_are_4 rfl (lv_at hl 1 rfl) ?_
  refine lv_i2l hx hb dX6_are_5 rfl ?_
  refine W.lcmp hx hb dX6_are_6 ?_
  refine lv_if_ne (tgt := 45) hx hb dX6_are_7 (by decide) (fun c2 => ?_) (fun c2 => ?_)
  · replace h := h.2 c2
    refine lv_iconst (v := 0) hx hb dX6_are_45 (by decide) ?_
    exact s_zret F hR hS (by unfold isB; decide) h hc dX6_are_46
  · replace h := h.1 c2
    refine lv_aload_n hx hb dX6_are_10 rfl (lv_at hl 0 rfl) ?_
    obtain ⟨k3, h⟩ := h
    refine s_getJ F hR k3 (by decide) (C := RX6) (T := TX6) (N := 4) rfl nX6_are_X6 1 (by decide) mX6_are_1 (f := 351) rfl dX6_are_11 ?_
    refine lv_iload_n hx hb dX6_are_14 rfl (lv_at hl 2 rfl) ?_
    refine lv_i2l hx hb dX6_are_15 rfl ?_
    refine W.lcmp hx hb dX6_are_16 ?_
    refine lv_if_ne (tgt := 45) hx hb dX6_are_17 (by decide) (fun c4 => ?_) (fun c4 => ?_)
    · replace h := h.2 c4
      refine lv_iconst (v := 0) hx hb dX6_are_45 (by decide) ?_
      exact s_zret F hR hS (by unfold isB; decide) h hc dX6_are_46
    · replace h := h.1 c4
      refine lv_aload_n hx hb dX6_are_20 rfl (lv_at hl 0 rfl) ?_
      obtain ⟨k5, h⟩ := h
      refine s_getJ F hR k5 (by decide) (C := RX6) (T := TX6) (N := 4) rfl nX6_are_X6 2 (by decide) mX6_are_2 (f := 352) rfl dX6_are_21 ?_
      refine lv_iload_n hx hb dX6_are_24 rfl (lv_at hl 3 rfl) ?_
      refine lv_i2l hx hb dX6_are_25 rfl ?_
      refine W.lcmp hx hb dX6_are_26 ?_
      refine lv_if_ne (tgt := 45) hx hb dX6_are_27 (by decide) (fun c6 => ?_) (fun c6 => ?_)
      · replace h := h.2 c6
        refine lv_iconst (v := 0) hx hb dX6_are_45 (by decide) ?_
        exact s_zret F hR hS (by unfold isB; decide) h hc dX6_are_46
      · replace h := h.1 c6
        refine lv_aload_n hx hb dX6_are_30 rfl (lv_at hl 0 rfl) ?_
        obtain ⟨k7, h⟩ := h
        refine s_getJ F hR k7 (by decide) (C := RX6) (T := TX6) (N := 4) rfl nX6_are_X6 3 (by decide) mX6_are_3 (f := 353) rfl dX6_are_31 ?_
        refine lv_iload hx hb dX6_are_34 (lv_at hl 4 rfl) ?_
        refine lv_i2l hx hb dX6_are_36 rfl ?_
        refine W.lcmp hx hb dX6_are_37 ?_
        refine lv_if_ne (tgt := 45) hx hb dX6_are_38 (by decide) (fun c8 => ?_) (fun c8 => ?_)
        · replace h := h.2 c8
          refine lv_iconst (v := 0) hx hb dX6_are_45 (by decide) ?_
          exact s_zret F hR hS (by unfold isB; decide) h hc dX6_are_46
        · replace h := h.1 c8
          refine lv_iconst (v := 1) hx hb dX6_are_41 (by decide) ?_
          refine lv_goto (tgt := 46) hx hb dX6_are_42 (by decide) ?_
          exact s_zret F hR hS (by unfold isB; decide) h hc dX6_are_46
set_option maxHeartbeats 4000000 in
set_option maxRecDepth 100000 in
theorem kX6_are (l : Launch) (Γ : rGam) (o : Nat) (p1 : Int32) (p2 : Int32) (p3 : Int32) (p4 : Int32) (post : Int32 → St → Prop) (σ0 : St) (h : wX6_are o p1 p2 p3 p4 post σ0) : Met l yX6_are wsX6_are rmX6_are (rPc Γ vwCl [.ref o, .int p1, .int p2, .int p3, .int p4] (Rep Γ σ0)) (va_Qi post (fun σ' t => Rep Γ σ' t.heap) (rA Γ)) 0 0 (rA Γ) := by
  refine Met.ofW (cc := cX6_are) (maxL := 5) (ret := (some .boolean)) (by decide) rfl ?_
  intro p e s m args below meth c s₁ B hml hv
  obtain ⟨rfl, hR, hE⟩ := hv
  have F : Fx Γ p s m meth c _ cX6_are 5 RX6 wsX6_are (some .boolean) := ⟨⟨B.exec, B.bytes, hml, findClass_of_methodNamed B.named, atoms_spec (ws := wsX6_are) B.pre⟩, hE, B.notSynchronized, B.returns⟩
  have hl := lv_entry ([.ref o, .int p1, .int p2, .int p3, .int p4]) (n := 5) (Nat.le_of_ble_eq_true rfl)
  rw [lg_entry_eq]
  generalize (lg_sl ([.ref o, .int p1, .int p2, .int p3, .int p4]) ++ List.replicate (5 - (lg_sl ([.ref o, .int p1, .int p2, .int p3, .int p4])).length) Slot.unset).toArray = ls at hl ⊢
  have hl : lv_has ls 5 [(0, .ref o), (1, .int p1), (2, .int p2), (3, .int p3), (4, .int p4)] := hl
  exact bX6_are F h hR va_S.rf hl ⟨Nat.le_refl 0, Nat.le_refl 0⟩
/-! X2_init -/
theorem mX2_init_0 : Cond.methodLink RX2 1 objectInit ∈ wsX2_init := by decide +kernel
theorem mX2_init_1 : Cond.instanceMethod objectInit ∈ wsX2_init := by decide +kernel
theorem mX2_init_2 : Cond.code objectInit ⟨#[0xb1]⟩ 1 none ∈ wsX2_init := by decide +kernel
theorem mX2_init_3 : Cond.classLink RX2 7 RJx4a65c ∈ wsX2_init := by decide +kernel
theorem mX2_init_4 : Cond.instantiable RJx4a65c 3 ∈ wsX2_init := by decide +kernel
theorem mX2_init_5 : Cond.initialized RJx4a65c ∈ wsX2_init := by decide +kernel
theorem mX2_init_6 : Cond.instanceMethod yJx4a65c_init_da8c8 ∈ wsX2_init := by decide +kernel
theorem mX2_init_7 : Cond.methodLink RX2 9 yJx4a65c_init_da8c8 ∈ wsX2_init := by decide +kernel
theorem mX2_init_8 : Cond.fieldLink RX2 10 "ClearingFiles$Batch" "entries" "Ljava/util/ArrayList;" ∈ wsX2_init := by decide +kernel
theorem mX2_init_9 : Cond.classLink RX2 16 RX6 ∈ wsX2_init := by decide +kernel
theorem mX2_init_10 : Cond.instantiable RX6 4 ∈ wsX2_init := by decide +kernel
theorem mX2_init_11 : Cond.initialized RX6 ∈ wsX2_init := by decide +kernel
theorem mX2_init_12 : Cond.instanceMethod yX6_init ∈ wsX2_init := by decide +kernel
theorem mX2_init_13 : Cond.fieldLink RX2 19 "ClearingFiles$Batch" "totals" "LClearingFiles$Totals;" ∈ wsX2_init := by decide +kernel
theorem nX2_init_Jx4a65c : ∀ w ∈ u_ws RJx4a65c TJx4a65c 3, w ∈ wsX2_init := fun _ h => List.mem_cons_of_mem _ (List.mem_append_left _ (List.mem_append_left _ (List.mem_append_right _ h)))
theorem nX2_init_X2 : ∀ w ∈ u_ws RX2 TX2 9, w ∈ wsX2_init := fun _ h => List.mem_cons_of_mem _ (List.mem_append_left _ (List.mem_append_right _ h))
theorem nX2_init_X6 : ∀ w ∈ u_ws RX6 TX6 4, w ∈ wsX2_init := fun _ h => List.mem_cons_of_mem _ (List.mem_append_right _ h)
abbrev rmX2_init : Room := { frames := 4, cells := 2, slots := 7, locals := 100 }
set_option maxRecDepth 100000 in
def wX2_init (o : Nat)  (post : St → Prop) (σ0 : St) : Prop :=
  ∀ q1 : Nat, sK σ0 q1 = 0 → (∀ σ2 : St, σ2 = uN σ0 q1 19 → (wL_init q1 22 (fun (σ3 : St) => sK σ3 o = 3 ∧ (∀ σ6 : St, σ6 = uR σ3 150 o 0 (some q1) → (∀ q7 : Nat, sK σ6 q7 = 0 → (∀ σ8 : St, σ8 = uN σ6 q7 7 → (wX6_init q7 (fun (σ9 : St) => sK σ9 o = 3 ∧ (∀ σ12 : St, σ12 = uR σ9 151 o 0 (some q7) → (post σ12))) σ8))))) σ2))
set_option maxHeartbeats 4000000 in
set_option maxRecDepth 100000 in
theorem bX2_init {p : Program} {l : Launch} {e : Env} {s : State} {m : MethodId} {args : Array Value} {below : List Frame} {meth : Method} {c : Code} {Γ : rGam} {o : Nat} {post : St → Prop} (F : Fx Γ p s m meth c args cX2_init 1 RX2 wsX2_init none) (hN : meth.name = "<init>") {H : Heap} {locs : List Loc} {ls : Array Slot} {cells slots : Nat}  {σ0 : St} (h : wX2_init o  post σ0) (hR : Rep Γ σ0 H) (hS : va_S (rA Γ) s.heap H locs) (hl : lv_has ls 1 [(0, .ref o)]) (hc : cells + 2 ≤ 2 ∧ slots + 7 ≤ 7) : W p l e rmX2_init s m args below meth c H locs cells slots (rQv Γ below post args s 2 7) (F0 m 0 ls []) := by
  have hx := F.1.1
  have hb := F.1.2.1
  unfold wX2_init at h
  refine lv_aload_n hx hb dX2_init_0 rfl (lv_at hl 0 rfl) ?_
  refine W.objInit hx hb F.1.2.2.2.1 (F.1.2.2.2.2 _ mX2_init_0) (F.1.2.2.2.2 _ mX2_init_1) (F.1.2.2.2.2 _ mX2_init_2) rfl (by rw [F.1.2.2.1]; exact hl.1) rfl dX2_init_1 (Nat.le_of_ble_eq_true rfl) (Nat.le_of_ble_eq_true rfl) ?_
  refine W.eq (g2 := F0 m 4 ls []) rfl ?_
  refine lv_aload_n hx hb dX2_init_4 rfl (lv_at hl 0 rfl) ?_
  refine s_new F hR hS 19 (by decide) (C := RJx4a65c) (T := TJx4a65c) (N := 3) rfl nX2_init_Jx4a65c tyJx4a65c tyJx4a65c_ok rdf_19 mX2_init_3 mX2_init_4 mX2_init_5 (by show _ ≤ 2; omega) (by show _ ≤ 7; omega) dX2_init_5 (fun q1 zq1 σ2 eσ2 H hR hS => ?_)
  replace h := h q1 zq1 σ2 eσ2
  refine lv_dup hx hb dX2_init_8 rfl ?_
  refine s_cv hS (k_runI F hR hS hl 0 [] (kL_init l Γ q1 22 _ _ h) gX2_init_Jx4a65c_init_da8c8 rfl rfl rfl mX2_init_5 mX2_init_7 mX2_init_6 rfl (by decide +kernel) ⟨Nat.le_of_ble_eq_true rfl, Nat.le_of_ble_eq_true rfl⟩ rfl (Nat.le_of_ble_eq_true rfl) dX2_init_9 ⟨by show _ ≤ 2; omega, by show _ ≤ 7; omega⟩) (fun σ3 H locs h4 hR hS => ?_)
  obtain ⟨k5, h4⟩ := h4
  refine s_putR (v := (some q1)) F hR hS k5 (by decide) (C := RX2) (T := TX2) (N := 9) rfl nX2_init_X2 tyX2 tyX2_ok nmX2 0 (by decide) mX2_init_8 (Or.inr ⟨rfl, hN, rfl⟩) (rf_nar _ _) (rf_fit _ _) (f := 150) rfl rnd_3 dX2_init_12 (fun σ6 eσ6 H locs hR hS => ?_)
  replace h4 := h4 σ6 eσ6
  refine lv_aload_n hx hb dX2_init_15 rfl (lv_at hl 0 rfl) ?_
  refine s_new F hR hS 7 (by decide) (C := RX6) (T := TX6) (N := 4) rfl nX2_init_X6 tyX6 tyX6_ok rdf_7 mX2_init_9 mX2_init_10 mX2_init_11 (by show _ ≤ 2; omega) (by show _ ≤ 7; omega) dX2_init_16 (fun q7 zq7 σ8 eσ8 H hR hS => ?_)
  replace h4 := h4 q7 zq7 σ8 eσ8
  refine lv_dup hx hb dX2_init_19 rfl ?_
  refine s_cv hS (k_runIN F hR hS hl 0 [] (kX6_init l Γ q7 _ _ h4) gX2_init_X6_init_n18 rfl rfl rfl mX2_init_11 (by decide +kernel) mX2_init_12 rfl (by decide +kernel) ⟨Nat.le_of_ble_eq_true rfl, Nat.le_of_ble_eq_true rfl⟩ rfl (Nat.le_of_ble_eq_true rfl) dX2_init_20 ⟨by show _ ≤ 2; omega, by show _ ≤ 7; omega⟩) (fun σ9 H locs h10 hR hS => ?_)
  obtain ⟨k11, h10⟩ := h10
  refine s_putR (v := (some q7)) F hR hS k11 (by decide) (C := RX2) (T := TX2) (N := 9) rfl nX2_init_X2 tyX2 tyX2_ok nmX2 1 (by decide) mX2_init_13 (Or.inr ⟨rfl, hN, rfl⟩) (rf_nar _ _) (rf_fit _ _) (f := 151) rfl rnd_3 dX2_init_23 (fun σ12 eσ12 H locs hR hS => ?_)
  replace h10 := h10 σ12 eσ12
  exact s_vret F hR hS h10 (by omega) dX2_init_26
set_option maxHeartbeats 4000000 in
set_option maxRecDepth 100000 in
theorem kX2_init (l : Launch) (Γ : rGam) (o : Nat)  (post : St → Prop) (σ0 : St) (h : wX2_init o  post σ0) : Met l yX2_init wsX2_init rmX2_init (rPc Γ vwCl [.ref o] (Rep Γ σ0)) (va_Qv post (fun σ' t => Rep Γ σ' t.heap) (rA Γ)) 2 7 (rA Γ) := by
  refine Met.ofW (cc := cX2_init) (maxL := 1) (ret := none) (by decide) rfl ?_
  intro p e s m args below meth c s₁ B hml hv
  obtain ⟨rfl, hR, hE⟩ := hv
  have F : Fx Γ p s m meth c _ cX2_init 1 RX2 wsX2_init none := ⟨⟨B.exec, B.bytes, hml, findClass_of_methodNamed B.named, atoms_spec (ws := wsX2_init) B.pre⟩, hE, B.notSynchronized, B.returns⟩
  have hN : meth.name = "<init>" := (name_of_methodNamed B.named B.method).1
  have hl := lv_entry ([.ref o]) (n := 1) (Nat.le_of_ble_eq_true rfl)
  rw [lg_entry_eq]
  generalize (lg_sl ([.ref o]) ++ List.replicate (1 - (lg_sl ([.ref o])).length) Slot.unset).toArray = ls at hl ⊢
  have hl : lv_has ls 1 [(0, .ref o)] := hl
  exact bX2_init F hN h hR va_S.rf hl ⟨by show _ + _ ≤ _; omega, by show _ + _ ≤ _; omega⟩
/-! X2_begin -/
theorem mX2_begin_0 : Cond.fieldLink RX2 23 "ClearingFiles$Batch" "originator" "I" ∈ wsX2_begin := by decide +kernel
theorem mX2_begin_1 : Cond.fieldLink RX2 27 "ClearingFiles$Batch" "number" "I" ∈ wsX2_begin := by decide +kernel
theorem mX2_begin_2 : Cond.fieldLink RX2 30 "ClearingFiles$Batch" "day" "I" ∈ wsX2_begin := by decide +kernel
theorem mX2_begin_3 : Cond.fieldLink RX2 10 "ClearingFiles$Batch" "entries" "Ljava/util/ArrayList;" ∈ wsX2_begin := by decide +kernel
theorem mX2_begin_4 : Cond.fieldLink RX2 19 "ClearingFiles$Batch" "totals" "LClearingFiles$Totals;" ∈ wsX2_begin := by decide +kernel
theorem mX2_begin_5 : Cond.fieldLink RX2 37 "ClearingFiles$Batch" "lastTrace" "I" ∈ wsX2_begin := by decide +kernel
theorem mX2_begin_6 : Cond.fieldLink RX2 40 "ClearingFiles$Batch" "tracesGrow" "Z" ∈ wsX2_begin := by decide +kernel
theorem nX2_begin_X2 : ∀ w ∈ u_ws RX2 TX2 9, w ∈ wsX2_begin := fun _ h => List.mem_cons_of_mem _ (List.mem_append_left _ (List.mem_append_left _ (List.mem_append_right _ h)))
abbrev rmX2_begin : Room := { frames := 1, cells := 0, slots := 0, locals := 23 }
set_option maxRecDepth 100000 in
def wX2_begin (o : Nat) (p1 : Int32) (p2 : Int32) (p3 : Int32) (post : St → Prop) (σ0 : St) : Prop :=
  sK σ0 o = 3 ∧ (∀ σ2 : St, σ2 = uI σ0 152 o 0 p1 → (sK σ2 o = 3 ∧ (∀ σ4 : St, σ4 = uI σ2 153 o 0 p2 → (sK σ4 o = 3 ∧ (∀ σ6 : St, σ6 = uI σ4 154 o 0 p3 → (sK σ6 o = 3 ∧ (∀ r8 : Option Nat, r8 = sR σ6 150 o 0 → (∃ a9 : Nat, r8 = some a9 ∧ (wL_clear a9 (fun (σ11 : St) => sK σ11 o = 3 ∧ (∀ r14 : Option Nat, r14 = sR σ11 151 o 0 → (∃ a15 : Nat, r14 = some a15 ∧ (sK σ11 a15 = 7 ∧ (wX6_clear a15 (fun (σ17 : St) => sK σ17 o = 3 ∧ (∀ σ20 : St, σ20 = uI σ17 155 o 0 (-1 : Int32) → (sK σ20 o = 3 ∧ (∀ σ22 : St, σ22 = uI σ20 156 o 0 (1 : Int32) → (post σ22))))) σ11))))) σ6)))))))))
set_option maxHeartbeats 4000000 in
set_option maxRecDepth 100000 in
theorem bX2_begin {p : Program} {l : Launch} {e : Env} {s : State} {m : MethodId} {args : Array Value} {below : List Frame} {meth : Method} {c : Code} {Γ : rGam} {o : Nat} {post : St → Prop} (F : Fx Γ p s m meth c args cX2_begin 4 RX2 wsX2_begin none) {H : Heap} {locs : List Loc} {ls : Array Slot} {cells slots : Nat} {p1 : Int32} {p2 : Int32} {p3 : Int32} {σ0 : St} (h : wX2_begin o p1 p2 p3 post σ0) (hR : Rep Γ σ0 H) (hS : va_S (rA Γ) s.heap H locs) (hl : lv_has ls 4 [(0, .ref o), (1, .int p1), (2, .int p2), (3, .int p3)]) (hc : cells ≤ 0 ∧ slots ≤ 0) : W p l e rmX2_begin s m args below meth c H locs cells slots (rQv Γ below post args s 0 0) (F0 m 0 ls []) := by
  have hx := F.1.1
  have hb := F.1.2.1
  unfold wX2_begin at h
  refine lv_aload_n hx hb dX2_begin_0 rfl (lv_at hl 0 rfl) ?_
  refine lv_iload_n hx hb dX2_begin_1 rfl (lv_at hl 1 rfl) ?_
  obtain ⟨k1, h⟩ := h
  refine s_putI (v := p1) F hR hS k1 (by decide) (C := RX2) (T := TX2) (N := 9) rfl nX2_begin_X2 tyX2 tyX2_ok nmX2 2 (by decide) mX2_begin_0 (Or.inl rfl) rfl rfl (f := 152) rfl rnd_3 dX2_begin_2 (fun σ2 eσ2 H locs hR hS => ?_)
  replace h := h σ2 eσ2
  refine lv_aload_n hx hb dX2_begin_5 rfl (lv_at hl 0 rfl) ?_
  refine lv_iload_n hx hb dX2_begin_6 rfl (lv_at hl 2 rfl) ?_
  obtain ⟨k3, h⟩ := h
  refine s_putI (v := p2) F hR hS k3 (by decide) (C := RX2) (T := TX2) (N := 9) rfl nX2_begin_X2 tyX2 tyX2_ok nmX2 3 (by decide) mX2_begin_1 (Or.inl rfl) rfl rfl (f := 153) rfl rnd_3 dX2_begin_7 (fun σ4 eσ4 H locs hR hS => ?_)
  replace h := h σ4 eσ4
  refine lv_aload_n hx hb dX2_begin_10 rfl (lv_at hl 0 rfl) ?_
  refine lv_iload_n hx hb dX2_begin_11 rfl (lv_at hl 3 rfl) ?_
  obtain ⟨k5, h⟩ := h
  refine s_putI (v := p3) F hR hS k5 (by decide) (C := RX2) (T := TX2) (N := 9) rfl nX2_begin_X2 tyX2 tyX2_ok nmX2 4 (by decide) mX2_begin_2 (Or.inl rfl) rfl rfl (f := 154) rfl rnd_3 dX2_begin_12 (fun σ6 eσ6 H locs hR hS => ?_)
  replace h := h σ6 eσ6
  refine lv_aload_n hx hb dX2_begin_15 rfl (lv_at hl 0 rfl) ?_
  obtain ⟨k7, h⟩ := h
  refine s_getR F hR k7 (by decide) (C := RX2) (T := TX2) (N := 9) rfl nX2_begin_X2 0 (by decide) mX2_begin_3 (f := 150) rfl dX2_begin_16 (fun r8 er8 => ?_)
  replace h := h r8 er8
  obtain ⟨a9, ea9, h⟩ := h
  subst ea9
  have k10 := h.1
  refine s_cv hS (k_runV F hR hS hl 0 [] (kL_clear l Γ a9 _ _ h) gX2_begin_Jx4a65c_clear_da8c8 rfl rfl rfl (by decide +kernel) ⟨Nat.le_of_ble_eq_true rfl, Nat.le_of_ble_eq_true rfl⟩ (s_recv F hR rfl (by omega) (C := RJx4a65c) (T := TJx4a65c) (N := 3) (by unfold rCi; rw [if_neg (by omega)]; rfl)) rfl (Nat.le_of_ble_eq_true rfl) dX2_begin_19 ⟨by show _ ≤ 0; omega, by show _ ≤ 0; omega⟩) (fun σ11 H locs h12 hR hS => ?_)
  refine lv_aload_n hx hb dX2_begin_22 rfl (lv_at hl 0 rfl) ?_
  obtain ⟨k13, h12⟩ := h12
  refine s_getR F hR k13 (by decide) (C := RX2) (T := TX2) (N := 9) rfl nX2_begin_X2 1 (by decide) mX2_begin_4 (f := 151) rfl dX2_begin_23 (fun r14 er14 => ?_)
  replace h12 := h12 r14 er14
  obtain ⟨a15, ea15, h12⟩ := h12
  subst ea15
  obtain ⟨k16, h12⟩ := h12
  refine s_cv hS (k_runV F hR hS hl 0 [] (kX6_clear l Γ a15 _ _ h12) gX2_begin_X6_clear rfl rfl rfl (by decide +kernel) ⟨Nat.le_of_ble_eq_true rfl, Nat.le_of_ble_eq_true rfl⟩ (s_recv F hR k16 (by decide) (C := RX6) (T := TX6) (N := 4) rfl) rfl (Nat.le_of_ble_eq_true rfl) dX2_begin_26 ⟨by show _ ≤ 0; omega, by show _ ≤ 0; omega⟩) (fun σ17 H locs h18 hR hS => ?_)
  refine lv_aload_n hx hb dX2_begin_29 rfl (lv_at hl 0 rfl) ?_
  refine lv_iconst (v := -1) hx hb dX2_begin_30 (by decide) ?_
  obtain ⟨k19, h18⟩ := h18
  refine s_putI (v := (-1 : Int32)) F hR hS k19 (by decide) (C := RX2) (T := TX2) (N := 9) rfl nX2_begin_X2 tyX2 tyX2_ok nmX2 5 (by decide) mX2_begin_5 (Or.inl rfl) rfl rfl (f := 155) rfl rnd_3 dX2_begin_31 (fun σ20 eσ20 H locs hR hS => ?_)
  replace h18 := h18 σ20 eσ20
  refine lv_aload_n hx hb dX2_begin_34 rfl (lv_at hl 0 rfl) ?_
  refine lv_iconst (v := 1) hx hb dX2_begin_35 (by decide) ?_
  obtain ⟨k21, h18⟩ := h18
  refine s_putI (v := (1 : Int32)) F hR hS k21 (by decide) (C := RX2) (T := TX2) (N := 9) rfl nX2_begin_X2 tyX2 tyX2_ok nmX2 6 (by decide) mX2_begin_6 (Or.inl rfl) (isB.nar (v := (1 : Int32)) (by unfold isB; decide)) (isB.fit (v := (1 : Int32)) (by unfold isB; decide)) (f := 156) rfl rnd_3 dX2_begin_36 (fun σ22 eσ22 H locs hR hS => ?_)
  replace h18 := h18 σ22 eσ22
  exact s_vret F hR hS h18 hc dX2_begin_39
set_option maxHeartbeats 4000000 in
set_option maxRecDepth 100000 in
theorem kX2_begin (l : Launch) (Γ : rGam) (o : Nat) (p1 : Int32) (p2 : Int32) (p3 : Int32) (post : St → Prop) (σ0 : St) (h : wX2_begin o p1 p2 p3 post σ0) : Met l yX2_begin wsX2_begin rmX2_begin (rPc Γ vwCl [.ref o, .int p1, .int p2, .int p3] (Rep Γ σ0)) (va_Qv post (fun σ' t => Rep Γ σ' t.heap) (rA Γ)) 0 0 (rA Γ) := by
  refine Met.ofW (cc := cX2_begin) (maxL := 4) (ret := none) (by decide) rfl ?_
  intro p e s m args below meth c s₁ B hml hv
  obtain ⟨rfl, hR, hE⟩ := hv
  have F : Fx Γ p s m meth c _ cX2_begin 4 RX2 wsX2_begin none := ⟨⟨B.exec, B.bytes, hml, findClass_of_methodNamed B.named, atoms_spec (ws := wsX2_begin) B.pre⟩, hE, B.notSynchronized, B.returns⟩
  have hl := lv_entry ([.ref o, .int p1, .int p2, .int p3]) (n := 4) (Nat.le_of_ble_eq_true rfl)
  rw [lg_entry_eq]
  generalize (lg_sl ([.ref o, .int p1, .int p2, .int p3]) ++ List.replicate (4 - (lg_sl ([.ref o, .int p1, .int p2, .int p3])).length) Slot.unset).toArray = ls at hl ⊢
  have hl : lv_has ls 4 [(0, .ref o), (1, .int p1), (2, .int p2), (3, .int p3)] := hl
  exact bX2_begin F h hR va_S.rf hl ⟨Nat.le_refl 0, Nat.le_refl 0⟩
/-! X2_add -/
theorem mX2_add_0 : Cond.fieldLink RX2 10 "ClearingFiles$Batch" "entries" "Ljava/util/ArrayList;" ∈ wsX2_add := by decide +kernel
theorem mX2_add_1 : Cond.fieldLink RX2 19 "ClearingFiles$Batch" "totals" "LClearingFiles$Totals;" ∈ wsX2_add := by decide +kernel
theorem mX2_add_2 : Cond.fieldLink RX2 51 "ClearingFiles$Entry" "trace" "I" ∈ wsX2_add := by decide +kernel
theorem mX2_add_3 : Cond.fieldLink RX2 37 "ClearingFiles$Batch" "lastTrace" "I" ∈ wsX2_add := by decide +kernel
theorem mX2_add_4 : Cond.fieldLink RX2 40 "ClearingFiles$Batch" "tracesGrow" "Z" ∈ wsX2_add := by decide +kernel
theorem nX2_add_X2 : ∀ w ∈ u_ws RX2 TX2 9, w ∈ wsX2_add := fun _ h => List.mem_cons_of_mem _ (List.mem_append_left _ (List.mem_append_left _ (List.mem_append_left _ (List.mem_append_right _ h))))
theorem nX2_add_X3 : ∀ w ∈ u_ws RX3 TX3 9, w ∈ wsX2_add := fun _ h => List.mem_cons_of_mem _ (List.mem_append_left _ (List.mem_append_left _ (List.mem_append_right _ h)))
abbrev rmX2_add : Room := { frames := 7, cells := 1, slots := 128, locals := 221 }
set_option maxRecDepth 100000 in
def wX2_add_33 (o : Nat) (post : St → Prop) (r1 : Option Nat) (σ0 : St) : Prop :=
  ∃ a18 : Nat, r1 = some a18 ∧ (sK σ0 a18 = 4 ∧ (sK σ0 o = 3 ∧ (∀ σ21 : St, σ21 = uI σ0 155 o 0 (sI σ0 204 a18 0) → (post σ21))))
set_option maxHeartbeats 4000000 in
set_option maxRecDepth 100000 in
theorem bX2_add_33 {p : Program} {l : Launch} {e : Env} {s : State} {m : MethodId} {args : Array Value} {below : List Frame} {meth : Method} {c : Code} {Γ : rGam} {o : Nat} {post : St → Prop} (F : Fx Γ p s m meth c args cX2_add 2 RX2 wsX2_add none) {H : Heap} {locs : List Loc} {ls : Array Slot} {cells slots : Nat} {r1 : Option Nat} {σ0 : St} (h : wX2_add_33 o post r1 σ0) (hR : Rep Γ σ0 H) (hS : va_S (rA Γ) s.heap H locs) (hl : lv_has ls 2 [(0, .ref o), (1, va_rf r1)]) (hc : cells + 0 ≤ 1 ∧ slots + 0 ≤ 128) : W p l e rmX2_add s m args below meth c H locs cells slots (rQv Γ below post args s 1 128) (F0 m 33 ls []) := by
  have hx := F.1.1
  have hb := F.1.2.1
  unfold wX2_add_33 at h
  refine lv_aload_n hx hb dX2_add_33 rfl (lv_at hl 0 rfl) ?_
  refine s_aload_n hx hb dX2_add_34 rfl (lv_at hl 1 rfl) ?_
  obtain ⟨a18, ea18, h⟩ := h
  subst ea18
  obtain ⟨k19, h⟩ := h
  refine s_getI F hR k19 (by decide) (C := RX3) (T := TX3) (N := 9) rfl nX2_add_X3 4 (by decide) mX2_add_2 (f := 204) rfl dX2_add_35 ?_
  obtain ⟨k20, h⟩ := h
  refine s_putI (v := (sI σ0 204 a18 0)) F hR hS k20 (by decide) (C := RX2) (T := TX2) (N := 9) rfl nX2_add_X2 tyX2 tyX2_ok nmX2 5 (by decide) mX2_add_3 (Or.inl rfl) rfl rfl (f := 155) rfl rnd_3 dX2_add_38 (fun σ21 eσ21 H locs hR hS => ?_)
  replace h := h σ21 eσ21
  exact s_vret F hR hS h (by omega) dX2_add_41

set_option maxRecDepth 100000 in
def wX2_add (o : Nat) (p1 : Option Nat) (post : St → Prop) (σ0 : St) : Prop :=
  sK σ0 o = 3 ∧ (∀ r2 : Option Nat, r2 = sR σ0 150 o 0 → (∃ a3 : Nat, r2 = some a3 ∧ (wL_add a3 p1 (fun (x7 : Int32) (σ5 : St) => sK σ5 o = 3 ∧ (∀ r9 : Option Nat, r9 = sR σ5 151 o 0 → (∃ a10 : Nat, r9 = some a10 ∧ (sK σ5 a10 = 7 ∧ (wX6_add a10 p1 (fun (σ12 : St) => ∃ a14 : Nat, p1 = some a14 ∧ (sK σ12 a14 = 4 ∧ (sK σ12 o = 3 ∧ (((sI σ12 155 o 0) < (sI σ12 204 a14 0) → (wX2_add_33 o post (some a14) σ12)) ∧ (¬ (sI σ12 155 o 0) < (sI σ12 204 a14 0) → (sK σ12 o = 3 ∧ (∀ σ23 : St, σ23 = uI σ12 156 o 0 (0 : Int32) → (wX2_add_33 o post (some a14) σ23)))))))) σ5))))) σ0)))
set_option maxHeartbeats 4000000 in
set_option maxRecDepth 100000 in
theorem bX2_add {p : Program} {l : Launch} {e : Env} {s : State} {m : MethodId} {args : Array Value} {below : List Frame} {meth : Method} {c : Code} {Γ : rGam} {o : Nat} {post : St → Prop} (F : Fx Γ p s m meth c args cX2_add 2 RX2 wsX2_add none) {H : Heap} {locs : List Loc} {ls : Array Slot} {cells slots : Nat} {p1 : Option Nat} {σ0 : St} (h : wX2_add o p1 post σ0) (hR : Rep Γ σ0 H) (hS : va_S (rA Γ) s.heap H locs) (hl : lv_has ls 2 [(0, .ref o), (1, va_rf p1)]) (hc : cells + 1 ≤ 1 ∧ slots + 128 ≤ 128) : W p l e rmX2_add s m args below meth c H locs cells slots (rQv Γ below post args s 1 128) (F0 m 0 ls []) := by
  have hx := F.1.1
  have hb := F.1.2.1
  unfold wX2_add at h
  refine lv_aload_n hx hb dX2_add_0 rfl (lv_at hl 0 rfl) ?_
  obtain ⟨k1, h⟩ := h
  refine s_getR F hR k1 (by decide) (C := RX2) (T := TX2) (N := 9) rfl nX2_add_X2 0 (by decide) mX2_add_0 (f := 150) rfl dX2_add_1 (fun r2 er2 => ?_)
  replace h := h r2 er2
  refine s_aload_n hx hb dX2_add_4 rfl (lv_at hl 1 rfl) ?_
  obtain ⟨a3, ea3, h⟩ := h
  subst ea3
  have k4 := h.1
  refine s_ci hS (k_runV F hR hS hl 1 [va_rf p1] (kL_add l Γ a3 p1 _ _ h) gX2_add_Jx4a65c_add_9ea2d rfl rfl rfl (by decide +kernel) ⟨Nat.le_of_ble_eq_true rfl, Nat.le_of_ble_eq_true rfl⟩ (s_recv F hR rfl (by omega) (C := RJx4a65c) (T := TJx4a65c) (N := 3) (by unfold rCi; rw [if_neg (by omega)]; rfl)) rfl (Nat.le_of_ble_eq_true rfl) dX2_add_5 ⟨by show _ ≤ 1; omega, by show _ ≤ 128; omega⟩) (fun x7 σ5 H locs h6 hR hS => ?_)
  refine lv_pop hx hb dX2_add_8 rfl ?_
  refine lv_aload_n hx hb dX2_add_9 rfl (lv_at hl 0 rfl) ?_
  obtain ⟨k8, h6⟩ := h6
  refine s_getR F hR k8 (by decide) (C := RX2) (T := TX2) (N := 9) rfl nX2_add_X2 1 (by decide) mX2_add_1 (f := 151) rfl dX2_add_10 (fun r9 er9 => ?_)
  replace h6 := h6 r9 er9
  refine s_aload_n hx hb dX2_add_13 rfl (lv_at hl 1 rfl) ?_
  obtain ⟨a10, ea10, h6⟩ := h6
  subst ea10
  obtain ⟨k11, h6⟩ := h6
  refine s_cv hS (k_runV F hR hS hl 1 [va_rf p1] (kX6_add l Γ a10 p1 _ _ h6) gX2_add_X6_add rfl rfl rfl (by decide +kernel) ⟨Nat.le_of_ble_eq_true rfl, Nat.le_of_ble_eq_true rfl⟩ (s_recv F hR k11 (by decide) (C := RX6) (T := TX6) (N := 4) rfl) rfl (Nat.le_of_ble_eq_true rfl) dX2_add_14 ⟨by show _ ≤ 1; omega, by show _ ≤ 128; omega⟩) (fun σ12 H locs h13 hR hS => ?_)
  refine s_aload_n hx hb dX2_add_17 rfl (lv_at hl 1 rfl) ?_
  obtain ⟨a14, ea14, h13⟩ := h13
  subst ea14
  obtain ⟨k15, h13⟩ := h13
  refine s_getI F hR k15 (by decide) (C := RX3) (T := TX3) (N := 9) rfl nX2_add_X3 4 (by decide) mX2_add_2 (f := 204) rfl dX2_add_18 ?_
  refine lv_aload_n hx hb dX2_add_21 rfl (lv_at hl 0 rfl) ?_
  obtain ⟨k16, h13⟩ := h13
  refine s_getI F hR k16 (by decide) (C := RX2) (T := TX2) (N := 9) rfl nX2_add_X2 5 (by decide) mX2_add_3 (f := 155) rfl dX2_add_22 ?_
  refine lv_icmp_gt (tgt := 33) hx hb dX2_add_25 (by decide) (fun c17 => ?_) (fun c17 => ?_)
  · replace h13 := h13.1 c17
    exact bX2_add_33 F h13 hR hS (lv_sub hl [0, 1] rfl) (by omega)
  · replace h13 := h13.2 c17
    refine lv_aload_n hx hb dX2_add_28 rfl (lv_at hl 0 rfl) ?_
    refine lv_iconst (v := 0) hx hb dX2_add_29 (by decide) ?_
    obtain ⟨k22, h13⟩ := h13
    refine s_putI (v := (0 : Int32)) F hR hS k22 (by decide) (C := RX2) (T := TX2) (N := 9) rfl nX2_add_X2 tyX2 tyX2_ok nmX2 6 (by decide) mX2_add_4 (Or.inl rfl) (isB.nar (v := (0 : Int32)) (by unfold isB; decide)) (isB.fit (v := (0 : Int32)) (by unfold isB; decide)) (f := 156) rfl rnd_3 dX2_add_30 (fun σ23 eσ23 H locs hR hS => ?_)
    replace h13 := h13 σ23 eσ23
    exact bX2_add_33 F h13 hR hS (lv_sub hl [0, 1] rfl) (by omega)
set_option maxHeartbeats 4000000 in
set_option maxRecDepth 100000 in
theorem kX2_add (l : Launch) (Γ : rGam) (o : Nat) (p1 : Option Nat) (post : St → Prop) (σ0 : St) (h : wX2_add o p1 post σ0) : Met l yX2_add wsX2_add rmX2_add (rPc Γ vwCl [.ref o, va_rf p1] (Rep Γ σ0)) (va_Qv post (fun σ' t => Rep Γ σ' t.heap) (rA Γ)) 1 128 (rA Γ) := by
  rcases p1 with _ | p1v
  · refine Met.ofW (cc := cX2_add) (maxL := 2) (ret := none) (by decide) rfl ?_
    intro p e s m args below meth c s₁ B hml hv
    obtain ⟨rfl, hR, hE⟩ := hv
    have F : Fx Γ p s m meth c _ cX2_add 2 RX2 wsX2_add none := ⟨⟨B.exec, B.bytes, hml, findClass_of_methodNamed B.named, atoms_spec (ws := wsX2_add) B.pre⟩, hE, B.notSynchronized, B.returns⟩
    have hl := lv_entry ([.ref o, va_rf none]) (n := 2) (Nat.le_of_ble_eq_true rfl)
    rw [lg_entry_eq]
    generalize (lg_sl ([.ref o, va_rf none]) ++ List.replicate (2 - (lg_sl ([.ref o, va_rf none])).length) Slot.unset).toArray = ls at hl ⊢
    have hl : lv_has ls 2 [(0, .ref o), (1, va_rf none)] := hl
    exact bX2_add F h hR va_S.rf hl ⟨by show _ + _ ≤ _; omega, by show _ + _ ≤ _; omega⟩
  · refine Met.ofW (cc := cX2_add) (maxL := 2) (ret := none) (by decide) rfl ?_
    intro p e s m args below meth c s₁ B hml hv
    obtain ⟨rfl, hR, hE⟩ := hv
    have F : Fx Γ p s m meth c _ cX2_add 2 RX2 wsX2_add none := ⟨⟨B.exec, B.bytes, hml, findClass_of_methodNamed B.named, atoms_spec (ws := wsX2_add) B.pre⟩, hE, B.notSynchronized, B.returns⟩
    have hl := lv_entry ([.ref o, va_rf (some p1v)]) (n := 2) (Nat.le_of_ble_eq_true rfl)
    rw [lg_entry_eq]
    generalize (lg_sl ([.ref o, va_rf (some p1v)]) ++ List.replicate (2 - (lg_sl ([.ref o, va_rf (some p1v)])).length) Slot.unset).toArray = ls at hl ⊢
    have hl : lv_has ls 2 [(0, .ref o), (1, va_rf (some p1v))] := hl
    exact bX2_add F h hR va_S.rf hl ⟨by show _ + _ ≤ _; omega, by show _ + _ ≤ _; omega⟩
/-! X5_init -/
theorem mX5_init_0 : Cond.methodLink RX5 1 objectInit ∈ wsX5_init := by decide +kernel
theorem mX5_init_1 : Cond.instanceMethod objectInit ∈ wsX5_init := by decide +kernel
theorem mX5_init_2 : Cond.code objectInit ⟨#[0xb1]⟩ 1 none ∈ wsX5_init := by decide +kernel
theorem mX5_init_3 : Cond.classLink RX5 7 RJx4a65c ∈ wsX5_init := by decide +kernel
theorem mX5_init_4 : Cond.instantiable RJx4a65c 3 ∈ wsX5_init := by decide +kernel
theorem mX5_init_5 : Cond.initialized RJx4a65c ∈ wsX5_init := by decide +kernel
theorem mX5_init_6 : Cond.instanceMethod yJx4a65c_init_da8c8 ∈ wsX5_init := by decide +kernel
theorem mX5_init_7 : Cond.methodLink RX5 9 yJx4a65c_init_da8c8 ∈ wsX5_init := by decide +kernel
theorem mX5_init_8 : Cond.fieldLink RX5 10 "ClearingFiles$Output" "entries" "Ljava/util/ArrayList;" ∈ wsX5_init := by decide +kernel
theorem mX5_init_9 : Cond.classLink RX5 16 RX6 ∈ wsX5_init := by decide +kernel
theorem mX5_init_10 : Cond.instantiable RX6 4 ∈ wsX5_init := by decide +kernel
theorem mX5_init_11 : Cond.initialized RX6 ∈ wsX5_init := by decide +kernel
theorem mX5_init_12 : Cond.instanceMethod yX6_init ∈ wsX5_init := by decide +kernel
theorem mX5_init_13 : Cond.fieldLink RX5 19 "ClearingFiles$Output" "totals" "LClearingFiles$Totals;" ∈ wsX5_init := by decide +kernel
theorem nX5_init_Jx4a65c : ∀ w ∈ u_ws RJx4a65c TJx4a65c 3, w ∈ wsX5_init := fun _ h => List.mem_cons_of_mem _ (List.mem_append_left _ (List.mem_append_left _ (List.mem_append_right _ h)))
theorem nX5_init_X5 : ∀ w ∈ u_ws RX5 TX5 4, w ∈ wsX5_init := fun _ h => List.mem_cons_of_mem _ (List.mem_append_left _ (List.mem_append_right _ h))
theorem nX5_init_X6 : ∀ w ∈ u_ws RX6 TX6 4, w ∈ wsX5_init := fun _ h => List.mem_cons_of_mem _ (List.mem_append_right _ h)
abbrev rmX5_init : Room := { frames := 4, cells := 2, slots := 7, locals := 100 }
set_option maxRecDepth 100000 in
def wX5_init (o : Nat)  (post : St → Prop) (σ0 : St) : Prop :=
  ∀ q1 : Nat, sK σ0 q1 = 0 → (∀ σ2 : St, σ2 = uN σ0 q1 19 → (wL_init q1 22 (fun (σ3 : St) => sK σ3 o = 6 ∧ (∀ σ6 : St, σ6 = uR σ3 300 o 0 (some q1) → (∀ q7 : Nat, sK σ6 q7 = 0 → (∀ σ8 : St, σ8 = uN σ6 q7 7 → (wX6_init q7 (fun (σ9 : St) => sK σ9 o = 6 ∧ (∀ σ12 : St, σ12 = uR σ9 301 o 0 (some q7) → (post σ12))) σ8))))) σ2))
set_option maxHeartbeats 4000000 in
set_option maxRecDepth 100000 in
theorem bX5_init {p : Program} {l : Launch} {e : Env} {s : State} {m : MethodId} {args : Array Value} {below : List Frame} {meth : Method} {c : Code} {Γ : rGam} {o : Nat} {post : St → Prop} (F : Fx Γ p s m meth c args cX5_init 1 RX5 wsX5_init none) (hN : meth.name = "<init>") {H : Heap} {locs : List Loc} {ls : Array Slot} {cells slots : Nat}  {σ0 : St} (h : wX5_init o  post σ0) (hR : Rep Γ σ0 H) (hS : va_S (rA Γ) s.heap H locs) (hl : lv_has ls 1 [(0, .ref o)]) (hc : cells + 2 ≤ 2 ∧ slots + 7 ≤ 7) : W p l e rmX5_init s m args below meth c H locs cells slots (rQv Γ below post args s 2 7) (F0 m 0 ls []) := by
  have hx := F.1.1
  have hb := F.1.2.1
  unfold wX5_init at h
  refine lv_aload_n hx hb dX5_init_0 rfl (lv_at hl 0 rfl) ?_
  refine W.objInit hx hb F.1.2.2.2.1 (F.1.2.2.2.2 _ mX5_init_0) (F.1.2.2.2.2 _ mX5_init_1) (F.1.2.2.2.2 _ mX5_init_2) rfl (by rw [F.1.2.2.1]; exact hl.1) rfl dX5_init_1 (Nat.le_of_ble_eq_true rfl) (Nat.le_of_ble_eq_true rfl) ?_
  refine W.eq (g2 := F0 m 4 ls []) rfl ?_
  refine lv_aload_n hx hb dX5_init_4 rfl (lv_at hl 0 rfl) ?_
  refine s_new F hR hS 19 (by decide) (C := RJx4a65c) (T := TJx4a65c) (N := 3) rfl nX5_init_Jx4a65c tyJx4a65c tyJx4a65c_ok rdf_19 mX5_init_3 mX5_init_4 mX5_init_5 (by show _ ≤ 2; omega) (by show _ ≤ 7; omega) dX5_init_5 (fun q1 zq1 σ2 eσ2 H hR hS => ?_)
  replace h := h q1 zq1 σ2 eσ2
  refine lv_dup hx hb dX5_init_8 rfl ?_
  refine s_cv hS (k_runI F hR hS hl 0 [] (kL_init l Γ q1 22 _ _ h) gX5_init_Jx4a65c_init_da8c8 rfl rfl rfl mX5_init_5 mX5_init_7 mX5_init_6 rfl (by decide +kernel) ⟨Nat.le_of_ble_eq_true rfl, Nat.le_of_ble_eq_true rfl⟩ rfl (Nat.le_of_ble_eq_true rfl) dX5_init_9 ⟨by show _ ≤ 2; omega, by show _ ≤ 7; omega⟩) (fun σ3 H locs h4 hR hS => ?_)
  obtain ⟨k5, h4⟩ := h4
  refine s_putR (v := (some q1)) F hR hS k5 (by decide) (C := RX5) (T := TX5) (N := 4) rfl nX5_init_X5 tyX5 tyX5_ok nmX5 0 (by decide) mX5_init_8 (Or.inr ⟨rfl, hN, rfl⟩) (rf_nar _ _) (rf_fit _ _) (f := 300) rfl rnd_6 dX5_init_12 (fun σ6 eσ6 H locs hR hS => ?_)
  replace h4 := h4 σ6 eσ6
  refine lv_aload_n hx hb dX5_init_15 rfl (lv_at hl 0 rfl) ?_
  refine s_new F hR hS 7 (by decide) (C := RX6) (T := TX6) (N := 4) rfl nX5_init_X6 tyX6 tyX6_ok rdf_7 mX5_init_9 mX5_init_10 mX5_init_11 (by show _ ≤ 2; omega) (by show _ ≤ 7; omega) dX5_init_16 (fun q7 zq7 σ8 eσ8 H hR hS => ?_)
  replace h4 := h4 q7 zq7 σ8 eσ8
  refine lv_dup hx hb dX5_init_19 rfl ?_
  refine s_cv hS (k_runIN F hR hS hl 0 [] (kX6_init l Γ q7 _ _ h4) gX5_init_X6_init_n18 rfl rfl rfl mX5_init_11 (by decide +kernel) mX5_init_12 rfl (by decide +kernel) ⟨Nat.le_of_ble_eq_true rfl, Nat.le_of_ble_eq_true rfl⟩ rfl (Nat.le_of_ble_eq_true rfl) dX5_init_20 ⟨by show _ ≤ 2; omega, by show _ ≤ 7; omega⟩) (fun σ9 H locs h10 hR hS => ?_)
  obtain ⟨k11, h10⟩ := h10
  refine s_putR (v := (some q7)) F hR hS k11 (by decide) (C := RX5) (T := TX5) (N := 4) rfl nX5_init_X5 tyX5 tyX5_ok nmX5 1 (by decide) mX5_init_13 (Or.inr ⟨rfl, hN, rfl⟩) (rf_nar _ _) (rf_fit _ _) (f := 301) rfl rnd_6 dX5_init_23 (fun σ12 eσ12 H locs hR hS => ?_)
  replace h10 := h10 σ12 eσ12
  exact s_vret F hR hS h10 (by omega) dX5_init_26
set_option maxHeartbeats 4000000 in
set_option maxRecDepth 100000 in
theorem kX5_init (l : Launch) (Γ : rGam) (o : Nat)  (post : St → Prop) (σ0 : St) (h : wX5_init o  post σ0) : Met l yX5_init wsX5_init rmX5_init (rPc Γ vwCl [.ref o] (Rep Γ σ0)) (va_Qv post (fun σ' t => Rep Γ σ' t.heap) (rA Γ)) 2 7 (rA Γ) := by
  refine Met.ofW (cc := cX5_init) (maxL := 1) (ret := none) (by decide) rfl ?_
  intro p e s m args below meth c s₁ B hml hv
  obtain ⟨rfl, hR, hE⟩ := hv
  have F : Fx Γ p s m meth c _ cX5_init 1 RX5 wsX5_init none := ⟨⟨B.exec, B.bytes, hml, findClass_of_methodNamed B.named, atoms_spec (ws := wsX5_init) B.pre⟩, hE, B.notSynchronized, B.returns⟩
  have hN : meth.name = "<init>" := (name_of_methodNamed B.named B.method).1
  have hl := lv_entry ([.ref o]) (n := 1) (Nat.le_of_ble_eq_true rfl)
  rw [lg_entry_eq]
  generalize (lg_sl ([.ref o]) ++ List.replicate (1 - (lg_sl ([.ref o])).length) Slot.unset).toArray = ls at hl ⊢
  have hl : lv_has ls 1 [(0, .ref o)] := hl
  exact bX5_init F hN h hR va_S.rf hl ⟨by show _ + _ ≤ _; omega, by show _ + _ ≤ _; omega⟩
/-! X5_clear -/
theorem mX5_clear_0 : Cond.fieldLink RX5 10 "ClearingFiles$Output" "entries" "Ljava/util/ArrayList;" ∈ wsX5_clear := by decide +kernel
theorem mX5_clear_1 : Cond.fieldLink RX5 19 "ClearingFiles$Output" "totals" "LClearingFiles$Totals;" ∈ wsX5_clear := by decide +kernel
theorem mX5_clear_2 : Cond.fieldLink RX5 27 "ClearingFiles$Output" "returns" "I" ∈ wsX5_clear := by decide +kernel
theorem mX5_clear_3 : Cond.fieldLink RX5 31 "ClearingFiles$Output" "done" "I" ∈ wsX5_clear := by decide +kernel
theorem nX5_clear_X5 : ∀ w ∈ u_ws RX5 TX5 4, w ∈ wsX5_clear := fun _ h => List.mem_cons_of_mem _ (List.mem_append_left _ (List.mem_append_left _ (List.mem_append_right _ h)))
abbrev rmX5_clear : Room := { frames := 1, cells := 0, slots := 0, locals := 23 }
set_option maxRecDepth 100000 in
def wX5_clear (o : Nat)  (post : St → Prop) (σ0 : St) : Prop :=
  sK σ0 o = 6 ∧ (∀ r2 : Option Nat, r2 = sR σ0 300 o 0 → (∃ a3 : Nat, r2 = some a3 ∧ (wL_clear a3 (fun (σ5 : St) => sK σ5 o = 6 ∧ (∀ r8 : Option Nat, r8 = sR σ5 301 o 0 → (∃ a9 : Nat, r8 = some a9 ∧ (sK σ5 a9 = 7 ∧ (wX6_clear a9 (fun (σ11 : St) => sK σ11 o = 6 ∧ (∀ σ14 : St, σ14 = uI σ11 302 o 0 (0 : Int32) → (sK σ14 o = 6 ∧ (∀ σ16 : St, σ16 = uI σ14 303 o 0 (0 : Int32) → (post σ16))))) σ5))))) σ0)))
set_option maxHeartbeats 4000000 in
set_option maxRecDepth 100000 in
theorem bX5_clear {p : Program} {l : Launch} {e : Env} {s : State} {m : MethodId} {args : Array Value} {below : List Frame} {meth : Method} {c : Code} {Γ : rGam} {o : Nat} {post : St → Prop} (F : Fx Γ p s m meth c args cX5_clear 1 RX5 wsX5_clear none) {H : Heap} {locs : List Loc} {ls : Array Slot} {cells slots : Nat}  {σ0 : St} (h : wX5_clear o  post σ0) (hR : Rep Γ σ0 H) (hS : va_S (rA Γ) s.heap H locs) (hl : lv_has ls 1 [(0, .ref o)]) (hc : cells ≤ 0 ∧ slots ≤ 0) : W p l e rmX5_clear s m args below meth c H locs cells slots (rQv Γ below post args s 0 0) (F0 m 0 ls []) := by
  have hx := F.1.1
  have hb := F.1.2.1
  unfold wX5_clear at h
  refine lv_aload_n hx hb dX5_clear_0 rfl (lv_at hl 0 rfl) ?_
  obtain ⟨k1, h⟩ := h
  refine s_getR F hR k1 (by decide) (C := RX5) (T := TX5) (N := 4) rfl nX5_clear_X5 0 (by decide) mX5_clear_0 (f := 300) rfl dX5_clear_1 (fun r2 er2 => ?_)
  replace h := h r2 er2
  obtain ⟨a3, ea3, h⟩ := h
  subst ea3
  have k4 := h.1
  refine s_cv hS (k_runV F hR hS hl 0 [] (kL_clear l Γ a3 _ _ h) gX5_clear_Jx4a65c_clear_da8c8 rfl rfl rfl (by decide +kernel) ⟨Nat.le_of_ble_eq_true rfl, Nat.le_of_ble_eq_true rfl⟩ (s_recv F hR rfl (by omega) (C := RJx4a65c) (T := TJx4a65c) (N := 3) (by unfold rCi; rw [if_neg (by omega)]; rfl)) rfl (Nat.le_of_ble_eq_true rfl) dX5_clear_4 ⟨by show _ ≤ 0; omega, by show _ ≤ 0; omega⟩) (fun σ5 H locs h6 hR hS => ?_)
  refine lv_aload_n hx hb dX5_clear_7 rfl (lv_at hl 0 rfl) ?_
  obtain ⟨k7, h6⟩ := h6
  refine s_getR F hR k7 (by decide) (C := RX5) (T := TX5) (N := 4) rfl nX5_clear_X5 1 (by decide) mX5_clear_1 (f := 301) rfl dX5_clear_8 (fun r8 er8 => ?_)
  replace h6 := h6 r8 er8
  obtain ⟨a9, ea9, h6⟩ := h6
  subst ea9
  obtain ⟨k10, h6⟩ := h6
  refine s_cv hS (k_runV F hR hS hl 0 [] (kX6_clear l Γ a9 _ _ h6) gX5_clear_X6_clear rfl rfl rfl (by decide +kernel) ⟨Nat.le_of_ble_eq_true rfl, Nat.le_of_ble_eq_true rfl⟩ (s_recv F hR k10 (by decide) (C := RX6) (T := TX6) (N := 4) rfl) rfl (Nat.le_of_ble_eq_true rfl) dX5_clear_11 ⟨by show _ ≤ 0; omega, by show _ ≤ 0; omega⟩) (fun σ11 H locs h12 hR hS => ?_)
  refine lv_aload_n hx hb dX5_clear_14 rfl (lv_at hl 0 rfl) ?_
  refine lv_iconst (v := 0) hx hb dX5_clear_15 (by decide) ?_
  obtain ⟨k13, h12⟩ := h12
  refine s_putI (v := (0 : Int32)) F hR hS k13 (by decide) (C := RX5) (T := TX5) (N := 4) rfl nX5_clear_X5 tyX5 tyX5_ok nmX5 2 (by decide) mX5_clear_2 (Or.inl rfl) rfl rfl (f := 302) rfl rnd_6 dX5_clear_16 (fun σ14 eσ14 H locs hR hS => ?_)
  replace h12 := h12 σ14 eσ14
  refine lv_aload_n hx hb dX5_clear_19 rfl (lv_at hl 0 rfl) ?_
  refine lv_iconst (v := 0) hx hb dX5_clear_20 (by decide) ?_
  obtain ⟨k15, h12⟩ := h12
  refine s_putI (v := (0 : Int32)) F hR hS k15 (by decide) (C := RX5) (T := TX5) (N := 4) rfl nX5_clear_X5 tyX5 tyX5_ok nmX5 3 (by decide) mX5_clear_3 (Or.inl rfl) rfl rfl (f := 303) rfl rnd_6 dX5_clear_21 (fun σ16 eσ16 H locs hR hS => ?_)
  replace h12 := h12 σ16 eσ16
  exact s_vret F hR hS h12 hc dX5_clear_24
set_option maxHeartbeats 4000000 in
set_option maxRecDepth 100000 in
theorem kX5_clear (l : Launch) (Γ : rGam) (o : Nat)  (post : St → Prop) (σ0 : St) (h : wX5_clear o  post σ0) : Met l yX5_clear wsX5_clear rmX5_clear (rPc Γ vwCl [.ref o] (Rep Γ σ0)) (va_Qv post (fun σ' t => Rep Γ σ' t.heap) (rA Γ)) 0 0 (rA Γ) := by
  refine Met.ofW (cc := cX5_clear) (maxL := 1) (ret := none) (by decide) rfl ?_
  intro p e s m args below meth c s₁ B hml hv
  obtain ⟨rfl, hR, hE⟩ := hv
  have F : Fx Γ p s m meth c _ cX5_clear 1 RX5 wsX5_clear none := ⟨⟨B.exec, B.bytes, hml, findClass_of_methodNamed B.named, atoms_spec (ws := wsX5_clear) B.pre⟩, hE, B.notSynchronized, B.returns⟩
  have hl := lv_entry ([.ref o]) (n := 1) (Nat.le_of_ble_eq_true rfl)
  rw [lg_entry_eq]
  generalize (lg_sl ([.ref o]) ++ List.replicate (1 - (lg_sl ([.ref o])).length) Slot.unset).toArray = ls at hl ⊢
  have hl : lv_has ls 1 [(0, .ref o)] := hl
  exact bX5_clear F h hR va_S.rf hl ⟨Nat.le_refl 0, Nat.le_refl 0⟩
/-! X5_size -/
theorem mX5_size_0 : Cond.fieldLink RX5 10 "ClearingFiles$Output" "entries" "Ljava/util/ArrayList;" ∈ wsX5_size := by decide +kernel
theorem nX5_size_X5 : ∀ w ∈ u_ws RX5 TX5 4, w ∈ wsX5_size := fun _ h => List.mem_cons_of_mem _ (List.mem_append_left _ (List.mem_append_right _ h))
abbrev rmX5_size : Room := { frames := 1, cells := 0, slots := 0, locals := 20 }
set_option maxRecDepth 100000 in
def wX5_size (o : Nat)  (post : Int32 → St → Prop) (σ0 : St) : Prop :=
  sK σ0 o = 6 ∧ (∀ r2 : Option Nat, r2 = sR σ0 300 o 0 → (∃ a3 : Nat, r2 = some a3 ∧ (wL_size a3 (fun (x7 : Int32) (σ5 : St) => post x7 σ5) σ0)))
set_option maxHeartbeats 4000000 in
set_option maxRecDepth 100000 in
theorem bX5_size {p : Program} {l : Launch} {e : Env} {s : State} {m : MethodId} {args : Array Value} {below : List Frame} {meth : Method} {c : Code} {Γ : rGam} {o : Nat} {post : Int32 → St → Prop} (F : Fx Γ p s m meth c args cX5_size 1 RX5 wsX5_size (some .int)) {H : Heap} {locs : List Loc} {ls : Array Slot} {cells slots : Nat}  {σ0 : St} (h : wX5_size o  post σ0) (hR : Rep Γ σ0 H) (hS : va_S (rA Γ) s.heap H locs) (hl : lv_has ls 1 [(0, .ref o)]) (hc : cells ≤ 0 ∧ slots ≤ 0) : W p l e rmX5_size s m args below meth c H locs cells slots (rQi Γ below post args s 0 0) (F0 m 0 ls []) := by
  have hx := F.1.1
  have hb := F.1.2.1
  unfold wX5_size at h
  refine lv_aload_n hx hb dX5_size_0 rfl (lv_at hl 0 rfl) ?_
  obtain ⟨k1, h⟩ := h
  refine s_getR F hR k1 (by decide) (C := RX5) (T := TX5) (N := 4) rfl nX5_size_X5 0 (by decide) mX5_size_0 (f := 300) rfl dX5_size_1 (fun r2 er2 => ?_)
  replace h := h r2 er2
  obtain ⟨a3, ea3, h⟩ := h
  subst ea3
  have k4 := h.1
  refine s_ci hS (k_runV F hR hS hl 0 [] (kL_size l Γ a3 _ _ h) gX5_size_Jx4a65c_size_8abf5 rfl rfl rfl (by decide +kernel) ⟨Nat.le_of_ble_eq_true rfl, Nat.le_of_ble_eq_true rfl⟩ (s_recv F hR rfl (by omega) (C := RJx4a65c) (T := TJx4a65c) (N := 3) (by unfold rCi; rw [if_neg (by omega)]; rfl)) rfl (Nat.le_of_ble_eq_true rfl) dX5_size_4 ⟨by show _ ≤ 0; omega, by show _ ≤ 0; omega⟩) (fun x7 σ5 H locs h6 hR hS => ?_)
  exact s_iret F hR hS h6 hc dX5_size_7
set_option maxHeartbeats 4000000 in
set_option maxRecDepth 100000 in
theorem kX5_size (l : Launch) (Γ : rGam) (o : Nat)  (post : Int32 → St → Prop) (σ0 : St) (h : wX5_size o  post σ0) : Met l yX5_size wsX5_size rmX5_size (rPc Γ vwCl [.ref o] (Rep Γ σ0)) (va_Qi post (fun σ' t => Rep Γ σ' t.heap) (rA Γ)) 0 0 (rA Γ) := by
  refine Met.ofW (cc := cX5_size) (maxL := 1) (ret := (some .int)) (by decide) rfl ?_
  intro p e s m args below meth c s₁ B hml hv
  obtain ⟨rfl, hR, hE⟩ := hv
  have F : Fx Γ p s m meth c _ cX5_size 1 RX5 wsX5_size (some .int) := ⟨⟨B.exec, B.bytes, hml, findClass_of_methodNamed B.named, atoms_spec (ws := wsX5_size) B.pre⟩, hE, B.notSynchronized, B.returns⟩
  have hl := lv_entry ([.ref o]) (n := 1) (Nat.le_of_ble_eq_true rfl)
  rw [lg_entry_eq]
  generalize (lg_sl ([.ref o]) ++ List.replicate (1 - (lg_sl ([.ref o])).length) Slot.unset).toArray = ls at hl ⊢
  have hl : lv_has ls 1 [(0, .ref o)] := hl
  exact bX5_size F h hR va_S.rf hl ⟨Nat.le_refl 0, Nat.le_refl 0⟩
/-! X5_isDone -/
theorem mX5_isDone_0 : Cond.fieldLink RX5 31 "ClearingFiles$Output" "done" "I" ∈ wsX5_isDone := by decide +kernel
theorem mX5_isDone_1 : Cond.fieldLink RX5 10 "ClearingFiles$Output" "entries" "Ljava/util/ArrayList;" ∈ wsX5_isDone := by decide +kernel
theorem nX5_isDone_X5 : ∀ w ∈ u_ws RX5 TX5 4, w ∈ wsX5_isDone := fun _ h => List.mem_cons_of_mem _ (List.mem_append_left _ (List.mem_append_right _ h))
abbrev rmX5_isDone : Room := { frames := 1, cells := 0, slots := 0, locals := 20 }
set_option maxRecDepth 100000 in
def wX5_isDone (o : Nat)  (post : Int32 → St → Prop) (σ0 : St) : Prop :=
  sK σ0 o = 6 ∧ (sK σ0 o = 6 ∧ (∀ r3 : Option Nat, r3 = sR σ0 300 o 0 → (∃ a4 : Nat, r3 = some a4 ∧ (wL_size a4 (fun (x8 : Int32) (σ6 : St) => ((sI σ0 303 o 0) < x8 → (post (0 : Int32) σ6)) ∧ (¬ (sI σ0 303 o 0) < x8 → (post (1 : Int32) σ6))) σ0))))
set_option maxHeartbeats 4000000 in
set_option maxRecDepth 100000 in
theorem bX5_isDone {p : Program} {l : Launch} {e : Env} {s : State} {m : MethodId} {args : Array Value} {below : List Frame} {meth : Method} {c : Code} {Γ : rGam} {o : Nat} {post : Int32 → St → Prop} (F : Fx Γ p s m meth c args cX5_isDone 1 RX5 wsX5_isDone (some .boolean)) {H : Heap} {locs : List Loc} {ls : Array Slot} {cells slots : Nat}  {σ0 : St} (h : wX5_isDone o  post σ0) (hR : Rep Γ σ0 H) (hS : va_S (rA Γ) s.heap H locs) (hl : lv_has ls 1 [(0, .ref o)]) (hc : cells ≤ 0 ∧ slots ≤ 0) : W p l e rmX5_isDone s m args below meth c H locs cells slots (rQi Γ below post args s 0 0) (F0 m 0 ls []) := by
  have hx := F.1.1
  have hb := F.1.2.1
  unfold wX5_isDone at h
  refine lv_aload_n hx hb dX5_isDone_0 rfl (lv_at hl 0 rfl) ?_
  obtain ⟨k1, h⟩ := h
  refine s_getI F hR k1 (by decide) (C := RX5) (T := TX5) (N := 4) rfl nX5_isDone_X5 3 (by decide) mX5_isDone_0 (f := 303) rfl dX5_isDone_1 ?_
  refine lv_aload_n hx hb dX5_isDone_4 rfl (lv_at hl 0 rfl) ?_
  obtain ⟨k2, h⟩ := h
  refine s_getR F hR k2 (by decide) (C := RX5) (T := TX5) (N := 4) rfl nX5_isDone_X5 0 (by decide) mX5_isDone_1 (f := 300) rfl dX5_isDone_5 (fun r3 er3 => ?_)
  replace h := h r3 er3
  obtain ⟨a4, ea4, h⟩ := h
  subst ea4
  have k5 := h.1
  refine s_ci hS (k_runV F hR hS hl 0 [] (kL_size l Γ a4 _ _ h) gX5_isDone_Jx4a65c_size_8abf5 rfl rfl rfl (by decide +kernel) ⟨Nat.le_of_ble_eq_true rfl, Nat.le_of_ble_eq_true rfl⟩ (s_recv F hR rfl (by omega) (C := RJx4a65c) (T := TJx4a65c) (N := 3) (by unfold rCi; rw [if_neg (by omega)]; rfl)) rfl (Nat.le_of_ble_eq_true rfl) dX5_isDone_8 ⟨by show _ ≤ 0; omega, by show _ ≤ 0; omega⟩) (fun x8 σ6 H locs h7 hR hS => ?_)
  refine lv_icmp_lt (tgt := 18) hx hb dX5_isDone_11 (by decide) (fun c9 => ?_) (fun c9 => ?_)
  · replace h7 := h7.1 c9
    refine lv_iconst (v := 0) hx hb dX5_isDone_18 (by decide) ?_
    exact s_zret F hR hS (by unfold isB; decide) h7 hc dX5_isDone_19
  · replace h7 := h7.2 c9
    refine lv_iconst (v := 1) hx hb dX5_isDone_14 (by decide) ?_
    refine lv_goto (tgt := 19) hx hb dX5_isDone_15 (by decide) ?_
    exact s_zret F hR hS (by unfold isB; decide) h7 hc dX5_isDone_19
set_option maxHeartbeats 4000000 in
set_option maxRecDepth 100000 in
theorem kX5_isDone (l : Launch) (Γ : rGam) (o : Nat)  (post : Int32 → St → Prop) (σ0 : St) (h : wX5_isDone o  post σ0) : Met l yX5_isDone wsX5_isDone rmX5_isDone (rPc Γ vwCl [.ref o] (Rep Γ σ0)) (va_Qi post (fun σ' t => Rep Γ σ' t.heap) (rA Γ)) 0 0 (rA Γ) := by
  refine Met.ofW (cc := cX5_isDone) (maxL := 1) (ret := (some .boolean)) (by decide) rfl ?_
  intro p e s m args below meth c s₁ B hml hv
  obtain ⟨rfl, hR, hE⟩ := hv
  have F : Fx Γ p s m meth c _ cX5_isDone 1 RX5 wsX5_isDone (some .boolean) := ⟨⟨B.exec, B.bytes, hml, findClass_of_methodNamed B.named, atoms_spec (ws := wsX5_isDone) B.pre⟩, hE, B.notSynchronized, B.returns⟩
  have hl := lv_entry ([.ref o]) (n := 1) (Nat.le_of_ble_eq_true rfl)
  rw [lg_entry_eq]
  generalize (lg_sl ([.ref o]) ++ List.replicate (1 - (lg_sl ([.ref o])).length) Slot.unset).toArray = ls at hl ⊢
  have hl : lv_has ls 1 [(0, .ref o)] := hl
  exact bX5_isDone F h hR va_S.rf hl ⟨Nat.le_refl 0, Nat.le_refl 0⟩
/-! X5_isReturn -/
theorem mX5_isReturn_0 : Cond.fieldLink RX5 27 "ClearingFiles$Output" "returns" "I" ∈ wsX5_isReturn := by decide +kernel
theorem nX5_isReturn_X5 : ∀ w ∈ u_ws RX5 TX5 4, w ∈ wsX5_isReturn := fun _ h => List.mem_cons_of_mem _ (List.mem_append_right _ h)
abbrev rmX5_isReturn : Room := { frames := 0, cells := 0, slots := 0, locals := 0 }
set_option maxRecDepth 100000 in
def wX5_isReturn (o : Nat) (p1 : Int32) (post : Int32 → St → Prop) (σ0 : St) : Prop :=
  sK σ0 o = 6 ∧ (((sI σ0 302 o 0) ≤ p1 → (post (0 : Int32) σ0)) ∧ (¬ (sI σ0 302 o 0) ≤ p1 → (post (1 : Int32) σ0)))
set_option maxHeartbeats 4000000 in
set_option maxRecDepth 100000 in
theorem bX5_isReturn {p : Program} {l : Launch} {e : Env} {s : State} {m : MethodId} {args : Array Value} {below : List Frame} {meth : Method} {c : Code} {Γ : rGam} {o : Nat} {post : Int32 → St → Prop} (F : Fx Γ p s m meth c args cX5_isReturn 2 RX5 wsX5_isReturn (some .boolean)) {H : Heap} {locs : List Loc} {ls : Array Slot} {cells slots : Nat} {p1 : Int32} {σ0 : St} (h : wX5_isReturn o p1 post σ0) (hR : Rep Γ σ0 H) (hS : va_S (rA Γ) s.heap H locs) (hl : lv_has ls 2 [(0, .ref o), (1, .int p1)]) (hc : cells ≤ 0 ∧ slots ≤ 0) : W p l e rmX5_isReturn s m args below meth c H locs cells slots (rQi Γ below post args s 0 0) (F0 m 0 ls []) := by
  have hx := F.1.1
  have hb := F.1.2.1
  unfold wX5_isReturn at h
  refine lv_iload_n hx hb dX5_isReturn_0 rfl (lv_at hl 1 rfl) ?_
  refine lv_aload_n hx hb dX5_isReturn_1 rfl (lv_at hl 0 rfl) ?_
  obtain ⟨k1, h⟩ := h
  refine s_getI F hR k1 (by decide) (C := RX5) (T := TX5) (N := 4) rfl nX5_isReturn_X5 2 (by decide) mX5_isReturn_0 (f := 302) rfl dX5_isReturn_2 ?_
  refine lv_icmp_ge (tgt := 12) hx hb dX5_isReturn_5 (by decide) (fun c2 => ?_) (fun c2 => ?_)
  · replace h := h.1 c2
    refine lv_iconst (v := 0) hx hb dX5_isReturn_12 (by decide) ?_
    exact s_zret F hR hS (by unfold isB; decide) h hc dX5_isReturn_13
  · replace h := h.2 c2
    refine lv_iconst (v := 1) hx hb dX5_isReturn_8 (by decide) ?_
    refine lv_goto (tgt := 13) hx hb dX5_isReturn_9 (by decide) ?_
    exact s_zret F hR hS (by unfold isB; decide) h hc dX5_isReturn_13
set_option maxHeartbeats 4000000 in
set_option maxRecDepth 100000 in
theorem kX5_isReturn (l : Launch) (Γ : rGam) (o : Nat) (p1 : Int32) (post : Int32 → St → Prop) (σ0 : St) (h : wX5_isReturn o p1 post σ0) : Met l yX5_isReturn wsX5_isReturn rmX5_isReturn (rPc Γ vwCl [.ref o, .int p1] (Rep Γ σ0)) (va_Qi post (fun σ' t => Rep Γ σ' t.heap) (rA Γ)) 0 0 (rA Γ) := by
  refine Met.ofW (cc := cX5_isReturn) (maxL := 2) (ret := (some .boolean)) (by decide) rfl ?_
  intro p e s m args below meth c s₁ B hml hv
  obtain ⟨rfl, hR, hE⟩ := hv
  have F : Fx Γ p s m meth c _ cX5_isReturn 2 RX5 wsX5_isReturn (some .boolean) := ⟨⟨B.exec, B.bytes, hml, findClass_of_methodNamed B.named, atoms_spec (ws := wsX5_isReturn) B.pre⟩, hE, B.notSynchronized, B.returns⟩
  have hl := lv_entry ([.ref o, .int p1]) (n := 2) (Nat.le_of_ble_eq_true rfl)
  rw [lg_entry_eq]
  generalize (lg_sl ([.ref o, .int p1]) ++ List.replicate (2 - (lg_sl ([.ref o, .int p1])).length) Slot.unset).toArray = ls at hl ⊢
  have hl : lv_has ls 2 [(0, .ref o), (1, .int p1)] := hl
  exact bX5_isReturn F h hR va_S.rf hl ⟨Nat.le_refl 0, Nat.le_refl 0⟩
/-! X5_stateOf -/
theorem mX5_stateOf_0 : Cond.fieldLink RX5 31 "ClearingFiles$Output" "done" "I" ∈ wsX5_stateOf := by decide +kernel
theorem mX5_stateOf_1 : Cond.fieldLink RX5 10 "ClearingFiles$Output" "entries" "Ljava/util/ArrayList;" ∈ wsX5_stateOf := by decide +kernel
theorem mX5_stateOf_2 : Cond.classLink RX5 46 "ClearingFiles$Entry" ∈ wsX5_stateOf := by decide +kernel
theorem mX5_stateOf_3 : Cond.fieldLink RX5 48 "ClearingFiles$Entry" "reason" "I" ∈ wsX5_stateOf := by decide +kernel
theorem nX5_stateOf_X5 : ∀ w ∈ u_ws RX5 TX5 4, w ∈ wsX5_stateOf := fun _ h => List.mem_cons_of_mem _ (List.mem_append_left _ (List.mem_append_left _ (List.mem_append_right _ h)))
theorem nX5_stateOf_X3 : ∀ w ∈ u_ws RX3 TX3 9, w ∈ wsX5_stateOf := fun _ h => List.mem_cons_of_mem _ (List.mem_append_left _ (List.mem_append_right _ h))
abbrev rmX5_stateOf : Room := { frames := 3, cells := 0, slots := 0, locals := 101 }
set_option maxRecDepth 100000 in
def wX5_stateOf (o : Nat) (p1 : Int32) (post : Int32 → St → Prop) (σ0 : St) : Prop :=
  sK σ0 o = 6 ∧ ((p1 < (sI σ0 303 o 0) → (sK σ0 o = 6 ∧ (wX5_isReturn o p1 (fun (x6 : Int32) (σ4 : St) => (x6 = 0 → (sK σ4 o = 6 ∧ (∀ r9 : Option Nat, r9 = sR σ4 300 o 0 → (∃ a10 : Nat, r9 = some a10 ∧ (wL_get a10 p1 (fun (r14 : Option Nat) (σ12 : St) => ∃ a15 : Nat, r14 = some a15 ∧ (sK σ12 a15 = 4 ∧ (sK σ12 a15 = 4 ∧ (((sI σ12 208 a15 0) = 0 → (post (1 : Int32) σ12)) ∧ (¬ (sI σ12 208 a15 0) = 0 → (post (2 : Int32) σ12)))))) σ4))))) ∧ (¬ x6 = 0 → (post (1 : Int32) σ4))) σ0))) ∧ (¬ p1 < (sI σ0 303 o 0) → (post (0 : Int32) σ0)))
set_option maxHeartbeats 4000000 in
set_option maxRecDepth 100000 in
theorem bX5_stateOf {p : Program} {l : Launch} {e : Env} {s : State} {m : MethodId} {args : Array Value} {below : List Frame} {meth : Method} {c : Code} {Γ : rGam} {o : Nat} {post : Int32 → St → Prop} (F : Fx Γ p s m meth c args cX5_stateOf 2 RX5 wsX5_stateOf (some .int)) {H : Heap} {locs : List Loc} {ls : Array Slot} {cells slots : Nat} {p1 : Int32} {σ0 : St} (h : wX5_stateOf o p1 post σ0) (hR : Rep Γ σ0 H) (hS : va_S (rA Γ) s.heap H locs) (hl : lv_has ls 2 [(0, .ref o), (1, .int p1)]) (hc : cells ≤ 0 ∧ slots ≤ 0) : W p l e rmX5_stateOf s m args below meth c H locs cells slots (rQi Γ below post args s 0 0) (F0 m 0 ls []) := by
  have hx := F.1.1
  have hb := F.1.2.1
  unfold wX5_stateOf at h
  refine lv_iload_n hx hb dX5_stateOf_0 rfl (lv_at hl 1 rfl) ?_
  refine lv_aload_n hx hb dX5_stateOf_1 rfl (lv_at hl 0 rfl) ?_
  obtain ⟨k1, h⟩ := h
  refine s_getI F hR k1 (by decide) (C := RX5) (T := TX5) (N := 4) rfl nX5_stateOf_X5 3 (by decide) mX5_stateOf_0 (f := 303) rfl dX5_stateOf_2 ?_
  refine lv_icmp_lt (tgt := 10) hx hb dX5_stateOf_5 (by decide) (fun c2 => ?_) (fun c2 => ?_)
  · replace h := h.1 c2
    refine lv_aload_n hx hb dX5_stateOf_10 rfl (lv_at hl 0 rfl) ?_
    refine lv_iload_n hx hb dX5_stateOf_11 rfl (lv_at hl 1 rfl) ?_
    obtain ⟨k3, h⟩ := h
    refine s_ci hS (k_runV F hR hS hl 1 [.int p1] (kX5_isReturn l Γ o p1 _ _ h) gX5_stateOf_X5_isReturn rfl rfl rfl (by decide +kernel) ⟨Nat.le_of_ble_eq_true rfl, Nat.le_of_ble_eq_true rfl⟩ (s_recv F hR k3 (by decide) (C := RX5) (T := TX5) (N := 4) rfl) rfl (Nat.le_of_ble_eq_true rfl) dX5_stateOf_12 ⟨by show _ ≤ 0; omega, by show _ ≤ 0; omega⟩) (fun x6 σ4 H locs h5 hR hS => ?_)
    refine lv_if_ne (tgt := 39) hx hb dX5_stateOf_15 (by decide) (fun c7 => ?_) (fun c7 => ?_)
    · replace h5 := h5.2 c7
      refine lv_iconst (v := 1) hx hb dX5_stateOf_39 (by decide) ?_
      exact s_iret F hR hS h5 hc dX5_stateOf_40
    · replace h5 := h5.1 c7
      refine lv_aload_n hx hb dX5_stateOf_18 rfl (lv_at hl 0 rfl) ?_
      obtain ⟨k8, h5⟩ := h5
      refine s_getR F hR k8 (by decide) (C := RX5) (T := TX5) (N := 4) rfl nX5_stateOf_X5 0 (by decide) mX5_stateOf_1 (f := 300) rfl dX5_stateOf_19 (fun r9 er9 => ?_)
      replace h5 := h5 r9 er9
      refine lv_iload_n hx hb dX5_stateOf_22 rfl (lv_at hl 1 rfl) ?_
      obtain ⟨a10, ea10, h5⟩ := h5
      subst ea10
      have k11 := h5.1
      refine s_cq hS (k_runV F hR hS hl 1 [.int p1] (kL_get l Γ a10 p1 _ _ h5) gX5_stateOf_Jx4a65c_get_915e3 rfl rfl rfl (by decide +kernel) ⟨Nat.le_of_ble_eq_true rfl, Nat.le_of_ble_eq_true rfl⟩ (s_recv F hR rfl (by omega) (C := RJx4a65c) (T := TJx4a65c) (N := 3) (by unfold rCi; rw [if_neg (by omega)]; rfl)) rfl (Nat.le_of_ble_eq_true rfl) dX5_stateOf_23 ⟨by show _ ≤ 0; omega, by show _ ≤ 0; omega⟩) (fun r14 σ12 H locs h13 hR hS => ?_)
      obtain ⟨a15, ea15, h13⟩ := h13
      subst ea15
      obtain ⟨k16, h13⟩ := h13
      refine s_cast F hR k16 (by decide) (T := TX3) (N := 9) rfl mX5_stateOf_2 dX5_stateOf_26 ?_
      obtain ⟨k17, h13⟩ := h13
      refine s_getI F hR k17 (by decide) (C := RX3) (T := TX3) (N := 9) rfl nX5_stateOf_X3 8 (by decide) mX5_stateOf_3 (f := 208) rfl dX5_stateOf_29 ?_
      refine lv_if_eq (tgt := 39) hx hb dX5_stateOf_32 (by decide) (fun c18 => ?_) (fun c18 => ?_)
      · replace h13 := h13.1 c18
        refine lv_iconst (v := 1) hx hb dX5_stateOf_39 (by decide) ?_
        exact s_iret F hR hS h13 hc dX5_stateOf_40
      · replace h13 := h13.2 c18
        refine lv_iconst (v := 2) hx hb dX5_stateOf_35 (by decide) ?_
        refine lv_goto (tgt := 40) hx hb dX5_stateOf_36 (by decide) ?_
        exact s_iret F hR hS h13 hc dX5_stateOf_40
  · replace h := h.2 c2
    refine lv_iconst (v := 0) hx hb dX5_stateOf_8 (by decide) ?_
    exact s_iret F hR hS h hc dX5_stateOf_9
set_option maxHeartbeats 4000000 in
set_option maxRecDepth 100000 in
theorem kX5_stateOf (l : Launch) (Γ : rGam) (o : Nat) (p1 : Int32) (post : Int32 → St → Prop) (σ0 : St) (h : wX5_stateOf o p1 post σ0) : Met l yX5_stateOf wsX5_stateOf rmX5_stateOf (rPc Γ vwCl [.ref o, .int p1] (Rep Γ σ0)) (va_Qi post (fun σ' t => Rep Γ σ' t.heap) (rA Γ)) 0 0 (rA Γ) := by
  refine Met.ofW (cc := cX5_stateOf) (maxL := 2) (ret := (some .int)) (by decide) rfl ?_
  intro p e s m args below meth c s₁ B hml hv
  obtain ⟨rfl, hR, hE⟩ := hv
  have F : Fx Γ p s m meth c _ cX5_stateOf 2 RX5 wsX5_stateOf (some .int) := ⟨⟨B.exec, B.bytes, hml, findClass_of_methodNamed B.named, atoms_spec (ws := wsX5_stateOf) B.pre⟩, hE, B.notSynchronized, B.returns⟩
  have hl := lv_entry ([.ref o, .int p1]) (n := 2) (Nat.le_of_ble_eq_true rfl)
  rw [lg_entry_eq]
  generalize (lg_sl ([.ref o, .int p1]) ++ List.replicate (2 - (lg_sl ([.ref o, .int p1])).length) Slot.unset).toArray = ls at hl ⊢
  have hl : lv_has ls 2 [(0, .ref o), (1, .int p1)] := hl
  exact bX5_stateOf F h hR va_S.rf hl ⟨Nat.le_refl 0, Nat.le_refl 0⟩
/-! X5_addReturn -/
theorem mX5_addReturn_0 : Cond.fieldLink RX5 10 "ClearingFiles$Output" "entries" "Ljava/util/ArrayList;" ∈ wsX5_addReturn := by decide +kernel
theorem mX5_addReturn_1 : Cond.fieldLink RX5 19 "ClearingFiles$Output" "totals" "LClearingFiles$Totals;" ∈ wsX5_addReturn := by decide +kernel
theorem mX5_addReturn_2 : Cond.fieldLink RX5 27 "ClearingFiles$Output" "returns" "I" ∈ wsX5_addReturn := by decide +kernel
theorem nX5_addReturn_X5 : ∀ w ∈ u_ws RX5 TX5 4, w ∈ wsX5_addReturn := fun _ h => List.mem_cons_of_mem _ (List.mem_append_left _ (List.mem_append_left _ (List.mem_append_left _ (List.mem_append_right _ h))))
abbrev rmX5_addReturn : Room := { frames := 7, cells := 1, slots := 128, locals := 221 }
set_option maxRecDepth 100000 in
def wX5_addReturn (o : Nat) (p1 : Option Nat) (post : St → Prop) (σ0 : St) : Prop :=
  sK σ0 o = 6 ∧ (∀ r2 : Option Nat, r2 = sR σ0 300 o 0 → (∃ a3 : Nat, r2 = some a3 ∧ (wL_add a3 p1 (fun (x7 : Int32) (σ5 : St) => sK σ5 o = 6 ∧ (∀ r9 : Option Nat, r9 = sR σ5 301 o 0 → (∃ a10 : Nat, r9 = some a10 ∧ (sK σ5 a10 = 7 ∧ (wX6_add a10 p1 (fun (σ12 : St) => sK σ12 o = 6 ∧ (sK σ12 o = 6 ∧ (∀ σ16 : St, σ16 = uI σ12 302 o 0 ((sI σ12 302 o 0) + (1 : Int32)) → (post σ16)))) σ5))))) σ0)))
set_option maxHeartbeats 4000000 in
set_option maxRecDepth 100000 in
theorem bX5_addReturn {p : Program} {l : Launch} {e : Env} {s : State} {m : MethodId} {args : Array Value} {below : List Frame} {meth : Method} {c : Code} {Γ : rGam} {o : Nat} {post : St → Prop} (F : Fx Γ p s m meth c args cX5_addReturn 2 RX5 wsX5_addReturn none) {H : Heap} {locs : List Loc} {ls : Array Slot} {cells slots : Nat} {p1 : Option Nat} {σ0 : St} (h : wX5_addReturn o p1 post σ0) (hR : Rep Γ σ0 H) (hS : va_S (rA Γ) s.heap H locs) (hl : lv_has ls 2 [(0, .ref o), (1, va_rf p1)]) (hc : cells + 1 ≤ 1 ∧ slots + 128 ≤ 128) : W p l e rmX5_addReturn s m args below meth c H locs cells slots (rQv Γ below post args s 1 128) (F0 m 0 ls []) := by
  have hx := F.1.1
  have hb := F.1.2.1
  unfold wX5_addReturn at h
  refine lv_aload_n hx hb dX5_addReturn_0 rfl (lv_at hl 0 rfl) ?_
  obtain ⟨k1, h⟩ := h
  refine s_getR F hR k1 (by decide) (C := RX5) (T := TX5) (N := 4) rfl nX5_addReturn_X5 0 (by decide) mX5_addReturn_0 (f := 300) rfl dX5_addReturn_1 (fun r2 er2 => ?_)
  replace h := h r2 er2
  refine s_aload_n hx hb dX5_addReturn_4 rfl (lv_at hl 1 rfl) ?_
  obtain ⟨a3, ea3, h⟩ := h
  subst ea3
  have k4 := h.1
  refine s_ci hS (k_runV F hR hS hl 1 [va_rf p1] (kL_add l Γ a3 p1 _ _ h) gX5_addReturn_Jx4a65c_add_9ea2d rfl rfl rfl (by decide +kernel) ⟨Nat.le_of_ble_eq_true rfl, Nat.le_of_ble_eq_true rfl⟩ (s_recv F hR rfl (by omega) (C := RJx4a65c) (T := TJx4a65c) (N := 3) (by unfold rCi; rw [if_neg (by omega)]; rfl)) rfl (Nat.le_of_ble_eq_true rfl) dX5_addReturn_5 ⟨by show _ ≤ 1; omega, by show _ ≤ 128; omega⟩) (fun x7 σ5 H locs h6 hR hS => ?_)
  refine lv_pop hx hb dX5_addReturn_8 rfl ?_
  refine lv_aload_n hx hb dX5_addReturn_9 rfl (lv_at hl 0 rfl) ?_
  obtain ⟨k8, h6⟩ := h6
  refine s_getR F hR k8 (by decide) (C := RX5) (T := TX5) (N := 4) rfl nX5_addReturn_X5 1 (by decide) mX5_addReturn_1 (f := 301) rfl dX5_addReturn_10 (fun r9 er9 => ?_)
  replace h6 := h6 r9 er9
  refine s_aload_n hx hb dX5_addReturn_13 rfl (lv_at hl 1 rfl) ?_
  obtain ⟨a10, ea10, h6⟩ := h6
  subst ea10
  obtain ⟨k11, h6⟩ := h6
  refine s_cv hS (k_runV F hR hS hl 1 [va_rf p1] (kX6_add l Γ a10 p1 _ _ h6) gX5_addReturn_X6_add rfl rfl rfl (by decide +kernel) ⟨Nat.le_of_ble_eq_true rfl, Nat.le_of_ble_eq_true rfl⟩ (s_recv F hR k11 (by decide) (C := RX6) (T := TX6) (N := 4) rfl) rfl (Nat.le_of_ble_eq_true rfl) dX5_addReturn_14 ⟨by show _ ≤ 1; omega, by show _ ≤ 128; omega⟩) (fun σ12 H locs h13 hR hS => ?_)
  refine lv_aload_n hx hb dX5_addReturn_17 rfl (lv_at hl 0 rfl) ?_
  refine lv_dup hx hb dX5_addReturn_18 rfl ?_
  obtain ⟨k14, h13⟩ := h13
  refine s_getI F hR k14 (by decide) (C := RX5) (T := TX5) (N := 4) rfl nX5_addReturn_X5 2 (by decide) mX5_addReturn_2 (f := 302) rfl dX5_addReturn_19 ?_
  refine lv_iconst (v := 1) hx hb dX5_addReturn_22 (by decide) ?_
  refine lv_iadd hx hb dX5_addReturn_23 ?_
  obtain ⟨k15, h13⟩ := h13
  refine s_putI (v := ((sI σ12 302 o 0) + (1 : Int32))) F hR hS k15 (by decide) (C := RX5) (T := TX5) (N := 4) rfl nX5_addReturn_X5 tyX5 tyX5_ok nmX5 2 (by decide) mX5_addReturn_2 (Or.inl rfl) rfl rfl (f := 302) rfl rnd_6 dX5_addReturn_24 (fun σ16 eσ16 H locs hR hS => ?_)
  replace h13 := h13 σ16 eσ16
  exact s_vret F hR hS h13 (by omega) dX5_addReturn_27
set_option maxHeartbeats 4000000 in
set_option maxRecDepth 100000 in
theorem kX5_addReturn (l : Launch) (Γ : rGam) (o : Nat) (p1 : Option Nat) (post : St → Prop) (σ0 : St) (h : wX5_addReturn o p1 post σ0) : Met l yX5_addReturn wsX5_addReturn rmX5_addReturn (rPc Γ vwCl [.ref o, va_rf p1] (Rep Γ σ0)) (va_Qv post (fun σ' t => Rep Γ σ' t.heap) (rA Γ)) 1 128 (rA Γ) := by
  rcases p1 with _ | p1v
  · refine Met.ofW (cc := cX5_addReturn) (maxL := 2) (ret := none) (by decide) rfl ?_
    intro p e s m args below meth c s₁ B hml hv
    obtain ⟨rfl, hR, hE⟩ := hv
    have F : Fx Γ p s m meth c _ cX5_addReturn 2 RX5 wsX5_addReturn none := ⟨⟨B.exec, B.bytes, hml, findClass_of_methodNamed B.named, atoms_spec (ws := wsX5_addReturn) B.pre⟩, hE, B.notSynchronized, B.returns⟩
    have hl := lv_entry ([.ref o, va_rf none]) (n := 2) (Nat.le_of_ble_eq_true rfl)
    rw [lg_entry_eq]
    generalize (lg_sl ([.ref o, va_rf none]) ++ List.replicate (2 - (lg_sl ([.ref o, va_rf none])).length) Slot.unset).toArray = ls at hl ⊢
    have hl : lv_has ls 2 [(0, .ref o), (1, va_rf none)] := hl
    exact bX5_addReturn F h hR va_S.rf hl ⟨by show _ + _ ≤ _; omega, by show _ + _ ≤ _; omega⟩
  · refine Met.ofW (cc := cX5_addReturn) (maxL := 2) (ret := none) (by decide) rfl ?_
    intro p e s m args below meth c s₁ B hml hv
    obtain ⟨rfl, hR, hE⟩ := hv
    have F : Fx Γ p s m meth c _ cX5_addReturn 2 RX5 wsX5_addReturn none := ⟨⟨B.exec, B.bytes, hml, findClass_of_methodNamed B.named, atoms_spec (ws := wsX5_addReturn) B.pre⟩, hE, B.notSynchronized, B.returns⟩
    have hl := lv_entry ([.ref o, va_rf (some p1v)]) (n := 2) (Nat.le_of_ble_eq_true rfl)
    rw [lg_entry_eq]
    generalize (lg_sl ([.ref o, va_rf (some p1v)]) ++ List.replicate (2 - (lg_sl ([.ref o, va_rf (some p1v)])).length) Slot.unset).toArray = ls at hl ⊢
    have hl : lv_has ls 2 [(0, .ref o), (1, va_rf (some p1v))] := hl
    exact bX5_addReturn F h hR va_S.rf hl ⟨by show _ + _ ≤ _; omega, by show _ + _ ≤ _; omega⟩
/-! X5_addEntry -/
theorem mX5_addEntry_0 : Cond.fieldLink RX5 10 "ClearingFiles$Output" "entries" "Ljava/util/ArrayList;" ∈ wsX5_addEntry := by decide +kernel
theorem mX5_addEntry_1 : Cond.fieldLink RX5 27 "ClearingFiles$Output" "returns" "I" ∈ wsX5_addEntry := by decide +kernel
theorem mX5_addEntry_2 : Cond.fieldLink RX5 19 "ClearingFiles$Output" "totals" "LClearingFiles$Totals;" ∈ wsX5_addEntry := by decide +kernel
theorem mX5_addEntry_3 : Cond.classLink RX5 46 "ClearingFiles$Entry" ∈ wsX5_addEntry := by decide +kernel
theorem nX5_addEntry_X5 : ∀ w ∈ u_ws RX5 TX5 4, w ∈ wsX5_addEntry := fun _ h => List.mem_cons_of_mem _ (List.mem_append_left _ (List.mem_append_left _ (List.mem_append_left _ (List.mem_append_left _ (List.mem_append_right _ h)))))
abbrev rmX5_addEntry : Room := { frames := 7, cells := 1, slots := 128, locals := 224 }
set_option maxRecDepth 100000 in
def wX5_addEntry_42 (o : Nat) (post : St → Prop) (r1 : Option Nat) (x2 : Int32) (σ0 : St) : Prop :=
  sK σ0 o = 6 ∧ (∀ r12 : Option Nat, r12 = sR σ0 300 o 0 → (∃ a13 : Nat, r12 = some a13 ∧ (wL_addAt a13 x2 r1 (fun (σ15 : St) => sK σ15 o = 6 ∧ (∀ r18 : Option Nat, r18 = sR σ15 301 o 0 → (∃ a19 : Nat, r18 = some a19 ∧ (sK σ15 a19 = 7 ∧ (wX6_add a19 r1 (fun (σ21 : St) => post σ21) σ15))))) σ0)))
set_option maxHeartbeats 4000000 in
set_option maxRecDepth 100000 in
theorem bX5_addEntry_42 {p : Program} {l : Launch} {e : Env} {s : State} {m : MethodId} {args : Array Value} {below : List Frame} {meth : Method} {c : Code} {Γ : rGam} {o : Nat} {post : St → Prop} (F : Fx Γ p s m meth c args cX5_addEntry 3 RX5 wsX5_addEntry none) {H : Heap} {locs : List Loc} {ls : Array Slot} {cells slots : Nat} {r1 : Option Nat} {x2 : Int32} {σ0 : St} (h : wX5_addEntry_42 o post r1 x2 σ0) (hR : Rep Γ σ0 H) (hS : va_S (rA Γ) s.heap H locs) (hl : lv_has ls 3 [(0, .ref o), (1, va_rf r1), (2, .int x2)]) (hc : cells + 1 ≤ 1 ∧ slots + 128 ≤ 128) : W p l e rmX5_addEntry s m args below meth c H locs cells slots (rQv Γ below post args s 1 128) (F0 m 42 ls []) := by
  have hx := F.1.1
  have hb := F.1.2.1
  unfold wX5_addEntry_42 at h
  refine lv_aload_n hx hb dX5_addEntry_42 rfl (lv_at hl 0 rfl) ?_
  obtain ⟨k11, h⟩ := h
  refine s_getR F hR k11 (by decide) (C := RX5) (T := TX5) (N := 4) rfl nX5_addEntry_X5 0 (by decide) mX5_addEntry_0 (f := 300) rfl dX5_addEntry_43 (fun r12 er12 => ?_)
  replace h := h r12 er12
  refine lv_iload_n hx hb dX5_addEntry_46 rfl (lv_at hl 2 rfl) ?_
  refine s_aload_n hx hb dX5_addEntry_47 rfl (lv_at hl 1 rfl) ?_
  obtain ⟨a13, ea13, h⟩ := h
  subst ea13
  have k14 := h.1
  refine s_cv hS (k_runV F hR hS hl 2 [.int x2, va_rf r1] (kL_addAt l Γ a13 x2 r1 _ _ h) gX5_addEntry_Jx4a65c_add_7a177 rfl rfl rfl (by decide +kernel) ⟨Nat.le_of_ble_eq_true rfl, Nat.le_of_ble_eq_true rfl⟩ (s_recv F hR rfl (by omega) (C := RJx4a65c) (T := TJx4a65c) (N := 3) (by unfold rCi; rw [if_neg (by omega)]; rfl)) rfl (Nat.le_of_ble_eq_true rfl) dX5_addEntry_48 ⟨by show _ ≤ 1; omega, by show _ ≤ 128; omega⟩) (fun σ15 H locs h16 hR hS => ?_)
  refine lv_aload_n hx hb dX5_addEntry_51 rfl (lv_at hl 0 rfl) ?_
  obtain ⟨k17, h16⟩ := h16
  refine s_getR F hR k17 (by decide) (C := RX5) (T := TX5) (N := 4) rfl nX5_addEntry_X5 1 (by decide) mX5_addEntry_2 (f := 301) rfl dX5_addEntry_52 (fun r18 er18 => ?_)
  replace h16 := h16 r18 er18
  refine s_aload_n hx hb dX5_addEntry_55 rfl (lv_at hl 1 rfl) ?_
  obtain ⟨a19, ea19, h16⟩ := h16
  subst ea19
  obtain ⟨k20, h16⟩ := h16
  refine s_cv hS (k_runV F hR hS hl 1 [va_rf r1] (kX6_add l Γ a19 r1 _ _ h16) gX5_addEntry_X6_add rfl rfl rfl (by decide +kernel) ⟨Nat.le_of_ble_eq_true rfl, Nat.le_of_ble_eq_true rfl⟩ (s_recv F hR k20 (by decide) (C := RX6) (T := TX6) (N := 4) rfl) rfl (Nat.le_of_ble_eq_true rfl) dX5_addEntry_56 ⟨by show _ ≤ 1; omega, by show _ ≤ 128; omega⟩) (fun σ21 H locs h22 hR hS => ?_)
  exact s_vret F hR hS h22 (by omega) dX5_addEntry_59

set_option maxRecDepth 100000 in
def wX5_addEntry_8 (o : Nat) (post : St → Prop) : Nat → Option Nat → Int32 → St → Prop
  | 0, _, _, _ => False
  | n + 1, r1, x2, σ0 =>
    sK σ0 o = 6 ∧ ((x2 ≤ (sI σ0 302 o 0) → (wX5_addEntry_42 o post r1 x2 σ0)) ∧ (¬ x2 ≤ (sI σ0 302 o 0) → (sK σ0 o = 6 ∧ (∀ r24 : Option Nat, r24 = sR σ0 300 o 0 → (∃ a25 : Nat, r24 = some a25 ∧ (wL_get a25 (x2 - (1 : Int32)) (fun (r29 : Option Nat) (σ27 : St) => ∃ a30 : Nat, r29 = some a30 ∧ (sK σ27 a30 = 4 ∧ (∃ a32 : Nat, r1 = some a32 ∧ (sK σ27 a32 = 4 ∧ (wX3_goesBefore a32 (some a30) (fun (x36 : Int32) (σ34 : St) => (x36 = 0 → (wX5_addEntry_42 o post (some a32) x2 σ34)) ∧ (¬ x36 = 0 → (∀ x38 : Int32, x38 = x2 + (-1 : Int32) → (wX5_addEntry_8 o post n (some a32) x38 σ34)))) σ27))))) σ0))))))
set_option maxHeartbeats 4000000 in
set_option maxRecDepth 100000 in
theorem bX5_addEntry_8 {p : Program} {l : Launch} {e : Env} {s : State} {m : MethodId} {args : Array Value} {below : List Frame} {meth : Method} {c : Code} {Γ : rGam} {o : Nat} {post : St → Prop} (F : Fx Γ p s m meth c args cX5_addEntry 3 RX5 wsX5_addEntry none) : ∀ (n : Nat) (r1 : Option Nat) (x2 : Int32) (σ0 : St) (H : Heap) (locs : List Loc) (ls : Array Slot) (cells slots : Nat), wX5_addEntry_8 o post n r1 x2 σ0 → Rep Γ σ0 H → va_S (rA Γ) s.heap H locs → lv_has ls 3 [(0, .ref o), (1, va_rf r1), (2, .int x2)] → cells + n * 0 + 1 ≤ 1 ∧ slots + n * 0 + 128 ≤ 128 → W p l e rmX5_addEntry s m args below meth c H locs cells slots (rQv Γ below post args s 1 128) (F0 m 8 ls []) := by
  have hx := F.1.1
  have hb := F.1.2.1
  intro n
  induction n with
  | zero =>
    intro r1 x2 σ0 H locs ls cells slots h
    exact absurd h (by unfold wX5_addEntry_8; exact id)
  | succ n ih =>
    intro r1 x2 σ0 H locs ls cells slots h hR hS hl hc
    unfold wX5_addEntry_8 at h
    refine lv_iload_n hx hb dX5_addEntry_8 rfl (lv_at hl 2 rfl) ?_
    refine lv_aload_n hx hb dX5_addEntry_9 rfl (lv_at hl 0 rfl) ?_
    obtain ⟨k9, h⟩ := h
    refine s_getI F hR k9 (by decide) (C := RX5) (T := TX5) (N := 4) rfl nX5_addEntry_X5 2 (by decide) mX5_addEntry_1 (f := 302) rfl dX5_addEntry_10 ?_
    refine lv_icmp_le (tgt := 42) hx hb dX5_addEntry_13 (by decide) (fun c10 => ?_) (fun c10 => ?_)
    · replace h := h.1 c10
      exact bX5_addEntry_42 F h hR hS (lv_sub hl [0, 1, 2] rfl) (by omega)
    · replace h := h.2 c10
      refine s_aload_n hx hb dX5_addEntry_16 rfl (lv_at hl 1 rfl) ?_
      refine lv_aload_n hx hb dX5_addEntry_17 rfl (lv_at hl 0 rfl) ?_
      obtain ⟨k23, h⟩ := h
      refine s_getR F hR k23 (by decide) (C := RX5) (T := TX5) (N := 4) rfl nX5_addEntry_X5 0 (by decide) mX5_addEntry_0 (f := 300) rfl dX5_addEntry_18 (fun r24 er24 => ?_)
      replace h := h r24 er24
      refine lv_iload_n hx hb dX5_addEntry_21 rfl (lv_at hl 2 rfl) ?_
      refine lv_iconst (v := 1) hx hb dX5_addEntry_22 (by decide) ?_
      refine lv_isub hx hb dX5_addEntry_23 ?_
      obtain ⟨a25, ea25, h⟩ := h
      subst ea25
      have k26 := h.1
      refine s_cq hS (k_runV F hR hS hl 1 [.int (x2 - (1 : Int32))] (kL_get l Γ a25 (x2 - (1 : Int32)) _ _ h) gX5_addEntry_Jx4a65c_get_915e3 rfl rfl rfl (by decide +kernel) ⟨Nat.le_of_ble_eq_true rfl, Nat.le_of_ble_eq_true rfl⟩ (s_recv F hR rfl (by omega) (C := RJx4a65c) (T := TJx4a65c) (N := 3) (by unfold rCi; rw [if_neg (by omega)]; rfl)) rfl (by simp only [List.map_cons, List.map_nil, List.sum_cons, List.sum_nil, va_cat] <;> exact Nat.le_of_ble_eq_true rfl) dX5_addEntry_24 ⟨by show _ ≤ 1; omega, by show _ ≤ 128; omega⟩) (fun r29 σ27 H locs h28 hR hS => ?_)
      obtain ⟨a30, ea30, h28⟩ := h28
      subst ea30
      obtain ⟨k31, h28⟩ := h28
      refine s_cast F hR k31 (by decide) (T := TX3) (N := 9) rfl mX5_addEntry_3 dX5_addEntry_27 ?_
      obtain ⟨a32, ea32, h28⟩ := h28
      subst ea32
      obtain ⟨k33, h28⟩ := h28
      refine s_ci hS (k_runV F hR hS hl 1 [.ref a30] (kX3_goesBefore l Γ a32 (some a30) _ _ h28) gX5_addEntry_X3_goesBefore rfl rfl rfl (by decide +kernel) ⟨Nat.le_of_ble_eq_true rfl, Nat.le_of_ble_eq_true rfl⟩ (s_recv F hR k33 (by decide) (C := RX3) (T := TX3) (N := 9) rfl) rfl (Nat.le_of_ble_eq_true rfl) dX5_addEntry_30 ⟨by show _ ≤ 1; omega, by show _ ≤ 128; omega⟩) (fun x36 σ34 H locs h35 hR hS => ?_)
      refine lv_if_eq (tgt := 42) hx hb dX5_addEntry_33 (by decide) (fun c37 => ?_) (fun c37 => ?_)
      · replace h35 := h35.1 c37
        exact bX5_addEntry_42 F h35 hR hS (lv_sub hl [0, 1, 2] rfl) (by omega)
      · replace h35 := h35.2 c37
        obtain ⟨x38, ex38⟩ : ∃ x : Int32, x = x2 + (-1 : Int32) := ⟨_, rfl⟩
        replace h35 := h35 x38 ex38
        refine s_iinc (v := x38) (d := -1) (lk := [(1, .ref a32)]) (lv' := [(2, .int x38), (0, .ref o), (1, .ref a32)]) hx hb dX5_addEntry_36 hl (k := 2) rfl (by decide) (by decide) rfl (lk_1 rfl) ex38 rfl (fun ls hl39 => ?_)
        refine lv_goto (tgt := 8) hx hb dX5_addEntry_39 (by decide) ?_
        exact ih (some a32) x38 σ34 _ _ _ _ _ h35 hR hS (lv_sub hl39 [1, 2, 0] rfl) (by omega)

set_option maxRecDepth 100000 in
def wX5_addEntry (o : Nat) (p1 : Option Nat) (post : St → Prop) (σ0 : St) : Prop :=
  sK σ0 o = 6 ∧ (∀ r2 : Option Nat, r2 = sR σ0 300 o 0 → (∃ a3 : Nat, r2 = some a3 ∧ (wL_size a3 (fun (x7 : Int32) (σ5 : St) => ∃ n40 : Nat, wX5_addEntry_8 o post n40 p1 x7 σ5) σ0)))
set_option maxHeartbeats 4000000 in
set_option maxRecDepth 100000 in
theorem bX5_addEntry {p : Program} {l : Launch} {e : Env} {s : State} {m : MethodId} {args : Array Value} {below : List Frame} {meth : Method} {c : Code} {Γ : rGam} {o : Nat} {post : St → Prop} (F : Fx Γ p s m meth c args cX5_addEntry 3 RX5 wsX5_addEntry none) {H : Heap} {locs : List Loc} {ls : Array Slot} {cells slots : Nat} {p1 : Option Nat} {σ0 : St} (h : wX5_addEntry o p1 post σ0) (hR : Rep Γ σ0 H) (hS : va_S (rA Γ) s.heap H locs) (hl : lv_has ls 3 [(0, .ref o), (1, va_rf p1)]) (hc : cells + 1 ≤ 1 ∧ slots + 128 ≤ 128) : W p l e rmX5_addEntry s m args below meth c H locs cells slots (rQv Γ below post args s 1 128) (F0 m 0 ls []) := by
  have hx := F.1.1
  have hb := F.1.2.1
  unfold wX5_addEntry at h
  refine lv_aload_n hx hb dX5_addEntry_0 rfl (lv_at hl 0 rfl) ?_
  obtain ⟨k1, h⟩ := h
  refine s_getR F hR k1 (by decide) (C := RX5) (T := TX5) (N := 4) rfl nX5_addEntry_X5 0 (by decide) mX5_addEntry_0 (f := 300) rfl dX5_addEntry_1 (fun r2 er2 => ?_)
  replace h := h r2 er2
  obtain ⟨a3, ea3, h⟩ := h
  subst ea3
  have k4 := h.1
  refine s_ci hS (k_runV F hR hS hl 0 [] (kL_size l Γ a3 _ _ h) gX5_addEntry_Jx4a65c_size_8abf5 rfl rfl rfl (by decide +kernel) ⟨Nat.le_of_ble_eq_true rfl, Nat.le_of_ble_eq_true rfl⟩ (s_recv F hR rfl (by omega) (C := RJx4a65c) (T := TJx4a65c) (N := 3) (by unfold rCi; rw [if_neg (by omega)]; rfl)) rfl (Nat.le_of_ble_eq_true rfl) dX5_addEntry_4 ⟨by show _ ≤ 1; omega, by show _ ≤ 128; omega⟩) (fun x7 σ5 H locs h6 hR hS => ?_)
  refine s_istore_n (lk := [(1, va_rf p1)]) (lv' := [(2, .int x7), (0, .ref o), (1, va_rf p1)]) hx hb dX5_addEntry_7 rfl hl (by decide) rfl lk_r rfl (fun ls hl8 => ?_)
  obtain ⟨n40, h6⟩ := h6
  exact bX5_addEntry_8 F n40 p1 x7 σ5 _ _ _ _ _ h6 hR hS (lv_sub hl8 [1, 2, 0] rfl) (by omega)
set_option maxHeartbeats 4000000 in
set_option maxRecDepth 100000 in
theorem kX5_addEntry (l : Launch) (Γ : rGam) (o : Nat) (p1 : Option Nat) (post : St → Prop) (σ0 : St) (h : wX5_addEntry o p1 post σ0) : Met l yX5_addEntry wsX5_addEntry rmX5_addEntry (rPc Γ vwCl [.ref o, va_rf p1] (Rep Γ σ0)) (va_Qv post (fun σ' t => Rep Γ σ' t.heap) (rA Γ)) 1 128 (rA Γ) := by
  rcases p1 with _ | p1v
  · refine Met.ofW (cc := cX5_addEntry) (maxL := 3) (ret := none) (by decide) rfl ?_
    intro p e s m args below meth c s₁ B hml hv
    obtain ⟨rfl, hR, hE⟩ := hv
    have F : Fx Γ p s m meth c _ cX5_addEntry 3 RX5 wsX5_addEntry none := ⟨⟨B.exec, B.bytes, hml, findClass_of_methodNamed B.named, atoms_spec (ws := wsX5_addEntry) B.pre⟩, hE, B.notSynchronized, B.returns⟩
    have hl := lv_entry ([.ref o, va_rf none]) (n := 3) (Nat.le_of_ble_eq_true rfl)
    rw [lg_entry_eq]
    generalize (lg_sl ([.ref o, va_rf none]) ++ List.replicate (3 - (lg_sl ([.ref o, va_rf none])).length) Slot.unset).toArray = ls at hl ⊢
    have hl : lv_has ls 3 [(0, .ref o), (1, va_rf none)] := hl
    exact bX5_addEntry F h hR va_S.rf hl ⟨by show _ + _ ≤ _; omega, by show _ + _ ≤ _; omega⟩
  · refine Met.ofW (cc := cX5_addEntry) (maxL := 3) (ret := none) (by decide) rfl ?_
    intro p e s m args below meth c s₁ B hml hv
    obtain ⟨rfl, hR, hE⟩ := hv
    have F : Fx Γ p s m meth c _ cX5_addEntry 3 RX5 wsX5_addEntry none := ⟨⟨B.exec, B.bytes, hml, findClass_of_methodNamed B.named, atoms_spec (ws := wsX5_addEntry) B.pre⟩, hE, B.notSynchronized, B.returns⟩
    have hl := lv_entry ([.ref o, va_rf (some p1v)]) (n := 3) (Nat.le_of_ble_eq_true rfl)
    rw [lg_entry_eq]
    generalize (lg_sl ([.ref o, va_rf (some p1v)]) ++ List.replicate (3 - (lg_sl ([.ref o, va_rf (some p1v)])).length) Slot.unset).toArray = ls at hl ⊢
    have hl : lv_has ls 3 [(0, .ref o), (1, va_rf (some p1v))] := hl
    exact bX5_addEntry F h hR va_S.rf hl ⟨by show _ + _ ≤ _; omega, by show _ + _ ≤ _; omega⟩
/-! X1_init -/
theorem mX1_init_0 : Cond.methodLink RX1 1 objectInit ∈ wsX1_init := by decide +kernel
theorem mX1_init_1 : Cond.instanceMethod objectInit ∈ wsX1_init := by decide +kernel
theorem mX1_init_2 : Cond.code objectInit ⟨#[0xb1]⟩ 1 none ∈ wsX1_init := by decide +kernel
theorem mX1_init_3 : Cond.classLink RX1 7 RJx4a65c ∈ wsX1_init := by decide +kernel
theorem mX1_init_4 : Cond.instantiable RJx4a65c 3 ∈ wsX1_init := by decide +kernel
theorem mX1_init_5 : Cond.initialized RJx4a65c ∈ wsX1_init := by decide +kernel
theorem mX1_init_6 : Cond.instanceMethod yJx4a65c_init_da8c8 ∈ wsX1_init := by decide +kernel
theorem mX1_init_7 : Cond.methodLink RX1 9 yJx4a65c_init_da8c8 ∈ wsX1_init := by decide +kernel
theorem mX1_init_8 : Cond.fieldLink RX1 10 "ClearingFiles$Bank" "entries" "Ljava/util/ArrayList;" ∈ wsX1_init := by decide +kernel
theorem mX1_init_9 : Cond.fieldLink RX1 16 "ClearingFiles$Bank" "returns" "Ljava/util/ArrayList;" ∈ wsX1_init := by decide +kernel
theorem mX1_init_10 : Cond.classLink RX1 19 RX5 ∈ wsX1_init := by decide +kernel
theorem mX1_init_11 : Cond.instantiable RX5 4 ∈ wsX1_init := by decide +kernel
theorem mX1_init_12 : Cond.initialized RX5 ∈ wsX1_init := by decide +kernel
theorem mX1_init_13 : Cond.instanceMethod yX5_init ∈ wsX1_init := by decide +kernel
theorem mX1_init_14 : Cond.fieldLink RX1 22 "ClearingFiles$Bank" "output" "LClearingFiles$Output;" ∈ wsX1_init := by decide +kernel
theorem mX1_init_15 : Cond.fieldLink RX1 26 "ClearingFiles$Bank" "number" "I" ∈ wsX1_init := by decide +kernel
theorem mX1_init_16 : Cond.fieldLink RX1 30 "ClearingFiles$Bank" "routing" "I" ∈ wsX1_init := by decide +kernel
theorem nX1_init_Jx4a65c : ∀ w ∈ u_ws RJx4a65c TJx4a65c 3, w ∈ wsX1_init := fun _ h => List.mem_cons_of_mem _ (List.mem_append_left _ (List.mem_append_left _ (List.mem_append_left _ (List.mem_append_right _ h))))
theorem nX1_init_X1 : ∀ w ∈ u_ws RX1 TX1 6, w ∈ wsX1_init := fun _ h => List.mem_cons_of_mem _ (List.mem_append_left _ (List.mem_append_left _ (List.mem_append_right _ h)))
theorem nX1_init_X5 : ∀ w ∈ u_ws RX5 TX5 4, w ∈ wsX1_init := fun _ h => List.mem_cons_of_mem _ (List.mem_append_left _ (List.mem_append_right _ h))
abbrev rmX1_init : Room := { frames := 5, cells := 5, slots := 17, locals := 120 }
set_option maxRecDepth 100000 in
def wX1_init (o : Nat) (p1 : Int32) (p2 : Int32) (post : St → Prop) (σ0 : St) : Prop :=
  ∀ q1 : Nat, sK σ0 q1 = 0 → (∀ σ2 : St, σ2 = uN σ0 q1 19 → (wL_init q1 22 (fun (σ3 : St) => sK σ3 o = 2 ∧ (∀ σ6 : St, σ6 = uR σ3 102 o 0 (some q1) → (∀ q7 : Nat, sK σ6 q7 = 0 → (∀ σ8 : St, σ8 = uN σ6 q7 19 → (wL_init q7 22 (fun (σ9 : St) => sK σ9 o = 2 ∧ (∀ σ12 : St, σ12 = uR σ9 103 o 0 (some q7) → (∀ q13 : Nat, sK σ12 q13 = 0 → (∀ σ14 : St, σ14 = uN σ12 q13 6 → (wX5_init q13 (fun (σ15 : St) => sK σ15 o = 2 ∧ (∀ σ18 : St, σ18 = uR σ15 104 o 0 (some q13) → (sK σ18 o = 2 ∧ (∀ σ20 : St, σ20 = uI σ18 100 o 0 p1 → (sK σ20 o = 2 ∧ (∀ σ22 : St, σ22 = uI σ20 101 o 0 p2 → (post σ22))))))) σ14))))) σ8))))) σ2))
set_option maxHeartbeats 4000000 in
set_option maxRecDepth 100000 in
theorem bX1_init {p : Program} {l : Launch} {e : Env} {s : State} {m : MethodId} {args : Array Value} {below : List Frame} {meth : Method} {c : Code} {Γ : rGam} {o : Nat} {post : St → Prop} (F : Fx Γ p s m meth c args cX1_init 3 RX1 wsX1_init none) (hN : meth.name = "<init>") {H : Heap} {locs : List Loc} {ls : Array Slot} {cells slots : Nat} {p1 : Int32} {p2 : Int32} {σ0 : St} (h : wX1_init o p1 p2 post σ0) (hR : Rep Γ σ0 H) (hS : va_S (rA Γ) s.heap H locs) (hl : lv_has ls 3 [(0, .ref o), (1, .int p1), (2, .int p2)]) (hc : cells + 5 ≤ 5 ∧ slots + 17 ≤ 17) : W p l e rmX1_init s m args below meth c H locs cells slots (rQv Γ below post args s 5 17) (F0 m 0 ls []) := by
  have hx := F.1.1
  have hb := F.1.2.1
  unfold wX1_init at h
  refine lv_aload_n hx hb dX1_init_0 rfl (lv_at hl 0 rfl) ?_
  refine W.objInit hx hb F.1.2.2.2.1 (F.1.2.2.2.2 _ mX1_init_0) (F.1.2.2.2.2 _ mX1_init_1) (F.1.2.2.2.2 _ mX1_init_2) rfl (by rw [F.1.2.2.1]; exact hl.1) rfl dX1_init_1 (Nat.le_of_ble_eq_true rfl) (Nat.le_of_ble_eq_true rfl) ?_
  refine W.eq (g2 := F0 m 4 ls []) rfl ?_
  refine lv_aload_n hx hb dX1_init_4 rfl (lv_at hl 0 rfl) ?_
  refine s_new F hR hS 19 (by decide) (C := RJx4a65c) (T := TJx4a65c) (N := 3) rfl nX1_init_Jx4a65c tyJx4a65c tyJx4a65c_ok rdf_19 mX1_init_3 mX1_init_4 mX1_init_5 (by show _ ≤ 5; omega) (by show _ ≤ 17; omega) dX1_init_5 (fun q1 zq1 σ2 eσ2 H hR hS => ?_)
  replace h := h q1 zq1 σ2 eσ2
  refine lv_dup hx hb dX1_init_8 rfl ?_
  refine s_cv hS (k_runI F hR hS hl 0 [] (kL_init l Γ q1 22 _ _ h) gX1_init_Jx4a65c_init_da8c8 rfl rfl rfl mX1_init_5 mX1_init_7 mX1_init_6 rfl (by decide +kernel) ⟨Nat.le_of_ble_eq_true rfl, Nat.le_of_ble_eq_true rfl⟩ rfl (Nat.le_of_ble_eq_true rfl) dX1_init_9 ⟨by show _ ≤ 5; omega, by show _ ≤ 17; omega⟩) (fun σ3 H locs h4 hR hS => ?_)
  obtain ⟨k5, h4⟩ := h4
  refine s_putR (v := (some q1)) F hR hS k5 (by decide) (C := RX1) (T := TX1) (N := 6) rfl nX1_init_X1 tyX1 tyX1_ok nmX1 2 (by decide) mX1_init_8 (Or.inr ⟨rfl, hN, rfl⟩) (rf_nar _ _) (rf_fit _ _) (f := 102) rfl rnd_2 dX1_init_12 (fun σ6 eσ6 H locs hR hS => ?_)
  replace h4 := h4 σ6 eσ6
  refine lv_aload_n hx hb dX1_init_15 rfl (lv_at hl 0 rfl) ?_
  refine s_new F hR hS 19 (by decide) (C := RJx4a65c) (T := TJx4a65c) (N := 3) rfl nX1_init_Jx4a65c tyJx4a65c tyJx4a65c_ok rdf_19 mX1_init_3 mX1_init_4 mX1_init_5 (by show _ ≤ 5; omega) (by show _ ≤ 17; omega) dX1_init_16 (fun q7 zq7 σ8 eσ8 H hR hS => ?_)
  replace h4 := h4 q7 zq7 σ8 eσ8
  refine lv_dup hx hb dX1_init_19 rfl ?_
  refine s_cv hS (k_runI F hR hS hl 0 [] (kL_init l Γ q7 22 _ _ h4) gX1_init_Jx4a65c_init_da8c8 rfl rfl rfl mX1_init_5 mX1_init_7 mX1_init_6 rfl (by decide +kernel) ⟨Nat.le_of_ble_eq_true rfl, Nat.le_of_ble_eq_true rfl⟩ rfl (Nat.le_of_ble_eq_true rfl) dX1_init_20 ⟨by show _ ≤ 5; omega, by show _ ≤ 17; omega⟩) (fun σ9 H locs h10 hR hS => ?_)
  obtain ⟨k11, h10⟩ := h10
  refine s_putR (v := (some q7)) F hR hS k11 (by decide) (C := RX1) (T := TX1) (N := 6) rfl nX1_init_X1 tyX1 tyX1_ok nmX1 3 (by decide) mX1_init_9 (Or.inr ⟨rfl, hN, rfl⟩) (rf_nar _ _) (rf_fit _ _) (f := 103) rfl rnd_2 dX1_init_23 (fun σ12 eσ12 H locs hR hS => ?_)
  replace h10 := h10 σ12 eσ12
  refine lv_aload_n hx hb dX1_init_26 rfl (lv_at hl 0 rfl) ?_
  refine s_new F hR hS 6 (by decide) (C := RX5) (T := TX5) (N := 4) rfl nX1_init_X5 tyX5 tyX5_ok rdf_6 mX1_init_10 mX1_init_11 mX1_init_12 (by show _ ≤ 5; omega) (by show _ ≤ 17; omega) dX1_init_27 (fun q13 zq13 σ14 eσ14 H hR hS => ?_)
  replace h10 := h10 q13 zq13 σ14 eσ14
  refine lv_dup hx hb dX1_init_30 rfl ?_
  refine s_cv hS (k_runIN F hR hS hl 0 [] (kX5_init l Γ q13 _ _ h10) gX1_init_X5_init_n21 rfl rfl rfl mX1_init_12 (by decide +kernel) mX1_init_13 rfl (by decide +kernel) ⟨Nat.le_of_ble_eq_true rfl, Nat.le_of_ble_eq_true rfl⟩ rfl (Nat.le_of_ble_eq_true rfl) dX1_init_31 ⟨by show _ ≤ 5; omega, by show _ ≤ 17; omega⟩) (fun σ15 H locs h16 hR hS => ?_)
  obtain ⟨k17, h16⟩ := h16
  refine s_putR (v := (some q13)) F hR hS k17 (by decide) (C := RX1) (T := TX1) (N := 6) rfl nX1_init_X1 tyX1 tyX1_ok nmX1 4 (by decide) mX1_init_14 (Or.inr ⟨rfl, hN, rfl⟩) (rf_nar _ _) (rf_fit _ _) (f := 104) rfl rnd_2 dX1_init_34 (fun σ18 eσ18 H locs hR hS => ?_)
  replace h16 := h16 σ18 eσ18
  refine lv_aload_n hx hb dX1_init_37 rfl (lv_at hl 0 rfl) ?_
  refine lv_iload_n hx hb dX1_init_38 rfl (lv_at hl 1 rfl) ?_
  obtain ⟨k19, h16⟩ := h16
  refine s_putI (v := p1) F hR hS k19 (by decide) (C := RX1) (T := TX1) (N := 6) rfl nX1_init_X1 tyX1 tyX1_ok nmX1 0 (by decide) mX1_init_15 (Or.inr ⟨rfl, hN, rfl⟩) rfl rfl (f := 100) rfl rnd_2 dX1_init_39 (fun σ20 eσ20 H locs hR hS => ?_)
  replace h16 := h16 σ20 eσ20
  refine lv_aload_n hx hb dX1_init_42 rfl (lv_at hl 0 rfl) ?_
  refine lv_iload_n hx hb dX1_init_43 rfl (lv_at hl 2 rfl) ?_
  obtain ⟨k21, h16⟩ := h16
  refine s_putI (v := p2) F hR hS k21 (by decide) (C := RX1) (T := TX1) (N := 6) rfl nX1_init_X1 tyX1 tyX1_ok nmX1 1 (by decide) mX1_init_16 (Or.inr ⟨rfl, hN, rfl⟩) rfl rfl (f := 101) rfl rnd_2 dX1_init_44 (fun σ22 eσ22 H locs hR hS => ?_)
  replace h16 := h16 σ22 eσ22
  exact s_vret F hR hS h16 (by omega) dX1_init_47
set_option maxHeartbeats 4000000 in
set_option maxRecDepth 100000 in
theorem kX1_init (l : Launch) (Γ : rGam) (o : Nat) (p1 : Int32) (p2 : Int32) (post : St → Prop) (σ0 : St) (h : wX1_init o p1 p2 post σ0) : Met l yX1_init wsX1_init rmX1_init (rPc Γ vwCl [.ref o, .int p1, .int p2] (Rep Γ σ0)) (va_Qv post (fun σ' t => Rep Γ σ' t.heap) (rA Γ)) 5 17 (rA Γ) := by
  refine Met.ofW (cc := cX1_init) (maxL := 3) (ret := none) (by decide) rfl ?_
  intro p e s m args below meth c s₁ B hml hv
  obtain ⟨rfl, hR, hE⟩ := hv
  have F : Fx Γ p s m meth c _ cX1_init 3 RX1 wsX1_init none := ⟨⟨B.exec, B.bytes, hml, findClass_of_methodNamed B.named, atoms_spec (ws := wsX1_init) B.pre⟩, hE, B.notSynchronized, B.returns⟩
  have hN : meth.name = "<init>" := (name_of_methodNamed B.named B.method).1
  have hl := lv_entry ([.ref o, .int p1, .int p2]) (n := 3) (Nat.le_of_ble_eq_true rfl)
  rw [lg_entry_eq]
  generalize (lg_sl ([.ref o, .int p1, .int p2]) ++ List.replicate (3 - (lg_sl ([.ref o, .int p1, .int p2])).length) Slot.unset).toArray = ls at hl ⊢
  have hl : lv_has ls 3 [(0, .ref o), (1, .int p1), (2, .int p2)] := hl
  exact bX1_init F hN h hR va_S.rf hl ⟨by show _ + _ ≤ _; omega, by show _ + _ ≤ _; omega⟩
/-! X4_init -/
theorem mX4_init_0 : Cond.methodLink RX4 3 objectInit ∈ wsX4_init := by decide +kernel
theorem mX4_init_1 : Cond.instanceMethod objectInit ∈ wsX4_init := by decide +kernel
theorem mX4_init_2 : Cond.code objectInit ⟨#[0xb1]⟩ 1 none ∈ wsX4_init := by decide +kernel
theorem mX4_init_3 : Cond.classLink RX4 9 "ClearingFiles$Batch" ∈ wsX4_init := by decide +kernel
theorem mX4_init_4 : Cond.fieldLink RX4 11 "ClearingFiles$Incoming" "batches" "[LClearingFiles$Batch;" ∈ wsX4_init := by decide +kernel
theorem mX4_init_5 : Cond.classLink RX4 17 RX6 ∈ wsX4_init := by decide +kernel
theorem mX4_init_6 : Cond.instantiable RX6 4 ∈ wsX4_init := by decide +kernel
theorem mX4_init_7 : Cond.initialized RX6 ∈ wsX4_init := by decide +kernel
theorem mX4_init_8 : Cond.instanceMethod yX6_init ∈ wsX4_init := by decide +kernel
theorem mX4_init_9 : Cond.fieldLink RX4 20 "ClearingFiles$Incoming" "totals" "LClearingFiles$Totals;" ∈ wsX4_init := by decide +kernel
theorem mX4_init_10 : Cond.fieldLink RX4 25 "ClearingFiles$Incoming" "current" "LClearingFiles$Batch;" ∈ wsX4_init := by decide +kernel
theorem mX4_init_11 : Cond.classLink RX4 9 RX2 ∈ wsX4_init := by decide +kernel
theorem mX4_init_12 : Cond.instantiable RX2 9 ∈ wsX4_init := by decide +kernel
theorem mX4_init_13 : Cond.initialized RX2 ∈ wsX4_init := by decide +kernel
theorem mX4_init_14 : Cond.instanceMethod yX2_init ∈ wsX4_init := by decide +kernel
theorem nX4_init_X4 : ∀ w ∈ u_ws RX4 TX4 8, w ∈ wsX4_init := fun _ h => List.mem_cons_of_mem _ (List.mem_append_left _ (List.mem_append_left _ (List.mem_append_left _ (List.mem_append_right _ h))))
theorem nX4_init_X6 : ∀ w ∈ u_ws RX6 TX6 4, w ∈ wsX4_init := fun _ h => List.mem_cons_of_mem _ (List.mem_append_left _ (List.mem_append_left _ (List.mem_append_right _ h)))
theorem nX4_init_X2 : ∀ w ∈ u_ws RX2 TX2 9, w ∈ wsX4_init := fun _ h => List.mem_cons_of_mem _ (List.mem_append_left _ (List.mem_append_right _ h))
abbrev rmX4_init : Room := { frames := 5, cells := 17, slots := 88, locals := 120 }
set_option maxRecDepth 100000 in
def wX4_init_25 (o : Nat) (post : St → Prop) : Nat → Int32 → St → Prop
  | 0, _, _ => False
  | n + 1, x1, σ0 =>
    sK σ0 o = 5 ∧ (∀ r13 : Option Nat, r13 = sR σ0 250 o 0 → (∃ a14 : Nat, r13 = some a14 ∧ (sK σ0 a14 = 1250 ∧ (((4 : Int32) ≤ x1 → (sK σ0 o = 5 ∧ (∀ r18 : Option Nat, r18 = sR σ0 250 o 0 → (∃ a19 : Nat, r18 = some a19 ∧ (sK σ0 a19 = 1250 ∧ (vp_in (0 : Int32) 4 ∧ (∀ r22 : Option Nat, r22 = sR σ0 1250 a19 (0 : Int32).toNatClampNeg → (sK σ0 o = 5 ∧ (∀ σ24 : St, σ24 = uR σ0 252 o 0 r22 → (post σ24)))))))))) ∧ (¬ (4 : Int32) ≤ x1 → (sK σ0 o = 5 ∧ (∀ r26 : Option Nat, r26 = sR σ0 250 o 0 → (∀ q27 : Nat, sK σ0 q27 = 0 → (∀ σ28 : St, σ28 = uN σ0 q27 3 → (wX2_init q27 (fun (σ29 : St) => ∃ a31 : Nat, r26 = some a31 ∧ (sK σ29 a31 = 1250 ∧ (vp_in x1 4 ∧ (sK σ29 q27 = 3 ∧ (∀ σ35 : St, σ35 = uR σ29 1250 a31 (x1.toNatClampNeg) (some q27) → (∀ x36 : Int32, x36 = x1 + (1 : Int32) → (wX4_init_25 o post n x36 σ35))))))) σ28))))))))))
set_option maxHeartbeats 4000000 in
set_option maxRecDepth 100000 in
theorem bX4_init_25 {p : Program} {l : Launch} {e : Env} {s : State} {m : MethodId} {args : Array Value} {below : List Frame} {meth : Method} {c : Code} {Γ : rGam} {o : Nat} {post : St → Prop} (F : Fx Γ p s m meth c args cX4_init 2 RX4 wsX4_init none) (hN : meth.name = "<init>") : ∀ (n : Nat) (x1 : Int32) (σ0 : St) (H : Heap) (locs : List Loc) (ls : Array Slot) (cells slots : Nat), wX4_init_25 o post n x1 σ0 → Rep Γ σ0 H → va_S (rA Γ) s.heap H locs → lv_has ls 2 [(0, .ref o), (1, .int x1)] → cells + n * 3 + 0 ≤ 17 ∧ slots + n * 16 + 0 ≤ 88 → W p l e rmX4_init s m args below meth c H locs cells slots (rQv Γ below post args s 17 88) (F0 m 25 ls []) := by
  have hx := F.1.1
  have hb := F.1.2.1
  intro n
  induction n with
  | zero =>
    intro x1 σ0 H locs ls cells slots h
    exact absurd h (by unfold wX4_init_25; exact id)
  | succ n ih =>
    intro x1 σ0 H locs ls cells slots h hR hS hl hc
    unfold wX4_init_25 at h
    refine lv_iload_n hx hb dX4_init_25 rfl (lv_at hl 1 rfl) ?_
    refine lv_aload_n hx hb dX4_init_26 rfl (lv_at hl 0 rfl) ?_
    obtain ⟨k12, h⟩ := h
    refine s_getR F hR k12 (by decide) (C := RX4) (T := TX4) (N := 8) rfl nX4_init_X4 0 (by decide) mX4_init_4 (f := 250) rfl dX4_init_27 (fun r13 er13 => ?_)
    replace h := h r13 er13
    obtain ⟨a14, ea14, h⟩ := h
    subst ea14
    obtain ⟨k15, h⟩ := h
    refine s_alen F hR k15 (by decide) (t0 := 3) rfl rfl dX4_init_30 ?_
    refine lv_icmp_ge (tgt := 53) hx hb dX4_init_31 (by decide) (fun c16 => ?_) (fun c16 => ?_)
    · replace h := h.1 c16
      refine lv_aload_n hx hb dX4_init_53 rfl (lv_at hl 0 rfl) ?_
      refine lv_aload_n hx hb dX4_init_54 rfl (lv_at hl 0 rfl) ?_
      obtain ⟨k17, h⟩ := h
      refine s_getR F hR k17 (by decide) (C := RX4) (T := TX4) (N := 8) rfl nX4_init_X4 0 (by decide) mX4_init_4 (f := 250) rfl dX4_init_55 (fun r18 er18 => ?_)
      replace h := h r18 er18
      refine lv_iconst (v := 0) hx hb dX4_init_58 (by decide) ?_
      obtain ⟨a19, ea19, h⟩ := h
      subst ea19
      obtain ⟨k20, h⟩ := h
      obtain ⟨z21, h⟩ := h
      refine s_aald F hR k20 (by decide) rfl z21 dX4_init_59 (fun r22 er22 => ?_)
      replace h := h r22 er22
      obtain ⟨k23, h⟩ := h
      refine s_putR (v := r22) F hR hS k23 (by decide) (C := RX4) (T := TX4) (N := 8) rfl nX4_init_X4 tyX4 tyX4_ok nmX4 2 (by decide) mX4_init_10 (Or.inl rfl) (rf_nar _ _) (rf_fit _ _) (f := 252) rfl rnd_5 dX4_init_60 (fun σ24 eσ24 H locs hR hS => ?_)
      replace h := h σ24 eσ24
      exact s_vret F hR hS h (by omega) dX4_init_63
    · replace h := h.2 c16
      refine lv_aload_n hx hb dX4_init_34 rfl (lv_at hl 0 rfl) ?_
      obtain ⟨k25, h⟩ := h
      refine s_getR F hR k25 (by decide) (C := RX4) (T := TX4) (N := 8) rfl nX4_init_X4 0 (by decide) mX4_init_4 (f := 250) rfl dX4_init_35 (fun r26 er26 => ?_)
      replace h := h r26 er26
      refine lv_iload_n hx hb dX4_init_38 rfl (lv_at hl 1 rfl) ?_
      refine s_new F hR hS 3 (by decide) (C := RX2) (T := TX2) (N := 9) rfl nX4_init_X2 tyX2 tyX2_ok rdf_3 mX4_init_11 mX4_init_12 mX4_init_13 (by show _ ≤ 17; omega) (by show _ ≤ 88; omega) dX4_init_39 (fun q27 zq27 σ28 eσ28 H hR hS => ?_)
      replace h := h q27 zq27 σ28 eσ28
      refine lv_dup hx hb dX4_init_42 rfl ?_
      refine s_cv hS (k_runIN F hR hS hl 0 [] (kX2_init l Γ q27 _ _ h) gX4_init_X2_init_n24 rfl rfl rfl mX4_init_13 (by decide +kernel) mX4_init_14 rfl (by decide +kernel) ⟨Nat.le_of_ble_eq_true rfl, Nat.le_of_ble_eq_true rfl⟩ rfl (by simp only [List.map_cons, List.map_nil, List.sum_cons, List.sum_nil, va_cat] <;> exact Nat.le_of_ble_eq_true rfl) dX4_init_43 ⟨by show _ ≤ 17; omega, by show _ ≤ 88; omega⟩) (fun σ29 H locs h30 hR hS => ?_)
      obtain ⟨a31, ea31, h30⟩ := h30
      subst ea31
      obtain ⟨k32, h30⟩ := h30
      obtain ⟨z33, h30⟩ := h30
      obtain ⟨k34, h30⟩ := h30
      refine s_aast F hR hS k32 (by decide) rfl z33 k34 dX4_init_46 (fun σ35 eσ35 H locs hR hS => ?_)
      replace h30 := h30 σ35 eσ35
      obtain ⟨x36, ex36⟩ : ∃ x : Int32, x = x1 + (1 : Int32) := ⟨_, rfl⟩
      replace h30 := h30 x36 ex36
      refine s_iinc (v := x36) (d := 1) (lk := [(0, .ref o)]) (lv' := [(1, .int x36), (0, .ref o)]) hx hb dX4_init_47 hl (k := 1) rfl (by decide) (by decide) rfl (lk_1 rfl) ex36 rfl (fun ls hl37 => ?_)
      refine lv_goto (tgt := 25) hx hb dX4_init_50 (by decide) ?_
      exact ih x36 σ35 _ _ _ _ _ h30 hR hS (lv_sub hl37 [1, 0] rfl) (by omega)

set_option maxRecDepth 100000 in
def wX4_init (o : Nat)  (post : St → Prop) (σ0 : St) : Prop :=
  ∀ q1 : Nat, sK σ0 q1 = 0 → (∀ σ2 : St, σ2 = uN σ0 q1 1250 → (sK σ2 o = 5 ∧ (∀ σ4 : St, σ4 = uR σ2 250 o 0 (some q1) → (∀ q5 : Nat, sK σ4 q5 = 0 → (∀ σ6 : St, σ6 = uN σ4 q5 7 → (wX6_init q5 (fun (σ7 : St) => sK σ7 o = 5 ∧ (∀ σ10 : St, σ10 = uR σ7 251 o 0 (some q5) → (∃ n38 : Nat, n38 ≤ 5 ∧ wX4_init_25 o post n38 (0 : Int32) σ10))) σ6))))))
set_option maxHeartbeats 4000000 in
set_option maxRecDepth 100000 in
theorem bX4_init {p : Program} {l : Launch} {e : Env} {s : State} {m : MethodId} {args : Array Value} {below : List Frame} {meth : Method} {c : Code} {Γ : rGam} {o : Nat} {post : St → Prop} (F : Fx Γ p s m meth c args cX4_init 2 RX4 wsX4_init none) (hN : meth.name = "<init>") {H : Heap} {locs : List Loc} {ls : Array Slot} {cells slots : Nat}  {σ0 : St} (h : wX4_init o  post σ0) (hR : Rep Γ σ0 H) (hS : va_S (rA Γ) s.heap H locs) (hl : lv_has ls 2 [(0, .ref o)]) (hc : cells + 17 ≤ 17 ∧ slots + 88 ≤ 88) : W p l e rmX4_init s m args below meth c H locs cells slots (rQv Γ below post args s 17 88) (F0 m 0 ls []) := by
  have hx := F.1.1
  have hb := F.1.2.1
  unfold wX4_init at h
  refine lv_aload_n hx hb dX4_init_0 rfl (lv_at hl 0 rfl) ?_
  refine W.objInit hx hb F.1.2.2.2.1 (F.1.2.2.2.2 _ mX4_init_0) (F.1.2.2.2.2 _ mX4_init_1) (F.1.2.2.2.2 _ mX4_init_2) rfl (by rw [F.1.2.2.1]; exact hl.1) rfl dX4_init_1 (Nat.le_of_ble_eq_true rfl) (Nat.le_of_ble_eq_true rfl) ?_
  refine W.eq (g2 := F0 m 4 ls []) rfl ?_
  refine lv_aload_n hx hb dX4_init_4 rfl (lv_at hl 0 rfl) ?_
  refine lv_iconst (v := 4) hx hb dX4_init_5 (by decide) ?_
  refine s_newB F hR hS 1250 (by decide) rfl mX4_init_3 (by decide) (by decide) (by show _ ≤ 17; omega) (by show _ ≤ 88; omega) dX4_init_6 (fun q1 zq1 σ2 eσ2 H hR hS => ?_)
  replace h := h q1 zq1 σ2 eσ2
  obtain ⟨k3, h⟩ := h
  refine s_putR (v := (some q1)) F hR hS k3 (by decide) (C := RX4) (T := TX4) (N := 8) rfl nX4_init_X4 tyX4 tyX4_ok nmX4 0 (by decide) mX4_init_4 (Or.inr ⟨rfl, hN, rfl⟩) (rf_narA _ _) (rf_fitA _ _) (f := 250) rfl rnd_5 dX4_init_9 (fun σ4 eσ4 H locs hR hS => ?_)
  replace h := h σ4 eσ4
  refine lv_aload_n hx hb dX4_init_12 rfl (lv_at hl 0 rfl) ?_
  refine s_new F hR hS 7 (by decide) (C := RX6) (T := TX6) (N := 4) rfl nX4_init_X6 tyX6 tyX6_ok rdf_7 mX4_init_5 mX4_init_6 mX4_init_7 (by show _ ≤ 17; omega) (by show _ ≤ 88; omega) dX4_init_13 (fun q5 zq5 σ6 eσ6 H hR hS => ?_)
  replace h := h q5 zq5 σ6 eσ6
  refine lv_dup hx hb dX4_init_16 rfl ?_
  refine s_cv hS (k_runIN F hR hS hl 0 [] (kX6_init l Γ q5 _ _ h) gX4_init_X6_init_n19 rfl rfl rfl mX4_init_7 (by decide +kernel) mX4_init_8 rfl (by decide +kernel) ⟨Nat.le_of_ble_eq_true rfl, Nat.le_of_ble_eq_true rfl⟩ rfl (Nat.le_of_ble_eq_true rfl) dX4_init_17 ⟨by show _ ≤ 17; omega, by show _ ≤ 88; omega⟩) (fun σ7 H locs h8 hR hS => ?_)
  obtain ⟨k9, h8⟩ := h8
  refine s_putR (v := (some q5)) F hR hS k9 (by decide) (C := RX4) (T := TX4) (N := 8) rfl nX4_init_X4 tyX4 tyX4_ok nmX4 1 (by decide) mX4_init_9 (Or.inr ⟨rfl, hN, rfl⟩) (rf_nar _ _) (rf_fit _ _) (f := 251) rfl rnd_5 dX4_init_20 (fun σ10 eσ10 H locs hR hS => ?_)
  replace h8 := h8 σ10 eσ10
  refine lv_iconst (v := 0) hx hb dX4_init_23 (by decide) ?_
  refine s_istore_n (lk := [(0, .ref o)]) (lv' := [(1, .int (0 : Int32)), (0, .ref o)]) hx hb dX4_init_24 rfl hl (by decide) rfl (lk_1 rfl) rfl (fun ls hl11 => ?_)
  obtain ⟨n38, hn, h8⟩ := h8
  exact bX4_init_25 F hN n38 (0 : Int32) σ10 _ _ _ _ _ h8 hR hS (lv_sub hl11 [1, 0] rfl) (by omega)
set_option maxHeartbeats 4000000 in
set_option maxRecDepth 100000 in
theorem kX4_init (l : Launch) (Γ : rGam) (o : Nat)  (post : St → Prop) (σ0 : St) (h : wX4_init o  post σ0) : Met l yX4_init wsX4_init rmX4_init (rPc Γ vwCl [.ref o] (Rep Γ σ0)) (va_Qv post (fun σ' t => Rep Γ σ' t.heap) (rA Γ)) 17 88 (rA Γ) := by
  refine Met.ofW (cc := cX4_init) (maxL := 2) (ret := none) (by decide) rfl ?_
  intro p e s m args below meth c s₁ B hml hv
  obtain ⟨rfl, hR, hE⟩ := hv
  have F : Fx Γ p s m meth c _ cX4_init 2 RX4 wsX4_init none := ⟨⟨B.exec, B.bytes, hml, findClass_of_methodNamed B.named, atoms_spec (ws := wsX4_init) B.pre⟩, hE, B.notSynchronized, B.returns⟩
  have hN : meth.name = "<init>" := (name_of_methodNamed B.named B.method).1
  have hl := lv_entry ([.ref o]) (n := 2) (Nat.le_of_ble_eq_true rfl)
  rw [lg_entry_eq]
  generalize (lg_sl ([.ref o]) ++ List.replicate (2 - (lg_sl ([.ref o])).length) Slot.unset).toArray = ls at hl ⊢
  have hl : lv_has ls 2 [(0, .ref o)] := hl
  exact bX4_init F hN h hR va_S.rf hl ⟨by show _ + _ ≤ _; omega, by show _ + _ ≤ _; omega⟩
/-! X4_allows -/
theorem mX4_allows_0 : Cond.fieldLink RX4 29 "ClearingFiles$Incoming" "underWay" "Z" ∈ wsX4_allows := by decide +kernel
theorem mX4_allows_1 : Cond.fieldLink RX4 33 "ClearingFiles$Incoming" "inBatch" "Z" ∈ wsX4_allows := by decide +kernel
theorem nX4_allows_X4 : ∀ w ∈ u_ws RX4 TX4 8, w ∈ wsX4_allows := fun _ h => List.mem_cons_of_mem _ (List.mem_append_right _ h)
abbrev rmX4_allows : Room := { frames := 0, cells := 0, slots := 0, locals := 0 }
set_option maxRecDepth 100000 in
def wX4_allows (o : Nat) (p1 : Int32) (post : Int32 → St → Prop) (σ0 : St) : Prop :=
  sK σ0 o = 5 ∧ (((sI σ0 256 o 0) = 0 → ((p1 = (1 : Int32) → (post (1 : Int32) σ0)) ∧ (¬ p1 = (1 : Int32) → (post (0 : Int32) σ0)))) ∧ (¬ (sI σ0 256 o 0) = 0 → (sK σ0 o = 5 ∧ (((sI σ0 257 o 0) = 0 → ((p1 = (5 : Int32) → (post (1 : Int32) σ0)) ∧ (¬ p1 = (5 : Int32) → ((p1 = (9 : Int32) → (post (1 : Int32) σ0)) ∧ (¬ p1 = (9 : Int32) → (post (0 : Int32) σ0)))))) ∧ (¬ (sI σ0 257 o 0) = 0 → ((p1 = (6 : Int32) → (post (1 : Int32) σ0)) ∧ (¬ p1 = (6 : Int32) → ((p1 = (8 : Int32) → (post (1 : Int32) σ0)) ∧ (¬ p1 = (8 : Int32) → (post (0 : Int32) σ0))))))))))
set_option maxHeartbeats 4000000 in
set_option maxRecDepth 100000 in
theorem bX4_allows {p : Program} {l : Launch} {e : Env} {s : State} {m : MethodId} {args : Array Value} {below : List Frame} {meth : Method} {c : Code} {Γ : rGam} {o : Nat} {post : Int32 → St → Prop} (F : Fx Γ p s m meth c args cX4_allows 2 RX4 wsX4_allows (some .boolean)) {H : Heap} {locs : List Loc} {ls : Array Slot} {cells slots : Nat} {p1 : Int32} {σ0 : St} (h : wX4_allows o p1 post σ0) (hR : Rep Γ σ0 H) (hS : va_S (rA Γ) s.heap H locs) (hl : lv_has ls 2 [(0, .ref o), (1, .int p1)]) (hc : cells ≤ 0 ∧ slots ≤ 0) : W p l e rmX4_allows s m args below meth c H locs cells slots (rQi Γ below post args s 0 0) (F0 m 0 ls []) := by
  have hx := F.1.1
  have hb := F.1.2.1
  unfold wX4_allows at h
  refine lv_aload_n hx hb dX4_allows_0 rfl (lv_at hl 0 rfl) ?_
  obtain ⟨k1, h⟩ := h
  refine s_getI F hR k1 (by decide) (C := RX4) (T := TX4) (N := 8) rfl nX4_allows_X4 6 (by decide) mX4_allows_0 (f := 256) rfl dX4_allows_1 ?_
  refine lv_if_ne (tgt := 18) hx hb dX4_allows_4 (by decide) (fun c2 => ?_) (fun c2 => ?_)
  · replace h := h.2 c2
    refine lv_aload_n hx hb dX4_allows_18 rfl (lv_at hl 0 rfl) ?_
    obtain ⟨k3, h⟩ := h
    refine s_getI F hR k3 (by decide) (C := RX4) (T := TX4) (N := 8) rfl nX4_allows_X4 7 (by decide) mX4_allows_1 (f := 257) rfl dX4_allows_19 ?_
    refine lv_if_eq (tgt := 43) hx hb dX4_allows_22 (by decide) (fun c4 => ?_) (fun c4 => ?_)
    · replace h := h.1 c4
      refine lv_iload_n hx hb dX4_allows_43 rfl (lv_at hl 1 rfl) ?_
      refine lv_iconst (v := 5) hx hb dX4_allows_44 (by decide) ?_
      refine lv_icmp_eq (tgt := 54) hx hb dX4_allows_45 (by decide) (fun c5 => ?_) (fun c5 => ?_)
      · replace h := h.1 c5
        refine lv_iconst (v := 1) hx hb dX4_allows_54 (by decide) ?_
        refine lv_goto (tgt := 59) hx hb dX4_allows_55 (by decide) ?_
        exact s_zret F hR hS (by unfold isB; decide) h hc dX4_allows_59
      · replace h := h.2 c5
        refine lv_iload_n hx hb dX4_allows_48 rfl (lv_at hl 1 rfl) ?_
        refine lv_bipush (v := 9) hx hb dX4_allows_49 (by decide) ?_
        refine lv_icmp_ne (tgt := 58) hx hb dX4_allows_51 (by decide) (fun c6 => ?_) (fun c6 => ?_)
        · replace h := h.2 c6
          refine lv_iconst (v := 0) hx hb dX4_allows_58 (by decide) ?_
          exact s_zret F hR hS (by unfold isB; decide) h hc dX4_allows_59
        · replace h := h.1 c6
          refine lv_iconst (v := 1) hx hb dX4_allows_54 (by decide) ?_
          refine lv_goto (tgt := 59) hx hb dX4_allows_55 (by decide) ?_
          exact s_zret F hR hS (by unfold isB; decide) h hc dX4_allows_59
    · replace h := h.2 c4
      refine lv_iload_n hx hb dX4_allows_25 rfl (lv_at hl 1 rfl) ?_
      refine lv_bipush (v := 6) hx hb dX4_allows_26 (by decide) ?_
      refine lv_icmp_eq (tgt := 37) hx hb dX4_allows_28 (by decide) (fun c7 => ?_) (fun c7 => ?_)
      · replace h := h.1 c7
        refine lv_iconst (v := 1) hx hb dX4_allows_37 (by decide) ?_
        refine lv_goto (tgt := 42) hx hb dX4_allows_38 (by decide) ?_
        exact s_zret F hR hS (by unfold isB; decide) h hc dX4_allows_42
      · replace h := h.2 c7
        refine lv_iload_n hx hb dX4_allows_31 rfl (lv_at hl 1 rfl) ?_
        refine lv_bipush (v := 8) hx hb dX4_allows_32 (by decide) ?_
        refine lv_icmp_ne (tgt := 41) hx hb dX4_allows_34 (by decide) (fun c8 => ?_) (fun c8 => ?_)
        · replace h := h.2 c8
          refine lv_iconst (v := 0) hx hb dX4_allows_41 (by decide) ?_
          exact s_zret F hR hS (by unfold isB; decide) h hc dX4_allows_42
        · replace h := h.1 c8
          refine lv_iconst (v := 1) hx hb dX4_allows_37 (by decide) ?_
          refine lv_goto (tgt := 42) hx hb dX4_allows_38 (by decide) ?_
          exact s_zret F hR hS (by unfold isB; decide) h hc dX4_allows_42
  · replace h := h.1 c2
    refine lv_iload_n hx hb dX4_allows_7 rfl (lv_at hl 1 rfl) ?_
    refine lv_iconst (v := 1) hx hb dX4_allows_8 (by decide) ?_
    refine lv_icmp_ne (tgt := 16) hx hb dX4_allows_9 (by decide) (fun c9 => ?_) (fun c9 => ?_)
    · replace h := h.2 c9
      refine lv_iconst (v := 0) hx hb dX4_allows_16 (by decide) ?_
      exact s_zret F hR hS (by unfold isB; decide) h hc dX4_allows_17
    · replace h := h.1 c9
      refine lv_iconst (v := 1) hx hb dX4_allows_12 (by decide) ?_
      refine lv_goto (tgt := 17) hx hb dX4_allows_13 (by decide) ?_
      exact s_zret F hR hS (by unfold isB; decide) h hc dX4_allows_17
set_option maxHeartbeats 4000000 in
set_option maxRecDepth 100000 in
theorem kX4_allows (l : Launch) (Γ : rGam) (o : Nat) (p1 : Int32) (post : Int32 → St → Prop) (σ0 : St) (h : wX4_allows o p1 post σ0) : Met l yX4_allows wsX4_allows rmX4_allows (rPc Γ vwCl [.ref o, .int p1] (Rep Γ σ0)) (va_Qi post (fun σ' t => Rep Γ σ' t.heap) (rA Γ)) 0 0 (rA Γ) := by
  refine Met.ofW (cc := cX4_allows) (maxL := 2) (ret := (some .boolean)) (by decide) rfl ?_
  intro p e s m args below meth c s₁ B hml hv
  obtain ⟨rfl, hR, hE⟩ := hv
  have F : Fx Γ p s m meth c _ cX4_allows 2 RX4 wsX4_allows (some .boolean) := ⟨⟨B.exec, B.bytes, hml, findClass_of_methodNamed B.named, atoms_spec (ws := wsX4_allows) B.pre⟩, hE, B.notSynchronized, B.returns⟩
  have hl := lv_entry ([.ref o, .int p1]) (n := 2) (Nat.le_of_ble_eq_true rfl)
  rw [lg_entry_eq]
  generalize (lg_sl ([.ref o, .int p1]) ++ List.replicate (2 - (lg_sl ([.ref o, .int p1])).length) Slot.unset).toArray = ls at hl ⊢
  have hl : lv_has ls 2 [(0, .ref o), (1, .int p1)] := hl
  exact bX4_allows F h hR va_S.rf hl ⟨Nat.le_refl 0, Nat.le_refl 0⟩
/-! X4_begin -/
theorem mX4_begin_0 : Cond.fieldLink RX4 36 "ClearingFiles$Incoming" "sender" "I" ∈ wsX4_begin := by decide +kernel
theorem mX4_begin_1 : Cond.fieldLink RX4 40 "ClearingFiles$Incoming" "number" "I" ∈ wsX4_begin := by decide +kernel
theorem mX4_begin_2 : Cond.fieldLink RX4 20 "ClearingFiles$Incoming" "totals" "LClearingFiles$Totals;" ∈ wsX4_begin := by decide +kernel
theorem mX4_begin_3 : Cond.fieldLink RX4 46 "ClearingFiles$Incoming" "batchCount" "I" ∈ wsX4_begin := by decide +kernel
theorem mX4_begin_4 : Cond.fieldLink RX4 33 "ClearingFiles$Incoming" "inBatch" "Z" ∈ wsX4_begin := by decide +kernel
theorem mX4_begin_5 : Cond.fieldLink RX4 29 "ClearingFiles$Incoming" "underWay" "Z" ∈ wsX4_begin := by decide +kernel
theorem nX4_begin_X4 : ∀ w ∈ u_ws RX4 TX4 8, w ∈ wsX4_begin := fun _ h => List.mem_cons_of_mem _ (List.mem_append_left _ (List.mem_append_right _ h))
abbrev rmX4_begin : Room := { frames := 1, cells := 0, slots := 0, locals := 20 }
set_option maxRecDepth 100000 in
def wX4_begin (o : Nat) (p1 : Int32) (p2 : Int32) (post : St → Prop) (σ0 : St) : Prop :=
  sK σ0 o = 5 ∧ (∀ σ2 : St, σ2 = uI σ0 254 o 0 p1 → (sK σ2 o = 5 ∧ (∀ σ4 : St, σ4 = uI σ2 255 o 0 p2 → (sK σ4 o = 5 ∧ (∀ r6 : Option Nat, r6 = sR σ4 251 o 0 → (∃ a7 : Nat, r6 = some a7 ∧ (sK σ4 a7 = 7 ∧ (wX6_clear a7 (fun (σ9 : St) => sK σ9 o = 5 ∧ (∀ σ12 : St, σ12 = uI σ9 253 o 0 (0 : Int32) → (sK σ12 o = 5 ∧ (∀ σ14 : St, σ14 = uI σ12 257 o 0 (0 : Int32) → (sK σ14 o = 5 ∧ (∀ σ16 : St, σ16 = uI σ14 256 o 0 (1 : Int32) → (post σ16))))))) σ4))))))))
set_option maxHeartbeats 4000000 in
set_option maxRecDepth 100000 in
theorem bX4_begin {p : Program} {l : Launch} {e : Env} {s : State} {m : MethodId} {args : Array Value} {below : List Frame} {meth : Method} {c : Code} {Γ : rGam} {o : Nat} {post : St → Prop} (F : Fx Γ p s m meth c args cX4_begin 3 RX4 wsX4_begin none) {H : Heap} {locs : List Loc} {ls : Array Slot} {cells slots : Nat} {p1 : Int32} {p2 : Int32} {σ0 : St} (h : wX4_begin o p1 p2 post σ0) (hR : Rep Γ σ0 H) (hS : va_S (rA Γ) s.heap H locs) (hl : lv_has ls 3 [(0, .ref o), (1, .int p1), (2, .int p2)]) (hc : cells ≤ 0 ∧ slots ≤ 0) : W p l e rmX4_begin s m args below meth c H locs cells slots (rQv Γ below post args s 0 0) (F0 m 0 ls []) := by
  have hx := F.1.1
  have hb := F.1.2.1
  unfold wX4_begin at h
  refine lv_aload_n hx hb dX4_begin_0 rfl (lv_at hl 0 rfl) ?_
  refine lv_iload_n hx hb dX4_begin_1 rfl (lv_at hl 1 rfl) ?_
  obtain ⟨k1, h⟩ := h
  refine s_putI (v := p1) F hR hS k1 (by decide) (C := RX4) (T := TX4) (N := 8) rfl nX4_begin_X4 tyX4 tyX4_ok nmX4 4 (by decide) mX4_begin_0 (Or.inl rfl) rfl rfl (f := 254) rfl rnd_5 dX4_begin_2 (fun σ2 eσ2 H locs hR hS => ?_)
  replace h := h σ2 eσ2
  refine lv_aload_n hx hb dX4_begin_5 rfl (lv_at hl 0 rfl) ?_
  refine lv_iload_n hx hb dX4_begin_6 rfl (lv_at hl 2 rfl) ?_
  obtain ⟨k3, h⟩ := h
  refine s_putI (v := p2) F hR hS k3 (by decide) (C := RX4) (T := TX4) (N := 8) rfl nX4_begin_X4 tyX4 tyX4_ok nmX4 5 (by decide) mX4_begin_1 (Or.inl rfl) rfl rfl (f := 255) rfl rnd_5 dX4_begin_7 (fun σ4 eσ4 H locs hR hS => ?_)
  replace h := h σ4 eσ4
  refine lv_aload_n hx hb dX4_begin_10 rfl (lv_at hl 0 rfl) ?_
  obtain ⟨k5, h⟩ := h
  refine s_getR F hR k5 (by decide) (C := RX4) (T := TX4) (N := 8) rfl nX4_begin_X4 1 (by decide) mX4_begin_2 (f := 251) rfl dX4_begin_11 (fun r6 er6 => ?_)
  replace h := h r6 er6
  obtain ⟨a7, ea7, h⟩ := h
  subst ea7
  obtain ⟨k8, h⟩ := h
  refine s_cv hS (k_runV F hR hS hl 0 [] (kX6_clear l Γ a7 _ _ h) gX4_begin_X6_clear rfl rfl rfl (by decide +kernel) ⟨Nat.le_of_ble_eq_true rfl, Nat.le_of_ble_eq_true rfl⟩ (s_recv F hR k8 (by decide) (C := RX6) (T := TX6) (N := 4) rfl) rfl (Nat.le_of_ble_eq_true rfl) dX4_begin_14 ⟨by show _ ≤ 0; omega, by show _ ≤ 0; omega⟩) (fun σ9 H locs h10 hR hS => ?_)
  refine lv_aload_n hx hb dX4_begin_17 rfl (lv_at hl 0 rfl) ?_
  refine lv_iconst (v := 0) hx hb dX4_begin_18 (by decide) ?_
  obtain ⟨k11, h10⟩ := h10
  refine s_putI (v := (0 : Int32)) F hR hS k11 (by decide) (C := RX4) (T := TX4) (N := 8) rfl nX4_begin_X4 tyX4 tyX4_ok nmX4 3 (by decide) mX4_begin_3 (Or.inl rfl) rfl rfl (f := 253) rfl rnd_5 dX4_begin_19 (fun σ12 eσ12 H locs hR hS => ?_)
  replace h10 := h10 σ12 eσ12
  refine lv_aload_n hx hb dX4_begin_22 rfl (lv_at hl 0 rfl) ?_
  refine lv_iconst (v := 0) hx hb dX4_begin_23 (by decide) ?_
  obtain ⟨k13, h10⟩ := h10
  refine s_putI (v := (0 : Int32)) F hR hS k13 (by decide) (C := RX4) (T := TX4) (N := 8) rfl nX4_begin_X4 tyX4 tyX4_ok nmX4 7 (by decide) mX4_begin_4 (Or.inl rfl) (isB.nar (v := (0 : Int32)) (by unfold isB; decide)) (isB.fit (v := (0 : Int32)) (by unfold isB; decide)) (f := 257) rfl rnd_5 dX4_begin_24 (fun σ14 eσ14 H locs hR hS => ?_)
  replace h10 := h10 σ14 eσ14
  refine lv_aload_n hx hb dX4_begin_27 rfl (lv_at hl 0 rfl) ?_
  refine lv_iconst (v := 1) hx hb dX4_begin_28 (by decide) ?_
  obtain ⟨k15, h10⟩ := h10
  refine s_putI (v := (1 : Int32)) F hR hS k15 (by decide) (C := RX4) (T := TX4) (N := 8) rfl nX4_begin_X4 tyX4 tyX4_ok nmX4 6 (by decide) mX4_begin_5 (Or.inl rfl) (isB.nar (v := (1 : Int32)) (by unfold isB; decide)) (isB.fit (v := (1 : Int32)) (by unfold isB; decide)) (f := 256) rfl rnd_5 dX4_begin_29 (fun σ16 eσ16 H locs hR hS => ?_)
  replace h10 := h10 σ16 eσ16
  exact s_vret F hR hS h10 hc dX4_begin_32
set_option maxHeartbeats 4000000 in
set_option maxRecDepth 100000 in
theorem kX4_begin (l : Launch) (Γ : rGam) (o : Nat) (p1 : Int32) (p2 : Int32) (post : St → Prop) (σ0 : St) (h : wX4_begin o p1 p2 post σ0) : Met l yX4_begin wsX4_begin rmX4_begin (rPc Γ vwCl [.ref o, .int p1, .int p2] (Rep Γ σ0)) (va_Qv post (fun σ' t => Rep Γ σ' t.heap) (rA Γ)) 0 0 (rA Γ) := by
  refine Met.ofW (cc := cX4_begin) (maxL := 3) (ret := none) (by decide) rfl ?_
  intro p e s m args below meth c s₁ B hml hv
  obtain ⟨rfl, hR, hE⟩ := hv
  have F : Fx Γ p s m meth c _ cX4_begin 3 RX4 wsX4_begin none := ⟨⟨B.exec, B.bytes, hml, findClass_of_methodNamed B.named, atoms_spec (ws := wsX4_begin) B.pre⟩, hE, B.notSynchronized, B.returns⟩
  have hl := lv_entry ([.ref o, .int p1, .int p2]) (n := 3) (Nat.le_of_ble_eq_true rfl)
  rw [lg_entry_eq]
  generalize (lg_sl ([.ref o, .int p1, .int p2]) ++ List.replicate (3 - (lg_sl ([.ref o, .int p1, .int p2])).length) Slot.unset).toArray = ls at hl ⊢
  have hl : lv_has ls 3 [(0, .ref o), (1, .int p1), (2, .int p2)] := hl
  exact bX4_begin F h hR va_S.rf hl ⟨Nat.le_refl 0, Nat.le_refl 0⟩
/-! X4_end -/
theorem mX4_end_0 : Cond.fieldLink RX4 29 "ClearingFiles$Incoming" "underWay" "Z" ∈ wsX4_end := by decide +kernel
theorem nX4_end_X4 : ∀ w ∈ u_ws RX4 TX4 8, w ∈ wsX4_end := fun _ h => List.mem_cons_of_mem _ (List.mem_append_right _ h)
abbrev rmX4_end : Room := { frames := 0, cells := 0, slots := 0, locals := 0 }
set_option maxRecDepth 100000 in
def wX4_end (o : Nat)  (post : St → Prop) (σ0 : St) : Prop :=
  sK σ0 o = 5 ∧ (∀ σ2 : St, σ2 = uI σ0 256 o 0 (0 : Int32) → (post σ2))
set_option maxHeartbeats 4000000 in
set_option maxRecDepth 100000 in
theorem bX4_end {p : Program} {l : Launch} {e : Env} {s : State} {m : MethodId} {args : Array Value} {below : List Frame} {meth : Method} {c : Code} {Γ : rGam} {o : Nat} {post : St → Prop} (F : Fx Γ p s m meth c args cX4_end 1 RX4 wsX4_end none) {H : Heap} {locs : List Loc} {ls : Array Slot} {cells slots : Nat}  {σ0 : St} (h : wX4_end o  post σ0) (hR : Rep Γ σ0 H) (hS : va_S (rA Γ) s.heap H locs) (hl : lv_has ls 1 [(0, .ref o)]) (hc : cells ≤ 0 ∧ slots ≤ 0) : W p l e rmX4_end s m args below meth c H locs cells slots (rQv Γ below post args s 0 0) (F0 m 0 ls []) := by
  have hx := F.1.1
  have hb := F.1.2.1
  unfold wX4_end at h
  refine lv_aload_n hx hb dX4_end_0 rfl (lv_at hl 0 rfl) ?_
  refine lv_iconst (v := 0) hx hb dX4_end_1 (by decide) ?_
  obtain ⟨k1, h⟩ := h
  refine s_putI (v := (0 : Int32)) F hR hS k1 (by decide) (C := RX4) (T := TX4) (N := 8) rfl nX4_end_X4 tyX4 tyX4_ok nmX4 6 (by decide) mX4_end_0 (Or.inl rfl) (isB.nar (v := (0 : Int32)) (by unfold isB; decide)) (isB.fit (v := (0 : Int32)) (by unfold isB; decide)) (f := 256) rfl rnd_5 dX4_end_2 (fun σ2 eσ2 H locs hR hS => ?_)
  replace h := h σ2 eσ2
  exact s_vret F hR hS h hc dX4_end_5
set_option maxHeartbeats 4000000 in
set_option maxRecDepth 100000 in
theorem kX4_end (l : Launch) (Γ : rGam) (o : Nat)  (post : St → Prop) (σ0 : St) (h : wX4_end o  post σ0) : Met l yX4_end wsX4_end rmX4_end (rPc Γ vwCl [.ref o] (Rep Γ σ0)) (va_Qv post (fun σ' t => Rep Γ σ' t.heap) (rA Γ)) 0 0 (rA Γ) := by
  refine Met.ofW (cc := cX4_end) (maxL := 1) (ret := none) (by decide) rfl ?_
  intro p e s m args below meth c s₁ B hml hv
  obtain ⟨rfl, hR, hE⟩ := hv
  have F : Fx Γ p s m meth c _ cX4_end 1 RX4 wsX4_end none := ⟨⟨B.exec, B.bytes, hml, findClass_of_methodNamed B.named, atoms_spec (ws := wsX4_end) B.pre⟩, hE, B.notSynchronized, B.returns⟩
  have hl := lv_entry ([.ref o]) (n := 1) (Nat.le_of_ble_eq_true rfl)
  rw [lg_entry_eq]
  generalize (lg_sl ([.ref o]) ++ List.replicate (1 - (lg_sl ([.ref o])).length) Slot.unset).toArray = ls at hl ⊢
  have hl : lv_has ls 1 [(0, .ref o)] := hl
  exact bX4_end F h hR va_S.rf hl ⟨Nat.le_refl 0, Nat.le_refl 0⟩
