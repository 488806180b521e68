/-! X8_join -/
theorem mX8_join_0 : Cond.fieldLink RX8 119 "ClearingFilesModel" "banks" "I" ∈ wsX8_join := by decide +kernel
theorem mX8_join_1 : Cond.fieldLink RX8 7 "ClearingFilesModel" "routings" "[I" ∈ wsX8_join := by decide +kernel
theorem nX8_join_X8 : ∀ w ∈ u_ws RX8 TX8 46, w ∈ wsX8_join := fun _ h => List.mem_cons_of_mem _ (List.mem_append_right _ h)
abbrev rmX8_join : Room := { frames := 1, cells := 0, slots := 0, locals := 25 }
set_option maxRecDepth 100000 in
def wX8_join (o : Nat) (p1 : Int32) (post : Int32 → St → Prop) (σ0 : St) : Prop :=
  wX8_within p1 (10000 : Int32) (fun (x3 : Int32) (σ1 : St) => (x3 = 0 → (post (-1 : Int32) σ1)) ∧ (¬ x3 = 0 → (wX8_right p1 (4 : Int32) (fun (x7 : Int32) (σ5 : St) => (x7 = 0 → (post (-1 : Int32) σ5)) ∧ (¬ x7 = 0 → (sK σ5 o = 9 ∧ (wX8_bankOf o p1 (fun (x12 : Int32) (σ10 : St) => (x12 < 0 → (sK σ10 o = 9 ∧ (((sI σ10 450 o 0) = (5 : Int32) → (post (-3 : Int32) σ10)) ∧ (¬ (sI σ10 450 o 0) = (5 : Int32) → (sK σ10 o = 9 ∧ (∀ r17 : Option Nat, r17 = sR σ10 451 o 0 → (sK σ10 o = 9 ∧ (∃ a19 : Nat, r17 = some a19 ∧ (sK σ10 a19 = 1451 ∧ (vp_in (sI σ10 450 o 0) 5 ∧ (∀ σ22 : St, σ22 = uI σ10 1451 a19 ((sI σ10 450 o 0).toNatClampNeg) p1 → (sK σ22 o = 9 ∧ (sK σ22 o = 9 ∧ (∀ σ25 : St, σ25 = uI σ22 450 o 0 ((sI σ22 450 o 0) + (1 : Int32)) → (sK σ25 o = 9 ∧ (post ((sI σ25 450 o 0) - (1 : Int32)) σ25)))))))))))))))) ∧ (¬ x12 < 0 → (post (-1 : Int32) σ10))) σ5)))) σ1))) σ0
set_option maxHeartbeats 4000000 in
set_option maxRecDepth 100000 in
theorem bX8_join {p : Program} {l : Launch} {e : Env} {s : State} {m : MethodId} {args : Array Value} {below : List Frame} {meth : Method} {c : Code} {Γ : rGam} {o : Nat} {post : Int32 → St → Prop} (F : Fx Γ p s m meth c args cX8_join 2 RX8 wsX8_join (some .int)) {H : Heap} {locs : List Loc} {ls : Array Slot} {cells slots : Nat} {p1 : Int32} {σ0 : St} (h : wX8_join o p1 post σ0) (hR : Rep Γ σ0 H) (hS : va_S (rA Γ) s.heap H locs) (hl : lv_has ls 2 [(0, .ref o), (1, .int p1)]) (hc : cells ≤ 0 ∧ slots ≤ 0) : W p l e rmX8_join s m args below meth c H locs cells slots (rQi Γ below post args s 0 0) (F0 m 0 ls []) := by
  have hx := F.1.1
  have hb := F.1.2.1
  unfold wX8_join at h
  refine lv_iload_n hx hb dX8_join_0 rfl (lv_at hl 1 rfl) ?_
  refine lv_sipush (v := 10000) hx hb dX8_join_1 (by decide) ?_
  refine s_ci hS (k_runS F hR hS hl 2 [.int p1, .int (10000 : Int32)] (kX8_within l Γ p1 (10000 : Int32) _ _ h) gX8_join_X8_within rfl rfl rfl (by decide +kernel) ⟨Nat.le_of_ble_eq_true rfl, Nat.le_of_ble_eq_true rfl⟩ rfl (Nat.le_of_ble_eq_true rfl) dX8_join_4 ⟨by show _ ≤ 0; omega, by show _ ≤ 0; omega⟩) (fun x3 σ1 H locs h2 hR hS => ?_)
  refine lv_if_eq (tgt := 26) hx hb dX8_join_7 (by decide) (fun c4 => ?_) (fun c4 => ?_)
  · replace h2 := h2.1 c4
    refine lv_iconst (v := -1) hx hb dX8_join_26 (by decide) ?_
    exact s_iret F hR hS h2 hc dX8_join_27
  · replace h2 := h2.2 c4
    refine lv_iload_n hx hb dX8_join_10 rfl (lv_at hl 1 rfl) ?_
    refine lv_iconst (v := 4) hx hb dX8_join_11 (by decide) ?_
    refine s_ci hS (k_runS F hR hS hl 2 [.int p1, .int (4 : Int32)] (kX8_right l Γ p1 (4 : Int32) _ _ h2) gX8_join_X8_right rfl rfl rfl (by decide +kernel) ⟨Nat.le_of_ble_eq_true rfl, Nat.le_of_ble_eq_true rfl⟩ rfl (Nat.le_of_ble_eq_true rfl) dX8_join_12 ⟨by show _ ≤ 0; omega, by show _ ≤ 0; omega⟩) (fun x7 σ5 H locs h6 hR hS => ?_)
    refine lv_if_eq (tgt := 26) hx hb dX8_join_15 (by decide) (fun c8 => ?_) (fun c8 => ?_)
    · replace h6 := h6.1 c8
      refine lv_iconst (v := -1) hx hb dX8_join_26 (by decide) ?_
      exact s_iret F hR hS h6 hc dX8_join_27
    · replace h6 := h6.2 c8
      refine lv_aload_n hx hb dX8_join_18 rfl (lv_at hl 0 rfl) ?_
      refine lv_iload_n hx hb dX8_join_19 rfl (lv_at hl 1 rfl) ?_
      obtain ⟨k9, h6⟩ := h6
      refine s_ci hS (k_runV F hR hS hl 1 [.int p1] (kX8_bankOf l Γ o p1 _ _ h6) gX8_join_X8_bankOf rfl rfl rfl (by decide +kernel) ⟨Nat.le_of_ble_eq_true rfl, Nat.le_of_ble_eq_true rfl⟩ (s_recv F hR k9 (by decide) (C := RX8) (T := TX8) (N := 46) rfl) rfl (Nat.le_of_ble_eq_true rfl) dX8_join_20 ⟨by show _ ≤ 0; omega, by show _ ≤ 0; omega⟩) (fun x12 σ10 H locs h11 hR hS => ?_)
      refine lv_if_lt (tgt := 28) hx hb dX8_join_23 (by decide) (fun c13 => ?_) (fun c13 => ?_)
      · replace h11 := h11.1 c13
        refine lv_aload_n hx hb dX8_join_28 rfl (lv_at hl 0 rfl) ?_
        obtain ⟨k14, h11⟩ := h11
        refine s_getI F hR k14 (by decide) (C := RX8) (T := TX8) (N := 46) rfl nX8_join_X8 0 (by decide) mX8_join_0 (f := 450) rfl dX8_join_29 ?_
        refine lv_iconst (v := 5) hx hb dX8_join_32 (by decide) ?_
        refine lv_icmp_ne (tgt := 39) hx hb dX8_join_33 (by decide) (fun c15 => ?_) (fun c15 => ?_)
        · replace h11 := h11.2 c15
          refine lv_aload_n hx hb dX8_join_39 rfl (lv_at hl 0 rfl) ?_
          obtain ⟨k16, h11⟩ := h11
          refine s_getR F hR k16 (by decide) (C := RX8) (T := TX8) (N := 46) rfl nX8_join_X8 1 (by decide) mX8_join_1 (f := 451) rfl dX8_join_40 (fun r17 er17 => ?_)
          replace h11 := h11 r17 er17
          refine lv_aload_n hx hb dX8_join_43 rfl (lv_at hl 0 rfl) ?_
          obtain ⟨k18, h11⟩ := h11
          refine s_getI F hR k18 (by decide) (C := RX8) (T := TX8) (N := 46) rfl nX8_join_X8 0 (by decide) mX8_join_0 (f := 450) rfl dX8_join_44 ?_
          refine lv_iload_n hx hb dX8_join_47 rfl (lv_at hl 1 rfl) ?_
          obtain ⟨a19, ea19, h11⟩ := h11
          subst ea19
          obtain ⟨k20, h11⟩ := h11
          obtain ⟨z21, h11⟩ := h11
          refine s_iast F hR hS k20 (by decide) rfl z21 dX8_join_48 (fun σ22 eσ22 H locs hR hS => ?_)
          replace h11 := h11 σ22 eσ22
          refine lv_aload_n hx hb dX8_join_49 rfl (lv_at hl 0 rfl) ?_
          refine lv_dup hx hb dX8_join_50 rfl ?_
          obtain ⟨k23, h11⟩ := h11
          refine s_getI F hR k23 (by decide) (C := RX8) (T := TX8) (N := 46) rfl nX8_join_X8 0 (by decide) mX8_join_0 (f := 450) rfl dX8_join_51 ?_
          refine lv_iconst (v := 1) hx hb dX8_join_54 (by decide) ?_
          refine lv_iadd hx hb dX8_join_55 ?_
          obtain ⟨k24, h11⟩ := h11
          refine s_putI (v := ((sI σ22 450 o 0) + (1 : Int32))) F hR hS k24 (by decide) (C := RX8) (T := TX8) (N := 46) rfl nX8_join_X8 tyX8 tyX8_ok nmX8 0 (by decide) mX8_join_0 (Or.inl rfl) rfl rfl (f := 450) rfl rnd_9 dX8_join_56 (fun σ25 eσ25 H locs hR hS => ?_)
          replace h11 := h11 σ25 eσ25
          refine lv_aload_n hx hb dX8_join_59 rfl (lv_at hl 0 rfl) ?_
          obtain ⟨k26, h11⟩ := h11
          refine s_getI F hR k26 (by decide) (C := RX8) (T := TX8) (N := 46) rfl nX8_join_X8 0 (by decide) mX8_join_0 (f := 450) rfl dX8_join_60 ?_
          refine lv_iconst (v := 1) hx hb dX8_join_63 (by decide) ?_
          refine lv_isub hx hb dX8_join_64 ?_
          exact s_iret F hR hS h11 hc dX8_join_65
        · replace h11 := h11.1 c15
          refine lv_bipush (v := -3) hx hb dX8_join_36 (by decide) ?_
          exact s_iret F hR hS h11 hc dX8_join_38
      · replace h11 := h11.2 c13
        refine lv_iconst (v := -1) hx hb dX8_join_26 (by decide) ?_
        exact s_iret F hR hS h11 hc dX8_join_27
set_option maxHeartbeats 4000000 in
set_option maxRecDepth 100000 in
theorem kX8_join (l : Launch) (Γ : rGam) (o : Nat) (p1 : Int32) (post : Int32 → St → Prop) (σ0 : St) (h : wX8_join o p1 post σ0) : Met l yX8_join wsX8_join rmX8_join (rPc Γ vwCl [.ref o, .int p1] (Rep Γ σ0)) (va_Qi post (fun σ' t => Rep Γ σ' t.heap) (rA Γ)) 0 0 (rA Γ) := by
  refine Met.ofW (cc := cX8_join) (maxL := 2) (ret := (some .int)) (by decide) rfl ?_
  intro p e s m args below meth c s₁ B hml hv
  obtain ⟨rfl, hR, hE⟩ := hv
  have F : Fx Γ p s m meth c _ cX8_join 2 RX8 wsX8_join (some .int) := ⟨⟨B.exec, B.bytes, hml, findClass_of_methodNamed B.named, atoms_spec (ws := wsX8_join) B.pre⟩, hE, B.notSynchronized, B.returns⟩
  have hl := lv_entry ([.ref o, .int p1]) (n := 2) (Nat.le_of_ble_eq_true rfl)
  rw [lg_entry_eq]
  generalize (lg_sl ([.ref o, .int p1]) ++ List.replicate (2 - (lg_sl ([.ref o, .int p1])).length) Slot.unset).toArray = ls at hl ⊢
  have hl : lv_has ls 2 [(0, .ref o), (1, .int p1)] := hl
  exact bX8_join F h hR va_S.rf hl ⟨Nat.le_refl 0, Nat.le_refl 0⟩
/-! X8_open -/
theorem mX8_open_0 : Cond.fieldLink RX8 119 "ClearingFilesModel" "banks" "I" ∈ wsX8_open := by decide +kernel
theorem mX8_open_1 : Cond.fieldLink RX8 134 "ClearingFilesModel" "accounts" "I" ∈ wsX8_open := by decide +kernel
theorem mX8_open_2 : Cond.fieldLink RX8 17 "ClearingFilesModel" "owner" "[I" ∈ wsX8_open := by decide +kernel
theorem mX8_open_3 : Cond.fieldLink RX8 20 "ClearingFilesModel" "number" "[I" ∈ wsX8_open := by decide +kernel
theorem mX8_open_4 : Cond.fieldLink RX8 23 "ClearingFilesModel" "balances" "[J" ∈ wsX8_open := by decide +kernel
theorem mX8_open_5 : Cond.constant RX8 137 (1000000) ∈ wsX8_open := by decide +kernel
theorem mX8_open_6 : Cond.constant RX8 138 (1000001) ∈ wsX8_open := by decide +kernel
theorem nX8_open_X8 : ∀ w ∈ u_ws RX8 TX8 46, w ∈ wsX8_open := fun _ h => List.mem_cons_of_mem _ (List.mem_append_right _ h)
abbrev rmX8_open : Room := { frames := 1, cells := 0, slots := 0, locals := 25 }
set_option maxRecDepth 100000 in
def wX8_open_43 (o : Nat) (post : Int32 → St → Prop) (x1 : Int32) (x2 : Int32) (x3 : Int32) (y0 : Int32) (σ0 : St) : Prop :=
  (y0 = 0 → (post (0 : Int32) σ0)) ∧ (¬ y0 = 0 → (sK σ0 o = 9 ∧ (wX8_accountOf o x1 x2 (fun (x11 : Int32) (σ9 : St) => (0 ≤ x11 → (post (0 : Int32) σ9)) ∧ (¬ 0 ≤ x11 → (sK σ9 o = 9 ∧ (((sI σ9 454 o 0) = (12 : Int32) → (post (0 : Int32) σ9)) ∧ (¬ (sI σ9 454 o 0) = (12 : Int32) → (sK σ9 o = 9 ∧ (∀ r16 : Option Nat, r16 = sR σ9 455 o 0 → (sK σ9 o = 9 ∧ (∃ a18 : Nat, r16 = some a18 ∧ (sK σ9 a18 = 1455 ∧ (vp_in (sI σ9 454 o 0) 12 ∧ (∀ σ21 : St, σ21 = uI σ9 1455 a18 ((sI σ9 454 o 0).toNatClampNeg) x1 → (sK σ21 o = 9 ∧ (∀ r23 : Option Nat, r23 = sR σ21 456 o 0 → (sK σ21 o = 9 ∧ (∃ a25 : Nat, r23 = some a25 ∧ (sK σ21 a25 = 1456 ∧ (vp_in (sI σ21 454 o 0) 12 ∧ (∀ σ28 : St, σ28 = uI σ21 1456 a25 ((sI σ21 454 o 0).toNatClampNeg) x2 → (sK σ28 o = 9 ∧ (∀ r30 : Option Nat, r30 = sR σ28 457 o 0 → (sK σ28 o = 9 ∧ (∃ a32 : Nat, r30 = some a32 ∧ (sK σ28 a32 = 1457 ∧ (vp_in (sI σ28 454 o 0) 12 ∧ (∀ σ35 : St, σ35 = uJ σ28 1457 a32 ((sI σ28 454 o 0).toNatClampNeg) x3.toInt64 → (sK σ35 o = 9 ∧ (sK σ35 o = 9 ∧ (∀ σ38 : St, σ38 = uI σ35 454 o 0 ((sI σ35 454 o 0) + (1 : Int32)) → (post (1 : Int32) σ38)))))))))))))))))))))))))))))) σ0)))
set_option maxHeartbeats 4000000 in
set_option maxRecDepth 100000 in
theorem bX8_open_43 {p : Program} {l : Launch} {e : Env} {s : State} {m : MethodId} {args : Array Value} {below : List Frame} {meth : Method} {c : Code} {Γ : rGam} {o : Nat} {post : Int32 → St → Prop} (F : Fx Γ p s m meth c args cX8_open 5 RX8 wsX8_open (some .boolean)) {H : Heap} {locs : List Loc} {ls : Array Slot} {cells slots : Nat} {x1 : Int32} {x2 : Int32} {x3 : Int32} {y0 : Int32} {σ0 : St} (h : wX8_open_43 o post x1 x2 x3 y0 σ0) (hR : Rep Γ σ0 H) (hS : va_S (rA Γ) s.heap H locs) (hl : lv_has ls 5 [(0, .ref o), (1, .int x1), (2, .int x2), (3, .int x3)]) (hc : cells ≤ 0 ∧ slots ≤ 0) : W p l e rmX8_open s m args below meth c H locs cells slots (rQi Γ below post args s 0 0) (F0 m 43 ls [.int y0]) := by
  have hx := F.1.1
  have hb := F.1.2.1
  unfold wX8_open_43 at h
  refine s_istore (lk := [(3, .int x3)]) (lv' := [(4, .int y0), (0, .ref o), (1, .int x1), (2, .int x2), (3, .int x3)]) hx hb dX8_open_43 hl (by decide) rfl (lk_1 rfl) rfl (fun ls hl6 => ?_)
  refine lv_iload hx hb dX8_open_45 (lv_at hl6 0 rfl) ?_
  refine lv_if_eq (tgt := 68) hx hb dX8_open_47 (by decide) (fun c7 => ?_) (fun c7 => ?_)
  · replace h := h.1 c7
    refine lv_iconst (v := 0) hx hb dX8_open_68 (by decide) ?_
    exact s_zret F hR hS (by unfold isB; decide) h hc dX8_open_69
  · replace h := h.2 c7
    refine lv_aload_n hx hb dX8_open_50 rfl (lv_at hl6 1 rfl) ?_
    refine lv_iload_n hx hb dX8_open_51 rfl (lv_at hl6 2 rfl) ?_
    refine lv_iload_n hx hb dX8_open_52 rfl (lv_at hl6 3 rfl) ?_
    obtain ⟨k8, h⟩ := h
    refine s_ci hS (k_runV F hR hS hl6 2 [.int x1, .int x2] (kX8_accountOf l Γ o x1 x2 _ _ h) gX8_open_X8_accountOf rfl rfl rfl (by decide +kernel) ⟨Nat.le_of_ble_eq_true rfl, Nat.le_of_ble_eq_true rfl⟩ (s_recv F hR k8 (by decide) (C := RX8) (T := TX8) (N := 46) rfl) rfl (Nat.le_of_ble_eq_true rfl) dX8_open_53 ⟨by show _ ≤ 0; omega, by show _ ≤ 0; omega⟩) (fun x11 σ9 H locs h10 hR hS => ?_)
    refine lv_if_ge (tgt := 68) hx hb dX8_open_56 (by decide) (fun c12 => ?_) (fun c12 => ?_)
    · replace h10 := h10.1 c12
      refine lv_iconst (v := 0) hx hb dX8_open_68 (by decide) ?_
      exact s_zret F hR hS (by unfold isB; decide) h10 hc dX8_open_69
    · replace h10 := h10.2 c12
      refine lv_aload_n hx hb dX8_open_59 rfl (lv_at hl6 1 rfl) ?_
      obtain ⟨k13, h10⟩ := h10
      refine s_getI F hR k13 (by decide) (C := RX8) (T := TX8) (N := 46) rfl nX8_open_X8 4 (by decide) mX8_open_1 (f := 454) rfl dX8_open_60 ?_
      refine lv_bipush (v := 12) hx hb dX8_open_63 (by decide) ?_
      refine lv_icmp_ne (tgt := 70) hx hb dX8_open_65 (by decide) (fun c14 => ?_) (fun c14 => ?_)
      · replace h10 := h10.2 c14
        refine lv_aload_n hx hb dX8_open_70 rfl (lv_at hl6 1 rfl) ?_
        obtain ⟨k15, h10⟩ := h10
        refine s_getR F hR k15 (by decide) (C := RX8) (T := TX8) (N := 46) rfl nX8_open_X8 5 (by decide) mX8_open_2 (f := 455) rfl dX8_open_71 (fun r16 er16 => ?_)
        replace h10 := h10 r16 er16
        refine lv_aload_n hx hb dX8_open_74 rfl (lv_at hl6 1 rfl) ?_
        obtain ⟨k17, h10⟩ := h10
        refine s_getI F hR k17 (by decide) (C := RX8) (T := TX8) (N := 46) rfl nX8_open_X8 4 (by decide) mX8_open_1 (f := 454) rfl dX8_open_75 ?_
        refine lv_iload_n hx hb dX8_open_78 rfl (lv_at hl6 2 rfl) ?_
        obtain ⟨a18, ea18, h10⟩ := h10
        subst ea18
        obtain ⟨k19, h10⟩ := h10
        obtain ⟨z20, h10⟩ := h10
        refine s_iast F hR hS k19 (by decide) rfl z20 dX8_open_79 (fun σ21 eσ21 H locs hR hS => ?_)
        replace h10 := h10 σ21 eσ21
        refine lv_aload_n hx hb dX8_open_80 rfl (lv_at hl6 1 rfl) ?_
        obtain ⟨k22, h10⟩ := h10
        refine s_getR F hR k22 (by decide) (C := RX8) (T := TX8) (N := 46) rfl nX8_open_X8 6 (by decide) mX8_open_3 (f := 456) rfl dX8_open_81 (fun r23 er23 => ?_)
        replace h10 := h10 r23 er23
        refine lv_aload_n hx hb dX8_open_84 rfl (lv_at hl6 1 rfl) ?_
        obtain ⟨k24, h10⟩ := h10
        refine s_getI F hR k24 (by decide) (C := RX8) (T := TX8) (N := 46) rfl nX8_open_X8 4 (by decide) mX8_open_1 (f := 454) rfl dX8_open_85 ?_
        refine lv_iload_n hx hb dX8_open_88 rfl (lv_at hl6 3 rfl) ?_
        obtain ⟨a25, ea25, h10⟩ := h10
        subst ea25
        obtain ⟨k26, h10⟩ := h10
        obtain ⟨z27, h10⟩ := h10
        refine s_iast F hR hS k26 (by decide) rfl z27 dX8_open_89 (fun σ28 eσ28 H locs hR hS => ?_)
        replace h10 := h10 σ28 eσ28
        refine lv_aload_n hx hb dX8_open_90 rfl (lv_at hl6 1 rfl) ?_
        obtain ⟨k29, h10⟩ := h10
        refine s_getR F hR k29 (by decide) (C := RX8) (T := TX8) (N := 46) rfl nX8_open_X8 7 (by decide) mX8_open_4 (f := 457) rfl dX8_open_91 (fun r30 er30 => ?_)
        replace h10 := h10 r30 er30
        refine lv_aload_n hx hb dX8_open_94 rfl (lv_at hl6 1 rfl) ?_
        obtain ⟨k31, h10⟩ := h10
        refine s_getI F hR k31 (by decide) (C := RX8) (T := TX8) (N := 46) rfl nX8_open_X8 4 (by decide) mX8_open_1 (f := 454) rfl dX8_open_95 ?_
        refine lv_iload_n hx hb dX8_open_98 rfl (lv_at hl6 4 rfl) ?_
        refine lv_i2l hx hb dX8_open_99 rfl ?_
        obtain ⟨a32, ea32, h10⟩ := h10
        subst ea32
        obtain ⟨k33, h10⟩ := h10
        obtain ⟨z34, h10⟩ := h10
        refine s_last F hR hS k33 (by decide) rfl z34 dX8_open_100 (fun σ35 eσ35 H locs hR hS => ?_)
        replace h10 := h10 σ35 eσ35
        refine lv_aload_n hx hb dX8_open_101 rfl (lv_at hl6 1 rfl) ?_
        refine lv_dup hx hb dX8_open_102 rfl ?_
        obtain ⟨k36, h10⟩ := h10
        refine s_getI F hR k36 (by decide) (C := RX8) (T := TX8) (N := 46) rfl nX8_open_X8 4 (by decide) mX8_open_1 (f := 454) rfl dX8_open_103 ?_
        refine lv_iconst (v := 1) hx hb dX8_open_106 (by decide) ?_
        refine lv_iadd hx hb dX8_open_107 ?_
        obtain ⟨k37, h10⟩ := h10
        refine s_putI (v := ((sI σ35 454 o 0) + (1 : Int32))) F hR hS k37 (by decide) (C := RX8) (T := TX8) (N := 46) rfl nX8_open_X8 tyX8 tyX8_ok nmX8 4 (by decide) mX8_open_1 (Or.inl rfl) rfl rfl (f := 454) rfl rnd_9 dX8_open_108 (fun σ38 eσ38 H locs hR hS => ?_)
        replace h10 := h10 σ38 eσ38
        refine lv_iconst (v := 1) hx hb dX8_open_111 (by decide) ?_
        exact s_zret F hR hS (by unfold isB; decide) h10 hc dX8_open_112
      · replace h10 := h10.1 c14
        refine lv_iconst (v := 0) hx hb dX8_open_68 (by decide) ?_
        exact s_zret F hR hS (by unfold isB; decide) h10 hc dX8_open_69

set_option maxRecDepth 100000 in
def wX8_open_42 (o : Nat) (post : Int32 → St → Prop) (x1 : Int32) (x2 : Int32) (x3 : Int32) (σ0 : St) : Prop :=
  wX8_open_43 o post x1 x2 x3 (0 : Int32) σ0
set_option maxHeartbeats 4000000 in
set_option maxRecDepth 100000 in
theorem bX8_open_42 {p : Program} {l : Launch} {e : Env} {s : State} {m : MethodId} {args : Array Value} {below : List Frame} {meth : Method} {c : Code} {Γ : rGam} {o : Nat} {post : Int32 → St → Prop} (F : Fx Γ p s m meth c args cX8_open 5 RX8 wsX8_open (some .boolean)) {H : Heap} {locs : List Loc} {ls : Array Slot} {cells slots : Nat} {x1 : Int32} {x2 : Int32} {x3 : Int32} {σ0 : St} (h : wX8_open_42 o post x1 x2 x3 σ0) (hR : Rep Γ σ0 H) (hS : va_S (rA Γ) s.heap H locs) (hl : lv_has ls 5 [(0, .ref o), (1, .int x1), (2, .int x2), (3, .int x3)]) (hc : cells ≤ 0 ∧ slots ≤ 0) : W p l e rmX8_open s m args below meth c H locs cells slots (rQi Γ below post args s 0 0) (F0 m 42 ls []) := by
  have hx := F.1.1
  have hb := F.1.2.1
  unfold wX8_open_42 at h
  refine lv_iconst (v := 0) hx hb dX8_open_42 (by decide) ?_
  exact bX8_open_43 F h hR hS (lv_sub hl [0, 1, 2, 3] rfl) hc

set_option maxRecDepth 100000 in
def wX8_open (o : Nat) (p1 : Int32) (p2 : Int32) (p3 : Int32) (post : Int32 → St → Prop) (σ0 : St) : Prop :=
  sK σ0 o = 9 ∧ (wX8_within p1 (sI σ0 450 o 0) (fun (x4 : Int32) (σ2 : St) => (x4 = 0 → (wX8_open_42 o post p1 p2 p3 σ2)) ∧ (¬ x4 = 0 → (wX8_within p2 (1000000 : Int32) (fun (x41 : Int32) (σ39 : St) => (x41 = 0 → (wX8_open_42 o post p1 p2 p3 σ39)) ∧ (¬ x41 = 0 → (wX8_right p2 (6 : Int32) (fun (x45 : Int32) (σ43 : St) => (x45 = 0 → (wX8_open_42 o post p1 p2 p3 σ43)) ∧ (¬ x45 = 0 → (wX8_within p3 (1000001 : Int32) (fun (x49 : Int32) (σ47 : St) => (x49 = 0 → (wX8_open_42 o post p1 p2 p3 σ47)) ∧ (¬ x49 = 0 → (wX8_open_43 o post p1 p2 p3 (1 : Int32) σ47))) σ43))) σ39))) σ2))) σ0)
set_option maxHeartbeats 4000000 in
set_option maxRecDepth 100000 in
theorem bX8_open {p : Program} {l : Launch} {e : Env} {s : State} {m : MethodId} {args : Array Value} {below : List Frame} {meth : Method} {c : Code} {Γ : rGam} {o : Nat} {post : Int32 → St → Prop} (F : Fx Γ p s m meth c args cX8_open 5 RX8 wsX8_open (some .boolean)) {H : Heap} {locs : List Loc} {ls : Array Slot} {cells slots : Nat} {p1 : Int32} {p2 : Int32} {p3 : Int32} {σ0 : St} (h : wX8_open o p1 p2 p3 post σ0) (hR : Rep Γ σ0 H) (hS : va_S (rA Γ) s.heap H locs) (hl : lv_has ls 5 [(0, .ref o), (1, .int p1), (2, .int p2), (3, .int p3)]) (hc : cells ≤ 0 ∧ slots ≤ 0) : W p l e rmX8_open s m args below meth c H locs cells slots (rQi Γ below post args s 0 0) (F0 m 0 ls []) := by
  have hx := F.1.1
  have hb := F.1.2.1
  unfold wX8_open at h
  refine lv_iload_n hx hb dX8_open_0 rfl (lv_at hl 1 rfl) ?_
  refine lv_aload_n hx hb dX8_open_1 rfl (lv_at hl 0 rfl) ?_
  obtain ⟨k1, h⟩ := h
  refine s_getI F hR k1 (by decide) (C := RX8) (T := TX8) (N := 46) rfl nX8_open_X8 0 (by decide) mX8_open_0 (f := 450) rfl dX8_open_2 ?_
  refine s_ci hS (k_runS F hR hS hl 2 [.int p1, .int (sI σ0 450 o 0)] (kX8_within l Γ p1 (sI σ0 450 o 0) _ _ h) gX8_open_X8_within rfl rfl rfl (by decide +kernel) ⟨Nat.le_of_ble_eq_true rfl, Nat.le_of_ble_eq_true rfl⟩ rfl (Nat.le_of_ble_eq_true rfl) dX8_open_5 ⟨by show _ ≤ 0; omega, by show _ ≤ 0; omega⟩) (fun x4 σ2 H locs h3 hR hS => ?_)
  refine lv_if_eq (tgt := 42) hx hb dX8_open_8 (by decide) (fun c5 => ?_) (fun c5 => ?_)
  · replace h3 := h3.1 c5
    exact bX8_open_42 F h3 hR hS (lv_sub hl [0, 1, 2, 3] rfl) hc
  · replace h3 := h3.2 c5
    refine lv_iload_n hx hb dX8_open_11 rfl (lv_at hl 2 rfl) ?_
    refine lv_ldc hx hb F.1.2.2.2.1 (F.1.2.2.2.2 _ mX8_open_5) dX8_open_12 ?_
    refine s_ci hS (k_runS F hR hS hl 2 [.int p2, .int (1000000 : Int32)] (kX8_within l Γ p2 (1000000 : Int32) _ _ h3) gX8_open_X8_within rfl rfl rfl (by decide +kernel) ⟨Nat.le_of_ble_eq_true rfl, Nat.le_of_ble_eq_true rfl⟩ rfl (Nat.le_of_ble_eq_true rfl) dX8_open_14 ⟨by show _ ≤ 0; omega, by show _ ≤ 0; omega⟩) (fun x41 σ39 H locs h40 hR hS => ?_)
    refine lv_if_eq (tgt := 42) hx hb dX8_open_17 (by decide) (fun c42 => ?_) (fun c42 => ?_)
    · replace h40 := h40.1 c42
      exact bX8_open_42 F h40 hR hS (lv_sub hl [0, 1, 2, 3] rfl) hc
    · replace h40 := h40.2 c42
      refine lv_iload_n hx hb dX8_open_20 rfl (lv_at hl 2 rfl) ?_
      refine lv_bipush (v := 6) hx hb dX8_open_21 (by decide) ?_
      refine s_ci hS (k_runS F hR hS hl 2 [.int p2, .int (6 : Int32)] (kX8_right l Γ p2 (6 : Int32) _ _ h40) gX8_open_X8_right rfl rfl rfl (by decide +kernel) ⟨Nat.le_of_ble_eq_true rfl, Nat.le_of_ble_eq_true rfl⟩ rfl (Nat.le_of_ble_eq_true rfl) dX8_open_23 ⟨by show _ ≤ 0; omega, by show _ ≤ 0; omega⟩) (fun x45 σ43 H locs h44 hR hS => ?_)
      refine lv_if_eq (tgt := 42) hx hb dX8_open_26 (by decide) (fun c46 => ?_) (fun c46 => ?_)
      · replace h44 := h44.1 c46
        exact bX8_open_42 F h44 hR hS (lv_sub hl [0, 1, 2, 3] rfl) hc
      · replace h44 := h44.2 c46
        refine lv_iload_n hx hb dX8_open_29 rfl (lv_at hl 3 rfl) ?_
        refine lv_ldc hx hb F.1.2.2.2.1 (F.1.2.2.2.2 _ mX8_open_6) dX8_open_30 ?_
        refine s_ci hS (k_runS F hR hS hl 2 [.int p3, .int (1000001 : Int32)] (kX8_within l Γ p3 (1000001 : Int32) _ _ h44) gX8_open_X8_within rfl rfl rfl (by decide +kernel) ⟨Nat.le_of_ble_eq_true rfl, Nat.le_of_ble_eq_true rfl⟩ rfl (Nat.le_of_ble_eq_true rfl) dX8_open_32 ⟨by show _ ≤ 0; omega, by show _ ≤ 0; omega⟩) (fun x49 σ47 H locs h48 hR hS => ?_)
        refine lv_if_eq (tgt := 42) hx hb dX8_open_35 (by decide) (fun c50 => ?_) (fun c50 => ?_)
        · replace h48 := h48.1 c50
          exact bX8_open_42 F h48 hR hS (lv_sub hl [0, 1, 2, 3] rfl) hc
        · replace h48 := h48.2 c50
          refine lv_iconst (v := 1) hx hb dX8_open_38 (by decide) ?_
          refine lv_goto (tgt := 43) hx hb dX8_open_39 (by decide) ?_
          exact bX8_open_43 F h48 hR hS (lv_sub hl [0, 1, 2, 3] rfl) hc
set_option maxHeartbeats 4000000 in
set_option maxRecDepth 100000 in
theorem kX8_open (l : Launch) (Γ : rGam) (o : Nat) (p1 : Int32) (p2 : Int32) (p3 : Int32) (post : Int32 → St → Prop) (σ0 : St) (h : wX8_open o p1 p2 p3 post σ0) : Met l yX8_open wsX8_open rmX8_open (rPc Γ vwCl [.ref o, .int p1, .int p2, .int p3] (Rep Γ σ0)) (va_Qi post (fun σ' t => Rep Γ σ' t.heap) (rA Γ)) 0 0 (rA Γ) := by
  refine Met.ofW (cc := cX8_open) (maxL := 5) (ret := (some .boolean)) (by decide) rfl ?_
  intro p e s m args below meth c s₁ B hml hv
  obtain ⟨rfl, hR, hE⟩ := hv
  have F : Fx Γ p s m meth c _ cX8_open 5 RX8 wsX8_open (some .boolean) := ⟨⟨B.exec, B.bytes, hml, findClass_of_methodNamed B.named, atoms_spec (ws := wsX8_open) B.pre⟩, hE, B.notSynchronized, B.returns⟩
  have hl := lv_entry ([.ref o, .int p1, .int p2, .int p3]) (n := 5) (Nat.le_of_ble_eq_true rfl)
  rw [lg_entry_eq]
  generalize (lg_sl ([.ref o, .int p1, .int p2, .int p3]) ++ List.replicate (5 - (lg_sl ([.ref o, .int p1, .int p2, .int p3])).length) Slot.unset).toArray = ls at hl ⊢
  have hl : lv_has ls 5 [(0, .ref o), (1, .int p1), (2, .int p2), (3, .int p3)] := hl
  exact bX8_open F h hR va_S.rf hl ⟨Nat.le_refl 0, Nat.le_refl 0⟩
/-! X8_shut -/
theorem mX8_shut_0 : Cond.fieldLink RX8 26 "ClearingFilesModel" "closed" "[Z" ∈ wsX8_shut := by decide +kernel
theorem nX8_shut_X8 : ∀ w ∈ u_ws RX8 TX8 46, w ∈ wsX8_shut := fun _ h => List.mem_cons_of_mem _ (List.mem_append_right _ h)
abbrev rmX8_shut : Room := { frames := 1, cells := 0, slots := 0, locals := 23 }
set_option maxRecDepth 100000 in
def wX8_shut (o : Nat) (p1 : Int32) (p2 : Int32) (post : Int32 → St → Prop) (σ0 : St) : Prop :=
  sK σ0 o = 9 ∧ (wX8_accountOf o p1 p2 (fun (x4 : Int32) (σ2 : St) => (x4 < 0 → (post (0 : Int32) σ2)) ∧ (¬ x4 < 0 → (sK σ2 o = 9 ∧ (∀ r8 : Option Nat, r8 = sR σ2 458 o 0 → (∃ a9 : Nat, r8 = some a9 ∧ (sK σ2 a9 = 1458 ∧ (vp_in x4 12 ∧ (((sI σ2 1458 a9 x4.toNatClampNeg) = 0 → (sK σ2 o = 9 ∧ (∀ r14 : Option Nat, r14 = sR σ2 458 o 0 → (∃ a15 : Nat, r14 = some a15 ∧ (sK σ2 a15 = 1458 ∧ (vp_in x4 12 ∧ (isB (1 : Int32) ∧ (∀ σ19 : St, σ19 = uI σ2 1458 a15 (x4.toNatClampNeg) (1 : Int32) → (post (1 : Int32) σ19))))))))) ∧ (¬ (sI σ2 1458 a9 x4.toNatClampNeg) = 0 → (post (0 : Int32) σ2)))))))))) σ0)
set_option maxHeartbeats 4000000 in
set_option maxRecDepth 100000 in
theorem bX8_shut {p : Program} {l : Launch} {e : Env} {s : State} {m : MethodId} {args : Array Value} {below : List Frame} {meth : Method} {c : Code} {Γ : rGam} {o : Nat} {post : Int32 → St → Prop} (F : Fx Γ p s m meth c args cX8_shut 4 RX8 wsX8_shut (some .boolean)) {H : Heap} {locs : List Loc} {ls : Array Slot} {cells slots : Nat} {p1 : Int32} {p2 : Int32} {σ0 : St} (h : wX8_shut o p1 p2 post σ0) (hR : Rep Γ σ0 H) (hS : va_S (rA Γ) s.heap H locs) (hl : lv_has ls 4 [(0, .ref o), (1, .int p1), (2, .int p2)]) (hc : cells ≤ 0 ∧ slots ≤ 0) : W p l e rmX8_shut s m args below meth c H locs cells slots (rQi Γ below post args s 0 0) (F0 m 0 ls []) := by
  have hx := F.1.1
  have hb := F.1.2.1
  unfold wX8_shut at h
  refine lv_aload_n hx hb dX8_shut_0 rfl (lv_at hl 0 rfl) ?_
  refine lv_iload_n hx hb dX8_shut_1 rfl (lv_at hl 1 rfl) ?_
  refine lv_iload_n hx hb dX8_shut_2 rfl (lv_at hl 2 rfl) ?_
  obtain ⟨k1, h⟩ := h
  refine s_ci hS (k_runV F hR hS hl 2 [.int p1, .int p2] (kX8_accountOf l Γ o p1 p2 _ _ h) gX8_shut_X8_accountOf rfl rfl rfl (by decide +kernel) ⟨Nat.le_of_ble_eq_true rfl, Nat.le_of_ble_eq_true rfl⟩ (s_recv F hR k1 (by decide) (C := RX8) (T := TX8) (N := 46) rfl) rfl (Nat.le_of_ble_eq_true rfl) dX8_shut_3 ⟨by show _ ≤ 0; omega, by show _ ≤ 0; omega⟩) (fun x4 σ2 H locs h3 hR hS => ?_)
  refine s_istore_n (lk := [(2, .int p2)]) (lv' := [(3, .int x4), (0, .ref o), (1, .int p1), (2, .int p2)]) hx hb dX8_shut_6 rfl hl (by decide) rfl (lk_1 rfl) rfl (fun ls hl5 => ?_)
  refine lv_iload_n hx hb dX8_shut_7 rfl (lv_at hl5 0 rfl) ?_
  refine lv_if_lt (tgt := 20) hx hb dX8_shut_8 (by decide) (fun c6 => ?_) (fun c6 => ?_)
  · replace h3 := h3.1 c6
    refine lv_iconst (v := 0) hx hb dX8_shut_20 (by decide) ?_
    exact s_zret F hR hS (by unfold isB; decide) h3 hc dX8_shut_21
  · replace h3 := h3.2 c6
    refine lv_aload_n hx hb dX8_shut_11 rfl (lv_at hl5 1 rfl) ?_
    obtain ⟨k7, h3⟩ := h3
    refine s_getR F hR k7 (by decide) (C := RX8) (T := TX8) (N := 46) rfl nX8_shut_X8 8 (by decide) mX8_shut_0 (f := 458) rfl dX8_shut_12 (fun r8 er8 => ?_)
    replace h3 := h3 r8 er8
    refine lv_iload_n hx hb dX8_shut_15 rfl (lv_at hl5 0 rfl) ?_
    obtain ⟨a9, ea9, h3⟩ := h3
    subst ea9
    obtain ⟨k10, h3⟩ := h3
    obtain ⟨z11, h3⟩ := h3
    refine s_zald F hR k10 (by decide) rfl z11 dX8_shut_16 ?_
    refine lv_if_eq (tgt := 22) hx hb dX8_shut_17 (by decide) (fun c12 => ?_) (fun c12 => ?_)
    · replace h3 := h3.1 c12
      refine lv_aload_n hx hb dX8_shut_22 rfl (lv_at hl5 1 rfl) ?_
      obtain ⟨k13, h3⟩ := h3
      refine s_getR F hR k13 (by decide) (C := RX8) (T := TX8) (N := 46) rfl nX8_shut_X8 8 (by decide) mX8_shut_0 (f := 458) rfl dX8_shut_23 (fun r14 er14 => ?_)
      replace h3 := h3 r14 er14
      refine lv_iload_n hx hb dX8_shut_26 rfl (lv_at hl5 0 rfl) ?_
      refine lv_iconst (v := 1) hx hb dX8_shut_27 (by decide) ?_
      obtain ⟨a15, ea15, h3⟩ := h3
      subst ea15
      obtain ⟨k16, h3⟩ := h3
      obtain ⟨z17, h3⟩ := h3
      obtain ⟨z18, h3⟩ := h3
      refine s_zast F hR hS k16 (by decide) rfl z17 z18 dX8_shut_28 (fun σ19 eσ19 H locs hR hS => ?_)
      replace h3 := h3 σ19 eσ19
      refine lv_iconst (v := 1) hx hb dX8_shut_29 (by decide) ?_
      exact s_zret F hR hS (by unfold isB; decide) h3 hc dX8_shut_30
    · replace h3 := h3.2 c12
      refine lv_iconst (v := 0) hx hb dX8_shut_20 (by decide) ?_
      exact s_zret F hR hS (by unfold isB; decide) h3 hc dX8_shut_21
set_option maxHeartbeats 4000000 in
set_option maxRecDepth 100000 in
theorem kX8_shut (l : Launch) (Γ : rGam) (o : Nat) (p1 : Int32) (p2 : Int32) (post : Int32 → St → Prop) (σ0 : St) (h : wX8_shut o p1 p2 post σ0) : Met l yX8_shut wsX8_shut rmX8_shut (rPc Γ vwCl [.ref o, .int p1, .int p2] (Rep Γ σ0)) (va_Qi post (fun σ' t => Rep Γ σ' t.heap) (rA Γ)) 0 0 (rA Γ) := by
  refine Met.ofW (cc := cX8_shut) (maxL := 4) (ret := (some .boolean)) (by decide) rfl ?_
  intro p e s m args below meth c s₁ B hml hv
  obtain ⟨rfl, hR, hE⟩ := hv
  have F : Fx Γ p s m meth c _ cX8_shut 4 RX8 wsX8_shut (some .boolean) := ⟨⟨B.exec, B.bytes, hml, findClass_of_methodNamed B.named, atoms_spec (ws := wsX8_shut) B.pre⟩, hE, B.notSynchronized, B.returns⟩
  have hl := lv_entry ([.ref o, .int p1, .int p2]) (n := 4) (Nat.le_of_ble_eq_true rfl)
  rw [lg_entry_eq]
  generalize (lg_sl ([.ref o, .int p1, .int p2]) ++ List.replicate (4 - (lg_sl ([.ref o, .int p1, .int p2])).length) Slot.unset).toArray = ls at hl ⊢
  have hl : lv_has ls 4 [(0, .ref o), (1, .int p1), (2, .int p2)] := hl
  exact bX8_shut F h hR va_S.rf hl ⟨Nat.le_refl 0, Nat.le_refl 0⟩
/-! X8_batch -/
theorem mX8_batch_0 : Cond.fieldLink RX8 161 "ClearingFilesModel" "batches" "I" ∈ wsX8_batch := by decide +kernel
theorem mX8_batch_1 : Cond.fieldLink RX8 30 "ClearingFilesModel" "from" "[I" ∈ wsX8_batch := by decide +kernel
theorem mX8_batch_2 : Cond.fieldLink RX8 33 "ClearingFilesModel" "batchNumber" "[I" ∈ wsX8_batch := by decide +kernel
theorem mX8_batch_3 : Cond.fieldLink RX8 36 "ClearingFilesModel" "batchDay" "[I" ∈ wsX8_batch := by decide +kernel
theorem mX8_batch_4 : Cond.fieldLink RX8 152 "ClearingFilesModel" "stage" "I" ∈ wsX8_batch := by decide +kernel
theorem nX8_batch_X8 : ∀ w ∈ u_ws RX8 TX8 46, w ∈ wsX8_batch := fun _ h => List.mem_cons_of_mem _ (List.mem_append_right _ h)
abbrev rmX8_batch : Room := { frames := 1, cells := 0, slots := 0, locals := 28 }
set_option maxRecDepth 100000 in
def wX8_batch (o : Nat) (p1 : Int64) (post : Int32 → St → Prop) (σ0 : St) : Prop :=
  sK σ0 o = 9 ∧ (((sI σ0 462 o 0) = (4 : Int32) → (post (-3 : Int32) σ0)) ∧ (¬ (sI σ0 462 o 0) = (4 : Int32) → (sK σ0 o = 9 ∧ (∀ r4 : Option Nat, r4 = sR σ0 464 o 0 → (sK σ0 o = 9 ∧ (wX8_digits p1 (1 : Int32) (4 : Int32) (fun (x8 : Int32) (σ6 : St) => ∃ a9 : Nat, r4 = some a9 ∧ (sK σ6 a9 = 1464 ∧ (vp_in (sI σ0 462 o 0) 4 ∧ (∀ σ12 : St, σ12 = uI σ6 1464 a9 ((sI σ0 462 o 0).toNatClampNeg) x8 → (sK σ12 o = 9 ∧ (∀ r14 : Option Nat, r14 = sR σ12 465 o 0 → (sK σ12 o = 9 ∧ (wX8_digits p1 (5 : Int32) (4 : Int32) (fun (x18 : Int32) (σ16 : St) => ∃ a19 : Nat, r14 = some a19 ∧ (sK σ16 a19 = 1465 ∧ (vp_in (sI σ12 462 o 0) 4 ∧ (∀ σ22 : St, σ22 = uI σ16 1465 a19 ((sI σ12 462 o 0).toNatClampNeg) x18 → (sK σ22 o = 9 ∧ (∀ r24 : Option Nat, r24 = sR σ22 466 o 0 → (sK σ22 o = 9 ∧ (wX8_digits p1 (9 : Int32) (4 : Int32) (fun (x28 : Int32) (σ26 : St) => ∃ a29 : Nat, r24 = some a29 ∧ (sK σ26 a29 = 1466 ∧ (vp_in (sI σ22 462 o 0) 4 ∧ (∀ σ32 : St, σ32 = uI σ26 1466 a29 ((sI σ22 462 o 0).toNatClampNeg) x28 → (sK σ32 o = 9 ∧ (sK σ32 o = 9 ∧ (∀ σ35 : St, σ35 = uI σ32 462 o 0 ((sI σ32 462 o 0) + (1 : Int32)) → (sK σ35 o = 9 ∧ (∀ σ37 : St, σ37 = uI σ35 459 o 0 (2 : Int32) → (post (0 : Int32) σ37)))))))))) σ22)))))))) σ12)))))))) σ0))))))
set_option maxHeartbeats 4000000 in
set_option maxRecDepth 100000 in
theorem bX8_batch {p : Program} {l : Launch} {e : Env} {s : State} {m : MethodId} {args : Array Value} {below : List Frame} {meth : Method} {c : Code} {Γ : rGam} {o : Nat} {post : Int32 → St → Prop} (F : Fx Γ p s m meth c args cX8_batch 3 RX8 wsX8_batch (some .int)) {H : Heap} {locs : List Loc} {ls : Array Slot} {cells slots : Nat} {p1 : Int64} {σ0 : St} (h : wX8_batch o p1 post σ0) (hR : Rep Γ σ0 H) (hS : va_S (rA Γ) s.heap H locs) (hl : lv_has ls 3 [(0, .ref o), (1, .long p1)]) (hc : cells ≤ 0 ∧ slots ≤ 0) : W p l e rmX8_batch s m args below meth c H locs cells slots (rQi Γ below post args s 0 0) (F0 m 0 ls []) := by
  have hx := F.1.1
  have hb := F.1.2.1
  unfold wX8_batch at h
  refine lv_aload_n hx hb dX8_batch_0 rfl (lv_at hl 0 rfl) ?_
  obtain ⟨k1, h⟩ := h
  refine s_getI F hR k1 (by decide) (C := RX8) (T := TX8) (N := 46) rfl nX8_batch_X8 12 (by decide) mX8_batch_0 (f := 462) rfl dX8_batch_1 ?_
  refine lv_iconst (v := 4) hx hb dX8_batch_4 (by decide) ?_
  refine lv_icmp_ne (tgt := 11) hx hb dX8_batch_5 (by decide) (fun c2 => ?_) (fun c2 => ?_)
  · replace h := h.2 c2
    refine lv_aload_n hx hb dX8_batch_11 rfl (lv_at hl 0 rfl) ?_
    obtain ⟨k3, h⟩ := h
    refine s_getR F hR k3 (by decide) (C := RX8) (T := TX8) (N := 46) rfl nX8_batch_X8 14 (by decide) mX8_batch_1 (f := 464) rfl dX8_batch_12 (fun r4 er4 => ?_)
    replace h := h r4 er4
    refine lv_aload_n hx hb dX8_batch_15 rfl (lv_at hl 0 rfl) ?_
    obtain ⟨k5, h⟩ := h
    refine s_getI F hR k5 (by decide) (C := RX8) (T := TX8) (N := 46) rfl nX8_batch_X8 12 (by decide) mX8_batch_0 (f := 462) rfl dX8_batch_16 ?_
    refine lv_lload_n hx hb dX8_batch_19 rfl (lv_at hl 1 rfl) ?_
    refine lv_iconst (v := 1) hx hb dX8_batch_20 (by decide) ?_
    refine lv_iconst (v := 4) hx hb dX8_batch_21 (by decide) ?_
    refine s_ci hS (k_runS F hR hS hl 3 [.long p1, .int (1 : Int32), .int (4 : Int32)] (kX8_digits l Γ p1 (1 : Int32) (4 : Int32) _ _ h) gX8_batch_X8_digits rfl rfl rfl (by decide +kernel) ⟨Nat.le_of_ble_eq_true rfl, Nat.le_of_ble_eq_true rfl⟩ rfl (by simp only [List.map_cons, List.map_nil, List.sum_cons, List.sum_nil, va_cat] <;> exact Nat.le_of_ble_eq_true rfl) dX8_batch_22 ⟨by show _ ≤ 0; omega, by show _ ≤ 0; omega⟩) (fun x8 σ6 H locs h7 hR hS => ?_)
    obtain ⟨a9, ea9, h7⟩ := h7
    subst ea9
    obtain ⟨k10, h7⟩ := h7
    obtain ⟨z11, h7⟩ := h7
    refine s_iast F hR hS k10 (by decide) rfl z11 dX8_batch_25 (fun σ12 eσ12 H locs hR hS => ?_)
    replace h7 := h7 σ12 eσ12
    refine lv_aload_n hx hb dX8_batch_26 rfl (lv_at hl 0 rfl) ?_
    obtain ⟨k13, h7⟩ := h7
    refine s_getR F hR k13 (by decide) (C := RX8) (T := TX8) (N := 46) rfl nX8_batch_X8 15 (by decide) mX8_batch_2 (f := 465) rfl dX8_batch_27 (fun r14 er14 => ?_)
    replace h7 := h7 r14 er14
    refine lv_aload_n hx hb dX8_batch_30 rfl (lv_at hl 0 rfl) ?_
    obtain ⟨k15, h7⟩ := h7
    refine s_getI F hR k15 (by decide) (C := RX8) (T := TX8) (N := 46) rfl nX8_batch_X8 12 (by decide) mX8_batch_0 (f := 462) rfl dX8_batch_31 ?_
    refine lv_lload_n hx hb dX8_batch_34 rfl (lv_at hl 1 rfl) ?_
    refine lv_iconst (v := 5) hx hb dX8_batch_35 (by decide) ?_
    refine lv_iconst (v := 4) hx hb dX8_batch_36 (by decide) ?_
    refine s_ci hS (k_runS F hR hS hl 3 [.long p1, .int (5 : Int32), .int (4 : Int32)] (kX8_digits l Γ p1 (5 : Int32) (4 : Int32) _ _ h7) gX8_batch_X8_digits rfl rfl rfl (by decide +kernel) ⟨Nat.le_of_ble_eq_true rfl, Nat.le_of_ble_eq_true rfl⟩ rfl (by simp only [List.map_cons, List.map_nil, List.sum_cons, List.sum_nil, va_cat] <;> exact Nat.le_of_ble_eq_true rfl) dX8_batch_37 ⟨by show _ ≤ 0; omega, by show _ ≤ 0; omega⟩) (fun x18 σ16 H locs h17 hR hS => ?_)
    obtain ⟨a19, ea19, h17⟩ := h17
    subst ea19
    obtain ⟨k20, h17⟩ := h17
    obtain ⟨z21, h17⟩ := h17
    refine s_iast F hR hS k20 (by decide) rfl z21 dX8_batch_40 (fun σ22 eσ22 H locs hR hS => ?_)
    replace h17 := h17 σ22 eσ22
    refine lv_aload_n hx hb dX8_batch_41 rfl (lv_at hl 0 rfl) ?_
    obtain ⟨k23, h17⟩ := h17
    refine s_getR F hR k23 (by decide) (C := RX8) (T := TX8) (N := 46) rfl nX8_batch_X8 16 (by decide) mX8_batch_3 (f := 466) rfl dX8_batch_42 (fun r24 er24 => ?_)
    replace h17 := h17 r24 er24
    refine lv_aload_n hx hb dX8_batch_45 rfl (lv_at hl 0 rfl) ?_
    obtain ⟨k25, h17⟩ := h17
    refine s_getI F hR k25 (by decide) (C := RX8) (T := TX8) (N := 46) rfl nX8_batch_X8 12 (by decide) mX8_batch_0 (f := 462) rfl dX8_batch_46 ?_
    refine lv_lload_n hx hb dX8_batch_49 rfl (lv_at hl 1 rfl) ?_
    refine lv_bipush (v := 9) hx hb dX8_batch_50 (by decide) ?_
    refine lv_iconst (v := 4) hx hb dX8_batch_52 (by decide) ?_
    refine s_ci hS (k_runS F hR hS hl 3 [.long p1, .int (9 : Int32), .int (4 : Int32)] (kX8_digits l Γ p1 (9 : Int32) (4 : Int32) _ _ h17) gX8_batch_X8_digits rfl rfl rfl (by decide +kernel) ⟨Nat.le_of_ble_eq_true rfl, Nat.le_of_ble_eq_true rfl⟩ rfl (by simp only [List.map_cons, List.map_nil, List.sum_cons, List.sum_nil, va_cat] <;> exact Nat.le_of_ble_eq_true rfl) dX8_batch_53 ⟨by show _ ≤ 0; omega, by show _ ≤ 0; omega⟩) (fun x28 σ26 H locs h27 hR hS => ?_)
    obtain ⟨a29, ea29, h27⟩ := h27
    subst ea29
    obtain ⟨k30, h27⟩ := h27
    obtain ⟨z31, h27⟩ := h27
    refine s_iast F hR hS k30 (by decide) rfl z31 dX8_batch_56 (fun σ32 eσ32 H locs hR hS => ?_)
    replace h27 := h27 σ32 eσ32
    refine lv_aload_n hx hb dX8_batch_57 rfl (lv_at hl 0 rfl) ?_
    refine lv_dup hx hb dX8_batch_58 rfl ?_
    obtain ⟨k33, h27⟩ := h27
    refine s_getI F hR k33 (by decide) (C := RX8) (T := TX8) (N := 46) rfl nX8_batch_X8 12 (by decide) mX8_batch_0 (f := 462) rfl dX8_batch_59 ?_
    refine lv_iconst (v := 1) hx hb dX8_batch_62 (by decide) ?_
    refine lv_iadd hx hb dX8_batch_63 ?_
    obtain ⟨k34, h27⟩ := h27
    refine s_putI (v := ((sI σ32 462 o 0) + (1 : Int32))) F hR hS k34 (by decide) (C := RX8) (T := TX8) (N := 46) rfl nX8_batch_X8 tyX8 tyX8_ok nmX8 12 (by decide) mX8_batch_0 (Or.inl rfl) rfl rfl (f := 462) rfl rnd_9 dX8_batch_64 (fun σ35 eσ35 H locs hR hS => ?_)
    replace h27 := h27 σ35 eσ35
    refine lv_aload_n hx hb dX8_batch_67 rfl (lv_at hl 0 rfl) ?_
    refine lv_iconst (v := 2) hx hb dX8_batch_68 (by decide) ?_
    obtain ⟨k36, h27⟩ := h27
    refine s_putI (v := (2 : Int32)) F hR hS k36 (by decide) (C := RX8) (T := TX8) (N := 46) rfl nX8_batch_X8 tyX8 tyX8_ok nmX8 9 (by decide) mX8_batch_4 (Or.inl rfl) rfl rfl (f := 459) rfl rnd_9 dX8_batch_69 (fun σ37 eσ37 H locs hR hS => ?_)
    replace h27 := h27 σ37 eσ37
    refine lv_iconst (v := 0) hx hb dX8_batch_72 (by decide) ?_
    exact s_iret F hR hS h27 hc dX8_batch_73
  · replace h := h.1 c2
    refine lv_bipush (v := -3) hx hb dX8_batch_8 (by decide) ?_
    exact s_iret F hR hS h hc dX8_batch_10
set_option maxHeartbeats 4000000 in
set_option maxRecDepth 100000 in
theorem kX8_batch (l : Launch) (Γ : rGam) (o : Nat) (p1 : Int64) (post : Int32 → St → Prop) (σ0 : St) (h : wX8_batch o p1 post σ0) : Met l yX8_batch wsX8_batch rmX8_batch (rPc Γ vwCl [.ref o, .long p1] (Rep Γ σ0)) (va_Qi post (fun σ' t => Rep Γ σ' t.heap) (rA Γ)) 0 0 (rA Γ) := by
  refine Met.ofW (cc := cX8_batch) (maxL := 3) (ret := (some .int)) (by decide) rfl ?_
  intro p e s m args below meth c s₁ B hml hv
  obtain ⟨rfl, hR, hE⟩ := hv
  have F : Fx Γ p s m meth c _ cX8_batch 3 RX8 wsX8_batch (some .int) := ⟨⟨B.exec, B.bytes, hml, findClass_of_methodNamed B.named, atoms_spec (ws := wsX8_batch) B.pre⟩, hE, B.notSynchronized, B.returns⟩
  have hl := lv_entry ([.ref o, .long p1]) (n := 3) (Nat.le_of_ble_eq_true rfl)
  rw [lg_entry_eq]
  generalize (lg_sl ([.ref o, .long p1]) ++ List.replicate (3 - (lg_sl ([.ref o, .long p1])).length) Slot.unset).toArray = ls at hl ⊢
  have hl : lv_has ls 3 [(0, .ref o), (1, .long p1)] := hl
  exact bX8_batch F h hR va_S.rf hl ⟨Nat.le_refl 0, Nat.le_refl 0⟩
/-! X8_entry -/
theorem mX8_entry_0 : Cond.fieldLink RX8 164 "ClearingFilesModel" "entries" "I" ∈ wsX8_entry := by decide +kernel
theorem mX8_entry_1 : Cond.fieldLink RX8 51 "ClearingFilesModel" "inBatch" "[I" ∈ wsX8_entry := by decide +kernel
theorem mX8_entry_2 : Cond.fieldLink RX8 161 "ClearingFilesModel" "batches" "I" ∈ wsX8_entry := by decide +kernel
theorem mX8_entry_3 : Cond.fieldLink RX8 54 "ClearingFilesModel" "inCode" "[I" ∈ wsX8_entry := by decide +kernel
theorem mX8_entry_4 : Cond.fieldLink RX8 57 "ClearingFilesModel" "inRouting" "[I" ∈ wsX8_entry := by decide +kernel
theorem mX8_entry_5 : Cond.fieldLink RX8 60 "ClearingFilesModel" "inAccount" "[I" ∈ wsX8_entry := by decide +kernel
theorem mX8_entry_6 : Cond.fieldLink RX8 63 "ClearingFilesModel" "inAmount" "[I" ∈ wsX8_entry := by decide +kernel
theorem mX8_entry_7 : Cond.fieldLink RX8 66 "ClearingFilesModel" "inTrace" "[I" ∈ wsX8_entry := by decide +kernel
theorem mX8_entry_8 : Cond.fieldLink RX8 152 "ClearingFilesModel" "stage" "I" ∈ wsX8_entry := by decide +kernel
theorem nX8_entry_X8 : ∀ w ∈ u_ws RX8 TX8 46, w ∈ wsX8_entry := fun _ h => List.mem_cons_of_mem _ (List.mem_append_right _ h)
abbrev rmX8_entry : Room := { frames := 1, cells := 0, slots := 0, locals := 28 }
set_option maxRecDepth 100000 in
def wX8_entry (o : Nat) (p1 : Int64) (p2 : Int64) (post : Int32 → St → Prop) (σ0 : St) : Prop :=
  sK σ0 o = 9 ∧ (((sI σ0 463 o 0) = (20 : Int32) → (post (-3 : Int32) σ0)) ∧ (¬ (sI σ0 463 o 0) = (20 : Int32) → (sK σ0 o = 9 ∧ (∀ r4 : Option Nat, r4 = sR σ0 471 o 0 → (sK σ0 o = 9 ∧ (sK σ0 o = 9 ∧ (∃ a7 : Nat, r4 = some a7 ∧ (sK σ0 a7 = 1471 ∧ (vp_in (sI σ0 463 o 0) 20 ∧ (∀ σ10 : St, σ10 = uI σ0 1471 a7 ((sI σ0 463 o 0).toNatClampNeg) ((sI σ0 462 o 0) - (1 : Int32)) → (sK σ10 o = 9 ∧ (∀ r12 : Option Nat, r12 = sR σ10 472 o 0 → (sK σ10 o = 9 ∧ (wX8_digits p1 (1 : Int32) (1 : Int32) (fun (x16 : Int32) (σ14 : St) => ∃ a17 : Nat, r12 = some a17 ∧ (sK σ14 a17 = 1472 ∧ (vp_in (sI σ10 463 o 0) 20 ∧ (∀ σ20 : St, σ20 = uI σ14 1472 a17 ((sI σ10 463 o 0).toNatClampNeg) x16 → (sK σ20 o = 9 ∧ (∀ r22 : Option Nat, r22 = sR σ20 473 o 0 → (sK σ20 o = 9 ∧ (wX8_digits p1 (2 : Int32) (4 : Int32) (fun (x26 : Int32) (σ24 : St) => ∃ a27 : Nat, r22 = some a27 ∧ (sK σ24 a27 = 1473 ∧ (vp_in (sI σ20 463 o 0) 20 ∧ (∀ σ30 : St, σ30 = uI σ24 1473 a27 ((sI σ20 463 o 0).toNatClampNeg) x26 → (sK σ30 o = 9 ∧ (∀ r32 : Option Nat, r32 = sR σ30 474 o 0 → (sK σ30 o = 9 ∧ (wX8_digits p1 (6 : Int32) (6 : Int32) (fun (x36 : Int32) (σ34 : St) => ∃ a37 : Nat, r32 = some a37 ∧ (sK σ34 a37 = 1474 ∧ (vp_in (sI σ30 463 o 0) 20 ∧ (∀ σ40 : St, σ40 = uI σ34 1474 a37 ((sI σ30 463 o 0).toNatClampNeg) x36 → (sK σ40 o = 9 ∧ (∀ r42 : Option Nat, r42 = sR σ40 475 o 0 → (sK σ40 o = 9 ∧ (wX8_digits p2 (0 : Int32) (7 : Int32) (fun (x46 : Int32) (σ44 : St) => ∃ a47 : Nat, r42 = some a47 ∧ (sK σ44 a47 = 1475 ∧ (vp_in (sI σ40 463 o 0) 20 ∧ (∀ σ50 : St, σ50 = uI σ44 1475 a47 ((sI σ40 463 o 0).toNatClampNeg) x46 → (sK σ50 o = 9 ∧ (∀ r52 : Option Nat, r52 = sR σ50 476 o 0 → (sK σ50 o = 9 ∧ (wX8_digits p2 (7 : Int32) (7 : Int32) (fun (x56 : Int32) (σ54 : St) => ∃ a57 : Nat, r52 = some a57 ∧ (sK σ54 a57 = 1476 ∧ (vp_in (sI σ50 463 o 0) 20 ∧ (∀ σ60 : St, σ60 = uI σ54 1476 a57 ((sI σ50 463 o 0).toNatClampNeg) x56 → (sK σ60 o = 9 ∧ (sK σ60 o = 9 ∧ (∀ σ63 : St, σ63 = uI σ60 463 o 0 ((sI σ60 463 o 0) + (1 : Int32)) → (sK σ63 o = 9 ∧ (∀ σ65 : St, σ65 = uI σ63 459 o 0 (2 : Int32) → (post (0 : Int32) σ65)))))))))) σ50)))))))) σ40)))))))) σ30)))))))) σ20)))))))) σ10))))))))))))))
set_option maxHeartbeats 4000000 in
set_option maxRecDepth 100000 in
theorem bX8_entry {p : Program} {l : Launch} {e : Env} {s : State} {m : MethodId} {args : Array Value} {below : List Frame} {meth : Method} {c : Code} {Γ : rGam} {o : Nat} {post : Int32 → St → Prop} (F : Fx Γ p s m meth c args cX8_entry 5 RX8 wsX8_entry (some .int)) {H : Heap} {locs : List Loc} {ls : Array Slot} {cells slots : Nat} {p1 : Int64} {p2 : Int64} {σ0 : St} (h : wX8_entry o p1 p2 post σ0) (hR : Rep Γ σ0 H) (hS : va_S (rA Γ) s.heap H locs) (hl : lv_has ls 5 [(0, .ref o), (1, .long p1), (3, .long p2)]) (hc : cells ≤ 0 ∧ slots ≤ 0) : W p l e rmX8_entry s m args below meth c H locs cells slots (rQi Γ below post args s 0 0) (F0 m 0 ls []) := by
  have hx := F.1.1
  have hb := F.1.2.1
  unfold wX8_entry at h
  refine lv_aload_n hx hb dX8_entry_0 rfl (lv_at hl 0 rfl) ?_
  obtain ⟨k1, h⟩ := h
  refine s_getI F hR k1 (by decide) (C := RX8) (T := TX8) (N := 46) rfl nX8_entry_X8 13 (by decide) mX8_entry_0 (f := 463) rfl dX8_entry_1 ?_
  refine lv_bipush (v := 20) hx hb dX8_entry_4 (by decide) ?_
  refine lv_icmp_ne (tgt := 12) hx hb dX8_entry_6 (by decide) (fun c2 => ?_) (fun c2 => ?_)
  · replace h := h.2 c2
    refine lv_aload_n hx hb dX8_entry_12 rfl (lv_at hl 0 rfl) ?_
    obtain ⟨k3, h⟩ := h
    refine s_getR F hR k3 (by decide) (C := RX8) (T := TX8) (N := 46) rfl nX8_entry_X8 21 (by decide) mX8_entry_1 (f := 471) rfl dX8_entry_13 (fun r4 er4 => ?_)
    replace h := h r4 er4
    refine lv_aload_n hx hb dX8_entry_16 rfl (lv_at hl 0 rfl) ?_
    obtain ⟨k5, h⟩ := h
    refine s_getI F hR k5 (by decide) (C := RX8) (T := TX8) (N := 46) rfl nX8_entry_X8 13 (by decide) mX8_entry_0 (f := 463) rfl dX8_entry_17 ?_
    refine lv_aload_n hx hb dX8_entry_20 rfl (lv_at hl 0 rfl) ?_
    obtain ⟨k6, h⟩ := h
    refine s_getI F hR k6 (by decide) (C := RX8) (T := TX8) (N := 46) rfl nX8_entry_X8 12 (by decide) mX8_entry_2 (f := 462) rfl dX8_entry_21 ?_
    refine lv_iconst (v := 1) hx hb dX8_entry_24 (by decide) ?_
    refine lv_isub hx hb dX8_entry_25 ?_
    obtain ⟨a7, ea7, h⟩ := h
    subst ea7
    obtain ⟨k8, h⟩ := h
    obtain ⟨z9, h⟩ := h
    refine s_iast F hR hS k8 (by decide) rfl z9 dX8_entry_26 (fun σ10 eσ10 H locs hR hS => ?_)
    replace h := h σ10 eσ10
    refine lv_aload_n hx hb dX8_entry_27 rfl (lv_at hl 0 rfl) ?_
    obtain ⟨k11, h⟩ := h
    refine s_getR F hR k11 (by decide) (C := RX8) (T := TX8) (N := 46) rfl nX8_entry_X8 22 (by decide) mX8_entry_3 (f := 472) rfl dX8_entry_28 (fun r12 er12 => ?_)
    replace h := h r12 er12
    refine lv_aload_n hx hb dX8_entry_31 rfl (lv_at hl 0 rfl) ?_
    obtain ⟨k13, h⟩ := h
    refine s_getI F hR k13 (by decide) (C := RX8) (T := TX8) (N := 46) rfl nX8_entry_X8 13 (by decide) mX8_entry_0 (f := 463) rfl dX8_entry_32 ?_
    refine lv_lload_n hx hb dX8_entry_35 rfl (lv_at hl 1 rfl) ?_
    refine lv_iconst (v := 1) hx hb dX8_entry_36 (by decide) ?_
    refine lv_iconst (v := 1) hx hb dX8_entry_37 (by decide) ?_
    refine s_ci hS (k_runS F hR hS hl 3 [.long p1, .int (1 : Int32), .int (1 : Int32)] (kX8_digits l Γ p1 (1 : Int32) (1 : Int32) _ _ h) gX8_entry_X8_digits rfl rfl rfl (by decide +kernel) ⟨Nat.le_of_ble_eq_true rfl, Nat.le_of_ble_eq_true rfl⟩ rfl (by simp only [List.map_cons, List.map_nil, List.sum_cons, List.sum_nil, va_cat] <;> exact Nat.le_of_ble_eq_true rfl) dX8_entry_38 ⟨by show _ ≤ 0; omega, by show _ ≤ 0; omega⟩) (fun x16 σ14 H locs h15 hR hS => ?_)
    obtain ⟨a17, ea17, h15⟩ := h15
    subst ea17
    obtain ⟨k18, h15⟩ := h15
    obtain ⟨z19, h15⟩ := h15
    refine s_iast F hR hS k18 (by decide) rfl z19 dX8_entry_41 (fun σ20 eσ20 H locs hR hS => ?_)
    replace h15 := h15 σ20 eσ20
    refine lv_aload_n hx hb dX8_entry_42 rfl (lv_at hl 0 rfl) ?_
    obtain ⟨k21, h15⟩ := h15
    refine s_getR F hR k21 (by decide) (C := RX8) (T := TX8) (N := 46) rfl nX8_entry_X8 23 (by decide) mX8_entry_4 (f := 473) rfl dX8_entry_43 (fun r22 er22 => ?_)
    replace h15 := h15 r22 er22
    refine lv_aload_n hx hb dX8_entry_46 rfl (lv_at hl 0 rfl) ?_
    obtain ⟨k23, h15⟩ := h15
    refine s_getI F hR k23 (by decide) (C := RX8) (T := TX8) (N := 46) rfl nX8_entry_X8 13 (by decide) mX8_entry_0 (f := 463) rfl dX8_entry_47 ?_
    refine lv_lload_n hx hb dX8_entry_50 rfl (lv_at hl 1 rfl) ?_
    refine lv_iconst (v := 2) hx hb dX8_entry_51 (by decide) ?_
    refine lv_iconst (v := 4) hx hb dX8_entry_52 (by decide) ?_
    refine s_ci hS (k_runS F hR hS hl 3 [.long p1, .int (2 : Int32), .int (4 : Int32)] (kX8_digits l Γ p1 (2 : Int32) (4 : Int32) _ _ h15) gX8_entry_X8_digits rfl rfl rfl (by decide +kernel) ⟨Nat.le_of_ble_eq_true rfl, Nat.le_of_ble_eq_true rfl⟩ rfl (by simp only [List.map_cons, List.map_nil, List.sum_cons, List.sum_nil, va_cat] <;> exact Nat.le_of_ble_eq_true rfl) dX8_entry_53 ⟨by show _ ≤ 0; omega, by show _ ≤ 0; omega⟩) (fun x26 σ24 H locs h25 hR hS => ?_)
    obtain ⟨a27, ea27, h25⟩ := h25
    subst ea27
    obtain ⟨k28, h25⟩ := h25
    obtain ⟨z29, h25⟩ := h25
    refine s_iast F hR hS k28 (by decide) rfl z29 dX8_entry_56 (fun σ30 eσ30 H locs hR hS => ?_)
    replace h25 := h25 σ30 eσ30
    refine lv_aload_n hx hb dX8_entry_57 rfl (lv_at hl 0 rfl) ?_
    obtain ⟨k31, h25⟩ := h25
    refine s_getR F hR k31 (by decide) (C := RX8) (T := TX8) (N := 46) rfl nX8_entry_X8 24 (by decide) mX8_entry_5 (f := 474) rfl dX8_entry_58 (fun r32 er32 => ?_)
    replace h25 := h25 r32 er32
    refine lv_aload_n hx hb dX8_entry_61 rfl (lv_at hl 0 rfl) ?_
    obtain ⟨k33, h25⟩ := h25
    refine s_getI F hR k33 (by decide) (C := RX8) (T := TX8) (N := 46) rfl nX8_entry_X8 13 (by decide) mX8_entry_0 (f := 463) rfl dX8_entry_62 ?_
    refine lv_lload_n hx hb dX8_entry_65 rfl (lv_at hl 1 rfl) ?_
    refine lv_bipush (v := 6) hx hb dX8_entry_66 (by decide) ?_
    refine lv_bipush (v := 6) hx hb dX8_entry_68 (by decide) ?_
    refine s_ci hS (k_runS F hR hS hl 3 [.long p1, .int (6 : Int32), .int (6 : Int32)] (kX8_digits l Γ p1 (6 : Int32) (6 : Int32) _ _ h25) gX8_entry_X8_digits rfl rfl rfl (by decide +kernel) ⟨Nat.le_of_ble_eq_true rfl, Nat.le_of_ble_eq_true rfl⟩ rfl (by simp only [List.map_cons, List.map_nil, List.sum_cons, List.sum_nil, va_cat] <;> exact Nat.le_of_ble_eq_true rfl) dX8_entry_70 ⟨by show _ ≤ 0; omega, by show _ ≤ 0; omega⟩) (fun x36 σ34 H locs h35 hR hS => ?_)
    obtain ⟨a37, ea37, h35⟩ := h35
    subst ea37
    obtain ⟨k38, h35⟩ := h35
    obtain ⟨z39, h35⟩ := h35
    refine s_iast F hR hS k38 (by decide) rfl z39 dX8_entry_73 (fun σ40 eσ40 H locs hR hS => ?_)
    replace h35 := h35 σ40 eσ40
    refine lv_aload_n hx hb dX8_entry_74 rfl (lv_at hl 0 rfl) ?_
    obtain ⟨k41, h35⟩ := h35
    refine s_getR F hR k41 (by decide) (C := RX8) (T := TX8) (N := 46) rfl nX8_entry_X8 25 (by decide) mX8_entry_6 (f := 475) rfl dX8_entry_75 (fun r42 er42 => ?_)
    replace h35 := h35 r42 er42
    refine lv_aload_n hx hb dX8_entry_78 rfl (lv_at hl 0 rfl) ?_
    obtain ⟨k43, h35⟩ := h35
    refine s_getI F hR k43 (by decide) (C := RX8) (T := TX8) (N := 46) rfl nX8_entry_X8 13 (by decide) mX8_entry_0 (f := 463) rfl dX8_entry_79 ?_
    refine lv_lload_n hx hb dX8_entry_82 rfl (lv_at hl 2 rfl) ?_
    refine lv_iconst (v := 0) hx hb dX8_entry_83 (by decide) ?_
    refine lv_bipush (v := 7) hx hb dX8_entry_84 (by decide) ?_
    refine s_ci hS (k_runS F hR hS hl 3 [.long p2, .int (0 : Int32), .int (7 : Int32)] (kX8_digits l Γ p2 (0 : Int32) (7 : Int32) _ _ h35) gX8_entry_X8_digits rfl rfl rfl (by decide +kernel) ⟨Nat.le_of_ble_eq_true rfl, Nat.le_of_ble_eq_true rfl⟩ rfl (by simp only [List.map_cons, List.map_nil, List.sum_cons, List.sum_nil, va_cat] <;> exact Nat.le_of_ble_eq_true rfl) dX8_entry_86 ⟨by show _ ≤ 0; omega, by show _ ≤ 0; omega⟩) (fun x46 σ44 H locs h45 hR hS => ?_)
    obtain ⟨a47, ea47, h45⟩ := h45
    subst ea47
    obtain ⟨k48, h45⟩ := h45
    obtain ⟨z49, h45⟩ := h45
    refine s_iast F hR hS k48 (by decide) rfl z49 dX8_entry_89 (fun σ50 eσ50 H locs hR hS => ?_)
    replace h45 := h45 σ50 eσ50
    refine lv_aload_n hx hb dX8_entry_90 rfl (lv_at hl 0 rfl) ?_
    obtain ⟨k51, h45⟩ := h45
    refine s_getR F hR k51 (by decide) (C := RX8) (T := TX8) (N := 46) rfl nX8_entry_X8 26 (by decide) mX8_entry_7 (f := 476) rfl dX8_entry_91 (fun r52 er52 => ?_)
    replace h45 := h45 r52 er52
    refine lv_aload_n hx hb dX8_entry_94 rfl (lv_at hl 0 rfl) ?_
    obtain ⟨k53, h45⟩ := h45
    refine s_getI F hR k53 (by decide) (C := RX8) (T := TX8) (N := 46) rfl nX8_entry_X8 13 (by decide) mX8_entry_0 (f := 463) rfl dX8_entry_95 ?_
    refine lv_lload_n hx hb dX8_entry_98 rfl (lv_at hl 2 rfl) ?_
    refine lv_bipush (v := 7) hx hb dX8_entry_99 (by decide) ?_
    refine lv_bipush (v := 7) hx hb dX8_entry_101 (by decide) ?_
    refine s_ci hS (k_runS F hR hS hl 3 [.long p2, .int (7 : Int32), .int (7 : Int32)] (kX8_digits l Γ p2 (7 : Int32) (7 : Int32) _ _ h45) gX8_entry_X8_digits rfl rfl rfl (by decide +kernel) ⟨Nat.le_of_ble_eq_true rfl, Nat.le_of_ble_eq_true rfl⟩ rfl (by simp only [List.map_cons, List.map_nil, List.sum_cons, List.sum_nil, va_cat] <;> exact Nat.le_of_ble_eq_true rfl) dX8_entry_103 ⟨by show _ ≤ 0; omega, by show _ ≤ 0; omega⟩) (fun x56 σ54 H locs h55 hR hS => ?_)
    obtain ⟨a57, ea57, h55⟩ := h55
    subst ea57
    obtain ⟨k58, h55⟩ := h55
    obtain ⟨z59, h55⟩ := h55
    refine s_iast F hR hS k58 (by decide) rfl z59 dX8_entry_106 (fun σ60 eσ60 H locs hR hS => ?_)
    replace h55 := h55 σ60 eσ60
    refine lv_aload_n hx hb dX8_entry_107 rfl (lv_at hl 0 rfl) ?_
    refine lv_dup hx hb dX8_entry_108 rfl ?_
    obtain ⟨k61, h55⟩ := h55
    refine s_getI F hR k61 (by decide) (C := RX8) (T := TX8) (N := 46) rfl nX8_entry_X8 13 (by decide) mX8_entry_0 (f := 463) rfl dX8_entry_109 ?_
    refine lv_iconst (v := 1) hx hb dX8_entry_112 (by decide) ?_
    refine lv_iadd hx hb dX8_entry_113 ?_
    obtain ⟨k62, h55⟩ := h55
    refine s_putI (v := ((sI σ60 463 o 0) + (1 : Int32))) F hR hS k62 (by decide) (C := RX8) (T := TX8) (N := 46) rfl nX8_entry_X8 tyX8 tyX8_ok nmX8 13 (by decide) mX8_entry_0 (Or.inl rfl) rfl rfl (f := 463) rfl rnd_9 dX8_entry_114 (fun σ63 eσ63 H locs hR hS => ?_)
    replace h55 := h55 σ63 eσ63
    refine lv_aload_n hx hb dX8_entry_117 rfl (lv_at hl 0 rfl) ?_
    refine lv_iconst (v := 2) hx hb dX8_entry_118 (by decide) ?_
    obtain ⟨k64, h55⟩ := h55
    refine s_putI (v := (2 : Int32)) F hR hS k64 (by decide) (C := RX8) (T := TX8) (N := 46) rfl nX8_entry_X8 tyX8 tyX8_ok nmX8 9 (by decide) mX8_entry_8 (Or.inl rfl) rfl rfl (f := 459) rfl rnd_9 dX8_entry_119 (fun σ65 eσ65 H locs hR hS => ?_)
    replace h55 := h55 σ65 eσ65
    refine lv_iconst (v := 0) hx hb dX8_entry_122 (by decide) ?_
    exact s_iret F hR hS h55 hc dX8_entry_123
  · replace h := h.1 c2
    refine lv_bipush (v := -3) hx hb dX8_entry_9 (by decide) ?_
    exact s_iret F hR hS h hc dX8_entry_11
set_option maxHeartbeats 4000000 in
set_option maxRecDepth 100000 in
theorem kX8_entry (l : Launch) (Γ : rGam) (o : Nat) (p1 : Int64) (p2 : Int64) (post : Int32 → St → Prop) (σ0 : St) (h : wX8_entry o p1 p2 post σ0) : Met l yX8_entry wsX8_entry rmX8_entry (rPc Γ vwCl [.ref o, .long p1, .long p2] (Rep Γ σ0)) (va_Qi post (fun σ' t => Rep Γ σ' t.heap) (rA Γ)) 0 0 (rA Γ) := by
  refine Met.ofW (cc := cX8_entry) (maxL := 5) (ret := (some .int)) (by decide) rfl ?_
  intro p e s m args below meth c s₁ B hml hv
  obtain ⟨rfl, hR, hE⟩ := hv
  have F : Fx Γ p s m meth c _ cX8_entry 5 RX8 wsX8_entry (some .int) := ⟨⟨B.exec, B.bytes, hml, findClass_of_methodNamed B.named, atoms_spec (ws := wsX8_entry) B.pre⟩, hE, B.notSynchronized, B.returns⟩
  have hl := lv_entry ([.ref o, .long p1, .long p2]) (n := 5) (Nat.le_of_ble_eq_true rfl)
  rw [lg_entry_eq]
  generalize (lg_sl ([.ref o, .long p1, .long p2]) ++ List.replicate (5 - (lg_sl ([.ref o, .long p1, .long p2])).length) Slot.unset).toArray = ls at hl ⊢
  have hl : lv_has ls 5 [(0, .ref o), (1, .long p1), (3, .long p2)] := hl
  exact bX8_entry F h hR va_S.rf hl ⟨Nat.le_refl 0, Nat.le_refl 0⟩
/-! X8_batchFault -/
theorem mX8_batchFault_0 : Cond.fieldLink RX8 30 "ClearingFilesModel" "from" "[I" ∈ wsX8_batchFault := by decide +kernel
theorem mX8_batchFault_1 : Cond.fieldLink RX8 36 "ClearingFilesModel" "batchDay" "[I" ∈ wsX8_batchFault := by decide +kernel
theorem mX8_batchFault_2 : Cond.fieldLink RX8 143 "ClearingFilesModel" "today" "I" ∈ wsX8_batchFault := by decide +kernel
theorem mX8_batchFault_3 : Cond.fieldLink RX8 39 "ClearingFilesModel" "saysCount" "[I" ∈ wsX8_batchFault := by decide +kernel
theorem mX8_batchFault_4 : Cond.fieldLink RX8 42 "ClearingFilesModel" "saysHash" "[I" ∈ wsX8_batchFault := by decide +kernel
theorem mX8_batchFault_5 : Cond.fieldLink RX8 45 "ClearingFilesModel" "saysDebits" "[I" ∈ wsX8_batchFault := by decide +kernel
theorem mX8_batchFault_6 : Cond.fieldLink RX8 48 "ClearingFilesModel" "saysCredits" "[I" ∈ wsX8_batchFault := by decide +kernel
theorem mX8_batchFault_7 : Cond.fieldLink RX8 164 "ClearingFilesModel" "entries" "I" ∈ wsX8_batchFault := by decide +kernel
theorem mX8_batchFault_8 : Cond.fieldLink RX8 51 "ClearingFilesModel" "inBatch" "[I" ∈ wsX8_batchFault := by decide +kernel
theorem mX8_batchFault_9 : Cond.fieldLink RX8 66 "ClearingFilesModel" "inTrace" "[I" ∈ wsX8_batchFault := by decide +kernel
theorem mX8_batchFault_10 : Cond.fieldLink RX8 33 "ClearingFilesModel" "batchNumber" "[I" ∈ wsX8_batchFault := by decide +kernel
theorem nX8_batchFault_X8 : ∀ w ∈ u_ws RX8 TX8 46, w ∈ wsX8_batchFault := fun _ h => List.mem_cons_of_mem _ (List.mem_append_right _ h)
abbrev rmX8_batchFault : Room := { frames := 1, cells := 0, slots := 0, locals := 27 }
set_option maxRecDepth 100000 in
def wX8_batchFault_129 (o : Nat) (post : Int32 → St → Prop) : Nat → Int32 → Int32 → St → Prop
  | 0, _, _, _ => False
  | n + 1, x1, x2, σ0 =>
    sK σ0 o = 9 ∧ (((sI σ0 463 o 0) ≤ x2 → (post (0 : Int32) σ0)) ∧ (¬ (sI σ0 463 o 0) ≤ x2 → (sK σ0 o = 9 ∧ (∀ r63 : Option Nat, r63 = sR σ0 471 o 0 → (∃ a64 : Nat, r63 = some a64 ∧ (sK σ0 a64 = 1471 ∧ (vp_in x2 20 ∧ (((sI σ0 1471 a64 x2.toNatClampNeg) = x1 → (sK σ0 o = 9 ∧ (∀ r71 : Option Nat, r71 = sR σ0 471 o 0 → (∃ a72 : Nat, r71 = some a72 ∧ (sK σ0 a72 = 1471 ∧ (vp_in (x2 - (1 : Int32)) 20 ∧ (((sI σ0 1471 a72 (x2 - (1 : Int32)).toNatClampNeg) = x1 → (sK σ0 o = 9 ∧ (∀ r79 : Option Nat, r79 = sR σ0 476 o 0 → (∃ a80 : Nat, r79 = some a80 ∧ (sK σ0 a80 = 1476 ∧ (vp_in x2 20 ∧ (sK σ0 o = 9 ∧ (∀ r84 : Option Nat, r84 = sR σ0 476 o 0 → (∃ a85 : Nat, r84 = some a85 ∧ (sK σ0 a85 = 1476 ∧ (vp_in (x2 - (1 : Int32)) 20 ∧ (((sI σ0 1476 a85 (x2 - (1 : Int32)).toNatClampNeg) < (sI σ0 1476 a80 x2.toNatClampNeg) → (∀ x89 : Int32, x89 = x2 + (1 : Int32) → (wX8_batchFault_129 o post n x1 x89 σ0))) ∧ (¬ (sI σ0 1476 a85 (x2 - (1 : Int32)).toNatClampNeg) < (sI σ0 1476 a80 x2.toNatClampNeg) → (post (24 : Int32) σ0)))))))))))))) ∧ (¬ (sI σ0 1471 a72 (x2 - (1 : Int32)).toNatClampNeg) = x1 → (∀ x76 : Int32, x76 = x2 + (1 : Int32) → (wX8_batchFault_129 o post n x1 x76 σ0)))))))))) ∧ (¬ (sI σ0 1471 a64 x2.toNatClampNeg) = x1 → (∀ x68 : Int32, x68 = x2 + (1 : Int32) → (wX8_batchFault_129 o post n x1 x68 σ0)))))))))))
set_option maxHeartbeats 4000000 in
set_option maxRecDepth 100000 in
theorem bX8_batchFault_129 {p : Program} {l : Launch} {e : Env} {s : State} {m : MethodId} {args : Array Value} {below : List Frame} {meth : Method} {c : Code} {Γ : rGam} {o : Nat} {post : Int32 → St → Prop} (F : Fx Γ p s m meth c args cX8_batchFault 3 RX8 wsX8_batchFault (some .int)) : ∀ (n : Nat) (x1 : Int32) (x2 : Int32) (σ0 : St) (H : Heap) (locs : List Loc) (ls : Array Slot) (cells slots : Nat), wX8_batchFault_129 o post n x1 x2 σ0 → Rep Γ σ0 H → va_S (rA Γ) s.heap H locs → lv_has ls 3 [(0, .ref o), (1, .int x1), (2, .int x2)] → cells ≤ 0 ∧ slots ≤ 0 → W p l e rmX8_batchFault s m args below meth c H locs cells slots (rQi Γ below post args s 0 0) (F0 m 129 ls []) := by
  have hx := F.1.1
  have hb := F.1.2.1
  intro n
  induction n with
  | zero =>
    intro x1 x2 σ0 H locs ls cells slots h
    exact absurd h (by unfold wX8_batchFault_129; exact id)
  | succ n ih =>
    intro x1 x2 σ0 H locs ls cells slots h hR hS hl hc
    unfold wX8_batchFault_129 at h
    refine lv_iload_n hx hb dX8_batchFault_129 rfl (lv_at hl 2 rfl) ?_
    refine lv_aload_n hx hb dX8_batchFault_130 rfl (lv_at hl 0 rfl) ?_
    obtain ⟨k60, h⟩ := h
    refine s_getI F hR k60 (by decide) (C := RX8) (T := TX8) (N := 46) rfl nX8_batchFault_X8 13 (by decide) mX8_batchFault_7 (f := 463) rfl dX8_batchFault_131 ?_
    refine lv_icmp_ge (tgt := 185) hx hb dX8_batchFault_134 (by decide) (fun c61 => ?_) (fun c61 => ?_)
    · replace h := h.1 c61
      refine lv_iconst (v := 0) hx hb dX8_batchFault_185 (by decide) ?_
      exact s_iret F hR hS h hc dX8_batchFault_186
    · replace h := h.2 c61
      refine lv_aload_n hx hb dX8_batchFault_137 rfl (lv_at hl 0 rfl) ?_
      obtain ⟨k62, h⟩ := h
      refine s_getR F hR k62 (by decide) (C := RX8) (T := TX8) (N := 46) rfl nX8_batchFault_X8 21 (by decide) mX8_batchFault_8 (f := 471) rfl dX8_batchFault_138 (fun r63 er63 => ?_)
      replace h := h r63 er63
      refine lv_iload_n hx hb dX8_batchFault_141 rfl (lv_at hl 2 rfl) ?_
      obtain ⟨a64, ea64, h⟩ := h
      subst ea64
      obtain ⟨k65, h⟩ := h
      obtain ⟨z66, h⟩ := h
      refine s_iald F hR k65 (by decide) rfl z66 dX8_batchFault_142 ?_
      refine lv_iload_n hx hb dX8_batchFault_143 rfl (lv_at hl 1 rfl) ?_
      refine lv_icmp_ne (tgt := 179) hx hb dX8_batchFault_144 (by decide) (fun c67 => ?_) (fun c67 => ?_)
      · replace h := h.2 c67
        obtain ⟨x68, ex68⟩ : ∃ x : Int32, x = x2 + (1 : Int32) := ⟨_, rfl⟩
        replace h := h x68 ex68
        refine s_iinc (v := x68) (d := 1) (lk := [(1, .int x1)]) (lv' := [(2, .int x68), (0, .ref o), (1, .int x1)]) hx hb dX8_batchFault_179 hl (k := 2) rfl (by decide) (by decide) rfl (lk_1 rfl) ex68 rfl (fun ls hl69 => ?_)
        refine lv_goto (tgt := 129) hx hb dX8_batchFault_182 (by decide) ?_
        exact ih x1 x68 σ0 _ _ _ _ _ h hR hS (lv_sub hl69 [1, 2, 0] rfl) hc
      · replace h := h.1 c67
        refine lv_aload_n hx hb dX8_batchFault_147 rfl (lv_at hl 0 rfl) ?_
        obtain ⟨k70, h⟩ := h
        refine s_getR F hR k70 (by decide) (C := RX8) (T := TX8) (N := 46) rfl nX8_batchFault_X8 21 (by decide) mX8_batchFault_8 (f := 471) rfl dX8_batchFault_148 (fun r71 er71 => ?_)
        replace h := h r71 er71
        refine lv_iload_n hx hb dX8_batchFault_151 rfl (lv_at hl 2 rfl) ?_
        refine lv_iconst (v := 1) hx hb dX8_batchFault_152 (by decide) ?_
        refine lv_isub hx hb dX8_batchFault_153 ?_
        obtain ⟨a72, ea72, h⟩ := h
        subst ea72
        obtain ⟨k73, h⟩ := h
        obtain ⟨z74, h⟩ := h
        refine s_iald F hR k73 (by decide) rfl z74 dX8_batchFault_154 ?_
        refine lv_iload_n hx hb dX8_batchFault_155 rfl (lv_at hl 1 rfl) ?_
        refine lv_icmp_ne (tgt := 179) hx hb dX8_batchFault_156 (by decide) (fun c75 => ?_) (fun c75 => ?_)
        · replace h := h.2 c75
          obtain ⟨x76, ex76⟩ : ∃ x : Int32, x = x2 + (1 : Int32) := ⟨_, rfl⟩
          replace h := h x76 ex76
          refine s_iinc (v := x76) (d := 1) (lk := [(1, .int x1)]) (lv' := [(2, .int x76), (0, .ref o), (1, .int x1)]) hx hb dX8_batchFault_179 hl (k := 2) rfl (by decide) (by decide) rfl (lk_1 rfl) ex76 rfl (fun ls hl77 => ?_)
          refine lv_goto (tgt := 129) hx hb dX8_batchFault_182 (by decide) ?_
          exact ih x1 x76 σ0 _ _ _ _ _ h hR hS (lv_sub hl77 [1, 2, 0] rfl) hc
        · replace h := h.1 c75
          refine lv_aload_n hx hb dX8_batchFault_159 rfl (lv_at hl 0 rfl) ?_
          obtain ⟨k78, h⟩ := h
          refine s_getR F hR k78 (by decide) (C := RX8) (T := TX8) (N := 46) rfl nX8_batchFault_X8 26 (by decide) mX8_batchFault_9 (f := 476) rfl dX8_batchFault_160 (fun r79 er79 => ?_)
          replace h := h r79 er79
          refine lv_iload_n hx hb dX8_batchFault_163 rfl (lv_at hl 2 rfl) ?_
          obtain ⟨a80, ea80, h⟩ := h
          subst ea80
          obtain ⟨k81, h⟩ := h
          obtain ⟨z82, h⟩ := h
          refine s_iald F hR k81 (by decide) rfl z82 dX8_batchFault_164 ?_
          refine lv_aload_n hx hb dX8_batchFault_165 rfl (lv_at hl 0 rfl) ?_
          obtain ⟨k83, h⟩ := h
          refine s_getR F hR k83 (by decide) (C := RX8) (T := TX8) (N := 46) rfl nX8_batchFault_X8 26 (by decide) mX8_batchFault_9 (f := 476) rfl dX8_batchFault_166 (fun r84 er84 => ?_)
          replace h := h r84 er84
          refine lv_iload_n hx hb dX8_batchFault_169 rfl (lv_at hl 2 rfl) ?_
          refine lv_iconst (v := 1) hx hb dX8_batchFault_170 (by decide) ?_
          refine lv_isub hx hb dX8_batchFault_171 ?_
          obtain ⟨a85, ea85, h⟩ := h
          subst ea85
          obtain ⟨k86, h⟩ := h
          obtain ⟨z87, h⟩ := h
          refine s_iald F hR k86 (by decide) rfl z87 dX8_batchFault_172 ?_
          refine lv_icmp_gt (tgt := 179) hx hb dX8_batchFault_173 (by decide) (fun c88 => ?_) (fun c88 => ?_)
          · replace h := h.1 c88
            obtain ⟨x89, ex89⟩ : ∃ x : Int32, x = x2 + (1 : Int32) := ⟨_, rfl⟩
            replace h := h x89 ex89
            refine s_iinc (v := x89) (d := 1) (lk := [(1, .int x1)]) (lv' := [(2, .int x89), (0, .ref o), (1, .int x1)]) hx hb dX8_batchFault_179 hl (k := 2) rfl (by decide) (by decide) rfl (lk_1 rfl) ex89 rfl (fun ls hl90 => ?_)
            refine lv_goto (tgt := 129) hx hb dX8_batchFault_182 (by decide) ?_
            exact ih x1 x89 σ0 _ _ _ _ _ h hR hS (lv_sub hl90 [1, 2, 0] rfl) hc
          · replace h := h.2 c88
            refine lv_bipush (v := 24) hx hb dX8_batchFault_176 (by decide) ?_
            exact s_iret F hR hS h hc dX8_batchFault_178

set_option maxRecDepth 100000 in
def wX8_batchFault_40 (o : Nat) (post : Int32 → St → Prop) (x1 : Int32) (σ0 : St) : Prop :=
  sK σ0 o = 9 ∧ (∀ r13 : Option Nat, r13 = sR σ0 466 o 0 → (∃ a14 : Nat, r13 = some a14 ∧ (sK σ0 a14 = 1466 ∧ (vp_in x1 4 ∧ (sK σ0 o = 9 ∧ (((sI σ0 453 o 0) ≤ (sI σ0 1466 a14 x1.toNatClampNeg) → (sK σ0 o = 9 ∧ (∀ r20 : Option Nat, r20 = sR σ0 467 o 0 → (∃ a21 : Nat, r20 = some a21 ∧ (sK σ0 a21 = 1467 ∧ (vp_in x1 4 ∧ (sK σ0 o = 9 ∧ (wX8_total o x1 (0 : Int32) (fun (x27 : Int64) (σ25 : St) => ((lg_cmp ((sI σ0 1467 a21 x1.toNatClampNeg).toInt64) x27) = 0 → (sK σ25 o = 9 ∧ (∀ r30 : Option Nat, r30 = sR σ25 468 o 0 → (∃ a31 : Nat, r30 = some a31 ∧ (sK σ25 a31 = 1468 ∧ (vp_in x1 4 ∧ (sK σ25 o = 9 ∧ (wX8_total o x1 (1 : Int32) (fun (x37 : Int64) (σ35 : St) => ((lg_cmp ((sI σ25 1468 a31 x1.toNatClampNeg).toInt64) x37) = 0 → (sK σ35 o = 9 ∧ (∀ r40 : Option Nat, r40 = sR σ35 469 o 0 → (∃ a41 : Nat, r40 = some a41 ∧ (sK σ35 a41 = 1469 ∧ (vp_in x1 4 ∧ (sK σ35 o = 9 ∧ (wX8_total o x1 (2 : Int32) (fun (x47 : Int64) (σ45 : St) => ((lg_cmp ((sI σ35 1469 a41 x1.toNatClampNeg).toInt64) x47) = 0 → (sK σ45 o = 9 ∧ (∀ r50 : Option Nat, r50 = sR σ45 470 o 0 → (∃ a51 : Nat, r50 = some a51 ∧ (sK σ45 a51 = 1470 ∧ (vp_in x1 4 ∧ (sK σ45 o = 9 ∧ (wX8_total o x1 (3 : Int32) (fun (x57 : Int64) (σ55 : St) => ((lg_cmp ((sI σ45 1470 a51 x1.toNatClampNeg).toInt64) x57) = 0 → (∃ n91 : Nat, wX8_batchFault_129 o post n91 x1 (1 : Int32) σ55)) ∧ (¬ (lg_cmp ((sI σ45 1470 a51 x1.toNatClampNeg).toInt64) x57) = 0 → (post (23 : Int32) σ55))) σ45)))))))) ∧ (¬ (lg_cmp ((sI σ35 1469 a41 x1.toNatClampNeg).toInt64) x47) = 0 → (post (23 : Int32) σ45))) σ35)))))))) ∧ (¬ (lg_cmp ((sI σ25 1468 a31 x1.toNatClampNeg).toInt64) x37) = 0 → (post (23 : Int32) σ35))) σ25)))))))) ∧ (¬ (lg_cmp ((sI σ0 1467 a21 x1.toNatClampNeg).toInt64) x27) = 0 → (post (23 : Int32) σ25))) σ0)))))))) ∧ (¬ (sI σ0 453 o 0) ≤ (sI σ0 1466 a14 x1.toNatClampNeg) → (post (22 : Int32) σ0))))))))
set_option maxHeartbeats 4000000 in
set_option maxRecDepth 100000 in
theorem bX8_batchFault_40 {p : Program} {l : Launch} {e : Env} {s : State} {m : MethodId} {args : Array Value} {below : List Frame} {meth : Method} {c : Code} {Γ : rGam} {o : Nat} {post : Int32 → St → Prop} (F : Fx Γ p s m meth c args cX8_batchFault 3 RX8 wsX8_batchFault (some .int)) {H : Heap} {locs : List Loc} {ls : Array Slot} {cells slots : Nat} {x1 : Int32} {σ0 : St} (h : wX8_batchFault_40 o post x1 σ0) (hR : Rep Γ σ0 H) (hS : va_S (rA Γ) s.heap H locs) (hl : lv_has ls 3 [(0, .ref o), (1, .int x1)]) (hc : cells ≤ 0 ∧ slots ≤ 0) : W p l e rmX8_batchFault s m args below meth c H locs cells slots (rQi Γ below post args s 0 0) (F0 m 40 ls []) := by
  have hx := F.1.1
  have hb := F.1.2.1
  unfold wX8_batchFault_40 at h
  refine lv_aload_n hx hb dX8_batchFault_40 rfl (lv_at hl 0 rfl) ?_
  obtain ⟨k12, h⟩ := h
  refine s_getR F hR k12 (by decide) (C := RX8) (T := TX8) (N := 46) rfl nX8_batchFault_X8 16 (by decide) mX8_batchFault_1 (f := 466) rfl dX8_batchFault_41 (fun r13 er13 => ?_)
  replace h := h r13 er13
  refine lv_iload_n hx hb dX8_batchFault_44 rfl (lv_at hl 1 rfl) ?_
  obtain ⟨a14, ea14, h⟩ := h
  subst ea14
  obtain ⟨k15, h⟩ := h
  obtain ⟨z16, h⟩ := h
  refine s_iald F hR k15 (by decide) rfl z16 dX8_batchFault_45 ?_
  refine lv_aload_n hx hb dX8_batchFault_46 rfl (lv_at hl 0 rfl) ?_
  obtain ⟨k17, h⟩ := h
  refine s_getI F hR k17 (by decide) (C := RX8) (T := TX8) (N := 46) rfl nX8_batchFault_X8 3 (by decide) mX8_batchFault_2 (f := 453) rfl dX8_batchFault_47 ?_
  refine lv_icmp_ge (tgt := 56) hx hb dX8_batchFault_50 (by decide) (fun c18 => ?_) (fun c18 => ?_)
  · replace h := h.1 c18
    refine lv_aload_n hx hb dX8_batchFault_56 rfl (lv_at hl 0 rfl) ?_
    obtain ⟨k19, h⟩ := h
    refine s_getR F hR k19 (by decide) (C := RX8) (T := TX8) (N := 46) rfl nX8_batchFault_X8 17 (by decide) mX8_batchFault_3 (f := 467) rfl dX8_batchFault_57 (fun r20 er20 => ?_)
    replace h := h r20 er20
    refine lv_iload_n hx hb dX8_batchFault_60 rfl (lv_at hl 1 rfl) ?_
    obtain ⟨a21, ea21, h⟩ := h
    subst ea21
    obtain ⟨k22, h⟩ := h
    obtain ⟨z23, h⟩ := h
    refine s_iald F hR k22 (by decide) rfl z23 dX8_batchFault_61 ?_
    refine lv_i2l hx hb dX8_batchFault_62 rfl ?_
    refine lv_aload_n hx hb dX8_batchFault_63 rfl (lv_at hl 0 rfl) ?_
    refine lv_iload_n hx hb dX8_batchFault_64 rfl (lv_at hl 1 rfl) ?_
    refine lv_iconst (v := 0) hx hb dX8_batchFault_65 (by decide) ?_
    obtain ⟨k24, h⟩ := h
    refine s_cl hS (k_runV F hR hS hl 2 [.int x1, .int (0 : Int32)] (kX8_total l Γ o x1 (0 : Int32) _ _ h) gX8_batchFault_X8_total rfl rfl rfl (by decide +kernel) ⟨Nat.le_of_ble_eq_true rfl, Nat.le_of_ble_eq_true rfl⟩ (s_recv F hR k24 (by decide) (C := RX8) (T := TX8) (N := 46) rfl) rfl (Nat.le_of_ble_eq_true rfl) dX8_batchFault_66 ⟨by show _ ≤ 0; omega, by show _ ≤ 0; omega⟩) (fun x27 σ25 H locs h26 hR hS => ?_)
    refine W.lcmp hx hb dX8_batchFault_69 ?_
    refine lv_if_ne (tgt := 124) hx hb dX8_batchFault_70 (by decide) (fun c28 => ?_) (fun c28 => ?_)
    · replace h26 := h26.2 c28
      refine lv_bipush (v := 23) hx hb dX8_batchFault_124 (by decide) ?_
      exact s_iret F hR hS h26 hc dX8_batchFault_126
    · replace h26 := h26.1 c28
      refine lv_aload_n hx hb dX8_batchFault_73 rfl (lv_at hl 0 rfl) ?_
      obtain ⟨k29, h26⟩ := h26
      refine s_getR F hR k29 (by decide) (C := RX8) (T := TX8) (N := 46) rfl nX8_batchFault_X8 18 (by decide) mX8_batchFault_4 (f := 468) rfl dX8_batchFault_74 (fun r30 er30 => ?_)
      replace h26 := h26 r30 er30
      refine lv_iload_n hx hb dX8_batchFault_77 rfl (lv_at hl 1 rfl) ?_
      obtain ⟨a31, ea31, h26⟩ := h26
      subst ea31
      obtain ⟨k32, h26⟩ := h26
      obtain ⟨z33, h26⟩ := h26
      refine s_iald F hR k32 (by decide) rfl z33 dX8_batchFault_78 ?_
      refine lv_i2l hx hb dX8_batchFault_79 rfl ?_
      refine lv_aload_n hx hb dX8_batchFault_80 rfl (lv_at hl 0 rfl) ?_
      refine lv_iload_n hx hb dX8_batchFault_81 rfl (lv_at hl 1 rfl) ?_
      refine lv_iconst (v := 1) hx hb dX8_batchFault_82 (by decide) ?_
      obtain ⟨k34, h26⟩ := h26
      refine s_cl hS (k_runV F hR hS hl 2 [.int x1, .int (1 : Int32)] (kX8_total l Γ o x1 (1 : Int32) _ _ h26) gX8_batchFault_X8_total rfl rfl rfl (by decide +kernel) ⟨Nat.le_of_ble_eq_true rfl, Nat.le_of_ble_eq_true rfl⟩ (s_recv F hR k34 (by decide) (C := RX8) (T := TX8) (N := 46) rfl) rfl (Nat.le_of_ble_eq_true rfl) dX8_batchFault_83 ⟨by show _ ≤ 0; omega, by show _ ≤ 0; omega⟩) (fun x37 σ35 H locs h36 hR hS => ?_)
      refine W.lcmp hx hb dX8_batchFault_86 ?_
      refine lv_if_ne (tgt := 124) hx hb dX8_batchFault_87 (by decide) (fun c38 => ?_) (fun c38 => ?_)
      · replace h36 := h36.2 c38
        refine lv_bipush (v := 23) hx hb dX8_batchFault_124 (by decide) ?_
        exact s_iret F hR hS h36 hc dX8_batchFault_126
      · replace h36 := h36.1 c38
        refine lv_aload_n hx hb dX8_batchFault_90 rfl (lv_at hl 0 rfl) ?_
        obtain ⟨k39, h36⟩ := h36
        refine s_getR F hR k39 (by decide) (C := RX8) (T := TX8) (N := 46) rfl nX8_batchFault_X8 19 (by decide) mX8_batchFault_5 (f := 469) rfl dX8_batchFault_91 (fun r40 er40 => ?_)
        replace h36 := h36 r40 er40
        refine lv_iload_n hx hb dX8_batchFault_94 rfl (lv_at hl 1 rfl) ?_
        obtain ⟨a41, ea41, h36⟩ := h36
        subst ea41
        obtain ⟨k42, h36⟩ := h36
        obtain ⟨z43, h36⟩ := h36
        refine s_iald F hR k42 (by decide) rfl z43 dX8_batchFault_95 ?_
        refine lv_i2l hx hb dX8_batchFault_96 rfl ?_
        refine lv_aload_n hx hb dX8_batchFault_97 rfl (lv_at hl 0 rfl) ?_
        refine lv_iload_n hx hb dX8_batchFault_98 rfl (lv_at hl 1 rfl) ?_
        refine lv_iconst (v := 2) hx hb dX8_batchFault_99 (by decide) ?_
        obtain ⟨k44, h36⟩ := h36
        refine s_cl hS (k_runV F hR hS hl 2 [.int x1, .int (2 : Int32)] (kX8_total l Γ o x1 (2 : Int32) _ _ h36) gX8_batchFault_X8_total rfl rfl rfl (by decide +kernel) ⟨Nat.le_of_ble_eq_true rfl, Nat.le_of_ble_eq_true rfl⟩ (s_recv F hR k44 (by decide) (C := RX8) (T := TX8) (N := 46) rfl) rfl (Nat.le_of_ble_eq_true rfl) dX8_batchFault_100 ⟨by show _ ≤ 0; omega, by show _ ≤ 0; omega⟩) (fun x47 σ45 H locs h46 hR hS => ?_)
        refine W.lcmp hx hb dX8_batchFault_103 ?_
        refine lv_if_ne (tgt := 124) hx hb dX8_batchFault_104 (by decide) (fun c48 => ?_) (fun c48 => ?_)
        · replace h46 := h46.2 c48
          refine lv_bipush (v := 23) hx hb dX8_batchFault_124 (by decide) ?_
          exact s_iret F hR hS h46 hc dX8_batchFault_126
        · replace h46 := h46.1 c48
          refine lv_aload_n hx hb dX8_batchFault_107 rfl (lv_at hl 0 rfl) ?_
          obtain ⟨k49, h46⟩ := h46
          refine s_getR F hR k49 (by decide) (C := RX8) (T := TX8) (N := 46) rfl nX8_batchFault_X8 20 (by decide) mX8_batchFault_6 (f := 470) rfl dX8_batchFault_108 (fun r50 er50 => ?_)
          replace h46 := h46 r50 er50
          refine lv_iload_n hx hb dX8_batchFault_111 rfl (lv_at hl 1 rfl) ?_
          obtain ⟨a51, ea51, h46⟩ := h46
          subst ea51
          obtain ⟨k52, h46⟩ := h46
          obtain ⟨z53, h46⟩ := h46
          refine s_iald F hR k52 (by decide) rfl z53 dX8_batchFault_112 ?_
          refine lv_i2l hx hb dX8_batchFault_113 rfl ?_
          refine lv_aload_n hx hb dX8_batchFault_114 rfl (lv_at hl 0 rfl) ?_
          refine lv_iload_n hx hb dX8_batchFault_115 rfl (lv_at hl 1 rfl) ?_
          refine lv_iconst (v := 3) hx hb dX8_batchFault_116 (by decide) ?_
          obtain ⟨k54, h46⟩ := h46
          refine s_cl hS (k_runV F hR hS hl 2 [.int x1, .int (3 : Int32)] (kX8_total l Γ o x1 (3 : Int32) _ _ h46) gX8_batchFault_X8_total rfl rfl rfl (by decide +kernel) ⟨Nat.le_of_ble_eq_true rfl, Nat.le_of_ble_eq_true rfl⟩ (s_recv F hR k54 (by decide) (C := RX8) (T := TX8) (N := 46) rfl) rfl (Nat.le_of_ble_eq_true rfl) dX8_batchFault_117 ⟨by show _ ≤ 0; omega, by show _ ≤ 0; omega⟩) (fun x57 σ55 H locs h56 hR hS => ?_)
          refine W.lcmp hx hb dX8_batchFault_120 ?_
          refine lv_if_eq (tgt := 127) hx hb dX8_batchFault_121 (by decide) (fun c58 => ?_) (fun c58 => ?_)
          · replace h56 := h56.1 c58
            refine lv_iconst (v := 1) hx hb dX8_batchFault_127 (by decide) ?_
            refine s_istore_n (lk := [(1, .int x1)]) (lv' := [(2, .int (1 : Int32)), (0, .ref o), (1, .int x1)]) hx hb dX8_batchFault_128 rfl hl (by decide) rfl (lk_1 rfl) rfl (fun ls hl59 => ?_)
            obtain ⟨n91, h56⟩ := h56
            exact bX8_batchFault_129 F n91 x1 (1 : Int32) σ55 _ _ _ _ _ h56 hR hS (lv_sub hl59 [1, 2, 0] rfl) hc
          · replace h56 := h56.2 c58
            refine lv_bipush (v := 23) hx hb dX8_batchFault_124 (by decide) ?_
            exact s_iret F hR hS h56 hc dX8_batchFault_126
  · replace h := h.2 c18
    refine lv_bipush (v := 22) hx hb dX8_batchFault_53 (by decide) ?_
    exact s_iret F hR hS h hc dX8_batchFault_55

set_option maxRecDepth 100000 in
def wX8_batchFault (o : Nat) (p1 : Int32) (post : Int32 → St → Prop) (σ0 : St) : Prop :=
  sK σ0 o = 9 ∧ (∀ r2 : Option Nat, r2 = sR σ0 464 o 0 → (∃ a3 : Nat, r2 = some a3 ∧ (sK σ0 a3 = 1464 ∧ (vp_in p1 4 ∧ (sK σ0 o = 9 ∧ (wX8_bankOf o (sI σ0 1464 a3 p1.toNatClampNeg) (fun (x9 : Int32) (σ7 : St) => (0 ≤ x9 → ((p1 ≤ 0 → (wX8_batchFault_40 o post p1 σ7)) ∧ (¬ p1 ≤ 0 → (sK σ7 o = 9 ∧ (∀ r93 : Option Nat, r93 = sR σ7 465 o 0 → (∃ a94 : Nat, r93 = some a94 ∧ (sK σ7 a94 = 1465 ∧ (vp_in p1 4 ∧ (sK σ7 o = 9 ∧ (∀ r98 : Option Nat, r98 = sR σ7 465 o 0 → (∃ a99 : Nat, r98 = some a99 ∧ (sK σ7 a99 = 1465 ∧ (vp_in (p1 - (1 : Int32)) 4 ∧ (((sI σ7 1465 a99 (p1 - (1 : Int32)).toNatClampNeg) < (sI σ7 1465 a94 p1.toNatClampNeg) → (wX8_batchFault_40 o post p1 σ7)) ∧ (¬ (sI σ7 1465 a99 (p1 - (1 : Int32)).toNatClampNeg) < (sI σ7 1465 a94 p1.toNatClampNeg) → (post (21 : Int32) σ7)))))))))))))))) ∧ (¬ 0 ≤ x9 → (post (20 : Int32) σ7))) σ0))))))
set_option maxHeartbeats 4000000 in
set_option maxRecDepth 100000 in
theorem bX8_batchFault {p : Program} {l : Launch} {e : Env} {s : State} {m : MethodId} {args : Array Value} {below : List Frame} {meth : Method} {c : Code} {Γ : rGam} {o : Nat} {post : Int32 → St → Prop} (F : Fx Γ p s m meth c args cX8_batchFault 3 RX8 wsX8_batchFault (some .int)) {H : Heap} {locs : List Loc} {ls : Array Slot} {cells slots : Nat} {p1 : Int32} {σ0 : St} (h : wX8_batchFault o p1 post σ0) (hR : Rep Γ σ0 H) (hS : va_S (rA Γ) s.heap H locs) (hl : lv_has ls 3 [(0, .ref o), (1, .int p1)]) (hc : cells ≤ 0 ∧ slots ≤ 0) : W p l e rmX8_batchFault s m args below meth c H locs cells slots (rQi Γ below post args s 0 0) (F0 m 0 ls []) := by
  have hx := F.1.1
  have hb := F.1.2.1
  unfold wX8_batchFault at h
  refine lv_aload_n hx hb dX8_batchFault_0 rfl (lv_at hl 0 rfl) ?_
  refine lv_aload_n hx hb dX8_batchFault_1 rfl (lv_at hl 0 rfl) ?_
  obtain ⟨k1, h⟩ := h
  refine s_getR F hR k1 (by decide) (C := RX8) (T := TX8) (N := 46) rfl nX8_batchFault_X8 14 (by decide) mX8_batchFault_0 (f := 464) rfl dX8_batchFault_2 (fun r2 er2 => ?_)
  replace h := h r2 er2
  refine lv_iload_n hx hb dX8_batchFault_5 rfl (lv_at hl 1 rfl) ?_
  obtain ⟨a3, ea3, h⟩ := h
  subst ea3
  obtain ⟨k4, h⟩ := h
  obtain ⟨z5, h⟩ := h
  refine s_iald F hR k4 (by decide) rfl z5 dX8_batchFault_6 ?_
  obtain ⟨k6, h⟩ := h
  refine s_ci hS (k_runV F hR hS hl 1 [.int (sI σ0 1464 a3 p1.toNatClampNeg)] (kX8_bankOf l Γ o (sI σ0 1464 a3 p1.toNatClampNeg) _ _ h) gX8_batchFault_X8_bankOf rfl rfl rfl (by decide +kernel) ⟨Nat.le_of_ble_eq_true rfl, Nat.le_of_ble_eq_true rfl⟩ (s_recv F hR k6 (by decide) (C := RX8) (T := TX8) (N := 46) rfl) rfl (Nat.le_of_ble_eq_true rfl) dX8_batchFault_7 ⟨by show _ ≤ 0; omega, by show _ ≤ 0; omega⟩) (fun x9 σ7 H locs h8 hR hS => ?_)
  refine lv_if_ge (tgt := 16) hx hb dX8_batchFault_10 (by decide) (fun c10 => ?_) (fun c10 => ?_)
  · replace h8 := h8.1 c10
    refine lv_iload_n hx hb dX8_batchFault_16 rfl (lv_at hl 1 rfl) ?_
    refine lv_if_le (tgt := 40) hx hb dX8_batchFault_17 (by decide) (fun c11 => ?_) (fun c11 => ?_)
    · replace h8 := h8.1 c11
      exact bX8_batchFault_40 F h8 hR hS (lv_sub hl [0, 1] rfl) hc
    · replace h8 := h8.2 c11
      refine lv_aload_n hx hb dX8_batchFault_20 rfl (lv_at hl 0 rfl) ?_
      obtain ⟨k92, h8⟩ := h8
      refine s_getR F hR k92 (by decide) (C := RX8) (T := TX8) (N := 46) rfl nX8_batchFault_X8 15 (by decide) mX8_batchFault_10 (f := 465) rfl dX8_batchFault_21 (fun r93 er93 => ?_)
      replace h8 := h8 r93 er93
      refine lv_iload_n hx hb dX8_batchFault_24 rfl (lv_at hl 1 rfl) ?_
      obtain ⟨a94, ea94, h8⟩ := h8
      subst ea94
      obtain ⟨k95, h8⟩ := h8
      obtain ⟨z96, h8⟩ := h8
      refine s_iald F hR k95 (by decide) rfl z96 dX8_batchFault_25 ?_
      refine lv_aload_n hx hb dX8_batchFault_26 rfl (lv_at hl 0 rfl) ?_
      obtain ⟨k97, h8⟩ := h8
      refine s_getR F hR k97 (by decide) (C := RX8) (T := TX8) (N := 46) rfl nX8_batchFault_X8 15 (by decide) mX8_batchFault_10 (f := 465) rfl dX8_batchFault_27 (fun r98 er98 => ?_)
      replace h8 := h8 r98 er98
      refine lv_iload_n hx hb dX8_batchFault_30 rfl (lv_at hl 1 rfl) ?_
      refine lv_iconst (v := 1) hx hb dX8_batchFault_31 (by decide) ?_
      refine lv_isub hx hb dX8_batchFault_32 ?_
      obtain ⟨a99, ea99, h8⟩ := h8
      subst ea99
      obtain ⟨k100, h8⟩ := h8
      obtain ⟨z101, h8⟩ := h8
      refine s_iald F hR k100 (by decide) rfl z101 dX8_batchFault_33 ?_
      refine lv_icmp_gt (tgt := 40) hx hb dX8_batchFault_34 (by decide) (fun c102 => ?_) (fun c102 => ?_)
      · replace h8 := h8.1 c102
        exact bX8_batchFault_40 F h8 hR hS (lv_sub hl [0, 1] rfl) hc
      · replace h8 := h8.2 c102
        refine lv_bipush (v := 21) hx hb dX8_batchFault_37 (by decide) ?_
        exact s_iret F hR hS h8 hc dX8_batchFault_39
  · replace h8 := h8.2 c10
    refine lv_bipush (v := 20) hx hb dX8_batchFault_13 (by decide) ?_
    exact s_iret F hR hS h8 hc dX8_batchFault_15
set_option maxHeartbeats 4000000 in
set_option maxRecDepth 100000 in
theorem kX8_batchFault (l : Launch) (Γ : rGam) (o : Nat) (p1 : Int32) (post : Int32 → St → Prop) (σ0 : St) (h : wX8_batchFault o p1 post σ0) : Met l yX8_batchFault wsX8_batchFault rmX8_batchFault (rPc Γ vwCl [.ref o, .int p1] (Rep Γ σ0)) (va_Qi post (fun σ' t => Rep Γ σ' t.heap) (rA Γ)) 0 0 (rA Γ) := by
  refine Met.ofW (cc := cX8_batchFault) (maxL := 3) (ret := (some .int)) (by decide) rfl ?_
  intro p e s m args below meth c s₁ B hml hv
  obtain ⟨rfl, hR, hE⟩ := hv
  have F : Fx Γ p s m meth c _ cX8_batchFault 3 RX8 wsX8_batchFault (some .int) := ⟨⟨B.exec, B.bytes, hml, findClass_of_methodNamed B.named, atoms_spec (ws := wsX8_batchFault) B.pre⟩, hE, B.notSynchronized, B.returns⟩
  have hl := lv_entry ([.ref o, .int p1]) (n := 3) (Nat.le_of_ble_eq_true rfl)
  rw [lg_entry_eq]
  generalize (lg_sl ([.ref o, .int p1]) ++ List.replicate (3 - (lg_sl ([.ref o, .int p1])).length) Slot.unset).toArray = ls at hl ⊢
  have hl : lv_has ls 3 [(0, .ref o), (1, .int p1)] := hl
  exact bX8_batchFault F h hR va_S.rf hl ⟨Nat.le_refl 0, Nat.le_refl 0⟩
/-! X8_entryFault -/
theorem mX8_entryFault_0 : Cond.fieldLink RX8 57 "ClearingFilesModel" "inRouting" "[I" ∈ wsX8_entryFault := by decide +kernel
theorem mX8_entryFault_1 : Cond.fieldLink RX8 54 "ClearingFilesModel" "inCode" "[I" ∈ wsX8_entryFault := by decide +kernel
theorem mX8_entryFault_2 : Cond.fieldLink RX8 63 "ClearingFilesModel" "inAmount" "[I" ∈ wsX8_entryFault := by decide +kernel
theorem nX8_entryFault_X8 : ∀ w ∈ u_ws RX8 TX8 46, w ∈ wsX8_entryFault := fun _ h => List.mem_cons_of_mem _ (List.mem_append_right _ h)
abbrev rmX8_entryFault : Room := { frames := 1, cells := 0, slots := 0, locals := 25 }
set_option maxRecDepth 100000 in
def wX8_entryFault_58 (o : Nat) (post : Int32 → St → Prop) (x1 : Int32) (σ0 : St) : Prop :=
  sK σ0 o = 9 ∧ (∀ r27 : Option Nat, r27 = sR σ0 475 o 0 → (∃ a28 : Nat, r27 = some a28 ∧ (sK σ0 a28 = 1475 ∧ (vp_in x1 20 ∧ (((sI σ0 1475 a28 x1.toNatClampNeg) = 0 → (post (33 : Int32) σ0)) ∧ (¬ (sI σ0 1475 a28 x1.toNatClampNeg) = 0 → (post (0 : Int32) σ0)))))))
set_option maxHeartbeats 4000000 in
set_option maxRecDepth 100000 in
theorem bX8_entryFault_58 {p : Program} {l : Launch} {e : Env} {s : State} {m : MethodId} {args : Array Value} {below : List Frame} {meth : Method} {c : Code} {Γ : rGam} {o : Nat} {post : Int32 → St → Prop} (F : Fx Γ p s m meth c args cX8_entryFault 2 RX8 wsX8_entryFault (some .int)) {H : Heap} {locs : List Loc} {ls : Array Slot} {cells slots : Nat} {x1 : Int32} {σ0 : St} (h : wX8_entryFault_58 o post x1 σ0) (hR : Rep Γ σ0 H) (hS : va_S (rA Γ) s.heap H locs) (hl : lv_has ls 2 [(0, .ref o), (1, .int x1)]) (hc : cells ≤ 0 ∧ slots ≤ 0) : W p l e rmX8_entryFault s m args below meth c H locs cells slots (rQi Γ below post args s 0 0) (F0 m 58 ls []) := by
  have hx := F.1.1
  have hb := F.1.2.1
  unfold wX8_entryFault_58 at h
  refine lv_aload_n hx hb dX8_entryFault_58 rfl (lv_at hl 0 rfl) ?_
  obtain ⟨k26, h⟩ := h
  refine s_getR F hR k26 (by decide) (C := RX8) (T := TX8) (N := 46) rfl nX8_entryFault_X8 25 (by decide) mX8_entryFault_2 (f := 475) rfl dX8_entryFault_59 (fun r27 er27 => ?_)
  replace h := h r27 er27
  refine lv_iload_n hx hb dX8_entryFault_62 rfl (lv_at hl 1 rfl) ?_
  obtain ⟨a28, ea28, h⟩ := h
  subst ea28
  obtain ⟨k29, h⟩ := h
  obtain ⟨z30, h⟩ := h
  refine s_iald F hR k29 (by decide) rfl z30 dX8_entryFault_63 ?_
  refine lv_if_ne (tgt := 72) hx hb dX8_entryFault_64 (by decide) (fun c31 => ?_) (fun c31 => ?_)
  · replace h := h.2 c31
    refine lv_iconst (v := 0) hx hb dX8_entryFault_72 (by decide) ?_
    exact s_iret F hR hS h hc dX8_entryFault_73
  · replace h := h.1 c31
    refine lv_bipush (v := 33) hx hb dX8_entryFault_67 (by decide) ?_
    refine lv_goto (tgt := 73) hx hb dX8_entryFault_69 (by decide) ?_
    exact s_iret F hR hS h hc dX8_entryFault_73

set_option maxRecDepth 100000 in
def wX8_entryFault (o : Nat) (p1 : Int32) (post : Int32 → St → Prop) (σ0 : St) : Prop :=
  sK σ0 o = 9 ∧ (∀ r2 : Option Nat, r2 = sR σ0 473 o 0 → (∃ a3 : Nat, r2 = some a3 ∧ (sK σ0 a3 = 1473 ∧ (vp_in p1 20 ∧ (wX8_right (sI σ0 1473 a3 p1.toNatClampNeg) (4 : Int32) (fun (x8 : Int32) (σ6 : St) => (x8 = 0 → (post (30 : Int32) σ6)) ∧ (¬ x8 = 0 → (sK σ6 o = 9 ∧ (∀ r11 : Option Nat, r11 = sR σ6 473 o 0 → (∃ a12 : Nat, r11 = some a12 ∧ (sK σ6 a12 = 1473 ∧ (vp_in p1 20 ∧ (sK σ6 o = 9 ∧ (wX8_bankOf o (sI σ6 1473 a12 p1.toNatClampNeg) (fun (x18 : Int32) (σ16 : St) => (0 ≤ x18 → (sK σ16 o = 9 ∧ (∀ r21 : Option Nat, r21 = sR σ16 472 o 0 → (∃ a22 : Nat, r21 = some a22 ∧ (sK σ16 a22 = 1472 ∧ (vp_in p1 20 ∧ (((sI σ16 1472 a22 p1.toNatClampNeg) = (2 : Int32) → (wX8_entryFault_58 o post p1 σ16)) ∧ (¬ (sI σ16 1472 a22 p1.toNatClampNeg) = (2 : Int32) → (sK σ16 o = 9 ∧ (∀ r33 : Option Nat, r33 = sR σ16 472 o 0 → (∃ a34 : Nat, r33 = some a34 ∧ (sK σ16 a34 = 1472 ∧ (vp_in p1 20 ∧ (((sI σ16 1472 a34 p1.toNatClampNeg) = (7 : Int32) → (wX8_entryFault_58 o post p1 σ16)) ∧ (¬ (sI σ16 1472 a34 p1.toNatClampNeg) = (7 : Int32) → (post (32 : Int32) σ16)))))))))))))))) ∧ (¬ 0 ≤ x18 → (post (31 : Int32) σ16))) σ6))))))))) σ0)))))
set_option maxHeartbeats 4000000 in
set_option maxRecDepth 100000 in
theorem bX8_entryFault {p : Program} {l : Launch} {e : Env} {s : State} {m : MethodId} {args : Array Value} {below : List Frame} {meth : Method} {c : Code} {Γ : rGam} {o : Nat} {post : Int32 → St → Prop} (F : Fx Γ p s m meth c args cX8_entryFault 2 RX8 wsX8_entryFault (some .int)) {H : Heap} {locs : List Loc} {ls : Array Slot} {cells slots : Nat} {p1 : Int32} {σ0 : St} (h : wX8_entryFault o p1 post σ0) (hR : Rep Γ σ0 H) (hS : va_S (rA Γ) s.heap H locs) (hl : lv_has ls 2 [(0, .ref o), (1, .int p1)]) (hc : cells ≤ 0 ∧ slots ≤ 0) : W p l e rmX8_entryFault s m args below meth c H locs cells slots (rQi Γ below post args s 0 0) (F0 m 0 ls []) := by
  have hx := F.1.1
  have hb := F.1.2.1
  unfold wX8_entryFault at h
  refine lv_aload_n hx hb dX8_entryFault_0 rfl (lv_at hl 0 rfl) ?_
  obtain ⟨k1, h⟩ := h
  refine s_getR F hR k1 (by decide) (C := RX8) (T := TX8) (N := 46) rfl nX8_entryFault_X8 23 (by decide) mX8_entryFault_0 (f := 473) rfl dX8_entryFault_1 (fun r2 er2 => ?_)
  replace h := h r2 er2
  refine lv_iload_n hx hb dX8_entryFault_4 rfl (lv_at hl 1 rfl) ?_
  obtain ⟨a3, ea3, h⟩ := h
  subst ea3
  obtain ⟨k4, h⟩ := h
  obtain ⟨z5, h⟩ := h
  refine s_iald F hR k4 (by decide) rfl z5 dX8_entryFault_5 ?_
  refine lv_iconst (v := 4) hx hb dX8_entryFault_6 (by decide) ?_
  refine s_ci hS (k_runS F hR hS hl 2 [.int (sI σ0 1473 a3 p1.toNatClampNeg), .int (4 : Int32)] (kX8_right l Γ (sI σ0 1473 a3 p1.toNatClampNeg) (4 : Int32) _ _ h) gX8_entryFault_X8_right rfl rfl rfl (by decide +kernel) ⟨Nat.le_of_ble_eq_true rfl, Nat.le_of_ble_eq_true rfl⟩ rfl (Nat.le_of_ble_eq_true rfl) dX8_entryFault_7 ⟨by show _ ≤ 0; omega, by show _ ≤ 0; omega⟩) (fun x8 σ6 H locs h7 hR hS => ?_)
  refine lv_if_ne (tgt := 16) hx hb dX8_entryFault_10 (by decide) (fun c9 => ?_) (fun c9 => ?_)
  · replace h7 := h7.2 c9
    refine lv_aload_n hx hb dX8_entryFault_16 rfl (lv_at hl 0 rfl) ?_
    refine lv_aload_n hx hb dX8_entryFault_17 rfl (lv_at hl 0 rfl) ?_
    obtain ⟨k10, h7⟩ := h7
    refine s_getR F hR k10 (by decide) (C := RX8) (T := TX8) (N := 46) rfl nX8_entryFault_X8 23 (by decide) mX8_entryFault_0 (f := 473) rfl dX8_entryFault_18 (fun r11 er11 => ?_)
    replace h7 := h7 r11 er11
    refine lv_iload_n hx hb dX8_entryFault_21 rfl (lv_at hl 1 rfl) ?_
    obtain ⟨a12, ea12, h7⟩ := h7
    subst ea12
    obtain ⟨k13, h7⟩ := h7
    obtain ⟨z14, h7⟩ := h7
    refine s_iald F hR k13 (by decide) rfl z14 dX8_entryFault_22 ?_
    obtain ⟨k15, h7⟩ := h7
    refine s_ci hS (k_runV F hR hS hl 1 [.int (sI σ6 1473 a12 p1.toNatClampNeg)] (kX8_bankOf l Γ o (sI σ6 1473 a12 p1.toNatClampNeg) _ _ h7) gX8_entryFault_X8_bankOf rfl rfl rfl (by decide +kernel) ⟨Nat.le_of_ble_eq_true rfl, Nat.le_of_ble_eq_true rfl⟩ (s_recv F hR k15 (by decide) (C := RX8) (T := TX8) (N := 46) rfl) rfl (Nat.le_of_ble_eq_true rfl) dX8_entryFault_23 ⟨by show _ ≤ 0; omega, by show _ ≤ 0; omega⟩) (fun x18 σ16 H locs h17 hR hS => ?_)
    refine lv_if_ge (tgt := 32) hx hb dX8_entryFault_26 (by decide) (fun c19 => ?_) (fun c19 => ?_)
    · replace h17 := h17.1 c19
      refine lv_aload_n hx hb dX8_entryFault_32 rfl (lv_at hl 0 rfl) ?_
      obtain ⟨k20, h17⟩ := h17
      refine s_getR F hR k20 (by decide) (C := RX8) (T := TX8) (N := 46) rfl nX8_entryFault_X8 22 (by decide) mX8_entryFault_1 (f := 472) rfl dX8_entryFault_33 (fun r21 er21 => ?_)
      replace h17 := h17 r21 er21
      refine lv_iload_n hx hb dX8_entryFault_36 rfl (lv_at hl 1 rfl) ?_
      obtain ⟨a22, ea22, h17⟩ := h17
      subst ea22
      obtain ⟨k23, h17⟩ := h17
      obtain ⟨z24, h17⟩ := h17
      refine s_iald F hR k23 (by decide) rfl z24 dX8_entryFault_37 ?_
      refine lv_iconst (v := 2) hx hb dX8_entryFault_38 (by decide) ?_
      refine lv_icmp_eq (tgt := 58) hx hb dX8_entryFault_39 (by decide) (fun c25 => ?_) (fun c25 => ?_)
      · replace h17 := h17.1 c25
        exact bX8_entryFault_58 F h17 hR hS (lv_sub hl [0, 1] rfl) hc
      · replace h17 := h17.2 c25
        refine lv_aload_n hx hb dX8_entryFault_42 rfl (lv_at hl 0 rfl) ?_
        obtain ⟨k32, h17⟩ := h17
        refine s_getR F hR k32 (by decide) (C := RX8) (T := TX8) (N := 46) rfl nX8_entryFault_X8 22 (by decide) mX8_entryFault_1 (f := 472) rfl dX8_entryFault_43 (fun r33 er33 => ?_)
        replace h17 := h17 r33 er33
        refine lv_iload_n hx hb dX8_entryFault_46 rfl (lv_at hl 1 rfl) ?_
        obtain ⟨a34, ea34, h17⟩ := h17
        subst ea34
        obtain ⟨k35, h17⟩ := h17
        obtain ⟨z36, h17⟩ := h17
        refine s_iald F hR k35 (by decide) rfl z36 dX8_entryFault_47 ?_
        refine lv_bipush (v := 7) hx hb dX8_entryFault_48 (by decide) ?_
        refine lv_icmp_eq (tgt := 58) hx hb dX8_entryFault_50 (by decide) (fun c37 => ?_) (fun c37 => ?_)
        · replace h17 := h17.1 c37
          exact bX8_entryFault_58 F h17 hR hS (lv_sub hl [0, 1] rfl) hc
        · replace h17 := h17.2 c37
          refine lv_bipush (v := 32) hx hb dX8_entryFault_53 (by decide) ?_
          refine lv_goto (tgt := 73) hx hb dX8_entryFault_55 (by decide) ?_
          exact s_iret F hR hS h17 hc dX8_entryFault_73
    · replace h17 := h17.2 c19
      refine lv_bipush (v := 31) hx hb dX8_entryFault_29 (by decide) ?_
      exact s_iret F hR hS h17 hc dX8_entryFault_31
  · replace h7 := h7.1 c9
    refine lv_bipush (v := 30) hx hb dX8_entryFault_13 (by decide) ?_
    exact s_iret F hR hS h7 hc dX8_entryFault_15
set_option maxHeartbeats 4000000 in
set_option maxRecDepth 100000 in
theorem kX8_entryFault (l : Launch) (Γ : rGam) (o : Nat) (p1 : Int32) (post : Int32 → St → Prop) (σ0 : St) (h : wX8_entryFault o p1 post σ0) : Met l yX8_entryFault wsX8_entryFault rmX8_entryFault (rPc Γ vwCl [.ref o, .int p1] (Rep Γ σ0)) (va_Qi post (fun σ' t => Rep Γ σ' t.heap) (rA Γ)) 0 0 (rA Γ) := by
  refine Met.ofW (cc := cX8_entryFault) (maxL := 2) (ret := (some .int)) (by decide) rfl ?_
  intro p e s m args below meth c s₁ B hml hv
  obtain ⟨rfl, hR, hE⟩ := hv
  have F : Fx Γ p s m meth c _ cX8_entryFault 2 RX8 wsX8_entryFault (some .int) := ⟨⟨B.exec, B.bytes, hml, findClass_of_methodNamed B.named, atoms_spec (ws := wsX8_entryFault) B.pre⟩, hE, B.notSynchronized, B.returns⟩
  have hl := lv_entry ([.ref o, .int p1]) (n := 2) (Nat.le_of_ble_eq_true rfl)
  rw [lg_entry_eq]
  generalize (lg_sl ([.ref o, .int p1]) ++ List.replicate (2 - (lg_sl ([.ref o, .int p1])).length) Slot.unset).toArray = ls at hl ⊢
  have hl : lv_has ls 2 [(0, .ref o), (1, .int p1)] := hl
  exact bX8_entryFault F h hR va_S.rf hl ⟨Nat.le_refl 0, Nat.le_refl 0⟩
/-! X8_goodEntries -/
theorem mX8_goodEntries_0 : Cond.fieldLink RX8 164 "ClearingFilesModel" "entries" "I" ∈ wsX8_goodEntries := by decide +kernel
theorem mX8_goodEntries_1 : Cond.fieldLink RX8 51 "ClearingFilesModel" "inBatch" "[I" ∈ wsX8_goodEntries := by decide +kernel
theorem nX8_goodEntries_X8 : ∀ w ∈ u_ws RX8 TX8 46, w ∈ wsX8_goodEntries := fun _ h => List.mem_cons_of_mem _ (List.mem_append_right _ h)
abbrev rmX8_goodEntries : Room := { frames := 2, cells := 0, slots := 0, locals := 49 }
set_option maxRecDepth 100000 in
def wX8_goodEntries_40 (k4 : Int32 → Int32 → St → Prop) (o : Nat) (post : Int32 → St → Prop) (x2 : Int32) (y0 : Int32) (σ0 : St) : Prop :=
  ∀ x16 : Int32, x16 = x2 + (1 : Int32) → (k4 y0 x16 σ0)
set_option maxHeartbeats 4000000 in
set_option maxRecDepth 100000 in
theorem bX8_goodEntries_40 {p : Program} {l : Launch} {e : Env} {s : State} {m : MethodId} {args : Array Value} {below : List Frame} {meth : Method} {c : Code} {Γ : rGam} {o : Nat} {post : Int32 → St → Prop} (F : Fx Γ p s m meth c args cX8_goodEntries 3 RX8 wsX8_goodEntries (some .int)) {k4 : Int32 → Int32 → St → Prop} (hk4 : ∀ (x1 : Int32) (x2 : Int32) (σ0 : St) (H : Heap) (locs : List Loc) (ls : Array Slot) (cells slots : Nat), k4 x1 x2 σ0 → Rep Γ σ0 H → va_S (rA Γ) s.heap H locs → lv_has ls 3 [(0, .ref o), (1, .int x1), (2, .int x2)] → cells ≤ 0 ∧ slots ≤ 0 → W p l e rmX8_goodEntries s m args below meth c H locs cells slots (rQi Γ below post args s 0 0) (F0 m 4 ls [])) {H : Heap} {locs : List Loc} {ls : Array Slot} {cells slots : Nat} {x2 : Int32} {y0 : Int32} {σ0 : St} (h : wX8_goodEntries_40 k4 o post x2 y0 σ0) (hR : Rep Γ σ0 H) (hS : va_S (rA Γ) s.heap H locs) (hl : lv_has ls 3 [(0, .ref o), (2, .int x2)]) (hc : cells ≤ 0 ∧ slots ≤ 0) : W p l e rmX8_goodEntries s m args below meth c H locs cells slots (rQi Γ below post args s 0 0) (F0 m 40 ls [.int y0]) := by
  have hx := F.1.1
  have hb := F.1.2.1
  unfold wX8_goodEntries_40 at h
  refine s_istore_n (lk := [(0, .ref o)]) (lv' := [(1, .int y0), (0, .ref o), (2, .int x2)]) hx hb dX8_goodEntries_40 rfl hl (by decide) rfl (lk_1 rfl) rfl (fun ls hl15 => ?_)
  obtain ⟨x16, ex16⟩ : ∃ x : Int32, x = x2 + (1 : Int32) := ⟨_, rfl⟩
  replace h := h x16 ex16
  refine s_iinc (v := x16) (d := 1) (lk := [(1, .int y0)]) (lv' := [(2, .int x16), (1, .int y0), (0, .ref o)]) hx hb dX8_goodEntries_41 hl15 (k := 2) rfl (by decide) (by decide) rfl (lk_1 rfl) ex16 rfl (fun ls hl17 => ?_)
  refine lv_goto (tgt := 4) hx hb dX8_goodEntries_44 (by decide) ?_
  exact hk4 y0 x16 σ0 _ _ _ _ _ h hR hS (lv_sub hl17 [2, 1, 0] rfl) hc

set_option maxRecDepth 100000 in
def wX8_goodEntries_39 (k4 : Int32 → Int32 → St → Prop) (o : Nat) (post : Int32 → St → Prop) (x1 : Int32) (x2 : Int32) (σ0 : St) : Prop :=
  wX8_goodEntries_40 k4 o post x2 x1 σ0
set_option maxHeartbeats 4000000 in
set_option maxRecDepth 100000 in
theorem bX8_goodEntries_39 {p : Program} {l : Launch} {e : Env} {s : State} {m : MethodId} {args : Array Value} {below : List Frame} {meth : Method} {c : Code} {Γ : rGam} {o : Nat} {post : Int32 → St → Prop} (F : Fx Γ p s m meth c args cX8_goodEntries 3 RX8 wsX8_goodEntries (some .int)) {k4 : Int32 → Int32 → St → Prop} (hk4 : ∀ (x1 : Int32) (x2 : Int32) (σ0 : St) (H : Heap) (locs : List Loc) (ls : Array Slot) (cells slots : Nat), k4 x1 x2 σ0 → Rep Γ σ0 H → va_S (rA Γ) s.heap H locs → lv_has ls 3 [(0, .ref o), (1, .int x1), (2, .int x2)] → cells ≤ 0 ∧ slots ≤ 0 → W p l e rmX8_goodEntries s m args below meth c H locs cells slots (rQi Γ below post args s 0 0) (F0 m 4 ls [])) {H : Heap} {locs : List Loc} {ls : Array Slot} {cells slots : Nat} {x1 : Int32} {x2 : Int32} {σ0 : St} (h : wX8_goodEntries_39 k4 o post x1 x2 σ0) (hR : Rep Γ σ0 H) (hS : va_S (rA Γ) s.heap H locs) (hl : lv_has ls 3 [(0, .ref o), (1, .int x1), (2, .int x2)]) (hc : cells ≤ 0 ∧ slots ≤ 0) : W p l e rmX8_goodEntries s m args below meth c H locs cells slots (rQi Γ below post args s 0 0) (F0 m 39 ls []) := by
  have hx := F.1.1
  have hb := F.1.2.1
  unfold wX8_goodEntries_39 at h
  refine lv_iload_n hx hb dX8_goodEntries_39 rfl (lv_at hl 1 rfl) ?_
  exact bX8_goodEntries_40 F hk4 h hR hS (lv_sub hl [0, 2] rfl) hc

set_option maxRecDepth 100000 in
def wX8_goodEntries_4 (o : Nat) (post : Int32 → St → Prop) : Nat → Int32 → Int32 → St → Prop
  | 0, _, _, _ => False
  | n + 1, x1, x2, σ0 =>
    sK σ0 o = 9 ∧ (((sI σ0 463 o 0) ≤ x2 → (post x1 σ0)) ∧ (¬ (sI σ0 463 o 0) ≤ x2 → (sK σ0 o = 9 ∧ (∀ r6 : Option Nat, r6 = sR σ0 471 o 0 → (∃ a7 : Nat, r6 = some a7 ∧ (sK σ0 a7 = 1471 ∧ (vp_in x2 20 ∧ (sK σ0 o = 9 ∧ (wX8_batchFault o (sI σ0 1471 a7 x2.toNatClampNeg) (fun (x13 : Int32) (σ11 : St) => (x13 = 0 → (sK σ11 o = 9 ∧ (wX8_entryFault o x2 (fun (x21 : Int32) (σ19 : St) => (x21 = 0 → (wX8_goodEntries_40 (wX8_goodEntries_4 o post n) o post x2 (x1 + (1 : Int32)) σ19)) ∧ (¬ x21 = 0 → (wX8_goodEntries_39 (wX8_goodEntries_4 o post n) o post x1 x2 σ19))) σ11))) ∧ (¬ x13 = 0 → (wX8_goodEntries_39 (wX8_goodEntries_4 o post n) o post x1 x2 σ11))) σ0)))))))))
set_option maxHeartbeats 4000000 in
set_option maxRecDepth 100000 in
theorem bX8_goodEntries_4 {p : Program} {l : Launch} {e : Env} {s : State} {m : MethodId} {args : Array Value} {below : List Frame} {meth : Method} {c : Code} {Γ : rGam} {o : Nat} {post : Int32 → St → Prop} (F : Fx Γ p s m meth c args cX8_goodEntries 3 RX8 wsX8_goodEntries (some .int)) : ∀ (n : Nat) (x1 : Int32) (x2 : Int32) (σ0 : St) (H : Heap) (locs : List Loc) (ls : Array Slot) (cells slots : Nat), wX8_goodEntries_4 o post n x1 x2 σ0 → Rep Γ σ0 H → va_S (rA Γ) s.heap H locs → lv_has ls 3 [(0, .ref o), (1, .int x1), (2, .int x2)] → cells ≤ 0 ∧ slots ≤ 0 → W p l e rmX8_goodEntries s m args below meth c H locs cells slots (rQi Γ below post args s 0 0) (F0 m 4 ls []) := by
  have hx := F.1.1
  have hb := F.1.2.1
  intro n
  induction n with
  | zero =>
    intro x1 x2 σ0 H locs ls cells slots h
    exact absurd h (by unfold wX8_goodEntries_4; exact id)
  | succ n ih =>
    intro x1 x2 σ0 H locs ls cells slots h hR hS hl hc
    unfold wX8_goodEntries_4 at h
    refine lv_iload_n hx hb dX8_goodEntries_4 rfl (lv_at hl 2 rfl) ?_
    refine lv_aload_n hx hb dX8_goodEntries_5 rfl (lv_at hl 0 rfl) ?_
    obtain ⟨k3, h⟩ := h
    refine s_getI F hR k3 (by decide) (C := RX8) (T := TX8) (N := 46) rfl nX8_goodEntries_X8 13 (by decide) mX8_goodEntries_0 (f := 463) rfl dX8_goodEntries_6 ?_
    refine lv_icmp_ge (tgt := 47) hx hb dX8_goodEntries_9 (by decide) (fun c4 => ?_) (fun c4 => ?_)
    · replace h := h.1 c4
      refine lv_iload_n hx hb dX8_goodEntries_47 rfl (lv_at hl 1 rfl) ?_
      exact s_iret F hR hS h hc dX8_goodEntries_48
    · replace h := h.2 c4
      refine lv_aload_n hx hb dX8_goodEntries_12 rfl (lv_at hl 0 rfl) ?_
      refine lv_aload_n hx hb dX8_goodEntries_13 rfl (lv_at hl 0 rfl) ?_
      obtain ⟨k5, h⟩ := h
      refine s_getR F hR k5 (by decide) (C := RX8) (T := TX8) (N := 46) rfl nX8_goodEntries_X8 21 (by decide) mX8_goodEntries_1 (f := 471) rfl dX8_goodEntries_14 (fun r6 er6 => ?_)
      replace h := h r6 er6
      refine lv_iload_n hx hb dX8_goodEntries_17 rfl (lv_at hl 2 rfl) ?_
      obtain ⟨a7, ea7, h⟩ := h
      subst ea7
      obtain ⟨k8, h⟩ := h
      obtain ⟨z9, h⟩ := h
      refine s_iald F hR k8 (by decide) rfl z9 dX8_goodEntries_18 ?_
      obtain ⟨k10, h⟩ := h
      refine s_ci hS (k_runV F hR hS hl 1 [.int (sI σ0 1471 a7 x2.toNatClampNeg)] (kX8_batchFault l Γ o (sI σ0 1471 a7 x2.toNatClampNeg) _ _ h) gX8_goodEntries_X8_batchFault rfl rfl rfl (by decide +kernel) ⟨Nat.le_of_ble_eq_true rfl, Nat.le_of_ble_eq_true rfl⟩ (s_recv F hR k10 (by decide) (C := RX8) (T := TX8) (N := 46) rfl) rfl (Nat.le_of_ble_eq_true rfl) dX8_goodEntries_19 ⟨by show _ ≤ 0; omega, by show _ ≤ 0; omega⟩) (fun x13 σ11 H locs h12 hR hS => ?_)
      refine lv_if_ne (tgt := 39) hx hb dX8_goodEntries_22 (by decide) (fun c14 => ?_) (fun c14 => ?_)
      · replace h12 := h12.2 c14
        exact bX8_goodEntries_39 F (fun x1 x2 σ0 H locs ls cells slots h hR hS hl hc => ih x1 x2 σ0 H locs ls cells slots h hR hS hl hc) h12 hR hS (lv_sub hl [0, 1, 2] rfl) hc
      · replace h12 := h12.1 c14
        refine lv_aload_n hx hb dX8_goodEntries_25 rfl (lv_at hl 0 rfl) ?_
        refine lv_iload_n hx hb dX8_goodEntries_26 rfl (lv_at hl 2 rfl) ?_
        obtain ⟨k18, h12⟩ := h12
        refine s_ci hS (k_runV F hR hS hl 1 [.int x2] (kX8_entryFault l Γ o x2 _ _ h12) gX8_goodEntries_X8_entryFault rfl rfl rfl (by decide +kernel) ⟨Nat.le_of_ble_eq_true rfl, Nat.le_of_ble_eq_true rfl⟩ (s_recv F hR k18 (by decide) (C := RX8) (T := TX8) (N := 46) rfl) rfl (Nat.le_of_ble_eq_true rfl) dX8_goodEntries_27 ⟨by show _ ≤ 0; omega, by show _ ≤ 0; omega⟩) (fun x21 σ19 H locs h20 hR hS => ?_)
        refine lv_if_ne (tgt := 39) hx hb dX8_goodEntries_30 (by decide) (fun c22 => ?_) (fun c22 => ?_)
        · replace h20 := h20.2 c22
          exact bX8_goodEntries_39 F (fun x1 x2 σ0 H locs ls cells slots h hR hS hl hc => ih x1 x2 σ0 H locs ls cells slots h hR hS hl hc) h20 hR hS (lv_sub hl [0, 1, 2] rfl) hc
        · replace h20 := h20.1 c22
          refine lv_iload_n hx hb dX8_goodEntries_33 rfl (lv_at hl 1 rfl) ?_
          refine lv_iconst (v := 1) hx hb dX8_goodEntries_34 (by decide) ?_
          refine lv_iadd hx hb dX8_goodEntries_35 ?_
          refine lv_goto (tgt := 40) hx hb dX8_goodEntries_36 (by decide) ?_
          exact bX8_goodEntries_40 F (fun x1 x2 σ0 H locs ls cells slots h hR hS hl hc => ih x1 x2 σ0 H locs ls cells slots h hR hS hl hc) h20 hR hS (lv_sub hl [0, 2] rfl) hc

set_option maxRecDepth 100000 in
def wX8_goodEntries (o : Nat)  (post : Int32 → St → Prop) (σ0 : St) : Prop :=
  ∃ n23 : Nat, wX8_goodEntries_4 o post n23 (0 : Int32) (0 : Int32) σ0
set_option maxHeartbeats 4000000 in
set_option maxRecDepth 100000 in
theorem bX8_goodEntries {p : Program} {l : Launch} {e : Env} {s : State} {m : MethodId} {args : Array Value} {below : List Frame} {meth : Method} {c : Code} {Γ : rGam} {o : Nat} {post : Int32 → St → Prop} (F : Fx Γ p s m meth c args cX8_goodEntries 3 RX8 wsX8_goodEntries (some .int)) {H : Heap} {locs : List Loc} {ls : Array Slot} {cells slots : Nat}  {σ0 : St} (h : wX8_goodEntries o  post σ0) (hR : Rep Γ σ0 H) (hS : va_S (rA Γ) s.heap H locs) (hl : lv_has ls 3 [(0, .ref o)]) (hc : cells ≤ 0 ∧ slots ≤ 0) : W p l e rmX8_goodEntries s m args below meth c H locs cells slots (rQi Γ below post args s 0 0) (F0 m 0 ls []) := by
  have hx := F.1.1
  have hb := F.1.2.1
  unfold wX8_goodEntries at h
  refine lv_iconst (v := 0) hx hb dX8_goodEntries_0 (by decide) ?_
  refine s_istore_n (lk := [(0, .ref o)]) (lv' := [(1, .int (0 : Int32)), (0, .ref o)]) hx hb dX8_goodEntries_1 rfl hl (by decide) rfl (lk_1 rfl) rfl (fun ls hl1 => ?_)
  refine lv_iconst (v := 0) hx hb dX8_goodEntries_2 (by decide) ?_
  refine s_istore_n (lk := [(1, .int (0 : Int32))]) (lv' := [(2, .int (0 : Int32)), (1, .int (0 : Int32)), (0, .ref o)]) hx hb dX8_goodEntries_3 rfl hl1 (by decide) rfl (lk_1 rfl) rfl (fun ls hl2 => ?_)
  obtain ⟨n23, h⟩ := h
  exact bX8_goodEntries_4 F n23 (0 : Int32) (0 : Int32) σ0 _ _ _ _ _ h hR hS (lv_sub hl2 [2, 1, 0] rfl) hc
set_option maxHeartbeats 4000000 in
set_option maxRecDepth 100000 in
theorem kX8_goodEntries (l : Launch) (Γ : rGam) (o : Nat)  (post : Int32 → St → Prop) (σ0 : St) (h : wX8_goodEntries o  post σ0) : Met l yX8_goodEntries wsX8_goodEntries rmX8_goodEntries (rPc Γ vwCl [.ref o] (Rep Γ σ0)) (va_Qi post (fun σ' t => Rep Γ σ' t.heap) (rA Γ)) 0 0 (rA Γ) := by
  refine Met.ofW (cc := cX8_goodEntries) (maxL := 3) (ret := (some .int)) (by decide) rfl ?_
  intro p e s m args below meth c s₁ B hml hv
  obtain ⟨rfl, hR, hE⟩ := hv
  have F : Fx Γ p s m meth c _ cX8_goodEntries 3 RX8 wsX8_goodEntries (some .int) := ⟨⟨B.exec, B.bytes, hml, findClass_of_methodNamed B.named, atoms_spec (ws := wsX8_goodEntries) B.pre⟩, hE, B.notSynchronized, B.returns⟩
  have hl := lv_entry ([.ref o]) (n := 3) (Nat.le_of_ble_eq_true rfl)
  rw [lg_entry_eq]
  generalize (lg_sl ([.ref o]) ++ List.replicate (3 - (lg_sl ([.ref o])).length) Slot.unset).toArray = ls at hl ⊢
  have hl : lv_has ls 3 [(0, .ref o)] := hl
  exact bX8_goodEntries F h hR va_S.rf hl ⟨Nat.le_refl 0, Nat.le_refl 0⟩
