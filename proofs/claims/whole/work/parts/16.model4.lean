/-! X8_backFault -/
theorem mX8_backFault_0 : Cond.fieldLink RX8 81 "ClearingFilesModel" "account" "[I" ∈ wsX8_backFault := by decide +kernel
theorem mX8_backFault_1 : Cond.fieldLink RX8 78 "ClearingFilesModel" "taker" "[I" ∈ wsX8_backFault := by decide +kernel
theorem mX8_backFault_2 : Cond.fieldLink RX8 26 "ClearingFilesModel" "closed" "[Z" ∈ wsX8_backFault := by decide +kernel
theorem mX8_backFault_3 : Cond.fieldLink RX8 72 "ClearingFilesModel" "code" "[I" ∈ wsX8_backFault := by decide +kernel
theorem mX8_backFault_4 : Cond.fieldLink RX8 23 "ClearingFilesModel" "balances" "[J" ∈ wsX8_backFault := by decide +kernel
theorem mX8_backFault_5 : Cond.fieldLink RX8 84 "ClearingFilesModel" "amount" "[I" ∈ wsX8_backFault := by decide +kernel
theorem nX8_backFault_X8 : ∀ w ∈ u_ws RX8 TX8 46, w ∈ wsX8_backFault := fun _ h => List.mem_cons_of_mem _ (List.mem_append_right _ h)
abbrev rmX8_backFault : Room := { frames := 1, cells := 0, slots := 0, locals := 25 }
set_option maxRecDepth 100000 in
def wX8_backFault (o : Nat) (p1 : Int32) (post : Int32 → St → Prop) (σ0 : St) : Prop :=
  sK σ0 o = 9 ∧ (∀ r2 : Option Nat, r2 = sR σ0 483 o 0 → (∃ a3 : Nat, r2 = some a3 ∧ (sK σ0 a3 = 1483 ∧ (vp_in p1 512 ∧ (wX8_right (sI σ0 1483 a3 p1.toNatClampNeg) (6 : Int32) (fun (x8 : Int32) (σ6 : St) => (x8 = 0 → (post (4 : Int32) σ6)) ∧ (¬ x8 = 0 → (sK σ6 o = 9 ∧ (∀ r11 : Option Nat, r11 = sR σ6 482 o 0 → (∃ a12 : Nat, r11 = some a12 ∧ (sK σ6 a12 = 1482 ∧ (vp_in p1 512 ∧ (sK σ6 o = 9 ∧ (∀ r16 : Option Nat, r16 = sR σ6 483 o 0 → (∃ a17 : Nat, r16 = some a17 ∧ (sK σ6 a17 = 1483 ∧ (vp_in p1 512 ∧ (sK σ6 o = 9 ∧ (wX8_accountOf o (sI σ6 1482 a12 p1.toNatClampNeg) (sI σ6 1483 a17 p1.toNatClampNeg) (fun (x23 : Int32) (σ21 : St) => (0 ≤ x23 → (sK σ21 o = 9 ∧ (∀ r27 : Option Nat, r27 = sR σ21 458 o 0 → (∃ a28 : Nat, r27 = some a28 ∧ (sK σ21 a28 = 1458 ∧ (vp_in x23 12 ∧ (((sI σ21 1458 a28 x23.toNatClampNeg) = 0 → (sK σ21 o = 9 ∧ (∀ r33 : Option Nat, r33 = sR σ21 480 o 0 → (∃ a34 : Nat, r33 = some a34 ∧ (sK σ21 a34 = 1480 ∧ (vp_in p1 512 ∧ (((sI σ21 1480 a34 p1.toNatClampNeg) = (7 : Int32) → (sK σ21 o = 9 ∧ (∀ r39 : Option Nat, r39 = sR σ21 457 o 0 → (∃ a40 : Nat, r39 = some a40 ∧ (sK σ21 a40 = 1457 ∧ (vp_in x23 12 ∧ (sK σ21 o = 9 ∧ (∀ r44 : Option Nat, r44 = sR σ21 484 o 0 → (∃ a45 : Nat, r44 = some a45 ∧ (sK σ21 a45 = 1484 ∧ (vp_in p1 512 ∧ ((0 ≤ (lg_cmp (sJ σ21 1457 a40 x23.toNatClampNeg) ((sI σ21 1484 a45 p1.toNatClampNeg).toInt64)) → (post (0 : Int32) σ21)) ∧ (¬ 0 ≤ (lg_cmp (sJ σ21 1457 a40 x23.toNatClampNeg) ((sI σ21 1484 a45 p1.toNatClampNeg).toInt64)) → (post (1 : Int32) σ21)))))))))))))) ∧ (¬ (sI σ21 1480 a34 p1.toNatClampNeg) = (7 : Int32) → (post (0 : Int32) σ21))))))))) ∧ (¬ (sI σ21 1458 a28 x23.toNatClampNeg) = 0 → (post (2 : Int32) σ21))))))))) ∧ (¬ 0 ≤ x23 → (post (3 : Int32) σ21))) σ6)))))))))))))) σ0)))))
set_option maxHeartbeats 4000000 in
set_option maxRecDepth 100000 in
theorem bX8_backFault {p : Program} {l : Launch} {e : Env} {s : State} {m : MethodId} {args : Array Value} {below : List Frame} {meth : Method} {c : Code} {Γ : rGam} {o : Nat} {post : Int32 → St → Prop} (F : Fx Γ p s m meth c args cX8_backFault 3 RX8 wsX8_backFault (some .int)) {H : Heap} {locs : List Loc} {ls : Array Slot} {cells slots : Nat} {p1 : Int32} {σ0 : St} (h : wX8_backFault o p1 post σ0) (hR : Rep Γ σ0 H) (hS : va_S (rA Γ) s.heap H locs) (hl : lv_has ls 3 [(0, .ref o), (1, .int p1)]) (hc : cells ≤ 0 ∧ slots ≤ 0) : W p l e rmX8_backFault s m args below meth c H locs cells slots (rQi Γ below post args s 0 0) (F0 m 0 ls []) := by
  have hx := F.1.1
  have hb := F.1.2.1
  unfold wX8_backFault at h
  refine lv_aload_n hx hb dX8_backFault_0 rfl (lv_at hl 0 rfl) ?_
  obtain ⟨k1, h⟩ := h
  refine s_getR F hR k1 (by decide) (C := RX8) (T := TX8) (N := 46) rfl nX8_backFault_X8 33 (by decide) mX8_backFault_0 (f := 483) rfl dX8_backFault_1 (fun r2 er2 => ?_)
  replace h := h r2 er2
  refine lv_iload_n hx hb dX8_backFault_4 rfl (lv_at hl 1 rfl) ?_
  obtain ⟨a3, ea3, h⟩ := h
  subst ea3
  obtain ⟨k4, h⟩ := h
  obtain ⟨z5, h⟩ := h
  refine s_iald F hR k4 (by decide) rfl z5 dX8_backFault_5 ?_
  refine lv_bipush (v := 6) hx hb dX8_backFault_6 (by decide) ?_
  refine s_ci hS (k_runS F hR hS hl 2 [.int (sI σ0 1483 a3 p1.toNatClampNeg), .int (6 : Int32)] (kX8_right l Γ (sI σ0 1483 a3 p1.toNatClampNeg) (6 : Int32) _ _ h) gX8_backFault_X8_right rfl rfl rfl (by decide +kernel) ⟨Nat.le_of_ble_eq_true rfl, Nat.le_of_ble_eq_true rfl⟩ rfl (Nat.le_of_ble_eq_true rfl) dX8_backFault_8 ⟨by show _ ≤ 0; omega, by show _ ≤ 0; omega⟩) (fun x8 σ6 H locs h7 hR hS => ?_)
  refine lv_if_ne (tgt := 16) hx hb dX8_backFault_11 (by decide) (fun c9 => ?_) (fun c9 => ?_)
  · replace h7 := h7.2 c9
    refine lv_aload_n hx hb dX8_backFault_16 rfl (lv_at hl 0 rfl) ?_
    refine lv_aload_n hx hb dX8_backFault_17 rfl (lv_at hl 0 rfl) ?_
    obtain ⟨k10, h7⟩ := h7
    refine s_getR F hR k10 (by decide) (C := RX8) (T := TX8) (N := 46) rfl nX8_backFault_X8 32 (by decide) mX8_backFault_1 (f := 482) rfl dX8_backFault_18 (fun r11 er11 => ?_)
    replace h7 := h7 r11 er11
    refine lv_iload_n hx hb dX8_backFault_21 rfl (lv_at hl 1 rfl) ?_
    obtain ⟨a12, ea12, h7⟩ := h7
    subst ea12
    obtain ⟨k13, h7⟩ := h7
    obtain ⟨z14, h7⟩ := h7
    refine s_iald F hR k13 (by decide) rfl z14 dX8_backFault_22 ?_
    refine lv_aload_n hx hb dX8_backFault_23 rfl (lv_at hl 0 rfl) ?_
    obtain ⟨k15, h7⟩ := h7
    refine s_getR F hR k15 (by decide) (C := RX8) (T := TX8) (N := 46) rfl nX8_backFault_X8 33 (by decide) mX8_backFault_0 (f := 483) rfl dX8_backFault_24 (fun r16 er16 => ?_)
    replace h7 := h7 r16 er16
    refine lv_iload_n hx hb dX8_backFault_27 rfl (lv_at hl 1 rfl) ?_
    obtain ⟨a17, ea17, h7⟩ := h7
    subst ea17
    obtain ⟨k18, h7⟩ := h7
    obtain ⟨z19, h7⟩ := h7
    refine s_iald F hR k18 (by decide) rfl z19 dX8_backFault_28 ?_
    obtain ⟨k20, h7⟩ := h7
    refine s_ci hS (k_runV F hR hS hl 2 [.int (sI σ6 1482 a12 p1.toNatClampNeg), .int (sI σ6 1483 a17 p1.toNatClampNeg)] (kX8_accountOf l Γ o (sI σ6 1482 a12 p1.toNatClampNeg) (sI σ6 1483 a17 p1.toNatClampNeg) _ _ h7) gX8_backFault_X8_accountOf rfl rfl rfl (by decide +kernel) ⟨Nat.le_of_ble_eq_true rfl, Nat.le_of_ble_eq_true rfl⟩ (s_recv F hR k20 (by decide) (C := RX8) (T := TX8) (N := 46) rfl) rfl (Nat.le_of_ble_eq_true rfl) dX8_backFault_29 ⟨by show _ ≤ 0; omega, by show _ ≤ 0; omega⟩) (fun x23 σ21 H locs h22 hR hS => ?_)
    refine s_istore_n (lk := [(1, .int p1)]) (lv' := [(2, .int x23), (0, .ref o), (1, .int p1)]) hx hb dX8_backFault_32 rfl hl (by decide) rfl (lk_1 rfl) rfl (fun ls hl24 => ?_)
    refine lv_iload_n hx hb dX8_backFault_33 rfl (lv_at hl24 0 rfl) ?_
    refine lv_if_ge (tgt := 39) hx hb dX8_backFault_34 (by decide) (fun c25 => ?_) (fun c25 => ?_)
    · replace h22 := h22.1 c25
      refine lv_aload_n hx hb dX8_backFault_39 rfl (lv_at hl24 1 rfl) ?_
      obtain ⟨k26, h22⟩ := h22
      refine s_getR F hR k26 (by decide) (C := RX8) (T := TX8) (N := 46) rfl nX8_backFault_X8 8 (by decide) mX8_backFault_2 (f := 458) rfl dX8_backFault_40 (fun r27 er27 => ?_)
      replace h22 := h22 r27 er27
      refine lv_iload_n hx hb dX8_backFault_43 rfl (lv_at hl24 0 rfl) ?_
      obtain ⟨a28, ea28, h22⟩ := h22
      subst ea28
      obtain ⟨k29, h22⟩ := h22
      obtain ⟨z30, h22⟩ := h22
      refine s_zald F hR k29 (by decide) rfl z30 dX8_backFault_44 ?_
      refine lv_if_eq (tgt := 52) hx hb dX8_backFault_45 (by decide) (fun c31 => ?_) (fun c31 => ?_)
      · replace h22 := h22.1 c31
        refine lv_aload_n hx hb dX8_backFault_52 rfl (lv_at hl24 1 rfl) ?_
        obtain ⟨k32, h22⟩ := h22
        refine s_getR F hR k32 (by decide) (C := RX8) (T := TX8) (N := 46) rfl nX8_backFault_X8 30 (by decide) mX8_backFault_3 (f := 480) rfl dX8_backFault_53 (fun r33 er33 => ?_)
        replace h22 := h22 r33 er33
        refine lv_iload_n hx hb dX8_backFault_56 rfl (lv_at hl24 2 rfl) ?_
        obtain ⟨a34, ea34, h22⟩ := h22
        subst ea34
        obtain ⟨k35, h22⟩ := h22
        obtain ⟨z36, h22⟩ := h22
        refine s_iald F hR k35 (by decide) rfl z36 dX8_backFault_57 ?_
        refine lv_bipush (v := 7) hx hb dX8_backFault_58 (by decide) ?_
        refine lv_icmp_ne (tgt := 84) hx hb dX8_backFault_60 (by decide) (fun c37 => ?_) (fun c37 => ?_)
        · replace h22 := h22.2 c37
          refine lv_iconst (v := 0) hx hb dX8_backFault_84 (by decide) ?_
          exact s_iret F hR hS h22 hc dX8_backFault_85
        · replace h22 := h22.1 c37
          refine lv_aload_n hx hb dX8_backFault_63 rfl (lv_at hl24 1 rfl) ?_
          obtain ⟨k38, h22⟩ := h22
          refine s_getR F hR k38 (by decide) (C := RX8) (T := TX8) (N := 46) rfl nX8_backFault_X8 7 (by decide) mX8_backFault_4 (f := 457) rfl dX8_backFault_64 (fun r39 er39 => ?_)
          replace h22 := h22 r39 er39
          refine lv_iload_n hx hb dX8_backFault_67 rfl (lv_at hl24 0 rfl) ?_
          obtain ⟨a40, ea40, h22⟩ := h22
          subst ea40
          obtain ⟨k41, h22⟩ := h22
          obtain ⟨z42, h22⟩ := h22
          refine s_lald F hR k41 (by decide) rfl z42 dX8_backFault_68 ?_
          refine lv_aload_n hx hb dX8_backFault_69 rfl (lv_at hl24 1 rfl) ?_
          obtain ⟨k43, h22⟩ := h22
          refine s_getR F hR k43 (by decide) (C := RX8) (T := TX8) (N := 46) rfl nX8_backFault_X8 34 (by decide) mX8_backFault_5 (f := 484) rfl dX8_backFault_70 (fun r44 er44 => ?_)
          replace h22 := h22 r44 er44
          refine lv_iload_n hx hb dX8_backFault_73 rfl (lv_at hl24 2 rfl) ?_
          obtain ⟨a45, ea45, h22⟩ := h22
          subst ea45
          obtain ⟨k46, h22⟩ := h22
          obtain ⟨z47, h22⟩ := h22
          refine s_iald F hR k46 (by decide) rfl z47 dX8_backFault_74 ?_
          refine lv_i2l hx hb dX8_backFault_75 rfl ?_
          refine W.lcmp hx hb dX8_backFault_76 ?_
          refine lv_if_ge (tgt := 84) hx hb dX8_backFault_77 (by decide) (fun c48 => ?_) (fun c48 => ?_)
          · replace h22 := h22.1 c48
            refine lv_iconst (v := 0) hx hb dX8_backFault_84 (by decide) ?_
            exact s_iret F hR hS h22 hc dX8_backFault_85
          · replace h22 := h22.2 c48
            refine lv_iconst (v := 1) hx hb dX8_backFault_80 (by decide) ?_
            refine lv_goto (tgt := 85) hx hb dX8_backFault_81 (by decide) ?_
            exact s_iret F hR hS h22 hc dX8_backFault_85
      · replace h22 := h22.2 c31
        refine lv_iconst (v := 2) hx hb dX8_backFault_48 (by decide) ?_
        refine lv_goto (tgt := 85) hx hb dX8_backFault_49 (by decide) ?_
        exact s_iret F hR hS h22 hc dX8_backFault_85
    · replace h22 := h22.2 c25
      refine lv_iconst (v := 3) hx hb dX8_backFault_37 (by decide) ?_
      exact s_iret F hR hS h22 hc dX8_backFault_38
  · replace h7 := h7.1 c9
    refine lv_iconst (v := 4) hx hb dX8_backFault_14 (by decide) ?_
    exact s_iret F hR hS h7 hc dX8_backFault_15
set_option maxHeartbeats 4000000 in
set_option maxRecDepth 100000 in
theorem kX8_backFault (l : Launch) (Γ : rGam) (o : Nat) (p1 : Int32) (post : Int32 → St → Prop) (σ0 : St) (h : wX8_backFault o p1 post σ0) : Met l yX8_backFault wsX8_backFault rmX8_backFault (rPc Γ vwCl [.ref o, .int p1] (Rep Γ σ0)) (va_Qi post (fun σ' t => Rep Γ σ' t.heap) (rA Γ)) 0 0 (rA Γ) := by
  refine Met.ofW (cc := cX8_backFault) (maxL := 3) (ret := (some .int)) (by decide) rfl ?_
  intro p e s m args below meth c s₁ B hml hv
  obtain ⟨rfl, hR, hE⟩ := hv
  have F : Fx Γ p s m meth c _ cX8_backFault 3 RX8 wsX8_backFault (some .int) := ⟨⟨B.exec, B.bytes, hml, findClass_of_methodNamed B.named, atoms_spec (ws := wsX8_backFault) B.pre⟩, hE, B.notSynchronized, B.returns⟩
  have hl := lv_entry ([.ref o, .int p1]) (n := 3) (Nat.le_of_ble_eq_true rfl)
  rw [lg_entry_eq]
  generalize (lg_sl ([.ref o, .int p1]) ++ List.replicate (3 - (lg_sl ([.ref o, .int p1])).length) Slot.unset).toArray = ls at hl ⊢
  have hl : lv_has ls 3 [(0, .ref o), (1, .int p1)] := hl
  exact bX8_backFault F h hR va_S.rf hl ⟨Nat.le_refl 0, Nat.le_refl 0⟩
/-! X8_does -/
theorem mX8_does_0 : Cond.fieldLink RX8 105 "ClearingFilesModel" "outRow" "[I" ∈ wsX8_does := by decide +kernel
theorem mX8_does_1 : Cond.fieldLink RX8 111 "ClearingFilesModel" "outDone" "[I" ∈ wsX8_does := by decide +kernel
theorem mX8_does_2 : Cond.fieldLink RX8 108 "ClearingFilesModel" "outReturn" "[Z" ∈ wsX8_does := by decide +kernel
theorem mX8_does_3 : Cond.fieldLink RX8 78 "ClearingFilesModel" "taker" "[I" ∈ wsX8_does := by decide +kernel
theorem mX8_does_4 : Cond.fieldLink RX8 81 "ClearingFilesModel" "account" "[I" ∈ wsX8_does := by decide +kernel
theorem mX8_does_5 : Cond.fieldLink RX8 23 "ClearingFilesModel" "balances" "[J" ∈ wsX8_does := by decide +kernel
theorem mX8_does_6 : Cond.fieldLink RX8 72 "ClearingFilesModel" "code" "[I" ∈ wsX8_does := by decide +kernel
theorem mX8_does_7 : Cond.fieldLink RX8 84 "ClearingFilesModel" "amount" "[I" ∈ wsX8_does := by decide +kernel
theorem mX8_does_8 : Cond.fieldLink RX8 114 "ClearingFilesModel" "tally" "[I" ∈ wsX8_does := by decide +kernel
theorem mX8_does_9 : Cond.fieldLink RX8 96 "ClearingFilesModel" "reason" "[I" ∈ wsX8_does := by decide +kernel
theorem mX8_does_10 : Cond.fieldLink RX8 93 "ClearingFilesModel" "state" "[I" ∈ wsX8_does := by decide +kernel
theorem mX8_does_11 : Cond.fieldLink RX8 99 "ClearingFilesModel" "back" "[I" ∈ wsX8_does := by decide +kernel
theorem mX8_does_12 : Cond.fieldLink RX8 227 "ClearingFilesModel" "backs" "I" ∈ wsX8_does := by decide +kernel
theorem nX8_does_X8 : ∀ w ∈ u_ws RX8 TX8 46, w ∈ wsX8_does := fun _ h => List.mem_cons_of_mem _ (List.mem_append_right _ h)
abbrev rmX8_does : Room := { frames := 2, cells := 0, slots := 0, locals := 47 }
set_option maxRecDepth 100000 in
def wX8_does_155 (o : Nat) (post : Int32 → St → Prop) (q0 : Option Nat) (y1 : Int32) (y2 : Int64) (σ0 : St) : Prop :=
  ∃ a59 : Nat, q0 = some a59 ∧ (sK σ0 a59 = 1457 ∧ (vp_in y1 12 ∧ (∀ σ62 : St, σ62 = uJ σ0 1457 a59 (y1.toNatClampNeg) y2 → (post (1 : Int32) σ62))))
set_option maxHeartbeats 4000000 in
set_option maxRecDepth 100000 in
theorem bX8_does_155 {p : Program} {l : Launch} {e : Env} {s : State} {m : MethodId} {args : Array Value} {below : List Frame} {meth : Method} {c : Code} {Γ : rGam} {o : Nat} {post : Int32 → St → Prop} (F : Fx Γ p s m meth c args cX8_does 5 RX8 wsX8_does (some .int)) {H : Heap} {locs : List Loc} {ls : Array Slot} {cells slots : Nat} {q0 : Option Nat} {y1 : Int32} {y2 : Int64} {σ0 : St} (h : wX8_does_155 o post q0 y1 y2 σ0) (hR : Rep Γ σ0 H) (hS : va_S (rA Γ) s.heap H locs) (hl : lv_has ls 5 [(0, .ref o)]) (hc : cells ≤ 0 ∧ slots ≤ 0) : W p l e rmX8_does s m args below meth c H locs cells slots (rQi Γ below post args s 0 0) (F0 m 155 ls [.long y2, .int y1, va_rf q0]) := by
  have hx := F.1.1
  have hb := F.1.2.1
  unfold wX8_does_155 at h
  obtain ⟨a59, ea59, h⟩ := h
  subst ea59
  obtain ⟨k60, h⟩ := h
  obtain ⟨z61, h⟩ := h
  refine s_last F hR hS k60 (by decide) rfl z61 dX8_does_155 (fun σ62 eσ62 H locs hR hS => ?_)
  replace h := h σ62 eσ62
  refine lv_iconst (v := 1) hx hb dX8_does_156 (by decide) ?_
  exact s_iret F hR hS h hc dX8_does_157

set_option maxRecDepth 100000 in
def wX8_does (o : Nat) (p1 : Int32) (post : Int32 → St → Prop) (σ0 : St) : Prop :=
  sK σ0 o = 9 ∧ (∀ r2 : Option Nat, r2 = sR σ0 492 o 0 → (∃ a3 : Nat, r2 = some a3 ∧ (sK σ0 a3 = 1492 ∧ (vp_in p1 2560 ∧ (∀ x6 : Int32, x6 = (sI σ0 1492 a3 p1.toNatClampNeg) → (sK σ0 o = 9 ∧ (∀ r9 : Option Nat, r9 = sR σ0 494 o 0 → (∃ a10 : Nat, r9 = some a10 ∧ (sK σ0 a10 = 1494 ∧ (vp_in p1 2560 ∧ (∀ σ13 : St, σ13 = uI σ0 1494 a10 (p1.toNatClampNeg) (1 : Int32) → (sK σ13 o = 9 ∧ (∀ r15 : Option Nat, r15 = sR σ13 493 o 0 → (∃ a16 : Nat, r15 = some a16 ∧ (sK σ13 a16 = 1493 ∧ (vp_in p1 2560 ∧ (((sI σ13 1493 a16 p1.toNatClampNeg) = 0 → (sK σ13 o = 9 ∧ (wX8_backFault o x6 (fun (x23 : Int32) (σ21 : St) => (x23 ≤ 0 → (sK σ21 o = 9 ∧ (∀ r27 : Option Nat, r27 = sR σ21 482 o 0 → (∃ a28 : Nat, r27 = some a28 ∧ (sK σ21 a28 = 1482 ∧ (vp_in x6 512 ∧ (sK σ21 o = 9 ∧ (∀ r32 : Option Nat, r32 = sR σ21 483 o 0 → (∃ a33 : Nat, r32 = some a33 ∧ (sK σ21 a33 = 1483 ∧ (vp_in x6 512 ∧ (sK σ21 o = 9 ∧ (wX8_accountOf o (sI σ21 1482 a28 x6.toNatClampNeg) (sI σ21 1483 a33 x6.toNatClampNeg) (fun (x39 : Int32) (σ37 : St) => sK σ37 o = 9 ∧ (∀ r42 : Option Nat, r42 = sR σ37 457 o 0 → (sK σ37 o = 9 ∧ (∀ r44 : Option Nat, r44 = sR σ37 480 o 0 → (∃ a45 : Nat, r44 = some a45 ∧ (sK σ37 a45 = 1480 ∧ (vp_in x6 512 ∧ (((sI σ37 1480 a45 x6.toNatClampNeg) = (2 : Int32) → (sK σ37 o = 9 ∧ (∀ r64 : Option Nat, r64 = sR σ37 457 o 0 → (∃ a65 : Nat, r64 = some a65 ∧ (sK σ37 a65 = 1457 ∧ (vp_in x39 12 ∧ (sK σ37 o = 9 ∧ (∀ r69 : Option Nat, r69 = sR σ37 484 o 0 → (∃ a70 : Nat, r69 = some a70 ∧ (sK σ37 a70 = 1484 ∧ (vp_in x6 512 ∧ (wX8_does_155 o post r42 x39 ((sJ σ37 1457 a65 x39.toNatClampNeg) + ((sI σ37 1484 a70 x6.toNatClampNeg).toInt64)) σ37)))))))))))) ∧ (¬ (sI σ37 1480 a45 x6.toNatClampNeg) = (2 : Int32) → (sK σ37 o = 9 ∧ (∀ r50 : Option Nat, r50 = sR σ37 457 o 0 → (∃ a51 : Nat, r50 = some a51 ∧ (sK σ37 a51 = 1457 ∧ (vp_in x39 12 ∧ (sK σ37 o = 9 ∧ (∀ r55 : Option Nat, r55 = sR σ37 484 o 0 → (∃ a56 : Nat, r55 = some a56 ∧ (sK σ37 a56 = 1484 ∧ (vp_in x6 512 ∧ (wX8_does_155 o post r42 x39 ((sJ σ37 1457 a51 x39.toNatClampNeg) - ((sI σ37 1484 a56 x6.toNatClampNeg).toInt64)) σ37)))))))))))))))))))) σ21))))))))))))) ∧ (¬ x23 ≤ 0 → (sK σ21 o = 9 ∧ (∀ r74 : Option Nat, r74 = sR σ21 494 o 0 → (∃ a75 : Nat, r74 = some a75 ∧ (sK σ21 a75 = 1494 ∧ (vp_in p1 2560 ∧ (∀ σ78 : St, σ78 = uI σ21 1494 a75 (p1.toNatClampNeg) (2 : Int32) → (sK σ78 o = 9 ∧ (∀ r80 : Option Nat, r80 = sR σ78 495 o 0 → (∃ a81 : Nat, r80 = some a81 ∧ (sK σ78 a81 = 1495 ∧ (vp_in x23 40 ∧ (sK σ78 a81 = 1495 ∧ (vp_in x23 40 ∧ (∀ σ86 : St, σ86 = uI σ78 1495 a81 (x23.toNatClampNeg) ((sI σ78 1495 a81 x23.toNatClampNeg) + (1 : Int32)) → (sK σ86 o = 9 ∧ (∀ r88 : Option Nat, r88 = sR σ86 488 o 0 → (∃ a89 : Nat, r88 = some a89 ∧ (sK σ86 a89 = 1488 ∧ (vp_in x6 512 ∧ (∀ σ92 : St, σ92 = uI σ86 1488 a89 (x6.toNatClampNeg) x23 → (sK σ92 o = 9 ∧ (∀ r94 : Option Nat, r94 = sR σ92 487 o 0 → (∃ a95 : Nat, r94 = some a95 ∧ (sK σ92 a95 = 1487 ∧ (vp_in x6 512 ∧ (∀ σ98 : St, σ98 = uI σ92 1487 a95 (x6.toNatClampNeg) (2 : Int32) → (sK σ98 o = 9 ∧ (∀ r100 : Option Nat, r100 = sR σ98 489 o 0 → (sK σ98 o = 9 ∧ (∃ a102 : Nat, r100 = some a102 ∧ (sK σ98 a102 = 1489 ∧ (vp_in x6 512 ∧ (∀ σ105 : St, σ105 = uI σ98 1489 a102 (x6.toNatClampNeg) (sI σ98 490 o 0) → (sK σ105 o = 9 ∧ (sK σ105 o = 9 ∧ (∀ σ108 : St, σ108 = uI σ105 490 o 0 ((sI σ105 490 o 0) + (1 : Int32)) → (post (0 : Int32) σ108))))))))))))))))))))))))))))))))))))))) σ13))) ∧ (¬ (sI σ13 1493 a16 p1.toNatClampNeg) = 0 → (post (0 : Int32) σ13)))))))))))))))))))
set_option maxHeartbeats 4000000 in
set_option maxRecDepth 100000 in
theorem bX8_does {p : Program} {l : Launch} {e : Env} {s : State} {m : MethodId} {args : Array Value} {below : List Frame} {meth : Method} {c : Code} {Γ : rGam} {o : Nat} {post : Int32 → St → Prop} (F : Fx Γ p s m meth c args cX8_does 5 RX8 wsX8_does (some .int)) {H : Heap} {locs : List Loc} {ls : Array Slot} {cells slots : Nat} {p1 : Int32} {σ0 : St} (h : wX8_does o p1 post σ0) (hR : Rep Γ σ0 H) (hS : va_S (rA Γ) s.heap H locs) (hl : lv_has ls 5 [(0, .ref o), (1, .int p1)]) (hc : cells ≤ 0 ∧ slots ≤ 0) : W p l e rmX8_does s m args below meth c H locs cells slots (rQi Γ below post args s 0 0) (F0 m 0 ls []) := by
  have hx := F.1.1
  have hb := F.1.2.1
  unfold wX8_does at h
  refine lv_aload_n hx hb dX8_does_0 rfl (lv_at hl 0 rfl) ?_
  obtain ⟨k1, h⟩ := h
  refine s_getR F hR k1 (by decide) (C := RX8) (T := TX8) (N := 46) rfl nX8_does_X8 42 (by decide) mX8_does_0 (f := 492) rfl dX8_does_1 (fun r2 er2 => ?_)
  replace h := h r2 er2
  refine lv_iload_n hx hb dX8_does_4 rfl (lv_at hl 1 rfl) ?_
  obtain ⟨a3, ea3, h⟩ := h
  subst ea3
  obtain ⟨k4, h⟩ := h
  obtain ⟨z5, h⟩ := h
  refine s_iald F hR k4 (by decide) rfl z5 dX8_does_5 ?_
  refine lv_topi (fun x6 ex6 => ?_)
  replace h := h x6 ex6
  refine s_istore_n (lk := [(1, .int p1)]) (lv' := [(2, .int x6), (0, .ref o), (1, .int p1)]) hx hb dX8_does_6 rfl hl (by decide) rfl (lk_1 rfl) rfl (fun ls hl7 => ?_)
  refine lv_aload_n hx hb dX8_does_7 rfl (lv_at hl7 1 rfl) ?_
  obtain ⟨k8, h⟩ := h
  refine s_getR F hR k8 (by decide) (C := RX8) (T := TX8) (N := 46) rfl nX8_does_X8 44 (by decide) mX8_does_1 (f := 494) rfl dX8_does_8 (fun r9 er9 => ?_)
  replace h := h r9 er9
  refine lv_iload_n hx hb dX8_does_11 rfl (lv_at hl7 2 rfl) ?_
  refine lv_iconst (v := 1) hx hb dX8_does_12 (by decide) ?_
  obtain ⟨a10, ea10, h⟩ := h
  subst ea10
  obtain ⟨k11, h⟩ := h
  obtain ⟨z12, h⟩ := h
  refine s_iast F hR hS k11 (by decide) rfl z12 dX8_does_13 (fun σ13 eσ13 H locs hR hS => ?_)
  replace h := h σ13 eσ13
  refine lv_aload_n hx hb dX8_does_14 rfl (lv_at hl7 1 rfl) ?_
  obtain ⟨k14, h⟩ := h
  refine s_getR F hR k14 (by decide) (C := RX8) (T := TX8) (N := 46) rfl nX8_does_X8 43 (by decide) mX8_does_2 (f := 493) rfl dX8_does_15 (fun r15 er15 => ?_)
  replace h := h r15 er15
  refine lv_iload_n hx hb dX8_does_18 rfl (lv_at hl7 2 rfl) ?_
  obtain ⟨a16, ea16, h⟩ := h
  subst ea16
  obtain ⟨k17, h⟩ := h
  obtain ⟨z18, h⟩ := h
  refine s_zald F hR k17 (by decide) rfl z18 dX8_does_19 ?_
  refine lv_if_eq (tgt := 25) hx hb dX8_does_20 (by decide) (fun c19 => ?_) (fun c19 => ?_)
  · replace h := h.1 c19
    refine lv_aload_n hx hb dX8_does_25 rfl (lv_at hl7 1 rfl) ?_
    refine lv_iload_n hx hb dX8_does_26 rfl (lv_at hl7 0 rfl) ?_
    obtain ⟨k20, h⟩ := h
    refine s_ci hS (k_runV F hR hS hl7 1 [.int x6] (kX8_backFault l Γ o x6 _ _ h) gX8_does_X8_backFault rfl rfl rfl (by decide +kernel) ⟨Nat.le_of_ble_eq_true rfl, Nat.le_of_ble_eq_true rfl⟩ (s_recv F hR k20 (by decide) (C := RX8) (T := TX8) (N := 46) rfl) rfl (Nat.le_of_ble_eq_true rfl) dX8_does_27 ⟨by show _ ≤ 0; omega, by show _ ≤ 0; omega⟩) (fun x23 σ21 H locs h22 hR hS => ?_)
    refine s_istore_n (lk := [(2, .int x6)]) (lv' := [(3, .int x23), (2, .int x6), (0, .ref o), (1, .int p1)]) hx hb dX8_does_30 rfl hl7 (by decide) rfl (lk_1 rfl) rfl (fun ls hl24 => ?_)
    refine lv_iload_n hx hb dX8_does_31 rfl (lv_at hl24 0 rfl) ?_
    refine lv_if_le (tgt := 88) hx hb dX8_does_32 (by decide) (fun c25 => ?_) (fun c25 => ?_)
    · replace h22 := h22.1 c25
      refine lv_aload_n hx hb dX8_does_88 rfl (lv_at hl24 2 rfl) ?_
      refine lv_aload_n hx hb dX8_does_89 rfl (lv_at hl24 2 rfl) ?_
      obtain ⟨k26, h22⟩ := h22
      refine s_getR F hR k26 (by decide) (C := RX8) (T := TX8) (N := 46) rfl nX8_does_X8 32 (by decide) mX8_does_3 (f := 482) rfl dX8_does_90 (fun r27 er27 => ?_)
      replace h22 := h22 r27 er27
      refine lv_iload_n hx hb dX8_does_93 rfl (lv_at hl24 1 rfl) ?_
      obtain ⟨a28, ea28, h22⟩ := h22
      subst ea28
      obtain ⟨k29, h22⟩ := h22
      obtain ⟨z30, h22⟩ := h22
      refine s_iald F hR k29 (by decide) rfl z30 dX8_does_94 ?_
      refine lv_aload_n hx hb dX8_does_95 rfl (lv_at hl24 2 rfl) ?_
      obtain ⟨k31, h22⟩ := h22
      refine s_getR F hR k31 (by decide) (C := RX8) (T := TX8) (N := 46) rfl nX8_does_X8 33 (by decide) mX8_does_4 (f := 483) rfl dX8_does_96 (fun r32 er32 => ?_)
      replace h22 := h22 r32 er32
      refine lv_iload_n hx hb dX8_does_99 rfl (lv_at hl24 1 rfl) ?_
      obtain ⟨a33, ea33, h22⟩ := h22
      subst ea33
      obtain ⟨k34, h22⟩ := h22
      obtain ⟨z35, h22⟩ := h22
      refine s_iald F hR k34 (by decide) rfl z35 dX8_does_100 ?_
      obtain ⟨k36, h22⟩ := h22
      refine s_ci hS (k_runV F hR hS hl24 2 [.int (sI σ21 1482 a28 x6.toNatClampNeg), .int (sI σ21 1483 a33 x6.toNatClampNeg)] (kX8_accountOf l Γ o (sI σ21 1482 a28 x6.toNatClampNeg) (sI σ21 1483 a33 x6.toNatClampNeg) _ _ h22) gX8_does_X8_accountOf rfl rfl rfl (by decide +kernel) ⟨Nat.le_of_ble_eq_true rfl, Nat.le_of_ble_eq_true rfl⟩ (s_recv F hR k36 (by decide) (C := RX8) (T := TX8) (N := 46) rfl) rfl (Nat.le_of_ble_eq_true rfl) dX8_does_101 ⟨by show _ ≤ 0; omega, by show _ ≤ 0; omega⟩) (fun x39 σ37 H locs h38 hR hS => ?_)
      refine s_istore (lk := [(3, .int x23)]) (lv' := [(4, .int x39), (3, .int x23), (2, .int x6), (0, .ref o), (1, .int p1)]) hx hb dX8_does_104 hl24 (by decide) rfl (lk_1 rfl) rfl (fun ls hl40 => ?_)
      refine lv_aload_n hx hb dX8_does_106 rfl (lv_at hl40 3 rfl) ?_
      obtain ⟨k41, h38⟩ := h38
      refine s_getR F hR k41 (by decide) (C := RX8) (T := TX8) (N := 46) rfl nX8_does_X8 7 (by decide) mX8_does_5 (f := 457) rfl dX8_does_107 (fun r42 er42 => ?_)
      replace h38 := h38 r42 er42
      refine lv_iload hx hb dX8_does_110 (lv_at hl40 0 rfl) ?_
      refine lv_aload_n hx hb dX8_does_112 rfl (lv_at hl40 3 rfl) ?_
      obtain ⟨k43, h38⟩ := h38
      refine s_getR F hR k43 (by decide) (C := RX8) (T := TX8) (N := 46) rfl nX8_does_X8 30 (by decide) mX8_does_6 (f := 480) rfl dX8_does_113 (fun r44 er44 => ?_)
      replace h38 := h38 r44 er44
      refine lv_iload_n hx hb dX8_does_116 rfl (lv_at hl40 2 rfl) ?_
      obtain ⟨a45, ea45, h38⟩ := h38
      subst ea45
      obtain ⟨k46, h38⟩ := h38
      obtain ⟨z47, h38⟩ := h38
      refine s_iald F hR k46 (by decide) rfl z47 dX8_does_117 ?_
      refine lv_iconst (v := 2) hx hb dX8_does_118 (by decide) ?_
      refine lv_icmp_ne (tgt := 140) hx hb dX8_does_119 (by decide) (fun c48 => ?_) (fun c48 => ?_)
      · replace h38 := h38.2 c48
        refine lv_aload_n hx hb dX8_does_140 rfl (lv_at hl40 3 rfl) ?_
        obtain ⟨k49, h38⟩ := h38
        refine s_getR F hR k49 (by decide) (C := RX8) (T := TX8) (N := 46) rfl nX8_does_X8 7 (by decide) mX8_does_5 (f := 457) rfl dX8_does_141 (fun r50 er50 => ?_)
        replace h38 := h38 r50 er50
        refine lv_iload hx hb dX8_does_144 (lv_at hl40 0 rfl) ?_
        obtain ⟨a51, ea51, h38⟩ := h38
        subst ea51
        obtain ⟨k52, h38⟩ := h38
        obtain ⟨z53, h38⟩ := h38
        refine s_lald F hR k52 (by decide) rfl z53 dX8_does_146 ?_
        refine lv_aload_n hx hb dX8_does_147 rfl (lv_at hl40 3 rfl) ?_
        obtain ⟨k54, h38⟩ := h38
        refine s_getR F hR k54 (by decide) (C := RX8) (T := TX8) (N := 46) rfl nX8_does_X8 34 (by decide) mX8_does_7 (f := 484) rfl dX8_does_148 (fun r55 er55 => ?_)
        replace h38 := h38 r55 er55
        refine lv_iload_n hx hb dX8_does_151 rfl (lv_at hl40 2 rfl) ?_
        obtain ⟨a56, ea56, h38⟩ := h38
        subst ea56
        obtain ⟨k57, h38⟩ := h38
        obtain ⟨z58, h38⟩ := h38
        refine s_iald F hR k57 (by decide) rfl z58 dX8_does_152 ?_
        refine lv_i2l hx hb dX8_does_153 rfl ?_
        refine lv_lsub hx hb dX8_does_154 ?_
        exact bX8_does_155 F h38 hR hS (lv_sub hl40 [3] rfl) hc
      · replace h38 := h38.1 c48
        refine lv_aload_n hx hb dX8_does_122 rfl (lv_at hl40 3 rfl) ?_
        obtain ⟨k63, h38⟩ := h38
        refine s_getR F hR k63 (by decide) (C := RX8) (T := TX8) (N := 46) rfl nX8_does_X8 7 (by decide) mX8_does_5 (f := 457) rfl dX8_does_123 (fun r64 er64 => ?_)
        replace h38 := h38 r64 er64
        refine lv_iload hx hb dX8_does_126 (lv_at hl40 0 rfl) ?_
        obtain ⟨a65, ea65, h38⟩ := h38
        subst ea65
        obtain ⟨k66, h38⟩ := h38
        obtain ⟨z67, h38⟩ := h38
        refine s_lald F hR k66 (by decide) rfl z67 dX8_does_128 ?_
        refine lv_aload_n hx hb dX8_does_129 rfl (lv_at hl40 3 rfl) ?_
        obtain ⟨k68, h38⟩ := h38
        refine s_getR F hR k68 (by decide) (C := RX8) (T := TX8) (N := 46) rfl nX8_does_X8 34 (by decide) mX8_does_7 (f := 484) rfl dX8_does_130 (fun r69 er69 => ?_)
        replace h38 := h38 r69 er69
        refine lv_iload_n hx hb dX8_does_133 rfl (lv_at hl40 2 rfl) ?_
        obtain ⟨a70, ea70, h38⟩ := h38
        subst ea70
        obtain ⟨k71, h38⟩ := h38
        obtain ⟨z72, h38⟩ := h38
        refine s_iald F hR k71 (by decide) rfl z72 dX8_does_134 ?_
        refine lv_i2l hx hb dX8_does_135 rfl ?_
        refine lv_ladd hx hb dX8_does_136 ?_
        refine lv_goto (tgt := 155) hx hb dX8_does_137 (by decide) ?_
        exact bX8_does_155 F h38 hR hS (lv_sub hl40 [3] rfl) hc
    · replace h22 := h22.2 c25
      refine lv_aload_n hx hb dX8_does_35 rfl (lv_at hl24 2 rfl) ?_
      obtain ⟨k73, h22⟩ := h22
      refine s_getR F hR k73 (by decide) (C := RX8) (T := TX8) (N := 46) rfl nX8_does_X8 44 (by decide) mX8_does_1 (f := 494) rfl dX8_does_36 (fun r74 er74 => ?_)
      replace h22 := h22 r74 er74
      refine lv_iload_n hx hb dX8_does_39 rfl (lv_at hl24 3 rfl) ?_
      refine lv_iconst (v := 2) hx hb dX8_does_40 (by decide) ?_
      obtain ⟨a75, ea75, h22⟩ := h22
      subst ea75
      obtain ⟨k76, h22⟩ := h22
      obtain ⟨z77, h22⟩ := h22
      refine s_iast F hR hS k76 (by decide) rfl z77 dX8_does_41 (fun σ78 eσ78 H locs hR hS => ?_)
      replace h22 := h22 σ78 eσ78
      refine lv_aload_n hx hb dX8_does_42 rfl (lv_at hl24 2 rfl) ?_
      obtain ⟨k79, h22⟩ := h22
      refine s_getR F hR k79 (by decide) (C := RX8) (T := TX8) (N := 46) rfl nX8_does_X8 45 (by decide) mX8_does_8 (f := 495) rfl dX8_does_43 (fun r80 er80 => ?_)
      replace h22 := h22 r80 er80
      refine lv_iload_n hx hb dX8_does_46 rfl (lv_at hl24 0 rfl) ?_
      refine lv_dup2_11 hx hb dX8_does_47 rfl (va_cat _) ?_
      obtain ⟨a81, ea81, h22⟩ := h22
      subst ea81
      obtain ⟨k82, h22⟩ := h22
      obtain ⟨z83, h22⟩ := h22
      refine s_iald F hR k82 (by decide) rfl z83 dX8_does_48 ?_
      refine lv_iconst (v := 1) hx hb dX8_does_49 (by decide) ?_
      refine lv_iadd hx hb dX8_does_50 ?_
      obtain ⟨k84, h22⟩ := h22
      obtain ⟨z85, h22⟩ := h22
      refine s_iast F hR hS k84 (by decide) rfl z85 dX8_does_51 (fun σ86 eσ86 H locs hR hS => ?_)
      replace h22 := h22 σ86 eσ86
      refine lv_aload_n hx hb dX8_does_52 rfl (lv_at hl24 2 rfl) ?_
      obtain ⟨k87, h22⟩ := h22
      refine s_getR F hR k87 (by decide) (C := RX8) (T := TX8) (N := 46) rfl nX8_does_X8 38 (by decide) mX8_does_9 (f := 488) rfl dX8_does_53 (fun r88 er88 => ?_)
      replace h22 := h22 r88 er88
      refine lv_iload_n hx hb dX8_does_56 rfl (lv_at hl24 1 rfl) ?_
      refine lv_iload_n hx hb dX8_does_57 rfl (lv_at hl24 0 rfl) ?_
      obtain ⟨a89, ea89, h22⟩ := h22
      subst ea89
      obtain ⟨k90, h22⟩ := h22
      obtain ⟨z91, h22⟩ := h22
      refine s_iast F hR hS k90 (by decide) rfl z91 dX8_does_58 (fun σ92 eσ92 H locs hR hS => ?_)
      replace h22 := h22 σ92 eσ92
      refine lv_aload_n hx hb dX8_does_59 rfl (lv_at hl24 2 rfl) ?_
      obtain ⟨k93, h22⟩ := h22
      refine s_getR F hR k93 (by decide) (C := RX8) (T := TX8) (N := 46) rfl nX8_does_X8 37 (by decide) mX8_does_10 (f := 487) rfl dX8_does_60 (fun r94 er94 => ?_)
      replace h22 := h22 r94 er94
      refine lv_iload_n hx hb dX8_does_63 rfl (lv_at hl24 1 rfl) ?_
      refine lv_iconst (v := 2) hx hb dX8_does_64 (by decide) ?_
      obtain ⟨a95, ea95, h22⟩ := h22
      subst ea95
      obtain ⟨k96, h22⟩ := h22
      obtain ⟨z97, h22⟩ := h22
      refine s_iast F hR hS k96 (by decide) rfl z97 dX8_does_65 (fun σ98 eσ98 H locs hR hS => ?_)
      replace h22 := h22 σ98 eσ98
      refine lv_aload_n hx hb dX8_does_66 rfl (lv_at hl24 2 rfl) ?_
      obtain ⟨k99, h22⟩ := h22
      refine s_getR F hR k99 (by decide) (C := RX8) (T := TX8) (N := 46) rfl nX8_does_X8 39 (by decide) mX8_does_11 (f := 489) rfl dX8_does_67 (fun r100 er100 => ?_)
      replace h22 := h22 r100 er100
      refine lv_iload_n hx hb dX8_does_70 rfl (lv_at hl24 1 rfl) ?_
      refine lv_aload_n hx hb dX8_does_71 rfl (lv_at hl24 2 rfl) ?_
      obtain ⟨k101, h22⟩ := h22
      refine s_getI F hR k101 (by decide) (C := RX8) (T := TX8) (N := 46) rfl nX8_does_X8 40 (by decide) mX8_does_12 (f := 490) rfl dX8_does_72 ?_
      obtain ⟨a102, ea102, h22⟩ := h22
      subst ea102
      obtain ⟨k103, h22⟩ := h22
      obtain ⟨z104, h22⟩ := h22
      refine s_iast F hR hS k103 (by decide) rfl z104 dX8_does_75 (fun σ105 eσ105 H locs hR hS => ?_)
      replace h22 := h22 σ105 eσ105
      refine lv_aload_n hx hb dX8_does_76 rfl (lv_at hl24 2 rfl) ?_
      refine lv_dup hx hb dX8_does_77 rfl ?_
      obtain ⟨k106, h22⟩ := h22
      refine s_getI F hR k106 (by decide) (C := RX8) (T := TX8) (N := 46) rfl nX8_does_X8 40 (by decide) mX8_does_12 (f := 490) rfl dX8_does_78 ?_
      refine lv_iconst (v := 1) hx hb dX8_does_81 (by decide) ?_
      refine lv_iadd hx hb dX8_does_82 ?_
      obtain ⟨k107, h22⟩ := h22
      refine s_putI (v := ((sI σ105 490 o 0) + (1 : Int32))) F hR hS k107 (by decide) (C := RX8) (T := TX8) (N := 46) rfl nX8_does_X8 tyX8 tyX8_ok nmX8 40 (by decide) mX8_does_12 (Or.inl rfl) rfl rfl (f := 490) rfl rnd_9 dX8_does_83 (fun σ108 eσ108 H locs hR hS => ?_)
      replace h22 := h22 σ108 eσ108
      refine lv_iconst (v := 0) hx hb dX8_does_86 (by decide) ?_
      exact s_iret F hR hS h22 hc dX8_does_87
  · replace h := h.2 c19
    refine lv_iconst (v := 0) hx hb dX8_does_23 (by decide) ?_
    exact s_iret F hR hS h hc dX8_does_24
set_option maxHeartbeats 4000000 in
set_option maxRecDepth 100000 in
theorem kX8_does (l : Launch) (Γ : rGam) (o : Nat) (p1 : Int32) (post : Int32 → St → Prop) (σ0 : St) (h : wX8_does o p1 post σ0) : Met l yX8_does wsX8_does rmX8_does (rPc Γ vwCl [.ref o, .int p1] (Rep Γ σ0)) (va_Qi post (fun σ' t => Rep Γ σ' t.heap) (rA Γ)) 0 0 (rA Γ) := by
  refine Met.ofW (cc := cX8_does) (maxL := 5) (ret := (some .int)) (by decide) rfl ?_
  intro p e s m args below meth c s₁ B hml hv
  obtain ⟨rfl, hR, hE⟩ := hv
  have F : Fx Γ p s m meth c _ cX8_does 5 RX8 wsX8_does (some .int) := ⟨⟨B.exec, B.bytes, hml, findClass_of_methodNamed B.named, atoms_spec (ws := wsX8_does) B.pre⟩, hE, B.notSynchronized, B.returns⟩
  have hl := lv_entry ([.ref o, .int p1]) (n := 5) (Nat.le_of_ble_eq_true rfl)
  rw [lg_entry_eq]
  generalize (lg_sl ([.ref o, .int p1]) ++ List.replicate (5 - (lg_sl ([.ref o, .int p1])).length) Slot.unset).toArray = ls at hl ⊢
  have hl : lv_has ls 5 [(0, .ref o), (1, .int p1)] := hl
  exact bX8_does F h hR va_S.rf hl ⟨Nat.le_refl 0, Nat.le_refl 0⟩
/-! X8_post -/
theorem mX8_post_0 : Cond.fieldLink RX8 119 "ClearingFilesModel" "banks" "I" ∈ wsX8_post := by decide +kernel
theorem mX8_post_1 : Cond.fieldLink RX8 102 "ClearingFilesModel" "outCount" "[I" ∈ wsX8_post := by decide +kernel
theorem mX8_post_2 : Cond.fieldLink RX8 111 "ClearingFilesModel" "outDone" "[I" ∈ wsX8_post := by decide +kernel
theorem nX8_post_X8 : ∀ w ∈ u_ws RX8 TX8 46, w ∈ wsX8_post := fun _ h => List.mem_cons_of_mem _ (List.mem_append_right _ h)
abbrev rmX8_post : Room := { frames := 3, cells := 0, slots := 0, locals := 71 }
set_option maxRecDepth 100000 in
def wX8_post_32 (o : Nat) (post : Int32 → St → Prop) : Nat → Int32 → Int32 → Int32 → Int32 → St → Prop
  | 0, _, _, _, _, _ => False
  | n + 1, x1, x3, x4, x5, σ0 =>
    sK σ0 o = 9 ∧ (∀ r12 : Option Nat, r12 = sR σ0 491 o 0 → (∃ a13 : Nat, r12 = some a13 ∧ (sK σ0 a13 = 1491 ∧ (vp_in x1 5 ∧ (((sI σ0 1491 a13 x1.toNatClampNeg) ≤ x5 → (post x3 σ0)) ∧ (¬ (sI σ0 1491 a13 x1.toNatClampNeg) ≤ x5 → ((x4 ≤ 0 → (post x3 σ0)) ∧ (¬ x4 ≤ 0 → (sK σ0 o = 9 ∧ (∀ r19 : Option Nat, r19 = sR σ0 494 o 0 → (∃ a20 : Nat, r19 = some a20 ∧ (sK σ0 a20 = 1494 ∧ (vp_in (((512 : Int32) * x1) + x5) 2560 ∧ (((sI σ0 1494 a20 (((512 : Int32) * x1) + x5).toNatClampNeg) = 0 → (sK σ0 o = 9 ∧ (wX8_does o (((512 : Int32) * x1) + x5) (fun (x29 : Int32) (σ27 : St) => ∀ x30 : Int32, x30 = (x3 + x29) → (∀ x32 : Int32, x32 = x4 + (-1 : Int32) → (∀ x34 : Int32, x34 = x5 + (1 : Int32) → (wX8_post_32 o post n x1 x30 x32 x34 σ27)))) σ0))) ∧ (¬ (sI σ0 1494 a20 (((512 : Int32) * x1) + x5).toNatClampNeg) = 0 → (∀ x24 : Int32, x24 = x5 + (1 : Int32) → (wX8_post_32 o post n x1 x3 x4 x24 σ0)))))))))))))))))
set_option maxHeartbeats 4000000 in
set_option maxRecDepth 100000 in
theorem bX8_post_32 {p : Program} {l : Launch} {e : Env} {s : State} {m : MethodId} {args : Array Value} {below : List Frame} {meth : Method} {c : Code} {Γ : rGam} {o : Nat} {post : Int32 → St → Prop} (F : Fx Γ p s m meth c args cX8_post 6 RX8 wsX8_post (some .int)) : ∀ (n : Nat) (x1 : Int32) (x3 : Int32) (x4 : Int32) (x5 : Int32) (σ0 : St) (H : Heap) (locs : List Loc) (ls : Array Slot) (cells slots : Nat), wX8_post_32 o post n x1 x3 x4 x5 σ0 → Rep Γ σ0 H → va_S (rA Γ) s.heap H locs → lv_has ls 6 [(0, .ref o), (1, .int x1), (3, .int x3), (4, .int x4), (5, .int x5)] → cells ≤ 0 ∧ slots ≤ 0 → W p l e rmX8_post s m args below meth c H locs cells slots (rQi Γ below post args s 0 0) (F0 m 32 ls []) := by
  have hx := F.1.1
  have hb := F.1.2.1
  intro n
  induction n with
  | zero =>
    intro x1 x3 x4 x5 σ0 H locs ls cells slots h
    exact absurd h (by unfold wX8_post_32; exact id)
  | succ n ih =>
    intro x1 x3 x4 x5 σ0 H locs ls cells slots h hR hS hl hc
    unfold wX8_post_32 at h
    refine lv_iload hx hb dX8_post_32 (lv_at hl 4 rfl) ?_
    refine lv_aload_n hx hb dX8_post_34 rfl (lv_at hl 0 rfl) ?_
    obtain ⟨k11, h⟩ := h
    refine s_getR F hR k11 (by decide) (C := RX8) (T := TX8) (N := 46) rfl nX8_post_X8 41 (by decide) mX8_post_1 (f := 491) rfl dX8_post_35 (fun r12 er12 => ?_)
    replace h := h r12 er12
    refine lv_iload_n hx hb dX8_post_38 rfl (lv_at hl 1 rfl) ?_
    obtain ⟨a13, ea13, h⟩ := h
    subst ea13
    obtain ⟨k14, h⟩ := h
    obtain ⟨z15, h⟩ := h
    refine s_iald F hR k14 (by decide) rfl z15 dX8_post_39 ?_
    refine lv_icmp_ge (tgt := 88) hx hb dX8_post_40 (by decide) (fun c16 => ?_) (fun c16 => ?_)
    · replace h := h.1 c16
      refine lv_iload_n hx hb dX8_post_88 rfl (lv_at hl 2 rfl) ?_
      exact s_iret F hR hS h hc dX8_post_89
    · replace h := h.2 c16
      refine lv_iload hx hb dX8_post_43 (lv_at hl 3 rfl) ?_
      refine lv_if_le (tgt := 88) hx hb dX8_post_45 (by decide) (fun c17 => ?_) (fun c17 => ?_)
      · replace h := h.1 c17
        refine lv_iload_n hx hb dX8_post_88 rfl (lv_at hl 2 rfl) ?_
        exact s_iret F hR hS h hc dX8_post_89
      · replace h := h.2 c17
        refine lv_aload_n hx hb dX8_post_48 rfl (lv_at hl 0 rfl) ?_
        obtain ⟨k18, h⟩ := h
        refine s_getR F hR k18 (by decide) (C := RX8) (T := TX8) (N := 46) rfl nX8_post_X8 44 (by decide) mX8_post_2 (f := 494) rfl dX8_post_49 (fun r19 er19 => ?_)
        replace h := h r19 er19
        refine lv_sipush (v := 512) hx hb dX8_post_52 (by decide) ?_
        refine lv_iload_n hx hb dX8_post_55 rfl (lv_at hl 1 rfl) ?_
        refine lv_imul hx hb dX8_post_56 ?_
        refine lv_iload hx hb dX8_post_57 (lv_at hl 4 rfl) ?_
        refine lv_iadd hx hb dX8_post_59 ?_
        obtain ⟨a20, ea20, h⟩ := h
        subst ea20
        obtain ⟨k21, h⟩ := h
        obtain ⟨z22, h⟩ := h
        refine s_iald F hR k21 (by decide) rfl z22 dX8_post_60 ?_
        refine lv_if_ne (tgt := 82) hx hb dX8_post_61 (by decide) (fun c23 => ?_) (fun c23 => ?_)
        · replace h := h.2 c23
          obtain ⟨x24, ex24⟩ : ∃ x : Int32, x = x5 + (1 : Int32) := ⟨_, rfl⟩
          replace h := h x24 ex24
          refine s_iinc (v := x24) (d := 1) (lk := [(4, .int x4)]) (lv' := [(5, .int x24), (0, .ref o), (1, .int x1), (3, .int x3), (4, .int x4)]) hx hb dX8_post_82 hl (k := 4) rfl (by decide) (by decide) rfl (lk_1 rfl) ex24 rfl (fun ls hl25 => ?_)
          refine lv_goto (tgt := 32) hx hb dX8_post_85 (by decide) ?_
          exact ih x1 x3 x4 x24 σ0 _ _ _ _ _ h hR hS (lv_sub hl25 [1, 2, 3, 4, 0] rfl) hc
        · replace h := h.1 c23
          refine lv_iload_n hx hb dX8_post_64 rfl (lv_at hl 2 rfl) ?_
          refine lv_aload_n hx hb dX8_post_65 rfl (lv_at hl 0 rfl) ?_
          refine lv_sipush (v := 512) hx hb dX8_post_66 (by decide) ?_
          refine lv_iload_n hx hb dX8_post_69 rfl (lv_at hl 1 rfl) ?_
          refine lv_imul hx hb dX8_post_70 ?_
          refine lv_iload hx hb dX8_post_71 (lv_at hl 4 rfl) ?_
          refine lv_iadd hx hb dX8_post_73 ?_
          obtain ⟨k26, h⟩ := h
          refine s_ci hS (k_runV F hR hS hl 1 [.int (((512 : Int32) * x1) + x5)] (kX8_does l Γ o (((512 : Int32) * x1) + x5) _ _ h) gX8_post_X8_does rfl rfl rfl (by decide +kernel) ⟨Nat.le_of_ble_eq_true rfl, Nat.le_of_ble_eq_true rfl⟩ (s_recv F hR k26 (by decide) (C := RX8) (T := TX8) (N := 46) rfl) rfl (Nat.le_of_ble_eq_true rfl) dX8_post_74 ⟨by show _ ≤ 0; omega, by show _ ≤ 0; omega⟩) (fun x29 σ27 H locs h28 hR hS => ?_)
          refine lv_iadd hx hb dX8_post_77 ?_
          refine lv_topi (fun x30 ex30 => ?_)
          replace h28 := h28 x30 ex30
          refine s_istore_n (lk := []) (lv' := [(3, .int x30), (0, .ref o), (1, .int x1), (4, .int x4), (5, .int x5)]) hx hb dX8_post_78 rfl hl (by decide) rfl lk_0 rfl (fun ls hl31 => ?_)
          obtain ⟨x32, ex32⟩ : ∃ x : Int32, x = x4 + (-1 : Int32) := ⟨_, rfl⟩
          replace h28 := h28 x32 ex32
          refine s_iinc (v := x32) (d := -1) (lk := [(3, .int x30)]) (lv' := [(4, .int x32), (3, .int x30), (0, .ref o), (1, .int x1), (5, .int x5)]) hx hb dX8_post_79 hl31 (k := 3) rfl (by decide) (by decide) rfl (lk_1 rfl) ex32 rfl (fun ls hl33 => ?_)
          obtain ⟨x34, ex34⟩ : ∃ x : Int32, x = x5 + (1 : Int32) := ⟨_, rfl⟩
          replace h28 := h28 x34 ex34
          refine s_iinc (v := x34) (d := 1) (lk := [(4, .int x32)]) (lv' := [(5, .int x34), (4, .int x32), (3, .int x30), (0, .ref o), (1, .int x1)]) hx hb dX8_post_82 hl33 (k := 4) rfl (by decide) (by decide) rfl (lk_1 rfl) ex34 rfl (fun ls hl35 => ?_)
          refine lv_goto (tgt := 32) hx hb dX8_post_85 (by decide) ?_
          exact ih x1 x30 x32 x34 σ27 _ _ _ _ _ h28 hR hS (lv_sub hl35 [3, 4, 2, 1, 0] rfl) hc

set_option maxRecDepth 100000 in
def wX8_post (o : Nat) (p1 : Int32) (p2 : Int32) (post : Int32 → St → Prop) (σ0 : St) : Prop :=
  sK σ0 o = 9 ∧ (wX8_within p1 (sI σ0 450 o 0) (fun (x4 : Int32) (σ2 : St) => (x4 = 0 → (post (-1 : Int32) σ2)) ∧ (¬ x4 = 0 → ((p2 < (1 : Int32) → (post (-1 : Int32) σ2)) ∧ (¬ p2 < (1 : Int32) → ((p2 ≤ (40 : Int32) → (∃ n36 : Nat, wX8_post_32 o post n36 p1 (0 : Int32) p2 (0 : Int32) σ2)) ∧ (¬ p2 ≤ (40 : Int32) → (post (-1 : Int32) σ2))))))) σ0)
set_option maxHeartbeats 4000000 in
set_option maxRecDepth 100000 in
theorem bX8_post {p : Program} {l : Launch} {e : Env} {s : State} {m : MethodId} {args : Array Value} {below : List Frame} {meth : Method} {c : Code} {Γ : rGam} {o : Nat} {post : Int32 → St → Prop} (F : Fx Γ p s m meth c args cX8_post 6 RX8 wsX8_post (some .int)) {H : Heap} {locs : List Loc} {ls : Array Slot} {cells slots : Nat} {p1 : Int32} {p2 : Int32} {σ0 : St} (h : wX8_post o p1 p2 post σ0) (hR : Rep Γ σ0 H) (hS : va_S (rA Γ) s.heap H locs) (hl : lv_has ls 6 [(0, .ref o), (1, .int p1), (2, .int p2)]) (hc : cells ≤ 0 ∧ slots ≤ 0) : W p l e rmX8_post s m args below meth c H locs cells slots (rQi Γ below post args s 0 0) (F0 m 0 ls []) := by
  have hx := F.1.1
  have hb := F.1.2.1
  unfold wX8_post at h
  refine lv_iload_n hx hb dX8_post_0 rfl (lv_at hl 1 rfl) ?_
  refine lv_aload_n hx hb dX8_post_1 rfl (lv_at hl 0 rfl) ?_
  obtain ⟨k1, h⟩ := h
  refine s_getI F hR k1 (by decide) (C := RX8) (T := TX8) (N := 46) rfl nX8_post_X8 0 (by decide) mX8_post_0 (f := 450) rfl dX8_post_2 ?_
  refine s_ci hS (k_runS F hR hS hl 2 [.int p1, .int (sI σ0 450 o 0)] (kX8_within l Γ p1 (sI σ0 450 o 0) _ _ h) gX8_post_X8_within rfl rfl rfl (by decide +kernel) ⟨Nat.le_of_ble_eq_true rfl, Nat.le_of_ble_eq_true rfl⟩ rfl (Nat.le_of_ble_eq_true rfl) dX8_post_5 ⟨by show _ ≤ 0; omega, by show _ ≤ 0; omega⟩) (fun x4 σ2 H locs h3 hR hS => ?_)
  refine lv_if_eq (tgt := 22) hx hb dX8_post_8 (by decide) (fun c5 => ?_) (fun c5 => ?_)
  · replace h3 := h3.1 c5
    refine lv_iconst (v := -1) hx hb dX8_post_22 (by decide) ?_
    exact s_iret F hR hS h3 hc dX8_post_23
  · replace h3 := h3.2 c5
    refine lv_iload_n hx hb dX8_post_11 rfl (lv_at hl 2 rfl) ?_
    refine lv_iconst (v := 1) hx hb dX8_post_12 (by decide) ?_
    refine lv_icmp_lt (tgt := 22) hx hb dX8_post_13 (by decide) (fun c6 => ?_) (fun c6 => ?_)
    · replace h3 := h3.1 c6
      refine lv_iconst (v := -1) hx hb dX8_post_22 (by decide) ?_
      exact s_iret F hR hS h3 hc dX8_post_23
    · replace h3 := h3.2 c6
      refine lv_iload_n hx hb dX8_post_16 rfl (lv_at hl 2 rfl) ?_
      refine lv_bipush (v := 40) hx hb dX8_post_17 (by decide) ?_
      refine lv_icmp_le (tgt := 24) hx hb dX8_post_19 (by decide) (fun c7 => ?_) (fun c7 => ?_)
      · replace h3 := h3.1 c7
        refine lv_iconst (v := 0) hx hb dX8_post_24 (by decide) ?_
        refine s_istore_n (lk := [(2, .int p2)]) (lv' := [(3, .int (0 : Int32)), (0, .ref o), (1, .int p1), (2, .int p2)]) hx hb dX8_post_25 rfl hl (by decide) rfl (lk_1 rfl) rfl (fun ls hl8 => ?_)
        refine lv_iload_n hx hb dX8_post_26 rfl (lv_at hl8 3 rfl) ?_
        refine s_istore (lk := [(3, .int (0 : Int32))]) (lv' := [(4, .int p2), (3, .int (0 : Int32)), (0, .ref o), (1, .int p1), (2, .int p2)]) hx hb dX8_post_27 hl8 (by decide) rfl (lk_1 rfl) rfl (fun ls hl9 => ?_)
        refine lv_iconst (v := 0) hx hb dX8_post_29 (by decide) ?_
        refine s_istore (lk := [(4, .int p2)]) (lv' := [(5, .int (0 : Int32)), (4, .int p2), (3, .int (0 : Int32)), (0, .ref o), (1, .int p1), (2, .int p2)]) hx hb dX8_post_30 hl9 (by decide) rfl (lk_1 rfl) rfl (fun ls hl10 => ?_)
        obtain ⟨n36, h3⟩ := h3
        exact bX8_post_32 F n36 p1 (0 : Int32) p2 (0 : Int32) σ2 _ _ _ _ _ h3 hR hS (lv_sub hl10 [3, 4, 2, 1, 0] rfl) hc
      · replace h3 := h3.2 c7
        refine lv_iconst (v := -1) hx hb dX8_post_22 (by decide) ?_
        exact s_iret F hR hS h3 hc dX8_post_23
set_option maxHeartbeats 4000000 in
set_option maxRecDepth 100000 in
theorem kX8_post (l : Launch) (Γ : rGam) (o : Nat) (p1 : Int32) (p2 : Int32) (post : Int32 → St → Prop) (σ0 : St) (h : wX8_post o p1 p2 post σ0) : Met l yX8_post wsX8_post rmX8_post (rPc Γ vwCl [.ref o, .int p1, .int p2] (Rep Γ σ0)) (va_Qi post (fun σ' t => Rep Γ σ' t.heap) (rA Γ)) 0 0 (rA Γ) := by
  refine Met.ofW (cc := cX8_post) (maxL := 6) (ret := (some .int)) (by decide) rfl ?_
  intro p e s m args below meth c s₁ B hml hv
  obtain ⟨rfl, hR, hE⟩ := hv
  have F : Fx Γ p s m meth c _ cX8_post 6 RX8 wsX8_post (some .int) := ⟨⟨B.exec, B.bytes, hml, findClass_of_methodNamed B.named, atoms_spec (ws := wsX8_post) B.pre⟩, hE, B.notSynchronized, B.returns⟩
  have hl := lv_entry ([.ref o, .int p1, .int p2]) (n := 6) (Nat.le_of_ble_eq_true rfl)
  rw [lg_entry_eq]
  generalize (lg_sl ([.ref o, .int p1, .int p2]) ++ List.replicate (6 - (lg_sl ([.ref o, .int p1, .int p2])).length) Slot.unset).toArray = ls at hl ⊢
  have hl : lv_has ls 6 [(0, .ref o), (1, .int p1), (2, .int p2)] := hl
  exact bX8_post F h hR va_S.rf hl ⟨Nat.le_refl 0, Nat.le_refl 0⟩
/-! X8_item -/
theorem mX8_item_0 : Cond.fieldLink RX8 119 "ClearingFilesModel" "banks" "I" ∈ wsX8_item := by decide +kernel
theorem mX8_item_1 : Cond.fieldLink RX8 102 "ClearingFilesModel" "outCount" "[I" ∈ wsX8_item := by decide +kernel
theorem mX8_item_2 : Cond.fieldLink RX8 105 "ClearingFilesModel" "outRow" "[I" ∈ wsX8_item := by decide +kernel
theorem mX8_item_3 : Cond.fieldLink RX8 72 "ClearingFilesModel" "code" "[I" ∈ wsX8_item := by decide +kernel
theorem mX8_item_4 : Cond.fieldLink RX8 108 "ClearingFilesModel" "outReturn" "[Z" ∈ wsX8_item := by decide +kernel
theorem mX8_item_5 : Cond.fieldLink RX8 75 "ClearingFilesModel" "giver" "[I" ∈ wsX8_item := by decide +kernel
theorem mX8_item_6 : Cond.fieldLink RX8 78 "ClearingFilesModel" "taker" "[I" ∈ wsX8_item := by decide +kernel
theorem mX8_item_7 : Cond.fieldLink RX8 81 "ClearingFilesModel" "account" "[I" ∈ wsX8_item := by decide +kernel
theorem mX8_item_8 : Cond.fieldLink RX8 84 "ClearingFilesModel" "amount" "[I" ∈ wsX8_item := by decide +kernel
theorem mX8_item_9 : Cond.fieldLink RX8 87 "ClearingFilesModel" "trace" "[I" ∈ wsX8_item := by decide +kernel
theorem mX8_item_10 : Cond.fieldLink RX8 96 "ClearingFilesModel" "reason" "[I" ∈ wsX8_item := by decide +kernel
theorem mX8_item_11 : Cond.fieldLink RX8 111 "ClearingFilesModel" "outDone" "[I" ∈ wsX8_item := by decide +kernel
theorem nX8_item_X8 : ∀ w ∈ u_ws RX8 TX8 46, w ∈ wsX8_item := fun _ h => List.mem_cons_of_mem _ (List.mem_append_right _ h)
abbrev rmX8_item : Room := { frames := 1, cells := 0, slots := 0, locals := 21 }
set_option maxRecDepth 100000 in
def wX8_item (o : Nat) (p1 : Int32) (p2 : Int32) (p3 : Int32) (post : Int32 → St → Prop) (σ0 : St) : Prop :=
  sK σ0 o = 9 ∧ (wX8_within p1 (sI σ0 450 o 0) (fun (x4 : Int32) (σ2 : St) => (x4 = 0 → (post (-1 : Int32) σ2)) ∧ (¬ x4 = 0 → (sK σ2 o = 9 ∧ (∀ r7 : Option Nat, r7 = sR σ2 491 o 0 → (∃ a8 : Nat, r7 = some a8 ∧ (sK σ2 a8 = 1491 ∧ (vp_in p1 5 ∧ (wX8_within p2 (sI σ2 1491 a8 p1.toNatClampNeg) (fun (x13 : Int32) (σ11 : St) => (x13 = 0 → (post (-1 : Int32) σ11)) ∧ (¬ x13 = 0 → (wX8_within p3 (7 : Int32) (fun (x17 : Int32) (σ15 : St) => (x17 = 0 → (post (-1 : Int32) σ15)) ∧ (¬ x17 = 0 → (∀ x19 : Int32, x19 = (((512 : Int32) * p1) + p2) → (sK σ15 o = 9 ∧ (∀ r22 : Option Nat, r22 = sR σ15 492 o 0 → (∃ a23 : Nat, r22 = some a23 ∧ (sK σ15 a23 = 1492 ∧ (vp_in x19 2560 ∧ (∀ x26 : Int32, x26 = (sI σ15 1492 a23 x19.toNatClampNeg) → ((p3 = 0 → (sK σ15 o = 9 ∧ (∀ r30 : Option Nat, r30 = sR σ15 480 o 0 → (∃ a31 : Nat, r30 = some a31 ∧ (sK σ15 a31 = 1480 ∧ (vp_in x26 512 ∧ (post (sI σ15 1480 a31 x26.toNatClampNeg) σ15))))))) ∧ (¬ p3 = 0 → ((p3 = 1 → (sK σ15 o = 9 ∧ (∀ r36 : Option Nat, r36 = sR σ15 493 o 0 → (∃ a37 : Nat, r36 = some a37 ∧ (sK σ15 a37 = 1493 ∧ (vp_in x19 2560 ∧ (((sI σ15 1493 a37 x19.toNatClampNeg) = 0 → (sK σ15 o = 9 ∧ (∀ r42 : Option Nat, r42 = sR σ15 481 o 0 → (∃ a43 : Nat, r42 = some a43 ∧ (sK σ15 a43 = 1481 ∧ (vp_in x26 512 ∧ (post (sI σ15 1481 a43 x26.toNatClampNeg) σ15))))))) ∧ (¬ (sI σ15 1493 a37 x19.toNatClampNeg) = 0 → (sK σ15 o = 9 ∧ (∀ r47 : Option Nat, r47 = sR σ15 482 o 0 → (∃ a48 : Nat, r47 = some a48 ∧ (sK σ15 a48 = 1482 ∧ (vp_in x26 512 ∧ (post (sI σ15 1482 a48 x26.toNatClampNeg) σ15)))))))))))))) ∧ (¬ p3 = 1 → ((p3 = 2 → (sK σ15 o = 9 ∧ (∀ r53 : Option Nat, r53 = sR σ15 483 o 0 → (∃ a54 : Nat, r53 = some a54 ∧ (sK σ15 a54 = 1483 ∧ (vp_in x26 512 ∧ (post (sI σ15 1483 a54 x26.toNatClampNeg) σ15))))))) ∧ (¬ p3 = 2 → ((p3 = 3 → (sK σ15 o = 9 ∧ (∀ r59 : Option Nat, r59 = sR σ15 484 o 0 → (∃ a60 : Nat, r59 = some a60 ∧ (sK σ15 a60 = 1484 ∧ (vp_in x26 512 ∧ (post (sI σ15 1484 a60 x26.toNatClampNeg) σ15))))))) ∧ (¬ p3 = 3 → ((p3 = 4 → (sK σ15 o = 9 ∧ (∀ r65 : Option Nat, r65 = sR σ15 485 o 0 → (∃ a66 : Nat, r65 = some a66 ∧ (sK σ15 a66 = 1485 ∧ (vp_in x26 512 ∧ (post (sI σ15 1485 a66 x26.toNatClampNeg) σ15))))))) ∧ (¬ p3 = 4 → ((p3 = 5 → (sK σ15 o = 9 ∧ (∀ r71 : Option Nat, r71 = sR σ15 493 o 0 → (∃ a72 : Nat, r71 = some a72 ∧ (sK σ15 a72 = 1493 ∧ (vp_in x19 2560 ∧ (((sI σ15 1493 a72 x19.toNatClampNeg) = 0 → (post (0 : Int32) σ15)) ∧ (¬ (sI σ15 1493 a72 x19.toNatClampNeg) = 0 → (sK σ15 o = 9 ∧ (∀ r77 : Option Nat, r77 = sR σ15 488 o 0 → (∃ a78 : Nat, r77 = some a78 ∧ (sK σ15 a78 = 1488 ∧ (vp_in x26 512 ∧ (post (sI σ15 1488 a78 x26.toNatClampNeg) σ15)))))))))))))) ∧ (¬ p3 = 5 → (sK σ15 o = 9 ∧ (∀ r82 : Option Nat, r82 = sR σ15 494 o 0 → (∃ a83 : Nat, r82 = some a83 ∧ (sK σ15 a83 = 1494 ∧ (vp_in x19 2560 ∧ (post (sI σ15 1494 a83 x19.toNatClampNeg) σ15))))))))))))))))))))))))))) σ11))) σ2)))))))) σ0)
set_option maxHeartbeats 4000000 in
set_option maxRecDepth 100000 in
theorem bX8_item {p : Program} {l : Launch} {e : Env} {s : State} {m : MethodId} {args : Array Value} {below : List Frame} {meth : Method} {c : Code} {Γ : rGam} {o : Nat} {post : Int32 → St → Prop} (F : Fx Γ p s m meth c args cX8_item 6 RX8 wsX8_item (some .int)) {H : Heap} {locs : List Loc} {ls : Array Slot} {cells slots : Nat} {p1 : Int32} {p2 : Int32} {p3 : Int32} {σ0 : St} (h : wX8_item o p1 p2 p3 post σ0) (hR : Rep Γ σ0 H) (hS : va_S (rA Γ) s.heap H locs) (hl : lv_has ls 6 [(0, .ref o), (1, .int p1), (2, .int p2), (3, .int p3)]) (hc : cells ≤ 0 ∧ slots ≤ 0) : W p l e rmX8_item s m args below meth c H locs cells slots (rQi Γ below post args s 0 0) (F0 m 0 ls []) := by
  have hx := F.1.1
  have hb := F.1.2.1
  unfold wX8_item at h
  refine lv_iload_n hx hb dX8_item_0 rfl (lv_at hl 1 rfl) ?_
  refine lv_aload_n hx hb dX8_item_1 rfl (lv_at hl 0 rfl) ?_
  obtain ⟨k1, h⟩ := h
  refine s_getI F hR k1 (by decide) (C := RX8) (T := TX8) (N := 46) rfl nX8_item_X8 0 (by decide) mX8_item_0 (f := 450) rfl dX8_item_2 ?_
  refine s_ci hS (k_runS F hR hS hl 2 [.int p1, .int (sI σ0 450 o 0)] (kX8_within l Γ p1 (sI σ0 450 o 0) _ _ h) gX8_item_X8_within rfl rfl rfl (by decide +kernel) ⟨Nat.le_of_ble_eq_true rfl, Nat.le_of_ble_eq_true rfl⟩ rfl (Nat.le_of_ble_eq_true rfl) dX8_item_5 ⟨by show _ ≤ 0; omega, by show _ ≤ 0; omega⟩) (fun x4 σ2 H locs h3 hR hS => ?_)
  refine lv_if_eq (tgt := 33) hx hb dX8_item_8 (by decide) (fun c5 => ?_) (fun c5 => ?_)
  · replace h3 := h3.1 c5
    refine lv_iconst (v := -1) hx hb dX8_item_33 (by decide) ?_
    exact s_iret F hR hS h3 hc dX8_item_34
  · replace h3 := h3.2 c5
    refine lv_iload_n hx hb dX8_item_11 rfl (lv_at hl 2 rfl) ?_
    refine lv_aload_n hx hb dX8_item_12 rfl (lv_at hl 0 rfl) ?_
    obtain ⟨k6, h3⟩ := h3
    refine s_getR F hR k6 (by decide) (C := RX8) (T := TX8) (N := 46) rfl nX8_item_X8 41 (by decide) mX8_item_1 (f := 491) rfl dX8_item_13 (fun r7 er7 => ?_)
    replace h3 := h3 r7 er7
    refine lv_iload_n hx hb dX8_item_16 rfl (lv_at hl 1 rfl) ?_
    obtain ⟨a8, ea8, h3⟩ := h3
    subst ea8
    obtain ⟨k9, h3⟩ := h3
    obtain ⟨z10, h3⟩ := h3
    refine s_iald F hR k9 (by decide) rfl z10 dX8_item_17 ?_
    refine s_ci hS (k_runS F hR hS hl 2 [.int p2, .int (sI σ2 1491 a8 p1.toNatClampNeg)] (kX8_within l Γ p2 (sI σ2 1491 a8 p1.toNatClampNeg) _ _ h3) gX8_item_X8_within rfl rfl rfl (by decide +kernel) ⟨Nat.le_of_ble_eq_true rfl, Nat.le_of_ble_eq_true rfl⟩ rfl (Nat.le_of_ble_eq_true rfl) dX8_item_18 ⟨by show _ ≤ 0; omega, by show _ ≤ 0; omega⟩) (fun x13 σ11 H locs h12 hR hS => ?_)
    refine lv_if_eq (tgt := 33) hx hb dX8_item_21 (by decide) (fun c14 => ?_) (fun c14 => ?_)
    · replace h12 := h12.1 c14
      refine lv_iconst (v := -1) hx hb dX8_item_33 (by decide) ?_
      exact s_iret F hR hS h12 hc dX8_item_34
    · replace h12 := h12.2 c14
      refine lv_iload_n hx hb dX8_item_24 rfl (lv_at hl 3 rfl) ?_
      refine lv_bipush (v := 7) hx hb dX8_item_25 (by decide) ?_
      refine s_ci hS (k_runS F hR hS hl 2 [.int p3, .int (7 : Int32)] (kX8_within l Γ p3 (7 : Int32) _ _ h12) gX8_item_X8_within rfl rfl rfl (by decide +kernel) ⟨Nat.le_of_ble_eq_true rfl, Nat.le_of_ble_eq_true rfl⟩ rfl (Nat.le_of_ble_eq_true rfl) dX8_item_27 ⟨by show _ ≤ 0; omega, by show _ ≤ 0; omega⟩) (fun x17 σ15 H locs h16 hR hS => ?_)
      refine lv_if_ne (tgt := 35) hx hb dX8_item_30 (by decide) (fun c18 => ?_) (fun c18 => ?_)
      · replace h16 := h16.2 c18
        refine lv_sipush (v := 512) hx hb dX8_item_35 (by decide) ?_
        refine lv_iload_n hx hb dX8_item_38 rfl (lv_at hl 1 rfl) ?_
        refine lv_imul hx hb dX8_item_39 ?_
        refine lv_iload_n hx hb dX8_item_40 rfl (lv_at hl 2 rfl) ?_
        refine lv_iadd hx hb dX8_item_41 ?_
        refine lv_topi (fun x19 ex19 => ?_)
        replace h16 := h16 x19 ex19
        refine s_istore (lk := [(3, .int p3)]) (lv' := [(4, .int x19), (0, .ref o), (1, .int p1), (2, .int p2), (3, .int p3)]) hx hb dX8_item_42 hl (by decide) rfl (lk_1 rfl) rfl (fun ls hl20 => ?_)
        refine lv_aload_n hx hb dX8_item_44 rfl (lv_at hl20 1 rfl) ?_
        obtain ⟨k21, h16⟩ := h16
        refine s_getR F hR k21 (by decide) (C := RX8) (T := TX8) (N := 46) rfl nX8_item_X8 42 (by decide) mX8_item_2 (f := 492) rfl dX8_item_45 (fun r22 er22 => ?_)
        replace h16 := h16 r22 er22
        refine lv_iload hx hb dX8_item_48 (lv_at hl20 0 rfl) ?_
        obtain ⟨a23, ea23, h16⟩ := h16
        subst ea23
        obtain ⟨k24, h16⟩ := h16
        obtain ⟨z25, h16⟩ := h16
        refine s_iald F hR k24 (by decide) rfl z25 dX8_item_50 ?_
        refine lv_topi (fun x26 ex26 => ?_)
        replace h16 := h16 x26 ex26
        refine s_istore (lk := [(4, .int x19)]) (lv' := [(5, .int x26), (4, .int x19), (0, .ref o), (1, .int p1), (2, .int p2), (3, .int p3)]) hx hb dX8_item_51 hl20 (by decide) rfl (lk_1 rfl) rfl (fun ls hl27 => ?_)
        refine lv_iload_n hx hb dX8_item_53 rfl (lv_at hl27 5 rfl) ?_
        by_cases c28 : p3 = 0
        · replace h16 := h16.1 c28
          refine lv_tableIn (off := 38) (tgt := 92) hx hb dX8_item_54 (by rw [c28]; decide) (by rw [c28]; decide) (by rw [c28]; decide) (by decide) ?_
          refine lv_aload_n hx hb dX8_item_92 rfl (lv_at hl27 2 rfl) ?_
          obtain ⟨k29, h16⟩ := h16
          refine s_getR F hR k29 (by decide) (C := RX8) (T := TX8) (N := 46) rfl nX8_item_X8 30 (by decide) mX8_item_3 (f := 480) rfl dX8_item_93 (fun r30 er30 => ?_)
          replace h16 := h16 r30 er30
          refine lv_iload hx hb dX8_item_96 (lv_at hl27 0 rfl) ?_
          obtain ⟨a31, ea31, h16⟩ := h16
          subst ea31
          obtain ⟨k32, h16⟩ := h16
          obtain ⟨z33, h16⟩ := h16
          refine s_iald F hR k32 (by decide) rfl z33 dX8_item_98 ?_
          exact s_iret F hR hS h16 hc dX8_item_99
        · replace h16 := h16.2 c28
          by_cases c34 : p3 = 1
          · replace h16 := h16.1 c34
            refine lv_tableIn (off := 46) (tgt := 100) hx hb dX8_item_54 (by rw [c34]; decide) (by rw [c34]; decide) (by rw [c34]; decide) (by decide) ?_
            refine lv_aload_n hx hb dX8_item_100 rfl (lv_at hl27 2 rfl) ?_
            obtain ⟨k35, h16⟩ := h16
            refine s_getR F hR k35 (by decide) (C := RX8) (T := TX8) (N := 46) rfl nX8_item_X8 43 (by decide) mX8_item_4 (f := 493) rfl dX8_item_101 (fun r36 er36 => ?_)
            replace h16 := h16 r36 er36
            refine lv_iload hx hb dX8_item_104 (lv_at hl27 1 rfl) ?_
            obtain ⟨a37, ea37, h16⟩ := h16
            subst ea37
            obtain ⟨k38, h16⟩ := h16
            obtain ⟨z39, h16⟩ := h16
            refine s_zald F hR k38 (by decide) rfl z39 dX8_item_106 ?_
            refine lv_if_eq (tgt := 120) hx hb dX8_item_107 (by decide) (fun c40 => ?_) (fun c40 => ?_)
            · replace h16 := h16.1 c40
              refine lv_aload_n hx hb dX8_item_120 rfl (lv_at hl27 2 rfl) ?_
              obtain ⟨k41, h16⟩ := h16
              refine s_getR F hR k41 (by decide) (C := RX8) (T := TX8) (N := 46) rfl nX8_item_X8 31 (by decide) mX8_item_5 (f := 481) rfl dX8_item_121 (fun r42 er42 => ?_)
              replace h16 := h16 r42 er42
              refine lv_iload hx hb dX8_item_124 (lv_at hl27 0 rfl) ?_
              obtain ⟨a43, ea43, h16⟩ := h16
              subst ea43
              obtain ⟨k44, h16⟩ := h16
              obtain ⟨z45, h16⟩ := h16
              refine s_iald F hR k44 (by decide) rfl z45 dX8_item_126 ?_
              exact s_iret F hR hS h16 hc dX8_item_127
            · replace h16 := h16.2 c40
              refine lv_aload_n hx hb dX8_item_110 rfl (lv_at hl27 2 rfl) ?_
              obtain ⟨k46, h16⟩ := h16
              refine s_getR F hR k46 (by decide) (C := RX8) (T := TX8) (N := 46) rfl nX8_item_X8 32 (by decide) mX8_item_6 (f := 482) rfl dX8_item_111 (fun r47 er47 => ?_)
              replace h16 := h16 r47 er47
              refine lv_iload hx hb dX8_item_114 (lv_at hl27 0 rfl) ?_
              obtain ⟨a48, ea48, h16⟩ := h16
              subst ea48
              obtain ⟨k49, h16⟩ := h16
              obtain ⟨z50, h16⟩ := h16
              refine s_iald F hR k49 (by decide) rfl z50 dX8_item_116 ?_
              refine lv_goto (tgt := 127) hx hb dX8_item_117 (by decide) ?_
              exact s_iret F hR hS h16 hc dX8_item_127
          · replace h16 := h16.2 c34
            by_cases c51 : p3 = 2
            · replace h16 := h16.1 c51
              refine lv_tableIn (off := 74) (tgt := 128) hx hb dX8_item_54 (by rw [c51]; decide) (by rw [c51]; decide) (by rw [c51]; decide) (by decide) ?_
              refine lv_aload_n hx hb dX8_item_128 rfl (lv_at hl27 2 rfl) ?_
              obtain ⟨k52, h16⟩ := h16
              refine s_getR F hR k52 (by decide) (C := RX8) (T := TX8) (N := 46) rfl nX8_item_X8 33 (by decide) mX8_item_7 (f := 483) rfl dX8_item_129 (fun r53 er53 => ?_)
              replace h16 := h16 r53 er53
              refine lv_iload hx hb dX8_item_132 (lv_at hl27 0 rfl) ?_
              obtain ⟨a54, ea54, h16⟩ := h16
              subst ea54
              obtain ⟨k55, h16⟩ := h16
              obtain ⟨z56, h16⟩ := h16
              refine s_iald F hR k55 (by decide) rfl z56 dX8_item_134 ?_
              exact s_iret F hR hS h16 hc dX8_item_135
            · replace h16 := h16.2 c51
              by_cases c57 : p3 = 3
              · replace h16 := h16.1 c57
                refine lv_tableIn (off := 82) (tgt := 136) hx hb dX8_item_54 (by rw [c57]; decide) (by rw [c57]; decide) (by rw [c57]; decide) (by decide) ?_
                refine lv_aload_n hx hb dX8_item_136 rfl (lv_at hl27 2 rfl) ?_
                obtain ⟨k58, h16⟩ := h16
                refine s_getR F hR k58 (by decide) (C := RX8) (T := TX8) (N := 46) rfl nX8_item_X8 34 (by decide) mX8_item_8 (f := 484) rfl dX8_item_137 (fun r59 er59 => ?_)
                replace h16 := h16 r59 er59
                refine lv_iload hx hb dX8_item_140 (lv_at hl27 0 rfl) ?_
                obtain ⟨a60, ea60, h16⟩ := h16
                subst ea60
                obtain ⟨k61, h16⟩ := h16
                obtain ⟨z62, h16⟩ := h16
                refine s_iald F hR k61 (by decide) rfl z62 dX8_item_142 ?_
                exact s_iret F hR hS h16 hc dX8_item_143
              · replace h16 := h16.2 c57
                by_cases c63 : p3 = 4
                · replace h16 := h16.1 c63
                  refine lv_tableIn (off := 90) (tgt := 144) hx hb dX8_item_54 (by rw [c63]; decide) (by rw [c63]; decide) (by rw [c63]; decide) (by decide) ?_
                  refine lv_aload_n hx hb dX8_item_144 rfl (lv_at hl27 2 rfl) ?_
                  obtain ⟨k64, h16⟩ := h16
                  refine s_getR F hR k64 (by decide) (C := RX8) (T := TX8) (N := 46) rfl nX8_item_X8 35 (by decide) mX8_item_9 (f := 485) rfl dX8_item_145 (fun r65 er65 => ?_)
                  replace h16 := h16 r65 er65
                  refine lv_iload hx hb dX8_item_148 (lv_at hl27 0 rfl) ?_
                  obtain ⟨a66, ea66, h16⟩ := h16
                  subst ea66
                  obtain ⟨k67, h16⟩ := h16
                  obtain ⟨z68, h16⟩ := h16
                  refine s_iald F hR k67 (by decide) rfl z68 dX8_item_150 ?_
                  exact s_iret F hR hS h16 hc dX8_item_151
                · replace h16 := h16.2 c63
                  by_cases c69 : p3 = 5
                  · replace h16 := h16.1 c69
                    refine lv_tableIn (off := 98) (tgt := 152) hx hb dX8_item_54 (by rw [c69]; decide) (by rw [c69]; decide) (by rw [c69]; decide) (by decide) ?_
                    refine lv_aload_n hx hb dX8_item_152 rfl (lv_at hl27 2 rfl) ?_
                    obtain ⟨k70, h16⟩ := h16
                    refine s_getR F hR k70 (by decide) (C := RX8) (T := TX8) (N := 46) rfl nX8_item_X8 43 (by decide) mX8_item_4 (f := 493) rfl dX8_item_153 (fun r71 er71 => ?_)
                    replace h16 := h16 r71 er71
                    refine lv_iload hx hb dX8_item_156 (lv_at hl27 1 rfl) ?_
                    obtain ⟨a72, ea72, h16⟩ := h16
                    subst ea72
                    obtain ⟨k73, h16⟩ := h16
                    obtain ⟨z74, h16⟩ := h16
                    refine s_zald F hR k73 (by decide) rfl z74 dX8_item_158 ?_
                    refine lv_if_eq (tgt := 172) hx hb dX8_item_159 (by decide) (fun c75 => ?_) (fun c75 => ?_)
                    · replace h16 := h16.1 c75
                      refine lv_iconst (v := 0) hx hb dX8_item_172 (by decide) ?_
                      exact s_iret F hR hS h16 hc dX8_item_173
                    · replace h16 := h16.2 c75
                      refine lv_aload_n hx hb dX8_item_162 rfl (lv_at hl27 2 rfl) ?_
                      obtain ⟨k76, h16⟩ := h16
                      refine s_getR F hR k76 (by decide) (C := RX8) (T := TX8) (N := 46) rfl nX8_item_X8 38 (by decide) mX8_item_10 (f := 488) rfl dX8_item_163 (fun r77 er77 => ?_)
                      replace h16 := h16 r77 er77
                      refine lv_iload hx hb dX8_item_166 (lv_at hl27 0 rfl) ?_
                      obtain ⟨a78, ea78, h16⟩ := h16
                      subst ea78
                      obtain ⟨k79, h16⟩ := h16
                      obtain ⟨z80, h16⟩ := h16
                      refine s_iald F hR k79 (by decide) rfl z80 dX8_item_168 ?_
                      refine lv_goto (tgt := 173) hx hb dX8_item_169 (by decide) ?_
                      exact s_iret F hR hS h16 hc dX8_item_173
                  · replace h16 := h16.2 c69
                    have hD86 : W p l e rmX8_item s m args below meth c H locs cells slots (rQi Γ below post args s 0 0) (F0 m 174 ls []) := by
                      refine lv_aload_n hx hb dX8_item_174 rfl (lv_at hl27 2 rfl) ?_
                      obtain ⟨k81, h16⟩ := h16
                      refine s_getR F hR k81 (by decide) (C := RX8) (T := TX8) (N := 46) rfl nX8_item_X8 44 (by decide) mX8_item_11 (f := 494) rfl dX8_item_175 (fun r82 er82 => ?_)
                      replace h16 := h16 r82 er82
                      refine lv_iload hx hb dX8_item_178 (lv_at hl27 1 rfl) ?_
                      obtain ⟨a83, ea83, h16⟩ := h16
                      subst ea83
                      obtain ⟨k84, h16⟩ := h16
                      obtain ⟨z85, h16⟩ := h16
                      refine s_iald F hR k84 (by decide) rfl z85 dX8_item_180 ?_
                      exact s_iret F hR hS h16 hc dX8_item_181
                    have tc28 : ¬ p3.toInt = 0 := lv_neT c28 (by decide)
                    have tc34 : ¬ p3.toInt = 1 := lv_neT c34 (by decide)
                    have tc51 : ¬ p3.toInt = 2 := lv_neT c51 (by decide)
                    have tc57 : ¬ p3.toInt = 3 := lv_neT c57 (by decide)
                    have tc63 : ¬ p3.toInt = 4 := lv_neT c63 (by decide)
                    have tc69 : ¬ p3.toInt = 5 := lv_neT c69 (by decide)
                    by_cases t1 : p3.toInt < 0 ∨ 5 < p3.toInt
                    · exact lv_tableOut (tgt := 174) hx hb dX8_item_54 t1 (by decide) hD86
                    · exact absurd t1 (by omega)
      · replace h16 := h16.1 c18
        refine lv_iconst (v := -1) hx hb dX8_item_33 (by decide) ?_
        exact s_iret F hR hS h16 hc dX8_item_34
set_option maxHeartbeats 4000000 in
set_option maxRecDepth 100000 in
theorem kX8_item (l : Launch) (Γ : rGam) (o : Nat) (p1 : Int32) (p2 : Int32) (p3 : Int32) (post : Int32 → St → Prop) (σ0 : St) (h : wX8_item o p1 p2 p3 post σ0) : Met l yX8_item wsX8_item rmX8_item (rPc Γ vwCl [.ref o, .int p1, .int p2, .int p3] (Rep Γ σ0)) (va_Qi post (fun σ' t => Rep Γ σ' t.heap) (rA Γ)) 0 0 (rA Γ) := by
  refine Met.ofW (cc := cX8_item) (maxL := 6) (ret := (some .int)) (by decide) rfl ?_
  intro p e s m args below meth c s₁ B hml hv
  obtain ⟨rfl, hR, hE⟩ := hv
  have F : Fx Γ p s m meth c _ cX8_item 6 RX8 wsX8_item (some .int) := ⟨⟨B.exec, B.bytes, hml, findClass_of_methodNamed B.named, atoms_spec (ws := wsX8_item) B.pre⟩, hE, B.notSynchronized, B.returns⟩
  have hl := lv_entry ([.ref o, .int p1, .int p2, .int p3]) (n := 6) (Nat.le_of_ble_eq_true rfl)
  rw [lg_entry_eq]
  generalize (lg_sl ([.ref o, .int p1, .int p2, .int p3]) ++ List.replicate (6 - (lg_sl ([.ref o, .int p1, .int p2, .int p3])).length) Slot.unset).toArray = ls at hl ⊢
  have hl : lv_has ls 6 [(0, .ref o), (1, .int p1), (2, .int p2), (3, .int p3)] := hl
  exact bX8_item F h hR va_S.rf hl ⟨Nat.le_refl 0, Nat.le_refl 0⟩
/-! X8_control -/
theorem mX8_control_0 : Cond.fieldLink RX8 119 "ClearingFilesModel" "banks" "I" ∈ wsX8_control := by decide +kernel
theorem mX8_control_1 : Cond.constantLong RX8 233 (-1) ∈ wsX8_control := by decide +kernel
theorem mX8_control_2 : Cond.fieldLink RX8 102 "ClearingFilesModel" "outCount" "[I" ∈ wsX8_control := by decide +kernel
theorem mX8_control_3 : Cond.fieldLink RX8 105 "ClearingFilesModel" "outRow" "[I" ∈ wsX8_control := by decide +kernel
theorem mX8_control_4 : Cond.fieldLink RX8 72 "ClearingFilesModel" "code" "[I" ∈ wsX8_control := by decide +kernel
theorem mX8_control_5 : Cond.fieldLink RX8 84 "ClearingFilesModel" "amount" "[I" ∈ wsX8_control := by decide +kernel
theorem mX8_control_6 : Cond.fieldLink RX8 7 "ClearingFilesModel" "routings" "[I" ∈ wsX8_control := by decide +kernel
theorem mX8_control_7 : Cond.fieldLink RX8 78 "ClearingFilesModel" "taker" "[I" ∈ wsX8_control := by decide +kernel
theorem nX8_control_X8 : ∀ w ∈ u_ws RX8 TX8 46, w ∈ wsX8_control := fun _ h => List.mem_cons_of_mem _ (List.mem_append_right _ h)
abbrev rmX8_control : Room := { frames := 1, cells := 0, slots := 0, locals := 21 }
set_option maxRecDepth 100000 in
def wX8_control_129 (k28 : Int32 → Int32 → Int64 → Int32 → St → Prop) (o : Nat) (post : Int64 → St → Prop) (x1 : Int32) (x2 : Int32) (x5 : Int32) (y0 : Int64) (y1 : Int64) (σ0 : St) : Prop :=
  ∀ x29 : Int64, x29 = (y0 + y1) → (∀ x31 : Int32, x31 = x5 + (1 : Int32) → (k28 x1 x2 x29 x31 σ0))
set_option maxHeartbeats 4000000 in
set_option maxRecDepth 100000 in
theorem bX8_control_129 {p : Program} {l : Launch} {e : Env} {s : State} {m : MethodId} {args : Array Value} {below : List Frame} {meth : Method} {c : Code} {Γ : rGam} {o : Nat} {post : Int64 → St → Prop} (F : Fx Γ p s m meth c args cX8_control 7 RX8 wsX8_control (some .long)) {k28 : Int32 → Int32 → Int64 → Int32 → St → Prop} (hk28 : ∀ (x1 : Int32) (x2 : Int32) (x3 : Int64) (x5 : Int32) (σ0 : St) (H : Heap) (locs : List Loc) (ls : Array Slot) (cells slots : Nat), k28 x1 x2 x3 x5 σ0 → Rep Γ σ0 H → va_S (rA Γ) s.heap H locs → lv_has ls 7 [(0, .ref o), (1, .int x1), (2, .int x2), (3, .long x3), (5, .int x5)] → cells ≤ 0 ∧ slots ≤ 0 → W p l e rmX8_control s m args below meth c H locs cells slots (rQl Γ below post args s 0 0) (F0 m 28 ls [])) {H : Heap} {locs : List Loc} {ls : Array Slot} {cells slots : Nat} {x1 : Int32} {x2 : Int32} {x5 : Int32} {y0 : Int64} {y1 : Int64} {σ0 : St} (h : wX8_control_129 k28 o post x1 x2 x5 y0 y1 σ0) (hR : Rep Γ σ0 H) (hS : va_S (rA Γ) s.heap H locs) (hl : lv_has ls 7 [(0, .ref o), (1, .int x1), (2, .int x2), (5, .int x5)]) (hc : cells ≤ 0 ∧ slots ≤ 0) : W p l e rmX8_control s m args below meth c H locs cells slots (rQl Γ below post args s 0 0) (F0 m 129 ls [.long y1, .long y0]) := by
  have hx := F.1.1
  have hb := F.1.2.1
  unfold wX8_control_129 at h
  refine lv_ladd hx hb dX8_control_129 ?_
  refine lv_topl (fun x29 ex29 => ?_)
  replace h := h x29 ex29
  refine s_lstore_n (lk := [(2, .int x2)]) (lv' := [(3, .long x29), (0, .ref o), (1, .int x1), (2, .int x2), (5, .int x5)]) hx hb dX8_control_130 rfl hl (by decide) rfl (lk_1 rfl) rfl (fun ls hl30 => ?_)
  obtain ⟨x31, ex31⟩ : ∃ x : Int32, x = x5 + (1 : Int32) := ⟨_, rfl⟩
  replace h := h x31 ex31
  refine s_iinc (v := x31) (d := 1) (lk := []) (lv' := [(5, .int x31), (3, .long x29), (0, .ref o), (1, .int x1), (2, .int x2)]) hx hb dX8_control_131 hl30 (k := 4) rfl (by decide) (by decide) rfl lk_0 ex31 rfl (fun ls hl32 => ?_)
  refine lv_goto (tgt := 28) hx hb dX8_control_134 (by decide) ?_
  exact hk28 x1 x2 x29 x31 σ0 _ _ _ _ _ h hR hS (lv_sub hl32 [2, 3, 4, 1, 0] rfl) hc

set_option maxRecDepth 100000 in
def wX8_control_128 (k28 : Int32 → Int32 → Int64 → Int32 → St → Prop) (o : Nat) (post : Int64 → St → Prop) (x1 : Int32) (x2 : Int32) (x5 : Int32) (y0 : Int64) (σ0 : St) : Prop :=
  wX8_control_129 k28 o post x1 x2 x5 y0 (0 : Int64) σ0
set_option maxHeartbeats 4000000 in
set_option maxRecDepth 100000 in
theorem bX8_control_128 {p : Program} {l : Launch} {e : Env} {s : State} {m : MethodId} {args : Array Value} {below : List Frame} {meth : Method} {c : Code} {Γ : rGam} {o : Nat} {post : Int64 → St → Prop} (F : Fx Γ p s m meth c args cX8_control 7 RX8 wsX8_control (some .long)) {k28 : Int32 → Int32 → Int64 → Int32 → St → Prop} (hk28 : ∀ (x1 : Int32) (x2 : Int32) (x3 : Int64) (x5 : Int32) (σ0 : St) (H : Heap) (locs : List Loc) (ls : Array Slot) (cells slots : Nat), k28 x1 x2 x3 x5 σ0 → Rep Γ σ0 H → va_S (rA Γ) s.heap H locs → lv_has ls 7 [(0, .ref o), (1, .int x1), (2, .int x2), (3, .long x3), (5, .int x5)] → cells ≤ 0 ∧ slots ≤ 0 → W p l e rmX8_control s m args below meth c H locs cells slots (rQl Γ below post args s 0 0) (F0 m 28 ls [])) {H : Heap} {locs : List Loc} {ls : Array Slot} {cells slots : Nat} {x1 : Int32} {x2 : Int32} {x5 : Int32} {y0 : Int64} {σ0 : St} (h : wX8_control_128 k28 o post x1 x2 x5 y0 σ0) (hR : Rep Γ σ0 H) (hS : va_S (rA Γ) s.heap H locs) (hl : lv_has ls 7 [(0, .ref o), (1, .int x1), (2, .int x2), (5, .int x5)]) (hc : cells ≤ 0 ∧ slots ≤ 0) : W p l e rmX8_control s m args below meth c H locs cells slots (rQl Γ below post args s 0 0) (F0 m 128 ls [.long y0]) := by
  have hx := F.1.1
  have hb := F.1.2.1
  unfold wX8_control_128 at h
  refine lv_lconst (v := 0) hx hb dX8_control_128 (by decide) ?_
  exact bX8_control_129 F hk28 h hR hS (lv_sub hl [0, 1, 2, 3] rfl) hc

set_option maxRecDepth 100000 in
def wX8_control_117 (k28 : Int32 → Int32 → Int64 → Int32 → St → Prop) (o : Nat) (post : Int64 → St → Prop) (x1 : Int32) (x2 : Int32) (x5 : Int32) (x6 : Int32) (y0 : Int64) (σ0 : St) : Prop :=
  sK σ0 o = 9 ∧ (∀ r40 : Option Nat, r40 = sR σ0 484 o 0 → (∃ a41 : Nat, r40 = some a41 ∧ (sK σ0 a41 = 1484 ∧ (vp_in x6 512 ∧ (wX8_control_129 k28 o post x1 x2 x5 y0 ((sI σ0 1484 a41 x6.toNatClampNeg).toInt64) σ0)))))
set_option maxHeartbeats 4000000 in
set_option maxRecDepth 100000 in
theorem bX8_control_117 {p : Program} {l : Launch} {e : Env} {s : State} {m : MethodId} {args : Array Value} {below : List Frame} {meth : Method} {c : Code} {Γ : rGam} {o : Nat} {post : Int64 → St → Prop} (F : Fx Γ p s m meth c args cX8_control 7 RX8 wsX8_control (some .long)) {k28 : Int32 → Int32 → Int64 → Int32 → St → Prop} (hk28 : ∀ (x1 : Int32) (x2 : Int32) (x3 : Int64) (x5 : Int32) (σ0 : St) (H : Heap) (locs : List Loc) (ls : Array Slot) (cells slots : Nat), k28 x1 x2 x3 x5 σ0 → Rep Γ σ0 H → va_S (rA Γ) s.heap H locs → lv_has ls 7 [(0, .ref o), (1, .int x1), (2, .int x2), (3, .long x3), (5, .int x5)] → cells ≤ 0 ∧ slots ≤ 0 → W p l e rmX8_control s m args below meth c H locs cells slots (rQl Γ below post args s 0 0) (F0 m 28 ls [])) {H : Heap} {locs : List Loc} {ls : Array Slot} {cells slots : Nat} {x1 : Int32} {x2 : Int32} {x5 : Int32} {x6 : Int32} {y0 : Int64} {σ0 : St} (h : wX8_control_117 k28 o post x1 x2 x5 x6 y0 σ0) (hR : Rep Γ σ0 H) (hS : va_S (rA Γ) s.heap H locs) (hl : lv_has ls 7 [(0, .ref o), (1, .int x1), (2, .int x2), (5, .int x5), (6, .int x6)]) (hc : cells ≤ 0 ∧ slots ≤ 0) : W p l e rmX8_control s m args below meth c H locs cells slots (rQl Γ below post args s 0 0) (F0 m 117 ls [.long y0]) := by
  have hx := F.1.1
  have hb := F.1.2.1
  unfold wX8_control_117 at h
  refine lv_aload_n hx hb dX8_control_117 rfl (lv_at hl 0 rfl) ?_
  obtain ⟨k39, h⟩ := h
  refine s_getR F hR k39 (by decide) (C := RX8) (T := TX8) (N := 46) rfl nX8_control_X8 34 (by decide) mX8_control_5 (f := 484) rfl dX8_control_118 (fun r40 er40 => ?_)
  replace h := h r40 er40
  refine lv_iload hx hb dX8_control_121 (lv_at hl 4 rfl) ?_
  obtain ⟨a41, ea41, h⟩ := h
  subst ea41
  obtain ⟨k42, h⟩ := h
  obtain ⟨z43, h⟩ := h
  refine s_iald F hR k42 (by decide) rfl z43 dX8_control_123 ?_
  refine lv_i2l hx hb dX8_control_124 rfl ?_
  refine lv_goto (tgt := 129) hx hb dX8_control_125 (by decide) ?_
  exact bX8_control_129 F hk28 h hR hS (lv_sub hl [0, 1, 2, 3] rfl) hc

set_option maxRecDepth 100000 in
def wX8_control_101 (k28 : Int32 → Int32 → Int64 → Int32 → St → Prop) (o : Nat) (post : Int64 → St → Prop) (x1 : Int32) (x2 : Int32) (x5 : Int32) (x6 : Int32) (y0 : Int64) (σ0 : St) : Prop :=
  (x2 = (3 : Int32) → (sK σ0 o = 9 ∧ (∀ r34 : Option Nat, r34 = sR σ0 480 o 0 → (∃ a35 : Nat, r34 = some a35 ∧ (sK σ0 a35 = 1480 ∧ (vp_in x6 512 ∧ (((sI σ0 1480 a35 x6.toNatClampNeg) = (2 : Int32) → (wX8_control_117 k28 o post x1 x2 x5 x6 y0 σ0)) ∧ (¬ (sI σ0 1480 a35 x6.toNatClampNeg) = (2 : Int32) → (wX8_control_128 k28 o post x1 x2 x5 y0 σ0))))))))) ∧ (¬ x2 = (3 : Int32) → (wX8_control_128 k28 o post x1 x2 x5 y0 σ0))
set_option maxHeartbeats 4000000 in
set_option maxRecDepth 100000 in
theorem bX8_control_101 {p : Program} {l : Launch} {e : Env} {s : State} {m : MethodId} {args : Array Value} {below : List Frame} {meth : Method} {c : Code} {Γ : rGam} {o : Nat} {post : Int64 → St → Prop} (F : Fx Γ p s m meth c args cX8_control 7 RX8 wsX8_control (some .long)) {k28 : Int32 → Int32 → Int64 → Int32 → St → Prop} (hk28 : ∀ (x1 : Int32) (x2 : Int32) (x3 : Int64) (x5 : Int32) (σ0 : St) (H : Heap) (locs : List Loc) (ls : Array Slot) (cells slots : Nat), k28 x1 x2 x3 x5 σ0 → Rep Γ σ0 H → va_S (rA Γ) s.heap H locs → lv_has ls 7 [(0, .ref o), (1, .int x1), (2, .int x2), (3, .long x3), (5, .int x5)] → cells ≤ 0 ∧ slots ≤ 0 → W p l e rmX8_control s m args below meth c H locs cells slots (rQl Γ below post args s 0 0) (F0 m 28 ls [])) {H : Heap} {locs : List Loc} {ls : Array Slot} {cells slots : Nat} {x1 : Int32} {x2 : Int32} {x5 : Int32} {x6 : Int32} {y0 : Int64} {σ0 : St} (h : wX8_control_101 k28 o post x1 x2 x5 x6 y0 σ0) (hR : Rep Γ σ0 H) (hS : va_S (rA Γ) s.heap H locs) (hl : lv_has ls 7 [(0, .ref o), (1, .int x1), (2, .int x2), (5, .int x5), (6, .int x6)]) (hc : cells ≤ 0 ∧ slots ≤ 0) : W p l e rmX8_control s m args below meth c H locs cells slots (rQl Γ below post args s 0 0) (F0 m 101 ls [.long y0]) := by
  have hx := F.1.1
  have hb := F.1.2.1
  unfold wX8_control_101 at h
  refine lv_iload_n hx hb dX8_control_101 rfl (lv_at hl 2 rfl) ?_
  refine lv_iconst (v := 3) hx hb dX8_control_102 (by decide) ?_
  refine lv_icmp_ne (tgt := 128) hx hb dX8_control_103 (by decide) (fun c28 => ?_) (fun c28 => ?_)
  · replace h := h.2 c28
    exact bX8_control_128 F hk28 h hR hS (lv_sub hl [0, 1, 2, 3] rfl) hc
  · replace h := h.1 c28
    refine lv_aload_n hx hb dX8_control_106 rfl (lv_at hl 0 rfl) ?_
    obtain ⟨k33, h⟩ := h
    refine s_getR F hR k33 (by decide) (C := RX8) (T := TX8) (N := 46) rfl nX8_control_X8 30 (by decide) mX8_control_4 (f := 480) rfl dX8_control_107 (fun r34 er34 => ?_)
    replace h := h r34 er34
    refine lv_iload hx hb dX8_control_110 (lv_at hl 4 rfl) ?_
    obtain ⟨a35, ea35, h⟩ := h
    subst ea35
    obtain ⟨k36, h⟩ := h
    obtain ⟨z37, h⟩ := h
    refine s_iald F hR k36 (by decide) rfl z37 dX8_control_112 ?_
    refine lv_iconst (v := 2) hx hb dX8_control_113 (by decide) ?_
    refine lv_icmp_ne (tgt := 128) hx hb dX8_control_114 (by decide) (fun c38 => ?_) (fun c38 => ?_)
    · replace h := h.2 c38
      exact bX8_control_128 F hk28 h hR hS (lv_sub hl [0, 1, 2, 3] rfl) hc
    · replace h := h.1 c38
      exact bX8_control_117 F hk28 h hR hS (lv_sub hl [0, 1, 2, 3, 4] rfl) hc

set_option maxRecDepth 100000 in
def wX8_control_28 (o : Nat) (post : Int64 → St → Prop) : Nat → Int32 → Int32 → Int64 → Int32 → St → Prop
  | 0, _, _, _, _, _ => False
  | n + 1, x1, x2, x3, x5, σ0 =>
    sK σ0 o = 9 ∧ (∀ r13 : Option Nat, r13 = sR σ0 491 o 0 → (∃ a14 : Nat, r13 = some a14 ∧ (sK σ0 a14 = 1491 ∧ (vp_in x1 5 ∧ (((sI σ0 1491 a14 x1.toNatClampNeg) ≤ x5 → (post x3 σ0)) ∧ (¬ (sI σ0 1491 a14 x1.toNatClampNeg) ≤ x5 → (sK σ0 o = 9 ∧ (∀ r19 : Option Nat, r19 = sR σ0 492 o 0 → (∃ a20 : Nat, r19 = some a20 ∧ (sK σ0 a20 = 1492 ∧ (vp_in (((512 : Int32) * x1) + x5) 2560 ∧ (∀ x23 : Int32, x23 = (sI σ0 1492 a20 (((512 : Int32) * x1) + x5).toNatClampNeg) → ((x2 = 0 → (wX8_control_129 (wX8_control_28 o post n) o post x1 x2 x5 x3 (1 : Int64) σ0)) ∧ (¬ x2 = 0 → ((x2 = (1 : Int32) → (sK σ0 o = 9 ∧ (∀ r51 : Option Nat, r51 = sR σ0 451 o 0 → (sK σ0 o = 9 ∧ (∀ r53 : Option Nat, r53 = sR σ0 482 o 0 → (∃ a54 : Nat, r53 = some a54 ∧ (sK σ0 a54 = 1482 ∧ (vp_in x23 512 ∧ (∃ a57 : Nat, r51 = some a57 ∧ (sK σ0 a57 = 1451 ∧ (vp_in (sI σ0 1482 a54 x23.toNatClampNeg) 5 ∧ (wX8_control_129 (wX8_control_28 o post n) o post x1 x2 x5 x3 ((sI σ0 1451 a57 (sI σ0 1482 a54 x23.toNatClampNeg).toNatClampNeg).toInt64) σ0)))))))))))) ∧ (¬ x2 = (1 : Int32) → ((x2 = (2 : Int32) → (sK σ0 o = 9 ∧ (∀ r45 : Option Nat, r45 = sR σ0 480 o 0 → (∃ a46 : Nat, r45 = some a46 ∧ (sK σ0 a46 = 1480 ∧ (vp_in x23 512 ∧ (((sI σ0 1480 a46 x23.toNatClampNeg) = (7 : Int32) → (wX8_control_117 (wX8_control_28 o post n) o post x1 x2 x5 x23 x3 σ0)) ∧ (¬ (sI σ0 1480 a46 x23.toNatClampNeg) = (7 : Int32) → (wX8_control_101 (wX8_control_28 o post n) o post x1 x2 x5 x23 x3 σ0))))))))) ∧ (¬ x2 = (2 : Int32) → (wX8_control_101 (wX8_control_28 o post n) o post x1 x2 x5 x23 x3 σ0)))))))))))))))))))
set_option maxHeartbeats 4000000 in
set_option maxRecDepth 100000 in
theorem bX8_control_28 {p : Program} {l : Launch} {e : Env} {s : State} {m : MethodId} {args : Array Value} {below : List Frame} {meth : Method} {c : Code} {Γ : rGam} {o : Nat} {post : Int64 → St → Prop} (F : Fx Γ p s m meth c args cX8_control 7 RX8 wsX8_control (some .long)) : ∀ (n : Nat) (x1 : Int32) (x2 : Int32) (x3 : Int64) (x5 : Int32) (σ0 : St) (H : Heap) (locs : List Loc) (ls : Array Slot) (cells slots : Nat), wX8_control_28 o post n x1 x2 x3 x5 σ0 → Rep Γ σ0 H → va_S (rA Γ) s.heap H locs → lv_has ls 7 [(0, .ref o), (1, .int x1), (2, .int x2), (3, .long x3), (5, .int x5)] → cells ≤ 0 ∧ slots ≤ 0 → W p l e rmX8_control s m args below meth c H locs cells slots (rQl Γ below post args s 0 0) (F0 m 28 ls []) := by
  have hx := F.1.1
  have hb := F.1.2.1
  intro n
  induction n with
  | zero =>
    intro x1 x2 x3 x5 σ0 H locs ls cells slots h
    exact absurd h (by unfold wX8_control_28; exact id)
  | succ n ih =>
    intro x1 x2 x3 x5 σ0 H locs ls cells slots h hR hS hl hc
    unfold wX8_control_28 at h
    refine lv_iload hx hb dX8_control_28 (lv_at hl 4 rfl) ?_
    refine lv_aload_n hx hb dX8_control_30 rfl (lv_at hl 0 rfl) ?_
    obtain ⟨k12, h⟩ := h
    refine s_getR F hR k12 (by decide) (C := RX8) (T := TX8) (N := 46) rfl nX8_control_X8 41 (by decide) mX8_control_2 (f := 491) rfl dX8_control_31 (fun r13 er13 => ?_)
    replace h := h r13 er13
    refine lv_iload_n hx hb dX8_control_34 rfl (lv_at hl 1 rfl) ?_
    obtain ⟨a14, ea14, h⟩ := h
    subst ea14
    obtain ⟨k15, h⟩ := h
    obtain ⟨z16, h⟩ := h
    refine s_iald F hR k15 (by decide) rfl z16 dX8_control_35 ?_
    refine lv_icmp_ge (tgt := 137) hx hb dX8_control_36 (by decide) (fun c17 => ?_) (fun c17 => ?_)
    · replace h := h.1 c17
      refine lv_lload_n hx hb dX8_control_137 rfl (lv_at hl 3 rfl) ?_
      exact s_lret F hR hS h hc dX8_control_138
    · replace h := h.2 c17
      refine lv_aload_n hx hb dX8_control_39 rfl (lv_at hl 0 rfl) ?_
      obtain ⟨k18, h⟩ := h
      refine s_getR F hR k18 (by decide) (C := RX8) (T := TX8) (N := 46) rfl nX8_control_X8 42 (by decide) mX8_control_3 (f := 492) rfl dX8_control_40 (fun r19 er19 => ?_)
      replace h := h r19 er19
      refine lv_sipush (v := 512) hx hb dX8_control_43 (by decide) ?_
      refine lv_iload_n hx hb dX8_control_46 rfl (lv_at hl 1 rfl) ?_
      refine lv_imul hx hb dX8_control_47 ?_
      refine lv_iload hx hb dX8_control_48 (lv_at hl 4 rfl) ?_
      refine lv_iadd hx hb dX8_control_50 ?_
      obtain ⟨a20, ea20, h⟩ := h
      subst ea20
      obtain ⟨k21, h⟩ := h
      obtain ⟨z22, h⟩ := h
      refine s_iald F hR k21 (by decide) rfl z22 dX8_control_51 ?_
      refine lv_topi (fun x23 ex23 => ?_)
      replace h := h x23 ex23
      refine s_istore (lk := [(5, .int x5)]) (lv' := [(6, .int x23), (0, .ref o), (1, .int x1), (2, .int x2), (3, .long x3), (5, .int x5)]) hx hb dX8_control_52 hl (by decide) rfl (lk_1 rfl) rfl (fun ls hl24 => ?_)
      refine lv_lload_n hx hb dX8_control_54 rfl (lv_at hl24 4 rfl) ?_
      refine lv_iload_n hx hb dX8_control_55 rfl (lv_at hl24 3 rfl) ?_
      refine lv_if_ne (tgt := 63) hx hb dX8_control_56 (by decide) (fun c25 => ?_) (fun c25 => ?_)
      · replace h := h.2 c25
        refine lv_iload_n hx hb dX8_control_63 rfl (lv_at hl24 3 rfl) ?_
        refine lv_iconst (v := 1) hx hb dX8_control_64 (by decide) ?_
        refine lv_icmp_ne (tgt := 84) hx hb dX8_control_65 (by decide) (fun c26 => ?_) (fun c26 => ?_)
        · replace h := h.2 c26
          refine lv_iload_n hx hb dX8_control_84 rfl (lv_at hl24 3 rfl) ?_
          refine lv_iconst (v := 2) hx hb dX8_control_85 (by decide) ?_
          refine lv_icmp_ne (tgt := 101) hx hb dX8_control_86 (by decide) (fun c27 => ?_) (fun c27 => ?_)
          · replace h := h.2 c27
            exact bX8_control_101 F (fun x1 x2 x3 x5 σ0 H locs ls cells slots h hR hS hl hc => ih x1 x2 x3 x5 σ0 H locs ls cells slots h hR hS hl hc) h hR hS (lv_sub hl24 [1, 2, 3, 5, 0] rfl) hc
          · replace h := h.1 c27
            refine lv_aload_n hx hb dX8_control_89 rfl (lv_at hl24 1 rfl) ?_
            obtain ⟨k44, h⟩ := h
            refine s_getR F hR k44 (by decide) (C := RX8) (T := TX8) (N := 46) rfl nX8_control_X8 30 (by decide) mX8_control_4 (f := 480) rfl dX8_control_90 (fun r45 er45 => ?_)
            replace h := h r45 er45
            refine lv_iload hx hb dX8_control_93 (lv_at hl24 0 rfl) ?_
            obtain ⟨a46, ea46, h⟩ := h
            subst ea46
            obtain ⟨k47, h⟩ := h
            obtain ⟨z48, h⟩ := h
            refine s_iald F hR k47 (by decide) rfl z48 dX8_control_95 ?_
            refine lv_bipush (v := 7) hx hb dX8_control_96 (by decide) ?_
            refine lv_icmp_eq (tgt := 117) hx hb dX8_control_98 (by decide) (fun c49 => ?_) (fun c49 => ?_)
            · replace h := h.1 c49
              exact bX8_control_117 F (fun x1 x2 x3 x5 σ0 H locs ls cells slots h hR hS hl hc => ih x1 x2 x3 x5 σ0 H locs ls cells slots h hR hS hl hc) h hR hS (lv_sub hl24 [1, 2, 3, 5, 0] rfl) hc
            · replace h := h.2 c49
              exact bX8_control_101 F (fun x1 x2 x3 x5 σ0 H locs ls cells slots h hR hS hl hc => ih x1 x2 x3 x5 σ0 H locs ls cells slots h hR hS hl hc) h hR hS (lv_sub hl24 [1, 2, 3, 5, 0] rfl) hc
        · replace h := h.1 c26
          refine lv_aload_n hx hb dX8_control_68 rfl (lv_at hl24 1 rfl) ?_
          obtain ⟨k50, h⟩ := h
          refine s_getR F hR k50 (by decide) (C := RX8) (T := TX8) (N := 46) rfl nX8_control_X8 1 (by decide) mX8_control_6 (f := 451) rfl dX8_control_69 (fun r51 er51 => ?_)
          replace h := h r51 er51
          refine lv_aload_n hx hb dX8_control_72 rfl (lv_at hl24 1 rfl) ?_
          obtain ⟨k52, h⟩ := h
          refine s_getR F hR k52 (by decide) (C := RX8) (T := TX8) (N := 46) rfl nX8_control_X8 32 (by decide) mX8_control_7 (f := 482) rfl dX8_control_73 (fun r53 er53 => ?_)
          replace h := h r53 er53
          refine lv_iload hx hb dX8_control_76 (lv_at hl24 0 rfl) ?_
          obtain ⟨a54, ea54, h⟩ := h
          subst ea54
          obtain ⟨k55, h⟩ := h
          obtain ⟨z56, h⟩ := h
          refine s_iald F hR k55 (by decide) rfl z56 dX8_control_78 ?_
          obtain ⟨a57, ea57, h⟩ := h
          subst ea57
          obtain ⟨k58, h⟩ := h
          obtain ⟨z59, h⟩ := h
          refine s_iald F hR k58 (by decide) rfl z59 dX8_control_79 ?_
          refine lv_i2l hx hb dX8_control_80 rfl ?_
          refine lv_goto (tgt := 129) hx hb dX8_control_81 (by decide) ?_
          exact bX8_control_129 F (fun x1 x2 x3 x5 σ0 H locs ls cells slots h hR hS hl hc => ih x1 x2 x3 x5 σ0 H locs ls cells slots h hR hS hl hc) h hR hS (lv_sub hl24 [1, 2, 3, 5] rfl) hc
      · replace h := h.1 c25
        refine lv_lconst (v := 1) hx hb dX8_control_59 (by decide) ?_
        refine lv_goto (tgt := 129) hx hb dX8_control_60 (by decide) ?_
        exact bX8_control_129 F (fun x1 x2 x3 x5 σ0 H locs ls cells slots h hR hS hl hc => ih x1 x2 x3 x5 σ0 H locs ls cells slots h hR hS hl hc) h hR hS (lv_sub hl24 [1, 2, 3, 5] rfl) hc

set_option maxRecDepth 100000 in
def wX8_control (o : Nat) (p1 : Int32) (p2 : Int32) (post : Int64 → St → Prop) (σ0 : St) : Prop :=
  sK σ0 o = 9 ∧ (wX8_within p1 (sI σ0 450 o 0) (fun (x4 : Int32) (σ2 : St) => (x4 = 0 → (post (-1 : Int64) σ2)) ∧ (¬ x4 = 0 → (wX8_within p2 (4 : Int32) (fun (x8 : Int32) (σ6 : St) => (x8 = 0 → (post (-1 : Int64) σ6)) ∧ (¬ x8 = 0 → (∃ n60 : Nat, wX8_control_28 o post n60 p1 p2 (0 : Int64) (0 : Int32) σ6))) σ2))) σ0)
set_option maxHeartbeats 4000000 in
set_option maxRecDepth 100000 in
theorem bX8_control {p : Program} {l : Launch} {e : Env} {s : State} {m : MethodId} {args : Array Value} {below : List Frame} {meth : Method} {c : Code} {Γ : rGam} {o : Nat} {post : Int64 → St → Prop} (F : Fx Γ p s m meth c args cX8_control 7 RX8 wsX8_control (some .long)) {H : Heap} {locs : List Loc} {ls : Array Slot} {cells slots : Nat} {p1 : Int32} {p2 : Int32} {σ0 : St} (h : wX8_control o p1 p2 post σ0) (hR : Rep Γ σ0 H) (hS : va_S (rA Γ) s.heap H locs) (hl : lv_has ls 7 [(0, .ref o), (1, .int p1), (2, .int p2)]) (hc : cells ≤ 0 ∧ slots ≤ 0) : W p l e rmX8_control s m args below meth c H locs cells slots (rQl Γ below post args s 0 0) (F0 m 0 ls []) := by
  have hx := F.1.1
  have hb := F.1.2.1
  unfold wX8_control at h
  refine lv_iload_n hx hb dX8_control_0 rfl (lv_at hl 1 rfl) ?_
  refine lv_aload_n hx hb dX8_control_1 rfl (lv_at hl 0 rfl) ?_
  obtain ⟨k1, h⟩ := h
  refine s_getI F hR k1 (by decide) (C := RX8) (T := TX8) (N := 46) rfl nX8_control_X8 0 (by decide) mX8_control_0 (f := 450) rfl dX8_control_2 ?_
  refine s_ci hS (k_runS F hR hS hl 2 [.int p1, .int (sI σ0 450 o 0)] (kX8_within l Γ p1 (sI σ0 450 o 0) _ _ h) gX8_control_X8_within rfl rfl rfl (by decide +kernel) ⟨Nat.le_of_ble_eq_true rfl, Nat.le_of_ble_eq_true rfl⟩ rfl (Nat.le_of_ble_eq_true rfl) dX8_control_5 ⟨by show _ ≤ 0; omega, by show _ ≤ 0; omega⟩) (fun x4 σ2 H locs h3 hR hS => ?_)
  refine lv_if_eq (tgt := 19) hx hb dX8_control_8 (by decide) (fun c5 => ?_) (fun c5 => ?_)
  · replace h3 := h3.1 c5
    refine lv_ldc2 hx hb F.1.2.2.2.1 (F.1.2.2.2.2 _ mX8_control_1) dX8_control_19 ?_
    exact s_lret F hR hS h3 hc dX8_control_22
  · replace h3 := h3.2 c5
    refine lv_iload_n hx hb dX8_control_11 rfl (lv_at hl 2 rfl) ?_
    refine lv_iconst (v := 4) hx hb dX8_control_12 (by decide) ?_
    refine s_ci hS (k_runS F hR hS hl 2 [.int p2, .int (4 : Int32)] (kX8_within l Γ p2 (4 : Int32) _ _ h3) gX8_control_X8_within rfl rfl rfl (by decide +kernel) ⟨Nat.le_of_ble_eq_true rfl, Nat.le_of_ble_eq_true rfl⟩ rfl (Nat.le_of_ble_eq_true rfl) dX8_control_13 ⟨by show _ ≤ 0; omega, by show _ ≤ 0; omega⟩) (fun x8 σ6 H locs h7 hR hS => ?_)
    refine lv_if_ne (tgt := 23) hx hb dX8_control_16 (by decide) (fun c9 => ?_) (fun c9 => ?_)
    · replace h7 := h7.2 c9
      refine lv_lconst (v := 0) hx hb dX8_control_23 (by decide) ?_
      refine s_lstore_n (lk := [(2, .int p2)]) (lv' := [(3, .long (0 : Int64)), (0, .ref o), (1, .int p1), (2, .int p2)]) hx hb dX8_control_24 rfl hl (by decide) rfl (lk_1 rfl) rfl (fun ls hl10 => ?_)
      refine lv_iconst (v := 0) hx hb dX8_control_25 (by decide) ?_
      refine s_istore (lk := []) (lv' := [(5, .int (0 : Int32)), (3, .long (0 : Int64)), (0, .ref o), (1, .int p1), (2, .int p2)]) hx hb dX8_control_26 hl10 (by decide) rfl lk_0 rfl (fun ls hl11 => ?_)
      obtain ⟨n60, h7⟩ := h7
      exact bX8_control_28 F n60 p1 p2 (0 : Int64) (0 : Int32) σ6 _ _ _ _ _ h7 hR hS (lv_sub hl11 [2, 3, 4, 1, 0] rfl) hc
    · replace h7 := h7.1 c9
      refine lv_ldc2 hx hb F.1.2.2.2.1 (F.1.2.2.2.2 _ mX8_control_1) dX8_control_19 ?_
      exact s_lret F hR hS h7 hc dX8_control_22
set_option maxHeartbeats 4000000 in
set_option maxRecDepth 100000 in
theorem kX8_control (l : Launch) (Γ : rGam) (o : Nat) (p1 : Int32) (p2 : Int32) (post : Int64 → St → Prop) (σ0 : St) (h : wX8_control o p1 p2 post σ0) : Met l yX8_control wsX8_control rmX8_control (rPc Γ vwCl [.ref o, .int p1, .int p2] (Rep Γ σ0)) (va_Ql post (fun σ' t => Rep Γ σ' t.heap) (rA Γ)) 0 0 (rA Γ) := by
  refine Met.ofW (cc := cX8_control) (maxL := 7) (ret := (some .long)) (by decide) rfl ?_
  intro p e s m args below meth c s₁ B hml hv
  obtain ⟨rfl, hR, hE⟩ := hv
  have F : Fx Γ p s m meth c _ cX8_control 7 RX8 wsX8_control (some .long) := ⟨⟨B.exec, B.bytes, hml, findClass_of_methodNamed B.named, atoms_spec (ws := wsX8_control) B.pre⟩, hE, B.notSynchronized, B.returns⟩
  have hl := lv_entry ([.ref o, .int p1, .int p2]) (n := 7) (Nat.le_of_ble_eq_true rfl)
  rw [lg_entry_eq]
  generalize (lg_sl ([.ref o, .int p1, .int p2]) ++ List.replicate (7 - (lg_sl ([.ref o, .int p1, .int p2])).length) Slot.unset).toArray = ls at hl ⊢
  have hl : lv_has ls 7 [(0, .ref o), (1, .int p1), (2, .int p2)] := hl
  exact bX8_control F h hR va_S.rf hl ⟨Nat.le_refl 0, Nat.le_refl 0⟩
/-! X8_balance -/
theorem mX8_balance_0 : Cond.fieldLink RX8 23 "ClearingFilesModel" "balances" "[J" ∈ wsX8_balance := by decide +kernel
theorem mX8_balance_1 : Cond.constantLong RX8 233 (-1) ∈ wsX8_balance := by decide +kernel
theorem nX8_balance_X8 : ∀ w ∈ u_ws RX8 TX8 46, w ∈ wsX8_balance := fun _ h => List.mem_cons_of_mem _ (List.mem_append_right _ h)
abbrev rmX8_balance : Room := { frames := 1, cells := 0, slots := 0, locals := 23 }
set_option maxRecDepth 100000 in
def wX8_balance (o : Nat) (p1 : Int32) (p2 : Int32) (post : Int64 → St → Prop) (σ0 : St) : Prop :=
  sK σ0 o = 9 ∧ (wX8_accountOf o p1 p2 (fun (x4 : Int32) (σ2 : St) => (0 ≤ x4 → (sK σ2 o = 9 ∧ (∀ r8 : Option Nat, r8 = sR σ2 457 o 0 → (∃ a9 : Nat, r8 = some a9 ∧ (sK σ2 a9 = 1457 ∧ (vp_in x4 12 ∧ (post (sJ σ2 1457 a9 x4.toNatClampNeg) σ2))))))) ∧ (¬ 0 ≤ x4 → (post (-1 : Int64) σ2))) σ0)
set_option maxHeartbeats 4000000 in
set_option maxRecDepth 100000 in
theorem bX8_balance {p : Program} {l : Launch} {e : Env} {s : State} {m : MethodId} {args : Array Value} {below : List Frame} {meth : Method} {c : Code} {Γ : rGam} {o : Nat} {post : Int64 → St → Prop} (F : Fx Γ p s m meth c args cX8_balance 4 RX8 wsX8_balance (some .long)) {H : Heap} {locs : List Loc} {ls : Array Slot} {cells slots : Nat} {p1 : Int32} {p2 : Int32} {σ0 : St} (h : wX8_balance o p1 p2 post σ0) (hR : Rep Γ σ0 H) (hS : va_S (rA Γ) s.heap H locs) (hl : lv_has ls 4 [(0, .ref o), (1, .int p1), (2, .int p2)]) (hc : cells ≤ 0 ∧ slots ≤ 0) : W p l e rmX8_balance s m args below meth c H locs cells slots (rQl Γ below post args s 0 0) (F0 m 0 ls []) := by
  have hx := F.1.1
  have hb := F.1.2.1
  unfold wX8_balance at h
  refine lv_aload_n hx hb dX8_balance_0 rfl (lv_at hl 0 rfl) ?_
  refine lv_iload_n hx hb dX8_balance_1 rfl (lv_at hl 1 rfl) ?_
  refine lv_iload_n hx hb dX8_balance_2 rfl (lv_at hl 2 rfl) ?_
  obtain ⟨k1, h⟩ := h
  refine s_ci hS (k_runV F hR hS hl 2 [.int p1, .int p2] (kX8_accountOf l Γ o p1 p2 _ _ h) gX8_balance_X8_accountOf rfl rfl rfl (by decide +kernel) ⟨Nat.le_of_ble_eq_true rfl, Nat.le_of_ble_eq_true rfl⟩ (s_recv F hR k1 (by decide) (C := RX8) (T := TX8) (N := 46) rfl) rfl (Nat.le_of_ble_eq_true rfl) dX8_balance_3 ⟨by show _ ≤ 0; omega, by show _ ≤ 0; omega⟩) (fun x4 σ2 H locs h3 hR hS => ?_)
  refine s_istore_n (lk := [(2, .int p2)]) (lv' := [(3, .int x4), (0, .ref o), (1, .int p1), (2, .int p2)]) hx hb dX8_balance_6 rfl hl (by decide) rfl (lk_1 rfl) rfl (fun ls hl5 => ?_)
  refine lv_iload_n hx hb dX8_balance_7 rfl (lv_at hl5 0 rfl) ?_
  refine lv_if_ge (tgt := 17) hx hb dX8_balance_8 (by decide) (fun c6 => ?_) (fun c6 => ?_)
  · replace h3 := h3.1 c6
    refine lv_aload_n hx hb dX8_balance_17 rfl (lv_at hl5 1 rfl) ?_
    obtain ⟨k7, h3⟩ := h3
    refine s_getR F hR k7 (by decide) (C := RX8) (T := TX8) (N := 46) rfl nX8_balance_X8 7 (by decide) mX8_balance_0 (f := 457) rfl dX8_balance_18 (fun r8 er8 => ?_)
    replace h3 := h3 r8 er8
    refine lv_iload_n hx hb dX8_balance_21 rfl (lv_at hl5 0 rfl) ?_
    obtain ⟨a9, ea9, h3⟩ := h3
    subst ea9
    obtain ⟨k10, h3⟩ := h3
    obtain ⟨z11, h3⟩ := h3
    refine s_lald F hR k10 (by decide) rfl z11 dX8_balance_22 ?_
    exact s_lret F hR hS h3 hc dX8_balance_23
  · replace h3 := h3.2 c6
    refine lv_ldc2 hx hb F.1.2.2.2.1 (F.1.2.2.2.2 _ mX8_balance_1) dX8_balance_11 ?_
    refine lv_goto (tgt := 23) hx hb dX8_balance_14 (by decide) ?_
    exact s_lret F hR hS h3 hc dX8_balance_23
set_option maxHeartbeats 4000000 in
set_option maxRecDepth 100000 in
theorem kX8_balance (l : Launch) (Γ : rGam) (o : Nat) (p1 : Int32) (p2 : Int32) (post : Int64 → St → Prop) (σ0 : St) (h : wX8_balance o p1 p2 post σ0) : Met l yX8_balance wsX8_balance rmX8_balance (rPc Γ vwCl [.ref o, .int p1, .int p2] (Rep Γ σ0)) (va_Ql post (fun σ' t => Rep Γ σ' t.heap) (rA Γ)) 0 0 (rA Γ) := by
  refine Met.ofW (cc := cX8_balance) (maxL := 4) (ret := (some .long)) (by decide) rfl ?_
  intro p e s m args below meth c s₁ B hml hv
  obtain ⟨rfl, hR, hE⟩ := hv
  have F : Fx Γ p s m meth c _ cX8_balance 4 RX8 wsX8_balance (some .long) := ⟨⟨B.exec, B.bytes, hml, findClass_of_methodNamed B.named, atoms_spec (ws := wsX8_balance) B.pre⟩, hE, B.notSynchronized, B.returns⟩
  have hl := lv_entry ([.ref o, .int p1, .int p2]) (n := 4) (Nat.le_of_ble_eq_true rfl)
  rw [lg_entry_eq]
  generalize (lg_sl ([.ref o, .int p1, .int p2]) ++ List.replicate (4 - (lg_sl ([.ref o, .int p1, .int p2])).length) Slot.unset).toArray = ls at hl ⊢
  have hl : lv_has ls 4 [(0, .ref o), (1, .int p1), (2, .int p2)] := hl
  exact bX8_balance F h hR va_S.rf hl ⟨Nat.le_refl 0, Nat.le_refl 0⟩
/-! X8_ledger -/
theorem mX8_ledger_0 : Cond.fieldLink RX8 119 "ClearingFilesModel" "banks" "I" ∈ wsX8_ledger := by decide +kernel
theorem mX8_ledger_1 : Cond.fieldLink RX8 13 "ClearingFilesModel" "ledgers" "[J" ∈ wsX8_ledger := by decide +kernel
theorem nX8_ledger_X8 : ∀ w ∈ u_ws RX8 TX8 46, w ∈ wsX8_ledger := fun _ h => List.mem_cons_of_mem _ (List.mem_append_right _ h)
abbrev rmX8_ledger : Room := { frames := 1, cells := 0, slots := 0, locals := 21 }
set_option maxRecDepth 100000 in
def wX8_ledger (o : Nat) (p1 : Int32) (post : Int64 → St → Prop) (σ0 : St) : Prop :=
  sK σ0 o = 9 ∧ (wX8_within p1 (sI σ0 450 o 0) (fun (x4 : Int32) (σ2 : St) => (x4 = 0 → (post (0 : Int64) σ2)) ∧ (¬ x4 = 0 → (sK σ2 o = 9 ∧ (∀ r7 : Option Nat, r7 = sR σ2 452 o 0 → (∃ a8 : Nat, r7 = some a8 ∧ (sK σ2 a8 = 1452 ∧ (vp_in p1 5 ∧ (post (sJ σ2 1452 a8 p1.toNatClampNeg) σ2)))))))) σ0)
set_option maxHeartbeats 4000000 in
set_option maxRecDepth 100000 in
theorem bX8_ledger {p : Program} {l : Launch} {e : Env} {s : State} {m : MethodId} {args : Array Value} {below : List Frame} {meth : Method} {c : Code} {Γ : rGam} {o : Nat} {post : Int64 → St → Prop} (F : Fx Γ p s m meth c args cX8_ledger 2 RX8 wsX8_ledger (some .long)) {H : Heap} {locs : List Loc} {ls : Array Slot} {cells slots : Nat} {p1 : Int32} {σ0 : St} (h : wX8_ledger o p1 post σ0) (hR : Rep Γ σ0 H) (hS : va_S (rA Γ) s.heap H locs) (hl : lv_has ls 2 [(0, .ref o), (1, .int p1)]) (hc : cells ≤ 0 ∧ slots ≤ 0) : W p l e rmX8_ledger s m args below meth c H locs cells slots (rQl Γ below post args s 0 0) (F0 m 0 ls []) := by
  have hx := F.1.1
  have hb := F.1.2.1
  unfold wX8_ledger at h
  refine lv_iload_n hx hb dX8_ledger_0 rfl (lv_at hl 1 rfl) ?_
  refine lv_aload_n hx hb dX8_ledger_1 rfl (lv_at hl 0 rfl) ?_
  obtain ⟨k1, h⟩ := h
  refine s_getI F hR k1 (by decide) (C := RX8) (T := TX8) (N := 46) rfl nX8_ledger_X8 0 (by decide) mX8_ledger_0 (f := 450) rfl dX8_ledger_2 ?_
  refine s_ci hS (k_runS F hR hS hl 2 [.int p1, .int (sI σ0 450 o 0)] (kX8_within l Γ p1 (sI σ0 450 o 0) _ _ h) gX8_ledger_X8_within rfl rfl rfl (by decide +kernel) ⟨Nat.le_of_ble_eq_true rfl, Nat.le_of_ble_eq_true rfl⟩ rfl (Nat.le_of_ble_eq_true rfl) dX8_ledger_5 ⟨by show _ ≤ 0; omega, by show _ ≤ 0; omega⟩) (fun x4 σ2 H locs h3 hR hS => ?_)
  refine lv_if_eq (tgt := 20) hx hb dX8_ledger_8 (by decide) (fun c5 => ?_) (fun c5 => ?_)
  · replace h3 := h3.1 c5
    refine lv_lconst (v := 0) hx hb dX8_ledger_20 (by decide) ?_
    exact s_lret F hR hS h3 hc dX8_ledger_21
  · replace h3 := h3.2 c5
    refine lv_aload_n hx hb dX8_ledger_11 rfl (lv_at hl 0 rfl) ?_
    obtain ⟨k6, h3⟩ := h3
    refine s_getR F hR k6 (by decide) (C := RX8) (T := TX8) (N := 46) rfl nX8_ledger_X8 2 (by decide) mX8_ledger_1 (f := 452) rfl dX8_ledger_12 (fun r7 er7 => ?_)
    replace h3 := h3 r7 er7
    refine lv_iload_n hx hb dX8_ledger_15 rfl (lv_at hl 1 rfl) ?_
    obtain ⟨a8, ea8, h3⟩ := h3
    subst ea8
    obtain ⟨k9, h3⟩ := h3
    obtain ⟨z10, h3⟩ := h3
    refine s_lald F hR k9 (by decide) rfl z10 dX8_ledger_16 ?_
    refine lv_goto (tgt := 21) hx hb dX8_ledger_17 (by decide) ?_
    exact s_lret F hR hS h3 hc dX8_ledger_21
set_option maxHeartbeats 4000000 in
set_option maxRecDepth 100000 in
theorem kX8_ledger (l : Launch) (Γ : rGam) (o : Nat) (p1 : Int32) (post : Int64 → St → Prop) (σ0 : St) (h : wX8_ledger o p1 post σ0) : Met l yX8_ledger wsX8_ledger rmX8_ledger (rPc Γ vwCl [.ref o, .int p1] (Rep Γ σ0)) (va_Ql post (fun σ' t => Rep Γ σ' t.heap) (rA Γ)) 0 0 (rA Γ) := by
  refine Met.ofW (cc := cX8_ledger) (maxL := 2) (ret := (some .long)) (by decide) rfl ?_
  intro p e s m args below meth c s₁ B hml hv
  obtain ⟨rfl, hR, hE⟩ := hv
  have F : Fx Γ p s m meth c _ cX8_ledger 2 RX8 wsX8_ledger (some .long) := ⟨⟨B.exec, B.bytes, hml, findClass_of_methodNamed B.named, atoms_spec (ws := wsX8_ledger) B.pre⟩, hE, B.notSynchronized, B.returns⟩
  have hl := lv_entry ([.ref o, .int p1]) (n := 2) (Nat.le_of_ble_eq_true rfl)
  rw [lg_entry_eq]
  generalize (lg_sl ([.ref o, .int p1]) ++ List.replicate (2 - (lg_sl ([.ref o, .int p1])).length) Slot.unset).toArray = ls at hl ⊢
  have hl : lv_has ls 2 [(0, .ref o), (1, .int p1)] := hl
  exact bX8_ledger F h hR va_S.rf hl ⟨Nat.le_refl 0, Nat.le_refl 0⟩
/-! X8_waiting -/
theorem mX8_waiting_0 : Cond.fieldLink RX8 119 "ClearingFilesModel" "banks" "I" ∈ wsX8_waiting := by decide +kernel
theorem mX8_waiting_1 : Cond.fieldLink RX8 182 "ClearingFilesModel" "rows" "I" ∈ wsX8_waiting := by decide +kernel
theorem mX8_waiting_2 : Cond.fieldLink RX8 93 "ClearingFilesModel" "state" "[I" ∈ wsX8_waiting := by decide +kernel
theorem mX8_waiting_3 : Cond.fieldLink RX8 75 "ClearingFilesModel" "giver" "[I" ∈ wsX8_waiting := by decide +kernel
theorem mX8_waiting_4 : Cond.fieldLink RX8 78 "ClearingFilesModel" "taker" "[I" ∈ wsX8_waiting := by decide +kernel
theorem nX8_waiting_X8 : ∀ w ∈ u_ws RX8 TX8 46, w ∈ wsX8_waiting := fun _ h => List.mem_cons_of_mem _ (List.mem_append_right _ h)
abbrev rmX8_waiting : Room := { frames := 1, cells := 0, slots := 0, locals := 21 }
set_option maxRecDepth 100000 in
def wX8_waiting_109 (k26 : Int32 → Int32 → Int32 → Int32 → St → Prop) (o : Nat) (post : Int32 → St → Prop) (x1 : Int32) (x2 : Int32) (x4 : Int32) (y0 : Int32) (σ0 : St) : Prop :=
  ∀ x24 : Int32, x24 = x4 + (1 : Int32) → (k26 x1 x2 y0 x24 σ0)
set_option maxHeartbeats 4000000 in
set_option maxRecDepth 100000 in
theorem bX8_waiting_109 {p : Program} {l : Launch} {e : Env} {s : State} {m : MethodId} {args : Array Value} {below : List Frame} {meth : Method} {c : Code} {Γ : rGam} {o : Nat} {post : Int32 → St → Prop} (F : Fx Γ p s m meth c args cX8_waiting 6 RX8 wsX8_waiting (some .int)) {k26 : Int32 → Int32 → Int32 → Int32 → St → Prop} (hk26 : ∀ (x1 : Int32) (x2 : Int32) (x3 : Int32) (x4 : Int32) (σ0 : St) (H : Heap) (locs : List Loc) (ls : Array Slot) (cells slots : Nat), k26 x1 x2 x3 x4 σ0 → Rep Γ σ0 H → va_S (rA Γ) s.heap H locs → lv_has ls 6 [(0, .ref o), (1, .int x1), (2, .int x2), (3, .int x3), (4, .int x4)] → cells ≤ 0 ∧ slots ≤ 0 → W p l e rmX8_waiting s m args below meth c H locs cells slots (rQi Γ below post args s 0 0) (F0 m 26 ls [])) {H : Heap} {locs : List Loc} {ls : Array Slot} {cells slots : Nat} {x1 : Int32} {x2 : Int32} {x4 : Int32} {y0 : Int32} {σ0 : St} (h : wX8_waiting_109 k26 o post x1 x2 x4 y0 σ0) (hR : Rep Γ σ0 H) (hS : va_S (rA Γ) s.heap H locs) (hl : lv_has ls 6 [(0, .ref o), (1, .int x1), (2, .int x2), (4, .int x4)]) (hc : cells ≤ 0 ∧ slots ≤ 0) : W p l e rmX8_waiting s m args below meth c H locs cells slots (rQi Γ below post args s 0 0) (F0 m 109 ls [.int y0]) := by
  have hx := F.1.1
  have hb := F.1.2.1
  unfold wX8_waiting_109 at h
  refine s_istore_n (lk := [(2, .int x2)]) (lv' := [(3, .int y0), (0, .ref o), (1, .int x1), (2, .int x2), (4, .int x4)]) hx hb dX8_waiting_109 rfl hl (by decide) rfl (lk_1 rfl) rfl (fun ls hl23 => ?_)
  obtain ⟨x24, ex24⟩ : ∃ x : Int32, x = x4 + (1 : Int32) := ⟨_, rfl⟩
  replace h := h x24 ex24
  refine s_iinc (v := x24) (d := 1) (lk := [(3, .int y0)]) (lv' := [(4, .int x24), (3, .int y0), (0, .ref o), (1, .int x1), (2, .int x2)]) hx hb dX8_waiting_110 hl23 (k := 4) rfl (by decide) (by decide) rfl (lk_1 rfl) ex24 rfl (fun ls hl25 => ?_)
  refine lv_goto (tgt := 26) hx hb dX8_waiting_113 (by decide) ?_
  exact hk26 x1 x2 y0 x24 σ0 _ _ _ _ _ h hR hS (lv_sub hl25 [2, 3, 4, 1, 0] rfl) hc

set_option maxRecDepth 100000 in
def wX8_waiting_95 (k26 : Int32 → Int32 → Int32 → Int32 → St → Prop) (o : Nat) (post : Int32 → St → Prop) (x1 : Int32) (x2 : Int32) (x3 : Int32) (x4 : Int32) (y0 : Int32) (σ0 : St) : Prop :=
  (y0 = 0 → (wX8_waiting_109 k26 o post x1 x2 x4 x3 σ0)) ∧ (¬ y0 = 0 → (wX8_waiting_109 k26 o post x1 x2 x4 (x3 + (1 : Int32)) σ0))
set_option maxHeartbeats 4000000 in
set_option maxRecDepth 100000 in
theorem bX8_waiting_95 {p : Program} {l : Launch} {e : Env} {s : State} {m : MethodId} {args : Array Value} {below : List Frame} {meth : Method} {c : Code} {Γ : rGam} {o : Nat} {post : Int32 → St → Prop} (F : Fx Γ p s m meth c args cX8_waiting 6 RX8 wsX8_waiting (some .int)) {k26 : Int32 → Int32 → Int32 → Int32 → St → Prop} (hk26 : ∀ (x1 : Int32) (x2 : Int32) (x3 : Int32) (x4 : Int32) (σ0 : St) (H : Heap) (locs : List Loc) (ls : Array Slot) (cells slots : Nat), k26 x1 x2 x3 x4 σ0 → Rep Γ σ0 H → va_S (rA Γ) s.heap H locs → lv_has ls 6 [(0, .ref o), (1, .int x1), (2, .int x2), (3, .int x3), (4, .int x4)] → cells ≤ 0 ∧ slots ≤ 0 → W p l e rmX8_waiting s m args below meth c H locs cells slots (rQi Γ below post args s 0 0) (F0 m 26 ls [])) {H : Heap} {locs : List Loc} {ls : Array Slot} {cells slots : Nat} {x1 : Int32} {x2 : Int32} {x3 : Int32} {x4 : Int32} {y0 : Int32} {σ0 : St} (h : wX8_waiting_95 k26 o post x1 x2 x3 x4 y0 σ0) (hR : Rep Γ σ0 H) (hS : va_S (rA Γ) s.heap H locs) (hl : lv_has ls 6 [(0, .ref o), (1, .int x1), (2, .int x2), (3, .int x3), (4, .int x4)]) (hc : cells ≤ 0 ∧ slots ≤ 0) : W p l e rmX8_waiting s m args below meth c H locs cells slots (rQi Γ below post args s 0 0) (F0 m 95 ls [.int y0]) := by
  have hx := F.1.1
  have hb := F.1.2.1
  unfold wX8_waiting_95 at h
  refine s_istore (lk := [(4, .int x4)]) (lv' := [(5, .int y0), (0, .ref o), (1, .int x1), (2, .int x2), (3, .int x3), (4, .int x4)]) hx hb dX8_waiting_95 hl (by decide) rfl (lk_1 rfl) rfl (fun ls hl21 => ?_)
  refine lv_iload hx hb dX8_waiting_97 (lv_at hl21 0 rfl) ?_
  refine lv_if_eq (tgt := 108) hx hb dX8_waiting_99 (by decide) (fun c22 => ?_) (fun c22 => ?_)
  · replace h := h.1 c22
    refine lv_iload_n hx hb dX8_waiting_108 rfl (lv_at hl21 4 rfl) ?_
    exact bX8_waiting_109 F hk26 h hR hS (lv_sub hl21 [1, 2, 3, 5] rfl) hc
  · replace h := h.2 c22
    refine lv_iload_n hx hb dX8_waiting_102 rfl (lv_at hl21 4 rfl) ?_
    refine lv_iconst (v := 1) hx hb dX8_waiting_103 (by decide) ?_
    refine lv_iadd hx hb dX8_waiting_104 ?_
    refine lv_goto (tgt := 109) hx hb dX8_waiting_105 (by decide) ?_
    exact bX8_waiting_109 F hk26 h hR hS (lv_sub hl21 [1, 2, 3, 5] rfl) hc

set_option maxRecDepth 100000 in
def wX8_waiting_94 (k26 : Int32 → Int32 → Int32 → Int32 → St → Prop) (o : Nat) (post : Int32 → St → Prop) (x1 : Int32) (x2 : Int32) (x3 : Int32) (x4 : Int32) (σ0 : St) : Prop :=
  wX8_waiting_95 k26 o post x1 x2 x3 x4 (0 : Int32) σ0
set_option maxHeartbeats 4000000 in
set_option maxRecDepth 100000 in
theorem bX8_waiting_94 {p : Program} {l : Launch} {e : Env} {s : State} {m : MethodId} {args : Array Value} {below : List Frame} {meth : Method} {c : Code} {Γ : rGam} {o : Nat} {post : Int32 → St → Prop} (F : Fx Γ p s m meth c args cX8_waiting 6 RX8 wsX8_waiting (some .int)) {k26 : Int32 → Int32 → Int32 → Int32 → St → Prop} (hk26 : ∀ (x1 : Int32) (x2 : Int32) (x3 : Int32) (x4 : Int32) (σ0 : St) (H : Heap) (locs : List Loc) (ls : Array Slot) (cells slots : Nat), k26 x1 x2 x3 x4 σ0 → Rep Γ σ0 H → va_S (rA Γ) s.heap H locs → lv_has ls 6 [(0, .ref o), (1, .int x1), (2, .int x2), (3, .int x3), (4, .int x4)] → cells ≤ 0 ∧ slots ≤ 0 → W p l e rmX8_waiting s m args below meth c H locs cells slots (rQi Γ below post args s 0 0) (F0 m 26 ls [])) {H : Heap} {locs : List Loc} {ls : Array Slot} {cells slots : Nat} {x1 : Int32} {x2 : Int32} {x3 : Int32} {x4 : Int32} {σ0 : St} (h : wX8_waiting_94 k26 o post x1 x2 x3 x4 σ0) (hR : Rep Γ σ0 H) (hS : va_S (rA Γ) s.heap H locs) (hl : lv_has ls 6 [(0, .ref o), (1, .int x1), (2, .int x2), (3, .int x3), (4, .int x4)]) (hc : cells ≤ 0 ∧ slots ≤ 0) : W p l e rmX8_waiting s m args below meth c H locs cells slots (rQi Γ below post args s 0 0) (F0 m 94 ls []) := by
  have hx := F.1.1
  have hb := F.1.2.1
  unfold wX8_waiting_94 at h
  refine lv_iconst (v := 0) hx hb dX8_waiting_94 (by decide) ?_
  exact bX8_waiting_95 F hk26 h hR hS (lv_sub hl [0, 1, 2, 3, 4] rfl) hc

set_option maxRecDepth 100000 in
def wX8_waiting_26 (o : Nat) (post : Int32 → St → Prop) : Nat → Int32 → Int32 → Int32 → Int32 → St → Prop
  | 0, _, _, _, _, _ => False
  | n + 1, x1, x2, x3, x4, σ0 =>
    sK σ0 o = 9 ∧ (((sI σ0 479 o 0) ≤ x4 → (post x3 σ0)) ∧ (¬ (sI σ0 479 o 0) ≤ x4 → ((x2 = 0 → (sK σ0 o = 9 ∧ (∀ r33 : Option Nat, r33 = sR σ0 487 o 0 → (∃ a34 : Nat, r33 = some a34 ∧ (sK σ0 a34 = 1487 ∧ (vp_in x4 512 ∧ (((sI σ0 1487 a34 x4.toNatClampNeg) = 0 → (sK σ0 o = 9 ∧ (∀ r39 : Option Nat, r39 = sR σ0 482 o 0 → (∃ a40 : Nat, r39 = some a40 ∧ (sK σ0 a40 = 1482 ∧ (vp_in x4 512 ∧ (((sI σ0 1482 a40 x4.toNatClampNeg) = x1 → (wX8_waiting_95 (wX8_waiting_26 o post n) o post x1 x2 x3 x4 (1 : Int32) σ0)) ∧ (¬ (sI σ0 1482 a40 x4.toNatClampNeg) = x1 → (wX8_waiting_95 (wX8_waiting_26 o post n) o post x1 x2 x3 x4 (0 : Int32) σ0))))))))) ∧ (¬ (sI σ0 1487 a34 x4.toNatClampNeg) = 0 → (wX8_waiting_95 (wX8_waiting_26 o post n) o post x1 x2 x3 x4 (0 : Int32) σ0))))))))) ∧ (¬ x2 = 0 → (sK σ0 o = 9 ∧ (∀ r16 : Option Nat, r16 = sR σ0 487 o 0 → (∃ a17 : Nat, r16 = some a17 ∧ (sK σ0 a17 = 1487 ∧ (vp_in x4 512 ∧ (((sI σ0 1487 a17 x4.toNatClampNeg) = (2 : Int32) → (sK σ0 o = 9 ∧ (∀ r27 : Option Nat, r27 = sR σ0 481 o 0 → (∃ a28 : Nat, r27 = some a28 ∧ (sK σ0 a28 = 1481 ∧ (vp_in x4 512 ∧ (((sI σ0 1481 a28 x4.toNatClampNeg) = x1 → (wX8_waiting_95 (wX8_waiting_26 o post n) o post x1 x2 x3 x4 (1 : Int32) σ0)) ∧ (¬ (sI σ0 1481 a28 x4.toNatClampNeg) = x1 → (wX8_waiting_94 (wX8_waiting_26 o post n) o post x1 x2 x3 x4 σ0))))))))) ∧ (¬ (sI σ0 1487 a17 x4.toNatClampNeg) = (2 : Int32) → (wX8_waiting_94 (wX8_waiting_26 o post n) o post x1 x2 x3 x4 σ0))))))))))))
set_option maxHeartbeats 4000000 in
set_option maxRecDepth 100000 in
theorem bX8_waiting_26 {p : Program} {l : Launch} {e : Env} {s : State} {m : MethodId} {args : Array Value} {below : List Frame} {meth : Method} {c : Code} {Γ : rGam} {o : Nat} {post : Int32 → St → Prop} (F : Fx Γ p s m meth c args cX8_waiting 6 RX8 wsX8_waiting (some .int)) : ∀ (n : Nat) (x1 : Int32) (x2 : Int32) (x3 : Int32) (x4 : Int32) (σ0 : St) (H : Heap) (locs : List Loc) (ls : Array Slot) (cells slots : Nat), wX8_waiting_26 o post n x1 x2 x3 x4 σ0 → Rep Γ σ0 H → va_S (rA Γ) s.heap H locs → lv_has ls 6 [(0, .ref o), (1, .int x1), (2, .int x2), (3, .int x3), (4, .int x4)] → cells ≤ 0 ∧ slots ≤ 0 → W p l e rmX8_waiting s m args below meth c H locs cells slots (rQi Γ below post args s 0 0) (F0 m 26 ls []) := by
  have hx := F.1.1
  have hb := F.1.2.1
  intro n
  induction n with
  | zero =>
    intro x1 x2 x3 x4 σ0 H locs ls cells slots h
    exact absurd h (by unfold wX8_waiting_26; exact id)
  | succ n ih =>
    intro x1 x2 x3 x4 σ0 H locs ls cells slots h hR hS hl hc
    unfold wX8_waiting_26 at h
    refine lv_iload hx hb dX8_waiting_26 (lv_at hl 4 rfl) ?_
    refine lv_aload_n hx hb dX8_waiting_28 rfl (lv_at hl 0 rfl) ?_
    obtain ⟨k12, h⟩ := h
    refine s_getI F hR k12 (by decide) (C := RX8) (T := TX8) (N := 46) rfl nX8_waiting_X8 29 (by decide) mX8_waiting_1 (f := 479) rfl dX8_waiting_29 ?_
    refine lv_icmp_ge (tgt := 116) hx hb dX8_waiting_32 (by decide) (fun c13 => ?_) (fun c13 => ?_)
    · replace h := h.1 c13
      refine lv_iload_n hx hb dX8_waiting_116 rfl (lv_at hl 3 rfl) ?_
      exact s_iret F hR hS h hc dX8_waiting_117
    · replace h := h.2 c13
      refine lv_iload_n hx hb dX8_waiting_35 rfl (lv_at hl 2 rfl) ?_
      refine lv_if_ne (tgt := 68) hx hb dX8_waiting_36 (by decide) (fun c14 => ?_) (fun c14 => ?_)
      · replace h := h.2 c14
        refine lv_aload_n hx hb dX8_waiting_68 rfl (lv_at hl 0 rfl) ?_
        obtain ⟨k15, h⟩ := h
        refine s_getR F hR k15 (by decide) (C := RX8) (T := TX8) (N := 46) rfl nX8_waiting_X8 37 (by decide) mX8_waiting_2 (f := 487) rfl dX8_waiting_69 (fun r16 er16 => ?_)
        replace h := h r16 er16
        refine lv_iload hx hb dX8_waiting_72 (lv_at hl 4 rfl) ?_
        obtain ⟨a17, ea17, h⟩ := h
        subst ea17
        obtain ⟨k18, h⟩ := h
        obtain ⟨z19, h⟩ := h
        refine s_iald F hR k18 (by decide) rfl z19 dX8_waiting_74 ?_
        refine lv_iconst (v := 2) hx hb dX8_waiting_75 (by decide) ?_
        refine lv_icmp_ne (tgt := 94) hx hb dX8_waiting_76 (by decide) (fun c20 => ?_) (fun c20 => ?_)
        · replace h := h.2 c20
          exact bX8_waiting_94 F (fun x1 x2 x3 x4 σ0 H locs ls cells slots h hR hS hl hc => ih x1 x2 x3 x4 σ0 H locs ls cells slots h hR hS hl hc) h hR hS (lv_sub hl [0, 1, 2, 3, 4] rfl) hc
        · replace h := h.1 c20
          refine lv_aload_n hx hb dX8_waiting_79 rfl (lv_at hl 0 rfl) ?_
          obtain ⟨k26, h⟩ := h
          refine s_getR F hR k26 (by decide) (C := RX8) (T := TX8) (N := 46) rfl nX8_waiting_X8 31 (by decide) mX8_waiting_3 (f := 481) rfl dX8_waiting_80 (fun r27 er27 => ?_)
          replace h := h r27 er27
          refine lv_iload hx hb dX8_waiting_83 (lv_at hl 4 rfl) ?_
          obtain ⟨a28, ea28, h⟩ := h
          subst ea28
          obtain ⟨k29, h⟩ := h
          obtain ⟨z30, h⟩ := h
          refine s_iald F hR k29 (by decide) rfl z30 dX8_waiting_85 ?_
          refine lv_iload_n hx hb dX8_waiting_86 rfl (lv_at hl 1 rfl) ?_
          refine lv_icmp_ne (tgt := 94) hx hb dX8_waiting_87 (by decide) (fun c31 => ?_) (fun c31 => ?_)
          · replace h := h.2 c31
            exact bX8_waiting_94 F (fun x1 x2 x3 x4 σ0 H locs ls cells slots h hR hS hl hc => ih x1 x2 x3 x4 σ0 H locs ls cells slots h hR hS hl hc) h hR hS (lv_sub hl [0, 1, 2, 3, 4] rfl) hc
          · replace h := h.1 c31
            refine lv_iconst (v := 1) hx hb dX8_waiting_90 (by decide) ?_
            refine lv_goto (tgt := 95) hx hb dX8_waiting_91 (by decide) ?_
            exact bX8_waiting_95 F (fun x1 x2 x3 x4 σ0 H locs ls cells slots h hR hS hl hc => ih x1 x2 x3 x4 σ0 H locs ls cells slots h hR hS hl hc) h hR hS (lv_sub hl [0, 1, 2, 3, 4] rfl) hc
      · replace h := h.1 c14
        refine lv_aload_n hx hb dX8_waiting_39 rfl (lv_at hl 0 rfl) ?_
        obtain ⟨k32, h⟩ := h
        refine s_getR F hR k32 (by decide) (C := RX8) (T := TX8) (N := 46) rfl nX8_waiting_X8 37 (by decide) mX8_waiting_2 (f := 487) rfl dX8_waiting_40 (fun r33 er33 => ?_)
        replace h := h r33 er33
        refine lv_iload hx hb dX8_waiting_43 (lv_at hl 4 rfl) ?_
        obtain ⟨a34, ea34, h⟩ := h
        subst ea34
        obtain ⟨k35, h⟩ := h
        obtain ⟨z36, h⟩ := h
        refine s_iald F hR k35 (by decide) rfl z36 dX8_waiting_45 ?_
        refine lv_if_ne (tgt := 64) hx hb dX8_waiting_46 (by decide) (fun c37 => ?_) (fun c37 => ?_)
        · replace h := h.2 c37
          refine lv_iconst (v := 0) hx hb dX8_waiting_64 (by decide) ?_
          refine lv_goto (tgt := 95) hx hb dX8_waiting_65 (by decide) ?_
          exact bX8_waiting_95 F (fun x1 x2 x3 x4 σ0 H locs ls cells slots h hR hS hl hc => ih x1 x2 x3 x4 σ0 H locs ls cells slots h hR hS hl hc) h hR hS (lv_sub hl [0, 1, 2, 3, 4] rfl) hc
        · replace h := h.1 c37
          refine lv_aload_n hx hb dX8_waiting_49 rfl (lv_at hl 0 rfl) ?_
          obtain ⟨k38, h⟩ := h
          refine s_getR F hR k38 (by decide) (C := RX8) (T := TX8) (N := 46) rfl nX8_waiting_X8 32 (by decide) mX8_waiting_4 (f := 482) rfl dX8_waiting_50 (fun r39 er39 => ?_)
          replace h := h r39 er39
          refine lv_iload hx hb dX8_waiting_53 (lv_at hl 4 rfl) ?_
          obtain ⟨a40, ea40, h⟩ := h
          subst ea40
          obtain ⟨k41, h⟩ := h
          obtain ⟨z42, h⟩ := h
          refine s_iald F hR k41 (by decide) rfl z42 dX8_waiting_55 ?_
          refine lv_iload_n hx hb dX8_waiting_56 rfl (lv_at hl 1 rfl) ?_
          refine lv_icmp_ne (tgt := 64) hx hb dX8_waiting_57 (by decide) (fun c43 => ?_) (fun c43 => ?_)
          · replace h := h.2 c43
            refine lv_iconst (v := 0) hx hb dX8_waiting_64 (by decide) ?_
            refine lv_goto (tgt := 95) hx hb dX8_waiting_65 (by decide) ?_
            exact bX8_waiting_95 F (fun x1 x2 x3 x4 σ0 H locs ls cells slots h hR hS hl hc => ih x1 x2 x3 x4 σ0 H locs ls cells slots h hR hS hl hc) h hR hS (lv_sub hl [0, 1, 2, 3, 4] rfl) hc
          · replace h := h.1 c43
            refine lv_iconst (v := 1) hx hb dX8_waiting_60 (by decide) ?_
            refine lv_goto (tgt := 95) hx hb dX8_waiting_61 (by decide) ?_
            exact bX8_waiting_95 F (fun x1 x2 x3 x4 σ0 H locs ls cells slots h hR hS hl hc => ih x1 x2 x3 x4 σ0 H locs ls cells slots h hR hS hl hc) h hR hS (lv_sub hl [0, 1, 2, 3, 4] rfl) hc

set_option maxRecDepth 100000 in
def wX8_waiting (o : Nat) (p1 : Int32) (p2 : Int32) (post : Int32 → St → Prop) (σ0 : St) : Prop :=
  sK σ0 o = 9 ∧ (wX8_within p1 (sI σ0 450 o 0) (fun (x4 : Int32) (σ2 : St) => (x4 = 0 → (post (-1 : Int32) σ2)) ∧ (¬ x4 = 0 → (wX8_within p2 (2 : Int32) (fun (x8 : Int32) (σ6 : St) => (x8 = 0 → (post (-1 : Int32) σ6)) ∧ (¬ x8 = 0 → (∃ n44 : Nat, wX8_waiting_26 o post n44 p1 p2 (0 : Int32) (0 : Int32) σ6))) σ2))) σ0)
set_option maxHeartbeats 4000000 in
set_option maxRecDepth 100000 in
theorem bX8_waiting {p : Program} {l : Launch} {e : Env} {s : State} {m : MethodId} {args : Array Value} {below : List Frame} {meth : Method} {c : Code} {Γ : rGam} {o : Nat} {post : Int32 → St → Prop} (F : Fx Γ p s m meth c args cX8_waiting 6 RX8 wsX8_waiting (some .int)) {H : Heap} {locs : List Loc} {ls : Array Slot} {cells slots : Nat} {p1 : Int32} {p2 : Int32} {σ0 : St} (h : wX8_waiting o p1 p2 post σ0) (hR : Rep Γ σ0 H) (hS : va_S (rA Γ) s.heap H locs) (hl : lv_has ls 6 [(0, .ref o), (1, .int p1), (2, .int p2)]) (hc : cells ≤ 0 ∧ slots ≤ 0) : W p l e rmX8_waiting s m args below meth c H locs cells slots (rQi Γ below post args s 0 0) (F0 m 0 ls []) := by
  have hx := F.1.1
  have hb := F.1.2.1
  unfold wX8_waiting at h
  refine lv_iload_n hx hb dX8_waiting_0 rfl (lv_at hl 1 rfl) ?_
  refine lv_aload_n hx hb dX8_waiting_1 rfl (lv_at hl 0 rfl) ?_
  obtain ⟨k1, h⟩ := h
  refine s_getI F hR k1 (by decide) (C := RX8) (T := TX8) (N := 46) rfl nX8_waiting_X8 0 (by decide) mX8_waiting_0 (f := 450) rfl dX8_waiting_2 ?_
  refine s_ci hS (k_runS F hR hS hl 2 [.int p1, .int (sI σ0 450 o 0)] (kX8_within l Γ p1 (sI σ0 450 o 0) _ _ h) gX8_waiting_X8_within rfl rfl rfl (by decide +kernel) ⟨Nat.le_of_ble_eq_true rfl, Nat.le_of_ble_eq_true rfl⟩ rfl (Nat.le_of_ble_eq_true rfl) dX8_waiting_5 ⟨by show _ ≤ 0; omega, by show _ ≤ 0; omega⟩) (fun x4 σ2 H locs h3 hR hS => ?_)
  refine lv_if_eq (tgt := 19) hx hb dX8_waiting_8 (by decide) (fun c5 => ?_) (fun c5 => ?_)
  · replace h3 := h3.1 c5
    refine lv_iconst (v := -1) hx hb dX8_waiting_19 (by decide) ?_
    exact s_iret F hR hS h3 hc dX8_waiting_20
  · replace h3 := h3.2 c5
    refine lv_iload_n hx hb dX8_waiting_11 rfl (lv_at hl 2 rfl) ?_
    refine lv_iconst (v := 2) hx hb dX8_waiting_12 (by decide) ?_
    refine s_ci hS (k_runS F hR hS hl 2 [.int p2, .int (2 : Int32)] (kX8_within l Γ p2 (2 : Int32) _ _ h3) gX8_waiting_X8_within rfl rfl rfl (by decide +kernel) ⟨Nat.le_of_ble_eq_true rfl, Nat.le_of_ble_eq_true rfl⟩ rfl (Nat.le_of_ble_eq_true rfl) dX8_waiting_13 ⟨by show _ ≤ 0; omega, by show _ ≤ 0; omega⟩) (fun x8 σ6 H locs h7 hR hS => ?_)
    refine lv_if_ne (tgt := 21) hx hb dX8_waiting_16 (by decide) (fun c9 => ?_) (fun c9 => ?_)
    · replace h7 := h7.2 c9
      refine lv_iconst (v := 0) hx hb dX8_waiting_21 (by decide) ?_
      refine s_istore_n (lk := [(2, .int p2)]) (lv' := [(3, .int (0 : Int32)), (0, .ref o), (1, .int p1), (2, .int p2)]) hx hb dX8_waiting_22 rfl hl (by decide) rfl (lk_1 rfl) rfl (fun ls hl10 => ?_)
      refine lv_iconst (v := 0) hx hb dX8_waiting_23 (by decide) ?_
      refine s_istore (lk := [(3, .int (0 : Int32))]) (lv' := [(4, .int (0 : Int32)), (3, .int (0 : Int32)), (0, .ref o), (1, .int p1), (2, .int p2)]) hx hb dX8_waiting_24 hl10 (by decide) rfl (lk_1 rfl) rfl (fun ls hl11 => ?_)
      obtain ⟨n44, h7⟩ := h7
      exact bX8_waiting_26 F n44 p1 p2 (0 : Int32) (0 : Int32) σ6 _ _ _ _ _ h7 hR hS (lv_sub hl11 [2, 3, 4, 1, 0] rfl) hc
    · replace h7 := h7.1 c9
      refine lv_iconst (v := -1) hx hb dX8_waiting_19 (by decide) ?_
      exact s_iret F hR hS h7 hc dX8_waiting_20
set_option maxHeartbeats 4000000 in
set_option maxRecDepth 100000 in
theorem kX8_waiting (l : Launch) (Γ : rGam) (o : Nat) (p1 : Int32) (p2 : Int32) (post : Int32 → St → Prop) (σ0 : St) (h : wX8_waiting o p1 p2 post σ0) : Met l yX8_waiting wsX8_waiting rmX8_waiting (rPc Γ vwCl [.ref o, .int p1, .int p2] (Rep Γ σ0)) (va_Qi post (fun σ' t => Rep Γ σ' t.heap) (rA Γ)) 0 0 (rA Γ) := by
  refine Met.ofW (cc := cX8_waiting) (maxL := 6) (ret := (some .int)) (by decide) rfl ?_
  intro p e s m args below meth c s₁ B hml hv
  obtain ⟨rfl, hR, hE⟩ := hv
  have F : Fx Γ p s m meth c _ cX8_waiting 6 RX8 wsX8_waiting (some .int) := ⟨⟨B.exec, B.bytes, hml, findClass_of_methodNamed B.named, atoms_spec (ws := wsX8_waiting) B.pre⟩, hE, B.notSynchronized, B.returns⟩
  have hl := lv_entry ([.ref o, .int p1, .int p2]) (n := 6) (Nat.le_of_ble_eq_true rfl)
  rw [lg_entry_eq]
  generalize (lg_sl ([.ref o, .int p1, .int p2]) ++ List.replicate (6 - (lg_sl ([.ref o, .int p1, .int p2])).length) Slot.unset).toArray = ls at hl ⊢
  have hl : lv_has ls 6 [(0, .ref o), (1, .int p1), (2, .int p2)] := hl
  exact bX8_waiting F h hR va_S.rf hl ⟨Nat.le_refl 0, Nat.le_refl 0⟩
/-! X8_init -/
theorem mX8_init_0 : Cond.methodLink RX8 1 objectInit ∈ wsX8_init := by decide +kernel
theorem mX8_init_1 : Cond.instanceMethod objectInit ∈ wsX8_init := by decide +kernel
theorem mX8_init_2 : Cond.code objectInit ⟨#[0xb1]⟩ 1 none ∈ wsX8_init := by decide +kernel
theorem mX8_init_3 : Cond.arrayClass .int ∈ wsX8_init := by decide +kernel
theorem mX8_init_4 : Cond.fieldLink RX8 7 "ClearingFilesModel" "routings" "[I" ∈ wsX8_init := by decide +kernel
theorem mX8_init_5 : Cond.arrayClass .long ∈ wsX8_init := by decide +kernel
theorem mX8_init_6 : Cond.fieldLink RX8 13 "ClearingFilesModel" "ledgers" "[J" ∈ wsX8_init := by decide +kernel
theorem mX8_init_7 : Cond.fieldLink RX8 17 "ClearingFilesModel" "owner" "[I" ∈ wsX8_init := by decide +kernel
theorem mX8_init_8 : Cond.fieldLink RX8 20 "ClearingFilesModel" "number" "[I" ∈ wsX8_init := by decide +kernel
theorem mX8_init_9 : Cond.fieldLink RX8 23 "ClearingFilesModel" "balances" "[J" ∈ wsX8_init := by decide +kernel
theorem mX8_init_10 : Cond.arrayClass .boolean ∈ wsX8_init := by decide +kernel
theorem mX8_init_11 : Cond.fieldLink RX8 26 "ClearingFilesModel" "closed" "[Z" ∈ wsX8_init := by decide +kernel
theorem mX8_init_12 : Cond.fieldLink RX8 30 "ClearingFilesModel" "from" "[I" ∈ wsX8_init := by decide +kernel
theorem mX8_init_13 : Cond.fieldLink RX8 33 "ClearingFilesModel" "batchNumber" "[I" ∈ wsX8_init := by decide +kernel
theorem mX8_init_14 : Cond.fieldLink RX8 36 "ClearingFilesModel" "batchDay" "[I" ∈ wsX8_init := by decide +kernel
theorem mX8_init_15 : Cond.fieldLink RX8 39 "ClearingFilesModel" "saysCount" "[I" ∈ wsX8_init := by decide +kernel
theorem mX8_init_16 : Cond.fieldLink RX8 42 "ClearingFilesModel" "saysHash" "[I" ∈ wsX8_init := by decide +kernel
theorem mX8_init_17 : Cond.fieldLink RX8 45 "ClearingFilesModel" "saysDebits" "[I" ∈ wsX8_init := by decide +kernel
theorem mX8_init_18 : Cond.fieldLink RX8 48 "ClearingFilesModel" "saysCredits" "[I" ∈ wsX8_init := by decide +kernel
theorem mX8_init_19 : Cond.fieldLink RX8 51 "ClearingFilesModel" "inBatch" "[I" ∈ wsX8_init := by decide +kernel
theorem mX8_init_20 : Cond.fieldLink RX8 54 "ClearingFilesModel" "inCode" "[I" ∈ wsX8_init := by decide +kernel
theorem mX8_init_21 : Cond.fieldLink RX8 57 "ClearingFilesModel" "inRouting" "[I" ∈ wsX8_init := by decide +kernel
theorem mX8_init_22 : Cond.fieldLink RX8 60 "ClearingFilesModel" "inAccount" "[I" ∈ wsX8_init := by decide +kernel
theorem mX8_init_23 : Cond.fieldLink RX8 63 "ClearingFilesModel" "inAmount" "[I" ∈ wsX8_init := by decide +kernel
theorem mX8_init_24 : Cond.fieldLink RX8 66 "ClearingFilesModel" "inTrace" "[I" ∈ wsX8_init := by decide +kernel
theorem mX8_init_25 : Cond.fieldLink RX8 69 "ClearingFilesModel" "files" "[I" ∈ wsX8_init := by decide +kernel
theorem mX8_init_26 : Cond.fieldLink RX8 72 "ClearingFilesModel" "code" "[I" ∈ wsX8_init := by decide +kernel
theorem mX8_init_27 : Cond.fieldLink RX8 75 "ClearingFilesModel" "giver" "[I" ∈ wsX8_init := by decide +kernel
theorem mX8_init_28 : Cond.fieldLink RX8 78 "ClearingFilesModel" "taker" "[I" ∈ wsX8_init := by decide +kernel
theorem mX8_init_29 : Cond.fieldLink RX8 81 "ClearingFilesModel" "account" "[I" ∈ wsX8_init := by decide +kernel
theorem mX8_init_30 : Cond.fieldLink RX8 84 "ClearingFilesModel" "amount" "[I" ∈ wsX8_init := by decide +kernel
theorem mX8_init_31 : Cond.fieldLink RX8 87 "ClearingFilesModel" "trace" "[I" ∈ wsX8_init := by decide +kernel
theorem mX8_init_32 : Cond.fieldLink RX8 90 "ClearingFilesModel" "due" "[I" ∈ wsX8_init := by decide +kernel
theorem mX8_init_33 : Cond.fieldLink RX8 93 "ClearingFilesModel" "state" "[I" ∈ wsX8_init := by decide +kernel
theorem mX8_init_34 : Cond.fieldLink RX8 96 "ClearingFilesModel" "reason" "[I" ∈ wsX8_init := by decide +kernel
theorem mX8_init_35 : Cond.fieldLink RX8 99 "ClearingFilesModel" "back" "[I" ∈ wsX8_init := by decide +kernel
theorem mX8_init_36 : Cond.fieldLink RX8 102 "ClearingFilesModel" "outCount" "[I" ∈ wsX8_init := by decide +kernel
theorem mX8_init_37 : Cond.fieldLink RX8 105 "ClearingFilesModel" "outRow" "[I" ∈ wsX8_init := by decide +kernel
theorem mX8_init_38 : Cond.fieldLink RX8 108 "ClearingFilesModel" "outReturn" "[Z" ∈ wsX8_init := by decide +kernel
theorem mX8_init_39 : Cond.fieldLink RX8 111 "ClearingFilesModel" "outDone" "[I" ∈ wsX8_init := by decide +kernel
theorem mX8_init_40 : Cond.fieldLink RX8 114 "ClearingFilesModel" "tally" "[I" ∈ wsX8_init := by decide +kernel
theorem nX8_init_X8 : ∀ w ∈ u_ws RX8 TX8 46, w ∈ wsX8_init := fun _ h => List.mem_cons_of_mem _ (List.mem_append_right _ h)
abbrev rmX8_init : Room := { frames := 1, cells := 36, slots := 13307, locals := 21 }
set_option maxRecDepth 100000 in
def wX8_init (o : Nat)  (post : St → Prop) (σ0 : St) : Prop :=
  ∀ q1 : Nat, sK σ0 q1 = 0 → (∀ σ2 : St, σ2 = uN σ0 q1 1451 → (sK σ2 o = 9 ∧ (∀ σ4 : St, σ4 = uR σ2 451 o 0 (some q1) → (∀ q5 : Nat, sK σ4 q5 = 0 → (∀ σ6 : St, σ6 = uN σ4 q5 1452 → (sK σ6 o = 9 ∧ (∀ σ8 : St, σ8 = uR σ6 452 o 0 (some q5) → (∀ q9 : Nat, sK σ8 q9 = 0 → (∀ σ10 : St, σ10 = uN σ8 q9 1455 → (sK σ10 o = 9 ∧ (∀ σ12 : St, σ12 = uR σ10 455 o 0 (some q9) → (∀ q13 : Nat, sK σ12 q13 = 0 → (∀ σ14 : St, σ14 = uN σ12 q13 1456 → (sK σ14 o = 9 ∧ (∀ σ16 : St, σ16 = uR σ14 456 o 0 (some q13) → (∀ q17 : Nat, sK σ16 q17 = 0 → (∀ σ18 : St, σ18 = uN σ16 q17 1457 → (sK σ18 o = 9 ∧ (∀ σ20 : St, σ20 = uR σ18 457 o 0 (some q17) → (∀ q21 : Nat, sK σ20 q21 = 0 → (∀ σ22 : St, σ22 = uN σ20 q21 1458 → (sK σ22 o = 9 ∧ (∀ σ24 : St, σ24 = uR σ22 458 o 0 (some q21) → (∀ q25 : Nat, sK σ24 q25 = 0 → (∀ σ26 : St, σ26 = uN σ24 q25 1464 → (sK σ26 o = 9 ∧ (∀ σ28 : St, σ28 = uR σ26 464 o 0 (some q25) → (∀ q29 : Nat, sK σ28 q29 = 0 → (∀ σ30 : St, σ30 = uN σ28 q29 1465 → (sK σ30 o = 9 ∧ (∀ σ32 : St, σ32 = uR σ30 465 o 0 (some q29) → (∀ q33 : Nat, sK σ32 q33 = 0 → (∀ σ34 : St, σ34 = uN σ32 q33 1466 → (sK σ34 o = 9 ∧ (∀ σ36 : St, σ36 = uR σ34 466 o 0 (some q33) → (∀ q37 : Nat, sK σ36 q37 = 0 → (∀ σ38 : St, σ38 = uN σ36 q37 1467 → (sK σ38 o = 9 ∧ (∀ σ40 : St, σ40 = uR σ38 467 o 0 (some q37) → (∀ q41 : Nat, sK σ40 q41 = 0 → (∀ σ42 : St, σ42 = uN σ40 q41 1468 → (sK σ42 o = 9 ∧ (∀ σ44 : St, σ44 = uR σ42 468 o 0 (some q41) → (∀ q45 : Nat, sK σ44 q45 = 0 → (∀ σ46 : St, σ46 = uN σ44 q45 1469 → (sK σ46 o = 9 ∧ (∀ σ48 : St, σ48 = uR σ46 469 o 0 (some q45) → (∀ q49 : Nat, sK σ48 q49 = 0 → (∀ σ50 : St, σ50 = uN σ48 q49 1470 → (sK σ50 o = 9 ∧ (∀ σ52 : St, σ52 = uR σ50 470 o 0 (some q49) → (∀ q53 : Nat, sK σ52 q53 = 0 → (∀ σ54 : St, σ54 = uN σ52 q53 1471 → (sK σ54 o = 9 ∧ (∀ σ56 : St, σ56 = uR σ54 471 o 0 (some q53) → (∀ q57 : Nat, sK σ56 q57 = 0 → (∀ σ58 : St, σ58 = uN σ56 q57 1472 → (sK σ58 o = 9 ∧ (∀ σ60 : St, σ60 = uR σ58 472 o 0 (some q57) → (∀ q61 : Nat, sK σ60 q61 = 0 → (∀ σ62 : St, σ62 = uN σ60 q61 1473 → (sK σ62 o = 9 ∧ (∀ σ64 : St, σ64 = uR σ62 473 o 0 (some q61) → (∀ q65 : Nat, sK σ64 q65 = 0 → (∀ σ66 : St, σ66 = uN σ64 q65 1474 → (sK σ66 o = 9 ∧ (∀ σ68 : St, σ68 = uR σ66 474 o 0 (some q65) → (∀ q69 : Nat, sK σ68 q69 = 0 → (∀ σ70 : St, σ70 = uN σ68 q69 1475 → (sK σ70 o = 9 ∧ (∀ σ72 : St, σ72 = uR σ70 475 o 0 (some q69) → (∀ q73 : Nat, sK σ72 q73 = 0 → (∀ σ74 : St, σ74 = uN σ72 q73 1476 → (sK σ74 o = 9 ∧ (∀ σ76 : St, σ76 = uR σ74 476 o 0 (some q73) → (∀ q77 : Nat, sK σ76 q77 = 0 → (∀ σ78 : St, σ78 = uN σ76 q77 1477 → (sK σ78 o = 9 ∧ (∀ σ80 : St, σ80 = uR σ78 477 o 0 (some q77) → (∀ q81 : Nat, sK σ80 q81 = 0 → (∀ σ82 : St, σ82 = uN σ80 q81 1480 → (sK σ82 o = 9 ∧ (∀ σ84 : St, σ84 = uR σ82 480 o 0 (some q81) → (∀ q85 : Nat, sK σ84 q85 = 0 → (∀ σ86 : St, σ86 = uN σ84 q85 1481 → (sK σ86 o = 9 ∧ (∀ σ88 : St, σ88 = uR σ86 481 o 0 (some q85) → (∀ q89 : Nat, sK σ88 q89 = 0 → (∀ σ90 : St, σ90 = uN σ88 q89 1482 → (sK σ90 o = 9 ∧ (∀ σ92 : St, σ92 = uR σ90 482 o 0 (some q89) → (∀ q93 : Nat, sK σ92 q93 = 0 → (∀ σ94 : St, σ94 = uN σ92 q93 1483 → (sK σ94 o = 9 ∧ (∀ σ96 : St, σ96 = uR σ94 483 o 0 (some q93) → (∀ q97 : Nat, sK σ96 q97 = 0 → (∀ σ98 : St, σ98 = uN σ96 q97 1484 → (sK σ98 o = 9 ∧ (∀ σ100 : St, σ100 = uR σ98 484 o 0 (some q97) → (∀ q101 : Nat, sK σ100 q101 = 0 → (∀ σ102 : St, σ102 = uN σ100 q101 1485 → (sK σ102 o = 9 ∧ (∀ σ104 : St, σ104 = uR σ102 485 o 0 (some q101) → (∀ q105 : Nat, sK σ104 q105 = 0 → (∀ σ106 : St, σ106 = uN σ104 q105 1486 → (sK σ106 o = 9 ∧ (∀ σ108 : St, σ108 = uR σ106 486 o 0 (some q105) → (∀ q109 : Nat, sK σ108 q109 = 0 → (∀ σ110 : St, σ110 = uN σ108 q109 1487 → (sK σ110 o = 9 ∧ (∀ σ112 : St, σ112 = uR σ110 487 o 0 (some q109) → (∀ q113 : Nat, sK σ112 q113 = 0 → (∀ σ114 : St, σ114 = uN σ112 q113 1488 → (sK σ114 o = 9 ∧ (∀ σ116 : St, σ116 = uR σ114 488 o 0 (some q113) → (∀ q117 : Nat, sK σ116 q117 = 0 → (∀ σ118 : St, σ118 = uN σ116 q117 1489 → (sK σ118 o = 9 ∧ (∀ σ120 : St, σ120 = uR σ118 489 o 0 (some q117) → (∀ q121 : Nat, sK σ120 q121 = 0 → (∀ σ122 : St, σ122 = uN σ120 q121 1491 → (sK σ122 o = 9 ∧ (∀ σ124 : St, σ124 = uR σ122 491 o 0 (some q121) → (∀ q125 : Nat, sK σ124 q125 = 0 → (∀ σ126 : St, σ126 = uN σ124 q125 1492 → (sK σ126 o = 9 ∧ (∀ σ128 : St, σ128 = uR σ126 492 o 0 (some q125) → (∀ q129 : Nat, sK σ128 q129 = 0 → (∀ σ130 : St, σ130 = uN σ128 q129 1493 → (sK σ130 o = 9 ∧ (∀ σ132 : St, σ132 = uR σ130 493 o 0 (some q129) → (∀ q133 : Nat, sK σ132 q133 = 0 → (∀ σ134 : St, σ134 = uN σ132 q133 1494 → (sK σ134 o = 9 ∧ (∀ σ136 : St, σ136 = uR σ134 494 o 0 (some q133) → (∀ q137 : Nat, sK σ136 q137 = 0 → (∀ σ138 : St, σ138 = uN σ136 q137 1495 → (sK σ138 o = 9 ∧ (∀ σ140 : St, σ140 = uR σ138 495 o 0 (some q137) → (post σ140))))))))))))))))))))))))))))))))))))))))))))))))))))))))))))))))))))))))))))))))))))))))))))))))))))))))))))))))))))))))))))))))))))))))))))
set_option maxHeartbeats 4000000 in
set_option maxRecDepth 100000 in
theorem bX8_init {p : Program} {l : Launch} {e : Env} {s : State} {m : MethodId} {args : Array Value} {below : List Frame} {meth : Method} {c : Code} {Γ : rGam} {o : Nat} {post : St → Prop} (F : Fx Γ p s m meth c args cX8_init 1 RX8 wsX8_init none) (hN : meth.name = "<init>") {H : Heap} {locs : List Loc} {ls : Array Slot} {cells slots : Nat}  {σ0 : St} (h : wX8_init o  post σ0) (hR : Rep Γ σ0 H) (hS : va_S (rA Γ) s.heap H locs) (hl : lv_has ls 1 [(0, .ref o)]) (hc : cells + 36 ≤ 36 ∧ slots + 13307 ≤ 13307) : W p l e rmX8_init s m args below meth c H locs cells slots (rQv Γ below post args s 36 13307) (F0 m 0 ls []) := by
  have hx := F.1.1
  have hb := F.1.2.1
  unfold wX8_init at h
  refine lv_aload_n hx hb dX8_init_0 rfl (lv_at hl 0 rfl) ?_
  refine W.objInit hx hb F.1.2.2.2.1 (F.1.2.2.2.2 _ mX8_init_0) (F.1.2.2.2.2 _ mX8_init_1) (F.1.2.2.2.2 _ mX8_init_2) rfl (by rw [F.1.2.2.1]; exact hl.1) rfl dX8_init_1 (Nat.le_of_ble_eq_true rfl) (Nat.le_of_ble_eq_true rfl) ?_
  refine W.eq (g2 := F0 m 4 ls []) rfl ?_
  refine lv_aload_n hx hb dX8_init_4 rfl (lv_at hl 0 rfl) ?_
  refine lv_iconst (v := 5) hx hb dX8_init_5 (by decide) ?_
  refine s_newI F hR hS 1451 (by decide) rfl mX8_init_3 (by decide) (by decide) (by show _ ≤ 36; omega) (by show _ ≤ 13307; omega) dX8_init_6 (fun q1 zq1 σ2 eσ2 H hR hS => ?_)
  replace h := h q1 zq1 σ2 eσ2
  obtain ⟨k3, h⟩ := h
  refine s_putR (v := (some q1)) F hR hS k3 (by decide) (C := RX8) (T := TX8) (N := 46) rfl nX8_init_X8 tyX8 tyX8_ok nmX8 1 (by decide) mX8_init_4 (Or.inr ⟨rfl, hN, rfl⟩) (rf_narA _ _) (rf_fitA _ _) (f := 451) rfl rnd_9 dX8_init_8 (fun σ4 eσ4 H locs hR hS => ?_)
  replace h := h σ4 eσ4
  refine lv_aload_n hx hb dX8_init_11 rfl (lv_at hl 0 rfl) ?_
  refine lv_iconst (v := 5) hx hb dX8_init_12 (by decide) ?_
  refine s_newJ F hR hS 1452 (by decide) rfl mX8_init_5 (by decide) (by decide) (by show _ ≤ 36; omega) (by show _ ≤ 13307; omega) dX8_init_13 (fun q5 zq5 σ6 eσ6 H hR hS => ?_)
  replace h := h q5 zq5 σ6 eσ6
  obtain ⟨k7, h⟩ := h
  refine s_putR (v := (some q5)) F hR hS k7 (by decide) (C := RX8) (T := TX8) (N := 46) rfl nX8_init_X8 tyX8 tyX8_ok nmX8 2 (by decide) mX8_init_6 (Or.inr ⟨rfl, hN, rfl⟩) (rf_narA _ _) (rf_fitA _ _) (f := 452) rfl rnd_9 dX8_init_15 (fun σ8 eσ8 H locs hR hS => ?_)
  replace h := h σ8 eσ8
  refine lv_aload_n hx hb dX8_init_18 rfl (lv_at hl 0 rfl) ?_
  refine lv_bipush (v := 12) hx hb dX8_init_19 (by decide) ?_
  refine s_newI F hR hS 1455 (by decide) rfl mX8_init_3 (by decide) (by decide) (by show _ ≤ 36; omega) (by show _ ≤ 13307; omega) dX8_init_21 (fun q9 zq9 σ10 eσ10 H hR hS => ?_)
  replace h := h q9 zq9 σ10 eσ10
  obtain ⟨k11, h⟩ := h
  refine s_putR (v := (some q9)) F hR hS k11 (by decide) (C := RX8) (T := TX8) (N := 46) rfl nX8_init_X8 tyX8 tyX8_ok nmX8 5 (by decide) mX8_init_7 (Or.inr ⟨rfl, hN, rfl⟩) (rf_narA _ _) (rf_fitA _ _) (f := 455) rfl rnd_9 dX8_init_23 (fun σ12 eσ12 H locs hR hS => ?_)
  replace h := h σ12 eσ12
  refine lv_aload_n hx hb dX8_init_26 rfl (lv_at hl 0 rfl) ?_
  refine lv_bipush (v := 12) hx hb dX8_init_27 (by decide) ?_
  refine s_newI F hR hS 1456 (by decide) rfl mX8_init_3 (by decide) (by decide) (by show _ ≤ 36; omega) (by show _ ≤ 13307; omega) dX8_init_29 (fun q13 zq13 σ14 eσ14 H hR hS => ?_)
  replace h := h q13 zq13 σ14 eσ14
  obtain ⟨k15, h⟩ := h
  refine s_putR (v := (some q13)) F hR hS k15 (by decide) (C := RX8) (T := TX8) (N := 46) rfl nX8_init_X8 tyX8 tyX8_ok nmX8 6 (by decide) mX8_init_8 (Or.inr ⟨rfl, hN, rfl⟩) (rf_narA _ _) (rf_fitA _ _) (f := 456) rfl rnd_9 dX8_init_31 (fun σ16 eσ16 H locs hR hS => ?_)
  replace h := h σ16 eσ16
  refine lv_aload_n hx hb dX8_init_34 rfl (lv_at hl 0 rfl) ?_
  refine lv_bipush (v := 12) hx hb dX8_init_35 (by decide) ?_
  refine s_newJ F hR hS 1457 (by decide) rfl mX8_init_5 (by decide) (by decide) (by show _ ≤ 36; omega) (by show _ ≤ 13307; omega) dX8_init_37 (fun q17 zq17 σ18 eσ18 H hR hS => ?_)
  replace h := h q17 zq17 σ18 eσ18
  obtain ⟨k19, h⟩ := h
  refine s_putR (v := (some q17)) F hR hS k19 (by decide) (C := RX8) (T := TX8) (N := 46) rfl nX8_init_X8 tyX8 tyX8_ok nmX8 7 (by decide) mX8_init_9 (Or.inr ⟨rfl, hN, rfl⟩) (rf_narA _ _) (rf_fitA _ _) (f := 457) rfl rnd_9 dX8_init_39 (fun σ20 eσ20 H locs hR hS => ?_)
  replace h := h σ20 eσ20
  refine lv_aload_n hx hb dX8_init_42 rfl (lv_at hl 0 rfl) ?_
  refine lv_bipush (v := 12) hx hb dX8_init_43 (by decide) ?_
  refine s_newZ F hR hS 1458 (by decide) rfl mX8_init_10 (by decide) (by decide) (by show _ ≤ 36; omega) (by show _ ≤ 13307; omega) dX8_init_45 (fun q21 zq21 σ22 eσ22 H hR hS => ?_)
  replace h := h q21 zq21 σ22 eσ22
  obtain ⟨k23, h⟩ := h
  refine s_putR (v := (some q21)) F hR hS k23 (by decide) (C := RX8) (T := TX8) (N := 46) rfl nX8_init_X8 tyX8 tyX8_ok nmX8 8 (by decide) mX8_init_11 (Or.inr ⟨rfl, hN, rfl⟩) (rf_narA _ _) (rf_fitA _ _) (f := 458) rfl rnd_9 dX8_init_47 (fun σ24 eσ24 H locs hR hS => ?_)
  replace h := h σ24 eσ24
  refine lv_aload_n hx hb dX8_init_50 rfl (lv_at hl 0 rfl) ?_
  refine lv_iconst (v := 4) hx hb dX8_init_51 (by decide) ?_
  refine s_newI F hR hS 1464 (by decide) rfl mX8_init_3 (by decide) (by decide) (by show _ ≤ 36; omega) (by show _ ≤ 13307; omega) dX8_init_52 (fun q25 zq25 σ26 eσ26 H hR hS => ?_)
  replace h := h q25 zq25 σ26 eσ26
  obtain ⟨k27, h⟩ := h
  refine s_putR (v := (some q25)) F hR hS k27 (by decide) (C := RX8) (T := TX8) (N := 46) rfl nX8_init_X8 tyX8 tyX8_ok nmX8 14 (by decide) mX8_init_12 (Or.inr ⟨rfl, hN, rfl⟩) (rf_narA _ _) (rf_fitA _ _) (f := 464) rfl rnd_9 dX8_init_54 (fun σ28 eσ28 H locs hR hS => ?_)
  replace h := h σ28 eσ28
  refine lv_aload_n hx hb dX8_init_57 rfl (lv_at hl 0 rfl) ?_
  refine lv_iconst (v := 4) hx hb dX8_init_58 (by decide) ?_
  refine s_newI F hR hS 1465 (by decide) rfl mX8_init_3 (by decide) (by decide) (by show _ ≤ 36; omega) (by show _ ≤ 13307; omega) dX8_init_59 (fun q29 zq29 σ30 eσ30 H hR hS => ?_)
  replace h := h q29 zq29 σ30 eσ30
  obtain ⟨k31, h⟩ := h
  refine s_putR (v := (some q29)) F hR hS k31 (by decide) (C := RX8) (T := TX8) (N := 46) rfl nX8_init_X8 tyX8 tyX8_ok nmX8 15 (by decide) mX8_init_13 (Or.inr ⟨rfl, hN, rfl⟩) (rf_narA _ _) (rf_fitA _ _) (f := 465) rfl rnd_9 dX8_init_61 (fun σ32 eσ32 H locs hR hS => ?_)
  replace h := h σ32 eσ32
  refine lv_aload_n hx hb dX8_init_64 rfl (lv_at hl 0 rfl) ?_
  refine lv_iconst (v := 4) hx hb dX8_init_65 (by decide) ?_
  refine s_newI F hR hS 1466 (by decide) rfl mX8_init_3 (by decide) (by decide) (by show _ ≤ 36; omega) (by show _ ≤ 13307; omega) dX8_init_66 (fun q33 zq33 σ34 eσ34 H hR hS => ?_)
  replace h := h q33 zq33 σ34 eσ34
  obtain ⟨k35, h⟩ := h
  refine s_putR (v := (some q33)) F hR hS k35 (by decide) (C := RX8) (T := TX8) (N := 46) rfl nX8_init_X8 tyX8 tyX8_ok nmX8 16 (by decide) mX8_init_14 (Or.inr ⟨rfl, hN, rfl⟩) (rf_narA _ _) (rf_fitA _ _) (f := 466) rfl rnd_9 dX8_init_68 (fun σ36 eσ36 H locs hR hS => ?_)
  replace h := h σ36 eσ36
  refine lv_aload_n hx hb dX8_init_71 rfl (lv_at hl 0 rfl) ?_
  refine lv_iconst (v := 4) hx hb dX8_init_72 (by decide) ?_
  refine s_newI F hR hS 1467 (by decide) rfl mX8_init_3 (by decide) (by decide) (by show _ ≤ 36; omega) (by show _ ≤ 13307; omega) dX8_init_73 (fun q37 zq37 σ38 eσ38 H hR hS => ?_)
  replace h := h q37 zq37 σ38 eσ38
  obtain ⟨k39, h⟩ := h
  refine s_putR (v := (some q37)) F hR hS k39 (by decide) (C := RX8) (T := TX8) (N := 46) rfl nX8_init_X8 tyX8 tyX8_ok nmX8 17 (by decide) mX8_init_15 (Or.inr ⟨rfl, hN, rfl⟩) (rf_narA _ _) (rf_fitA _ _) (f := 467) rfl rnd_9 dX8_init_75 (fun σ40 eσ40 H locs hR hS => ?_)
  replace h := h σ40 eσ40
  refine lv_aload_n hx hb dX8_init_78 rfl (lv_at hl 0 rfl) ?_
  refine lv_iconst (v := 4) hx hb dX8_init_79 (by decide) ?_
  refine s_newI F hR hS 1468 (by decide) rfl mX8_init_3 (by decide) (by decide) (by show _ ≤ 36; omega) (by show _ ≤ 13307; omega) dX8_init_80 (fun q41 zq41 σ42 eσ42 H hR hS => ?_)
  replace h := h q41 zq41 σ42 eσ42
  obtain ⟨k43, h⟩ := h
  refine s_putR (v := (some q41)) F hR hS k43 (by decide) (C := RX8) (T := TX8) (N := 46) rfl nX8_init_X8 tyX8 tyX8_ok nmX8 18 (by decide) mX8_init_16 (Or.inr ⟨rfl, hN, rfl⟩) (rf_narA _ _) (rf_fitA _ _) (f := 468) rfl rnd_9 dX8_init_82 (fun σ44 eσ44 H locs hR hS => ?_)
  replace h := h σ44 eσ44
  refine lv_aload_n hx hb dX8_init_85 rfl (lv_at hl 0 rfl) ?_
  refine lv_iconst (v := 4) hx hb dX8_init_86 (by decide) ?_
  refine s_newI F hR hS 1469 (by decide) rfl mX8_init_3 (by decide) (by decide) (by show _ ≤ 36; omega) (by show _ ≤ 13307; omega) dX8_init_87 (fun q45 zq45 σ46 eσ46 H hR hS => ?_)
  replace h := h q45 zq45 σ46 eσ46
  obtain ⟨k47, h⟩ := h
  refine s_putR (v := (some q45)) F hR hS k47 (by decide) (C := RX8) (T := TX8) (N := 46) rfl nX8_init_X8 tyX8 tyX8_ok nmX8 19 (by decide) mX8_init_17 (Or.inr ⟨rfl, hN, rfl⟩) (rf_narA _ _) (rf_fitA _ _) (f := 469) rfl rnd_9 dX8_init_89 (fun σ48 eσ48 H locs hR hS => ?_)
  replace h := h σ48 eσ48
  refine lv_aload_n hx hb dX8_init_92 rfl (lv_at hl 0 rfl) ?_
  refine lv_iconst (v := 4) hx hb dX8_init_93 (by decide) ?_
  refine s_newI F hR hS 1470 (by decide) rfl mX8_init_3 (by decide) (by decide) (by show _ ≤ 36; omega) (by show _ ≤ 13307; omega) dX8_init_94 (fun q49 zq49 σ50 eσ50 H hR hS => ?_)
  replace h := h q49 zq49 σ50 eσ50
  obtain ⟨k51, h⟩ := h
  refine s_putR (v := (some q49)) F hR hS k51 (by decide) (C := RX8) (T := TX8) (N := 46) rfl nX8_init_X8 tyX8 tyX8_ok nmX8 20 (by decide) mX8_init_18 (Or.inr ⟨rfl, hN, rfl⟩) (rf_narA _ _) (rf_fitA _ _) (f := 470) rfl rnd_9 dX8_init_96 (fun σ52 eσ52 H locs hR hS => ?_)
  replace h := h σ52 eσ52
  refine lv_aload_n hx hb dX8_init_99 rfl (lv_at hl 0 rfl) ?_
  refine lv_bipush (v := 20) hx hb dX8_init_100 (by decide) ?_
  refine s_newI F hR hS 1471 (by decide) rfl mX8_init_3 (by decide) (by decide) (by show _ ≤ 36; omega) (by show _ ≤ 13307; omega) dX8_init_102 (fun q53 zq53 σ54 eσ54 H hR hS => ?_)
  replace h := h q53 zq53 σ54 eσ54
  obtain ⟨k55, h⟩ := h
  refine s_putR (v := (some q53)) F hR hS k55 (by decide) (C := RX8) (T := TX8) (N := 46) rfl nX8_init_X8 tyX8 tyX8_ok nmX8 21 (by decide) mX8_init_19 (Or.inr ⟨rfl, hN, rfl⟩) (rf_narA _ _) (rf_fitA _ _) (f := 471) rfl rnd_9 dX8_init_104 (fun σ56 eσ56 H locs hR hS => ?_)
  replace h := h σ56 eσ56
  refine lv_aload_n hx hb dX8_init_107 rfl (lv_at hl 0 rfl) ?_
  refine lv_bipush (v := 20) hx hb dX8_init_108 (by decide) ?_
  refine s_newI F hR hS 1472 (by decide) rfl mX8_init_3 (by decide) (by decide) (by show _ ≤ 36; omega) (by show _ ≤ 13307; omega) dX8_init_110 (fun q57 zq57 σ58 eσ58 H hR hS => ?_)
  replace h := h q57 zq57 σ58 eσ58
  obtain ⟨k59, h⟩ := h
  refine s_putR (v := (some q57)) F hR hS k59 (by decide) (C := RX8) (T := TX8) (N := 46) rfl nX8_init_X8 tyX8 tyX8_ok nmX8 22 (by decide) mX8_init_20 (Or.inr ⟨rfl, hN, rfl⟩) (rf_narA _ _) (rf_fitA _ _) (f := 472) rfl rnd_9 dX8_init_112 (fun σ60 eσ60 H locs hR hS => ?_)
  replace h := h σ60 eσ60
  refine lv_aload_n hx hb dX8_init_115 rfl (lv_at hl 0 rfl) ?_
  refine lv_bipush (v := 20) hx hb dX8_init_116 (by decide) ?_
  refine s_newI F hR hS 1473 (by decide) rfl mX8_init_3 (by decide) (by decide) (by show _ ≤ 36; omega) (by show _ ≤ 13307; omega) dX8_init_118 (fun q61 zq61 σ62 eσ62 H hR hS => ?_)
  replace h := h q61 zq61 σ62 eσ62
  obtain ⟨k63, h⟩ := h
  refine s_putR (v := (some q61)) F hR hS k63 (by decide) (C := RX8) (T := TX8) (N := 46) rfl nX8_init_X8 tyX8 tyX8_ok nmX8 23 (by decide) mX8_init_21 (Or.inr ⟨rfl, hN, rfl⟩) (rf_narA _ _) (rf_fitA _ _) (f := 473) rfl rnd_9 dX8_init_120 (fun σ64 eσ64 H locs hR hS => ?_)
  replace h := h σ64 eσ64
  refine lv_aload_n hx hb dX8_init_123 rfl (lv_at hl 0 rfl) ?_
  refine lv_bipush (v := 20) hx hb dX8_init_124 (by decide) ?_
  refine s_newI F hR hS 1474 (by decide) rfl mX8_init_3 (by decide) (by decide) (by show _ ≤ 36; omega) (by show _ ≤ 13307; omega) dX8_init_126 (fun q65 zq65 σ66 eσ66 H hR hS => ?_)
  replace h := h q65 zq65 σ66 eσ66
  obtain ⟨k67, h⟩ := h
  refine s_putR (v := (some q65)) F hR hS k67 (by decide) (C := RX8) (T := TX8) (N := 46) rfl nX8_init_X8 tyX8 tyX8_ok nmX8 24 (by decide) mX8_init_22 (Or.inr ⟨rfl, hN, rfl⟩) (rf_narA _ _) (rf_fitA _ _) (f := 474) rfl rnd_9 dX8_init_128 (fun σ68 eσ68 H locs hR hS => ?_)
  replace h := h σ68 eσ68
  refine lv_aload_n hx hb dX8_init_131 rfl (lv_at hl 0 rfl) ?_
  refine lv_bipush (v := 20) hx hb dX8_init_132 (by decide) ?_
  refine s_newI F hR hS 1475 (by decide) rfl mX8_init_3 (by decide) (by decide) (by show _ ≤ 36; omega) (by show _ ≤ 13307; omega) dX8_init_134 (fun q69 zq69 σ70 eσ70 H hR hS => ?_)
  replace h := h q69 zq69 σ70 eσ70
  obtain ⟨k71, h⟩ := h
  refine s_putR (v := (some q69)) F hR hS k71 (by decide) (C := RX8) (T := TX8) (N := 46) rfl nX8_init_X8 tyX8 tyX8_ok nmX8 25 (by decide) mX8_init_23 (Or.inr ⟨rfl, hN, rfl⟩) (rf_narA _ _) (rf_fitA _ _) (f := 475) rfl rnd_9 dX8_init_136 (fun σ72 eσ72 H locs hR hS => ?_)
  replace h := h σ72 eσ72
  refine lv_aload_n hx hb dX8_init_139 rfl (lv_at hl 0 rfl) ?_
  refine lv_bipush (v := 20) hx hb dX8_init_140 (by decide) ?_
  refine s_newI F hR hS 1476 (by decide) rfl mX8_init_3 (by decide) (by decide) (by show _ ≤ 36; omega) (by show _ ≤ 13307; omega) dX8_init_142 (fun q73 zq73 σ74 eσ74 H hR hS => ?_)
  replace h := h q73 zq73 σ74 eσ74
  obtain ⟨k75, h⟩ := h
  refine s_putR (v := (some q73)) F hR hS k75 (by decide) (C := RX8) (T := TX8) (N := 46) rfl nX8_init_X8 tyX8 tyX8_ok nmX8 26 (by decide) mX8_init_24 (Or.inr ⟨rfl, hN, rfl⟩) (rf_narA _ _) (rf_fitA _ _) (f := 476) rfl rnd_9 dX8_init_144 (fun σ76 eσ76 H locs hR hS => ?_)
  replace h := h σ76 eσ76
  refine lv_aload_n hx hb dX8_init_147 rfl (lv_at hl 0 rfl) ?_
  refine lv_sipush (v := 256) hx hb dX8_init_148 (by decide) ?_
  refine s_newI F hR hS 1477 (by decide) rfl mX8_init_3 (by decide) (by decide) (by show _ ≤ 36; omega) (by show _ ≤ 13307; omega) dX8_init_151 (fun q77 zq77 σ78 eσ78 H hR hS => ?_)
  replace h := h q77 zq77 σ78 eσ78
  obtain ⟨k79, h⟩ := h
  refine s_putR (v := (some q77)) F hR hS k79 (by decide) (C := RX8) (T := TX8) (N := 46) rfl nX8_init_X8 tyX8 tyX8_ok nmX8 27 (by decide) mX8_init_25 (Or.inr ⟨rfl, hN, rfl⟩) (rf_narA _ _) (rf_fitA _ _) (f := 477) rfl rnd_9 dX8_init_153 (fun σ80 eσ80 H locs hR hS => ?_)
  replace h := h σ80 eσ80
  refine lv_aload_n hx hb dX8_init_156 rfl (lv_at hl 0 rfl) ?_
  refine lv_sipush (v := 512) hx hb dX8_init_157 (by decide) ?_
  refine s_newI F hR hS 1480 (by decide) rfl mX8_init_3 (by decide) (by decide) (by show _ ≤ 36; omega) (by show _ ≤ 13307; omega) dX8_init_160 (fun q81 zq81 σ82 eσ82 H hR hS => ?_)
  replace h := h q81 zq81 σ82 eσ82
  obtain ⟨k83, h⟩ := h
  refine s_putR (v := (some q81)) F hR hS k83 (by decide) (C := RX8) (T := TX8) (N := 46) rfl nX8_init_X8 tyX8 tyX8_ok nmX8 30 (by decide) mX8_init_26 (Or.inr ⟨rfl, hN, rfl⟩) (rf_narA _ _) (rf_fitA _ _) (f := 480) rfl rnd_9 dX8_init_162 (fun σ84 eσ84 H locs hR hS => ?_)
  replace h := h σ84 eσ84
  refine lv_aload_n hx hb dX8_init_165 rfl (lv_at hl 0 rfl) ?_
  refine lv_sipush (v := 512) hx hb dX8_init_166 (by decide) ?_
  refine s_newI F hR hS 1481 (by decide) rfl mX8_init_3 (by decide) (by decide) (by show _ ≤ 36; omega) (by show _ ≤ 13307; omega) dX8_init_169 (fun q85 zq85 σ86 eσ86 H hR hS => ?_)
  replace h := h q85 zq85 σ86 eσ86
  obtain ⟨k87, h⟩ := h
  refine s_putR (v := (some q85)) F hR hS k87 (by decide) (C := RX8) (T := TX8) (N := 46) rfl nX8_init_X8 tyX8 tyX8_ok nmX8 31 (by decide) mX8_init_27 (Or.inr ⟨rfl, hN, rfl⟩) (rf_narA _ _) (rf_fitA _ _) (f := 481) rfl rnd_9 dX8_init_171 (fun σ88 eσ88 H locs hR hS => ?_)
  replace h := h σ88 eσ88
  refine lv_aload_n hx hb dX8_init_174 rfl (lv_at hl 0 rfl) ?_
  refine lv_sipush (v := 512) hx hb dX8_init_175 (by decide) ?_
  refine s_newI F hR hS 1482 (by decide) rfl mX8_init_3 (by decide) (by decide) (by show _ ≤ 36; omega) (by show _ ≤ 13307; omega) dX8_init_178 (fun q89 zq89 σ90 eσ90 H hR hS => ?_)
  replace h := h q89 zq89 σ90 eσ90
  obtain ⟨k91, h⟩ := h
  refine s_putR (v := (some q89)) F hR hS k91 (by decide) (C := RX8) (T := TX8) (N := 46) rfl nX8_init_X8 tyX8 tyX8_ok nmX8 32 (by decide) mX8_init_28 (Or.inr ⟨rfl, hN, rfl⟩) (rf_narA _ _) (rf_fitA _ _) (f := 482) rfl rnd_9 dX8_init_180 (fun σ92 eσ92 H locs hR hS => ?_)
  replace h := h σ92 eσ92
  refine lv_aload_n hx hb dX8_init_183 rfl (lv_at hl 0 rfl) ?_
  refine lv_sipush (v := 512) hx hb dX8_init_184 (by decide) ?_
  refine s_newI F hR hS 1483 (by decide) rfl mX8_init_3 (by decide) (by decide) (by show _ ≤ 36; omega) (by show _ ≤ 13307; omega) dX8_init_187 (fun q93 zq93 σ94 eσ94 H hR hS => ?_)
  replace h := h q93 zq93 σ94 eσ94
  obtain ⟨k95, h⟩ := h
  refine s_putR (v := (some q93)) F hR hS k95 (by decide) (C := RX8) (T := TX8) (N := 46) rfl nX8_init_X8 tyX8 tyX8_ok nmX8 33 (by decide) mX8_init_29 (Or.inr ⟨rfl, hN, rfl⟩) (rf_narA _ _) (rf_fitA _ _) (f := 483) rfl rnd_9 dX8_init_189 (fun σ96 eσ96 H locs hR hS => ?_)
  replace h := h σ96 eσ96
  refine lv_aload_n hx hb dX8_init_192 rfl (lv_at hl 0 rfl) ?_
  refine lv_sipush (v := 512) hx hb dX8_init_193 (by decide) ?_
  refine s_newI F hR hS 1484 (by decide) rfl mX8_init_3 (by decide) (by decide) (by show _ ≤ 36; omega) (by show _ ≤ 13307; omega) dX8_init_196 (fun q97 zq97 σ98 eσ98 H hR hS => ?_)
  replace h := h q97 zq97 σ98 eσ98
  obtain ⟨k99, h⟩ := h
  refine s_putR (v := (some q97)) F hR hS k99 (by decide) (C := RX8) (T := TX8) (N := 46) rfl nX8_init_X8 tyX8 tyX8_ok nmX8 34 (by decide) mX8_init_30 (Or.inr ⟨rfl, hN, rfl⟩) (rf_narA _ _) (rf_fitA _ _) (f := 484) rfl rnd_9 dX8_init_198 (fun σ100 eσ100 H locs hR hS => ?_)
  replace h := h σ100 eσ100
  refine lv_aload_n hx hb dX8_init_201 rfl (lv_at hl 0 rfl) ?_
  refine lv_sipush (v := 512) hx hb dX8_init_202 (by decide) ?_
  refine s_newI F hR hS 1485 (by decide) rfl mX8_init_3 (by decide) (by decide) (by show _ ≤ 36; omega) (by show _ ≤ 13307; omega) dX8_init_205 (fun q101 zq101 σ102 eσ102 H hR hS => ?_)
  replace h := h q101 zq101 σ102 eσ102
  obtain ⟨k103, h⟩ := h
  refine s_putR (v := (some q101)) F hR hS k103 (by decide) (C := RX8) (T := TX8) (N := 46) rfl nX8_init_X8 tyX8 tyX8_ok nmX8 35 (by decide) mX8_init_31 (Or.inr ⟨rfl, hN, rfl⟩) (rf_narA _ _) (rf_fitA _ _) (f := 485) rfl rnd_9 dX8_init_207 (fun σ104 eσ104 H locs hR hS => ?_)
  replace h := h σ104 eσ104
  refine lv_aload_n hx hb dX8_init_210 rfl (lv_at hl 0 rfl) ?_
  refine lv_sipush (v := 512) hx hb dX8_init_211 (by decide) ?_
  refine s_newI F hR hS 1486 (by decide) rfl mX8_init_3 (by decide) (by decide) (by show _ ≤ 36; omega) (by show _ ≤ 13307; omega) dX8_init_214 (fun q105 zq105 σ106 eσ106 H hR hS => ?_)
  replace h := h q105 zq105 σ106 eσ106
  obtain ⟨k107, h⟩ := h
  refine s_putR (v := (some q105)) F hR hS k107 (by decide) (C := RX8) (T := TX8) (N := 46) rfl nX8_init_X8 tyX8 tyX8_ok nmX8 36 (by decide) mX8_init_32 (Or.inr ⟨rfl, hN, rfl⟩) (rf_narA _ _) (rf_fitA _ _) (f := 486) rfl rnd_9 dX8_init_216 (fun σ108 eσ108 H locs hR hS => ?_)
  replace h := h σ108 eσ108
  refine lv_aload_n hx hb dX8_init_219 rfl (lv_at hl 0 rfl) ?_
  refine lv_sipush (v := 512) hx hb dX8_init_220 (by decide) ?_
  refine s_newI F hR hS 1487 (by decide) rfl mX8_init_3 (by decide) (by decide) (by show _ ≤ 36; omega) (by show _ ≤ 13307; omega) dX8_init_223 (fun q109 zq109 σ110 eσ110 H hR hS => ?_)
  replace h := h q109 zq109 σ110 eσ110
  obtain ⟨k111, h⟩ := h
  refine s_putR (v := (some q109)) F hR hS k111 (by decide) (C := RX8) (T := TX8) (N := 46) rfl nX8_init_X8 tyX8 tyX8_ok nmX8 37 (by decide) mX8_init_33 (Or.inr ⟨rfl, hN, rfl⟩) (rf_narA _ _) (rf_fitA _ _) (f := 487) rfl rnd_9 dX8_init_225 (fun σ112 eσ112 H locs hR hS => ?_)
  replace h := h σ112 eσ112
  refine lv_aload_n hx hb dX8_init_228 rfl (lv_at hl 0 rfl) ?_
  refine lv_sipush (v := 512) hx hb dX8_init_229 (by decide) ?_
  refine s_newI F hR hS 1488 (by decide) rfl mX8_init_3 (by decide) (by decide) (by show _ ≤ 36; omega) (by show _ ≤ 13307; omega) dX8_init_232 (fun q113 zq113 σ114 eσ114 H hR hS => ?_)
  replace h := h q113 zq113 σ114 eσ114
  obtain ⟨k115, h⟩ := h
  refine s_putR (v := (some q113)) F hR hS k115 (by decide) (C := RX8) (T := TX8) (N := 46) rfl nX8_init_X8 tyX8 tyX8_ok nmX8 38 (by decide) mX8_init_34 (Or.inr ⟨rfl, hN, rfl⟩) (rf_narA _ _) (rf_fitA _ _) (f := 488) rfl rnd_9 dX8_init_234 (fun σ116 eσ116 H locs hR hS => ?_)
  replace h := h σ116 eσ116
  refine lv_aload_n hx hb dX8_init_237 rfl (lv_at hl 0 rfl) ?_
  refine lv_sipush (v := 512) hx hb dX8_init_238 (by decide) ?_
  refine s_newI F hR hS 1489 (by decide) rfl mX8_init_3 (by decide) (by decide) (by show _ ≤ 36; omega) (by show _ ≤ 13307; omega) dX8_init_241 (fun q117 zq117 σ118 eσ118 H hR hS => ?_)
  replace h := h q117 zq117 σ118 eσ118
  obtain ⟨k119, h⟩ := h
  refine s_putR (v := (some q117)) F hR hS k119 (by decide) (C := RX8) (T := TX8) (N := 46) rfl nX8_init_X8 tyX8 tyX8_ok nmX8 39 (by decide) mX8_init_35 (Or.inr ⟨rfl, hN, rfl⟩) (rf_narA _ _) (rf_fitA _ _) (f := 489) rfl rnd_9 dX8_init_243 (fun σ120 eσ120 H locs hR hS => ?_)
  replace h := h σ120 eσ120
  refine lv_aload_n hx hb dX8_init_246 rfl (lv_at hl 0 rfl) ?_
  refine lv_iconst (v := 5) hx hb dX8_init_247 (by decide) ?_
  refine s_newI F hR hS 1491 (by decide) rfl mX8_init_3 (by decide) (by decide) (by show _ ≤ 36; omega) (by show _ ≤ 13307; omega) dX8_init_248 (fun q121 zq121 σ122 eσ122 H hR hS => ?_)
  replace h := h q121 zq121 σ122 eσ122
  obtain ⟨k123, h⟩ := h
  refine s_putR (v := (some q121)) F hR hS k123 (by decide) (C := RX8) (T := TX8) (N := 46) rfl nX8_init_X8 tyX8 tyX8_ok nmX8 41 (by decide) mX8_init_36 (Or.inr ⟨rfl, hN, rfl⟩) (rf_narA _ _) (rf_fitA _ _) (f := 491) rfl rnd_9 dX8_init_250 (fun σ124 eσ124 H locs hR hS => ?_)
  replace h := h σ124 eσ124
  refine lv_aload_n hx hb dX8_init_253 rfl (lv_at hl 0 rfl) ?_
  refine lv_sipush (v := 2560) hx hb dX8_init_254 (by decide) ?_
  refine s_newI F hR hS 1492 (by decide) rfl mX8_init_3 (by decide) (by decide) (by show _ ≤ 36; omega) (by show _ ≤ 13307; omega) dX8_init_257 (fun q125 zq125 σ126 eσ126 H hR hS => ?_)
  replace h := h q125 zq125 σ126 eσ126
  obtain ⟨k127, h⟩ := h
  refine s_putR (v := (some q125)) F hR hS k127 (by decide) (C := RX8) (T := TX8) (N := 46) rfl nX8_init_X8 tyX8 tyX8_ok nmX8 42 (by decide) mX8_init_37 (Or.inr ⟨rfl, hN, rfl⟩) (rf_narA _ _) (rf_fitA _ _) (f := 492) rfl rnd_9 dX8_init_259 (fun σ128 eσ128 H locs hR hS => ?_)
  replace h := h σ128 eσ128
  refine lv_aload_n hx hb dX8_init_262 rfl (lv_at hl 0 rfl) ?_
  refine lv_sipush (v := 2560) hx hb dX8_init_263 (by decide) ?_
  refine s_newZ F hR hS 1493 (by decide) rfl mX8_init_10 (by decide) (by decide) (by show _ ≤ 36; omega) (by show _ ≤ 13307; omega) dX8_init_266 (fun q129 zq129 σ130 eσ130 H hR hS => ?_)
  replace h := h q129 zq129 σ130 eσ130
  obtain ⟨k131, h⟩ := h
  refine s_putR (v := (some q129)) F hR hS k131 (by decide) (C := RX8) (T := TX8) (N := 46) rfl nX8_init_X8 tyX8 tyX8_ok nmX8 43 (by decide) mX8_init_38 (Or.inr ⟨rfl, hN, rfl⟩) (rf_narA _ _) (rf_fitA _ _) (f := 493) rfl rnd_9 dX8_init_268 (fun σ132 eσ132 H locs hR hS => ?_)
  replace h := h σ132 eσ132
  refine lv_aload_n hx hb dX8_init_271 rfl (lv_at hl 0 rfl) ?_
  refine lv_sipush (v := 2560) hx hb dX8_init_272 (by decide) ?_
  refine s_newI F hR hS 1494 (by decide) rfl mX8_init_3 (by decide) (by decide) (by show _ ≤ 36; omega) (by show _ ≤ 13307; omega) dX8_init_275 (fun q133 zq133 σ134 eσ134 H hR hS => ?_)
  replace h := h q133 zq133 σ134 eσ134
  obtain ⟨k135, h⟩ := h
  refine s_putR (v := (some q133)) F hR hS k135 (by decide) (C := RX8) (T := TX8) (N := 46) rfl nX8_init_X8 tyX8 tyX8_ok nmX8 44 (by decide) mX8_init_39 (Or.inr ⟨rfl, hN, rfl⟩) (rf_narA _ _) (rf_fitA _ _) (f := 494) rfl rnd_9 dX8_init_277 (fun σ136 eσ136 H locs hR hS => ?_)
  replace h := h σ136 eσ136
  refine lv_aload_n hx hb dX8_init_280 rfl (lv_at hl 0 rfl) ?_
  refine lv_bipush (v := 40) hx hb dX8_init_281 (by decide) ?_
  refine s_newI F hR hS 1495 (by decide) rfl mX8_init_3 (by decide) (by decide) (by show _ ≤ 36; omega) (by show _ ≤ 13307; omega) dX8_init_283 (fun q137 zq137 σ138 eσ138 H hR hS => ?_)
  replace h := h q137 zq137 σ138 eσ138
  obtain ⟨k139, h⟩ := h
  refine s_putR (v := (some q137)) F hR hS k139 (by decide) (C := RX8) (T := TX8) (N := 46) rfl nX8_init_X8 tyX8 tyX8_ok nmX8 45 (by decide) mX8_init_40 (Or.inr ⟨rfl, hN, rfl⟩) (rf_narA _ _) (rf_fitA _ _) (f := 495) rfl rnd_9 dX8_init_285 (fun σ140 eσ140 H locs hR hS => ?_)
  replace h := h σ140 eσ140
  exact s_vret F hR hS h (by omega) dX8_init_288
set_option maxHeartbeats 4000000 in
set_option maxRecDepth 100000 in
theorem kX8_init (l : Launch) (Γ : rGam) (o : Nat)  (post : St → Prop) (σ0 : St) (h : wX8_init o  post σ0) : Met l yX8_init wsX8_init rmX8_init (rPc Γ vwCl [.ref o] (Rep Γ σ0)) (va_Qv post (fun σ' t => Rep Γ σ' t.heap) (rA Γ)) 36 13307 (rA Γ) := by
  refine Met.ofW (cc := cX8_init) (maxL := 1) (ret := none) (by decide) rfl ?_
  intro p e s m args below meth c s₁ B hml hv
  obtain ⟨rfl, hR, hE⟩ := hv
  have F : Fx Γ p s m meth c _ cX8_init 1 RX8 wsX8_init none := ⟨⟨B.exec, B.bytes, hml, findClass_of_methodNamed B.named, atoms_spec (ws := wsX8_init) B.pre⟩, hE, B.notSynchronized, B.returns⟩
  have hN : meth.name = "<init>" := (name_of_methodNamed B.named B.method).1
  have hl := lv_entry ([.ref o]) (n := 1) (Nat.le_of_ble_eq_true rfl)
  rw [lg_entry_eq]
  generalize (lg_sl ([.ref o]) ++ List.replicate (1 - (lg_sl ([.ref o])).length) Slot.unset).toArray = ls at hl ⊢
  have hl : lv_has ls 1 [(0, .ref o)] := hl
  exact bX8_init F hN h hR va_S.rf hl ⟨by show _ + _ ≤ _; omega, by show _ + _ ≤ _; omega⟩
