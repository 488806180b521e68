/-! X7_join -/
theorem mX7_join_0 : Cond.fieldLink RX7 10 "ClearingFiles" "banks" "Ljava/util/ArrayList;" ∈ wsX7_join := by decide +kernel
theorem mX7_join_1 : Cond.classLink RX7 52 RX1 ∈ wsX7_join := by decide +kernel
theorem mX7_join_2 : Cond.instantiable RX1 6 ∈ wsX7_join := by decide +kernel
theorem mX7_join_3 : Cond.initialized RX1 ∈ wsX7_join := by decide +kernel
theorem mX7_join_4 : Cond.instanceMethod yX1_init ∈ wsX7_join := by decide +kernel
theorem mX7_join_5 : Cond.methodLink RX7 54 yX1_init ∈ wsX7_join := by decide +kernel
theorem nX7_join_X7 : ∀ w ∈ u_ws RX7 TX7 7, w ∈ wsX7_join := fun _ h => List.mem_cons_of_mem _ (List.mem_append_left _ (List.mem_append_left _ (List.mem_append_left _ (List.mem_append_left _ (List.mem_append_right _ h)))))
theorem nX7_join_X1 : ∀ w ∈ u_ws RX1 TX1 6, w ∈ wsX7_join := fun _ h => List.mem_cons_of_mem _ (List.mem_append_left _ (List.mem_append_left _ (List.mem_append_left _ (List.mem_append_right _ h))))
abbrev rmX7_join : Room := { frames := 7, cells := 7, slots := 151, locals := 221 }
set_option maxRecDepth 100000 in
def wX7_join (o : Nat) (p1 : Int32) (post : Int32 → St → Prop) (σ0 : St) : Prop :=
  (p1 < 0 → (post (-1 : Int32) σ0)) ∧ (¬ p1 < 0 → (((9999 : Int32) < p1 → (post (-1 : Int32) σ0)) ∧ (¬ (9999 : Int32) < p1 → (wX7_isRight p1 (4 : Int32) (fun (x5 : Int32) (σ3 : St) => (x5 = 0 → (post (-1 : Int32) σ3)) ∧ (¬ x5 = 0 → (sK σ3 o = 8 ∧ (wX7_bankWithRouting o p1 (fun (r10 : Option Nat) (σ8 : St) => (r10 = none → (sK σ8 o = 8 ∧ (∀ r13 : Option Nat, r13 = sR σ8 400 o 0 → (∃ a14 : Nat, r13 = some a14 ∧ (wL_size a14 (fun (x18 : Int32) (σ16 : St) => (x18 < (5 : Int32) → (sK σ16 o = 8 ∧ (∀ r21 : Option Nat, r21 = sR σ16 400 o 0 → (∃ a22 : Nat, r21 = some a22 ∧ (wL_size a22 (fun (x26 : Int32) (σ24 : St) => sK σ24 o = 8 ∧ (∀ r29 : Option Nat, r29 = sR σ24 400 o 0 → (∀ q30 : Nat, sK σ24 q30 = 0 → (∀ σ31 : St, σ31 = uN σ24 q30 2 → (wX1_init q30 x26 p1 (fun (σ32 : St) => ∃ a34 : Nat, r29 = some a34 ∧ (wL_add a34 (some q30) (fun (x38 : Int32) (σ36 : St) => post x26 σ36) σ32)) σ31))))) σ16))))) ∧ (¬ x18 < (5 : Int32) → (post (-3 : Int32) σ16))) σ8))))) ∧ (¬ r10 = none → (post (-1 : Int32) σ8))) σ3)))) σ0))))
set_option maxHeartbeats 4000000 in
set_option maxRecDepth 100000 in
theorem bX7_join {p : Program} {l : Launch} {e : Env} {s : State} {m : MethodId} {args : Array Value} {below : List Frame} {meth : Method} {c : Code} {Γ : rGam} {o : Nat} {post : Int32 → St → Prop} (F : Fx Γ p s m meth c args cX7_join 3 RX7 wsX7_join (some .int)) {H : Heap} {locs : List Loc} {ls : Array Slot} {cells slots : Nat} {p1 : Int32} {σ0 : St} (h : wX7_join o p1 post σ0) (hR : Rep Γ σ0 H) (hS : va_S (rA Γ) s.heap H locs) (hl : lv_has ls 3 [(0, .ref o), (1, .int p1)]) (hc : cells + 7 ≤ 7 ∧ slots + 151 ≤ 151) : W p l e rmX7_join s m args below meth c H locs cells slots (rQi Γ below post args s 7 151) (F0 m 0 ls []) := by
  have hx := F.1.1
  have hb := F.1.2.1
  unfold wX7_join at h
  refine lv_iload_n hx hb dX7_join_0 rfl (lv_at hl 1 rfl) ?_
  refine lv_if_lt (tgt := 19) hx hb dX7_join_1 (by decide) (fun c1 => ?_) (fun c1 => ?_)
  · replace h := h.1 c1
    refine lv_iconst (v := -1) hx hb dX7_join_19 (by decide) ?_
    exact s_iret F hR hS h (by omega) dX7_join_20
  · replace h := h.2 c1
    refine lv_iload_n hx hb dX7_join_4 rfl (lv_at hl 1 rfl) ?_
    refine lv_sipush (v := 9999) hx hb dX7_join_5 (by decide) ?_
    refine lv_icmp_gt (tgt := 19) hx hb dX7_join_8 (by decide) (fun c2 => ?_) (fun c2 => ?_)
    · replace h := h.1 c2
      refine lv_iconst (v := -1) hx hb dX7_join_19 (by decide) ?_
      exact s_iret F hR hS h (by omega) dX7_join_20
    · replace h := h.2 c2
      refine lv_iload_n hx hb dX7_join_11 rfl (lv_at hl 1 rfl) ?_
      refine lv_iconst (v := 4) hx hb dX7_join_12 (by decide) ?_
      refine s_ci hS (k_runS F hR hS hl 2 [.int p1, .int (4 : Int32)] (kX7_isRight l Γ p1 (4 : Int32) _ _ h) gX7_join_X7_isRight rfl rfl rfl (by decide +kernel) ⟨Nat.le_of_ble_eq_true rfl, Nat.le_of_ble_eq_true rfl⟩ rfl (Nat.le_of_ble_eq_true rfl) dX7_join_13 ⟨by show _ ≤ 7; omega, by show _ ≤ 151; omega⟩) (fun x5 σ3 H locs h4 hR hS => ?_)
      refine lv_if_ne (tgt := 21) hx hb dX7_join_16 (by decide) (fun c6 => ?_) (fun c6 => ?_)
      · replace h4 := h4.2 c6
        refine lv_aload_n hx hb dX7_join_21 rfl (lv_at hl 0 rfl) ?_
        refine lv_iload_n hx hb dX7_join_22 rfl (lv_at hl 1 rfl) ?_
        obtain ⟨k7, h4⟩ := h4
        refine s_cq hS (k_runV F hR hS hl 1 [.int p1] (kX7_bankWithRouting l Γ o p1 _ _ h4) gX7_join_X7_bankWithRouting rfl rfl rfl (by decide +kernel) ⟨Nat.le_of_ble_eq_true rfl, Nat.le_of_ble_eq_true rfl⟩ (s_recv F hR k7 (by decide) (C := RX7) (T := TX7) (N := 7) rfl) rfl (Nat.le_of_ble_eq_true rfl) dX7_join_23 ⟨by show _ ≤ 7; omega, by show _ ≤ 151; omega⟩) (fun r10 σ8 H locs h9 hR hS => ?_)
        refine s_ifnull (r := r10) hx hb dX7_join_26 (tgt := 31) (by decide) (fun c11 => ?_) (fun c11 => ?_)
        · replace h9 := h9.1 c11
          refine lv_aload_n hx hb dX7_join_31 rfl (lv_at hl 0 rfl) ?_
          obtain ⟨k12, h9⟩ := h9
          refine s_getR F hR k12 (by decide) (C := RX7) (T := TX7) (N := 7) rfl nX7_join_X7 0 (by decide) mX7_join_0 (f := 400) rfl dX7_join_32 (fun r13 er13 => ?_)
          replace h9 := h9 r13 er13
          obtain ⟨a14, ea14, h9⟩ := h9
          subst ea14
          have k15 := h9.1
          refine s_ci hS (k_runV F hR hS hl 0 [] (kL_size l Γ a14 _ _ h9) gX7_join_Jx4a65c_size_8abf5 rfl rfl rfl (by decide +kernel) ⟨Nat.le_of_ble_eq_true rfl, Nat.le_of_ble_eq_true rfl⟩ (s_recv F hR rfl (by omega) (C := RJx4a65c) (T := TJx4a65c) (N := 3) (by unfold rCi; rw [if_neg (by omega)]; rfl)) rfl (Nat.le_of_ble_eq_true rfl) dX7_join_35 ⟨by show _ ≤ 7; omega, by show _ ≤ 151; omega⟩) (fun x18 σ16 H locs h17 hR hS => ?_)
          refine lv_iconst (v := 5) hx hb dX7_join_38 (by decide) ?_
          refine lv_icmp_lt (tgt := 45) hx hb dX7_join_39 (by decide) (fun c19 => ?_) (fun c19 => ?_)
          · replace h17 := h17.1 c19
            refine lv_aload_n hx hb dX7_join_45 rfl (lv_at hl 0 rfl) ?_
            obtain ⟨k20, h17⟩ := h17
            refine s_getR F hR k20 (by decide) (C := RX7) (T := TX7) (N := 7) rfl nX7_join_X7 0 (by decide) mX7_join_0 (f := 400) rfl dX7_join_46 (fun r21 er21 => ?_)
            replace h17 := h17 r21 er21
            obtain ⟨a22, ea22, h17⟩ := h17
            subst ea22
            have k23 := h17.1
            refine s_ci hS (k_runV F hR hS hl 0 [] (kL_size l Γ a22 _ _ h17) gX7_join_Jx4a65c_size_8abf5 rfl rfl rfl (by decide +kernel) ⟨Nat.le_of_ble_eq_true rfl, Nat.le_of_ble_eq_true rfl⟩ (s_recv F hR rfl (by omega) (C := RJx4a65c) (T := TJx4a65c) (N := 3) (by unfold rCi; rw [if_neg (by omega)]; rfl)) rfl (Nat.le_of_ble_eq_true rfl) dX7_join_49 ⟨by show _ ≤ 7; omega, by show _ ≤ 151; omega⟩) (fun x26 σ24 H locs h25 hR hS => ?_)
            refine s_istore_n (lk := [(1, .int p1)]) (lv' := [(2, .int x26), (0, .ref o), (1, .int p1)]) hx hb dX7_join_52 rfl hl (by decide) rfl (lk_1 rfl) rfl (fun ls hl27 => ?_)
            refine lv_aload_n hx hb dX7_join_53 rfl (lv_at hl27 1 rfl) ?_
            obtain ⟨k28, h25⟩ := h25
            refine s_getR F hR k28 (by decide) (C := RX7) (T := TX7) (N := 7) rfl nX7_join_X7 0 (by decide) mX7_join_0 (f := 400) rfl dX7_join_54 (fun r29 er29 => ?_)
            replace h25 := h25 r29 er29
            refine s_new F hR hS 2 (by decide) (C := RX1) (T := TX1) (N := 6) rfl nX7_join_X1 tyX1 tyX1_ok rdf_2 mX7_join_1 mX7_join_2 mX7_join_3 (by show _ ≤ 7; omega) (by show _ ≤ 151; omega) dX7_join_57 (fun q30 zq30 σ31 eσ31 H hR hS => ?_)
            replace h25 := h25 q30 zq30 σ31 eσ31
            refine lv_dup hx hb dX7_join_60 rfl ?_
            refine lv_iload_n hx hb dX7_join_61 rfl (lv_at hl27 0 rfl) ?_
            refine lv_iload_n hx hb dX7_join_62 rfl (lv_at hl27 2 rfl) ?_
            refine s_cv hS (k_runI F hR hS hl27 2 [.int x26, .int p1] (kX1_init l Γ q30 x26 p1 _ _ h25) gX7_join_X1_init rfl rfl rfl mX7_join_3 mX7_join_5 mX7_join_4 rfl (by decide +kernel) ⟨Nat.le_of_ble_eq_true rfl, Nat.le_of_ble_eq_true rfl⟩ rfl (by simp only [List.map_cons, List.map_nil, List.sum_cons, List.sum_nil, va_cat] <;> exact Nat.le_of_ble_eq_true rfl) dX7_join_63 ⟨by show _ ≤ 7; omega, by show _ ≤ 151; omega⟩) (fun σ32 H locs h33 hR hS => ?_)
            obtain ⟨a34, ea34, h33⟩ := h33
            subst ea34
            have k35 := h33.1
            refine s_ci hS (k_runV F hR hS hl27 1 [.ref q30] (kL_add l Γ a34 (some q30) _ _ h33) gX7_join_Jx4a65c_add_9ea2d rfl rfl rfl (by decide +kernel) ⟨Nat.le_of_ble_eq_true rfl, Nat.le_of_ble_eq_true rfl⟩ (s_recv F hR rfl (by omega) (C := RJx4a65c) (T := TJx4a65c) (N := 3) (by unfold rCi; rw [if_neg (by omega)]; rfl)) rfl (Nat.le_of_ble_eq_true rfl) dX7_join_66 ⟨by show _ ≤ 7; omega, by show _ ≤ 151; omega⟩) (fun x38 σ36 H locs h37 hR hS => ?_)
            refine lv_pop hx hb dX7_join_69 rfl ?_
            refine lv_iload_n hx hb dX7_join_70 rfl (lv_at hl27 0 rfl) ?_
            exact s_iret F hR hS h37 (by omega) dX7_join_71
          · replace h17 := h17.2 c19
            refine lv_bipush (v := -3) hx hb dX7_join_42 (by decide) ?_
            exact s_iret F hR hS h17 (by omega) dX7_join_44
        · replace h9 := h9.2 c11
          refine lv_iconst (v := -1) hx hb dX7_join_29 (by decide) ?_
          exact s_iret F hR hS h9 (by omega) dX7_join_30
      · replace h4 := h4.1 c6
        refine lv_iconst (v := -1) hx hb dX7_join_19 (by decide) ?_
        exact s_iret F hR hS h4 (by omega) dX7_join_20
set_option maxHeartbeats 4000000 in
set_option maxRecDepth 100000 in
theorem kX7_join (l : Launch) (Γ : rGam) (o : Nat) (p1 : Int32) (post : Int32 → St → Prop) (σ0 : St) (h : wX7_join o p1 post σ0) : Met l yX7_join wsX7_join rmX7_join (rPc Γ vwCl [.ref o, .int p1] (Rep Γ σ0)) (va_Qi post (fun σ' t => Rep Γ σ' t.heap) (rA Γ)) 7 151 (rA Γ) := by
  refine Met.ofW (cc := cX7_join) (maxL := 3) (ret := (some .int)) (by decide) rfl ?_
  intro p e s m args below meth c s₁ B hml hv
  obtain ⟨rfl, hR, hE⟩ := hv
  have F : Fx Γ p s m meth c _ cX7_join 3 RX7 wsX7_join (some .int) := ⟨⟨B.exec, B.bytes, hml, findClass_of_methodNamed B.named, atoms_spec (ws := wsX7_join) B.pre⟩, hE, B.notSynchronized, B.returns⟩
  have hl := lv_entry ([.ref o, .int p1]) (n := 3) (Nat.le_of_ble_eq_true rfl)
  rw [lg_entry_eq]
  generalize (lg_sl ([.ref o, .int p1]) ++ List.replicate (3 - (lg_sl ([.ref o, .int p1])).length) Slot.unset).toArray = ls at hl ⊢
  have hl : lv_has ls 3 [(0, .ref o), (1, .int p1)] := hl
  exact bX7_join F h hR va_S.rf hl ⟨by show _ + _ ≤ _; omega, by show _ + _ ≤ _; omega⟩
/-! X7_open -/
theorem mX7_open_0 : Cond.constant RX7 64 (999999) ∈ wsX7_open := by decide +kernel
theorem mX7_open_1 : Cond.constant RX7 65 (1000000) ∈ wsX7_open := by decide +kernel
theorem mX7_open_2 : Cond.fieldLink RX7 16 "ClearingFiles" "accounts" "Ljava/util/ArrayList;" ∈ wsX7_open := by decide +kernel
theorem mX7_open_3 : Cond.classLink RX7 70 RX0 ∈ wsX7_open := by decide +kernel
theorem mX7_open_4 : Cond.instantiable RX0 4 ∈ wsX7_open := by decide +kernel
theorem mX7_open_5 : Cond.initialized RX0 ∈ wsX7_open := by decide +kernel
theorem mX7_open_6 : Cond.instanceMethod yX0_init ∈ wsX7_open := by decide +kernel
theorem mX7_open_7 : Cond.methodLink RX7 72 yX0_init ∈ wsX7_open := by decide +kernel
theorem nX7_open_X7 : ∀ w ∈ u_ws RX7 TX7 7, w ∈ wsX7_open := fun _ h => List.mem_cons_of_mem _ (List.mem_append_left _ (List.mem_append_left _ (List.mem_append_right _ h)))
theorem nX7_open_X0 : ∀ w ∈ u_ws RX0 TX0 4, w ∈ wsX7_open := fun _ h => List.mem_cons_of_mem _ (List.mem_append_left _ (List.mem_append_right _ h))
abbrev rmX7_open : Room := { frames := 7, cells := 2, slots := 132, locals := 221 }
set_option maxRecDepth 100000 in
def wX7_open (o : Nat) (p1 : Int32) (p2 : Int32) (p3 : Int32) (post : Int32 → St → Prop) (σ0 : St) : Prop :=
  sK σ0 o = 8 ∧ (wX7_bankAt o p1 (fun (r4 : Option Nat) (σ2 : St) => (r4 = none → (post (0 : Int32) σ2)) ∧ (¬ r4 = none → ((p2 < 0 → (post (0 : Int32) σ2)) ∧ (¬ p2 < 0 → ((p2 ≤ (999999 : Int32) → (wX7_isRight p2 (6 : Int32) (fun (x11 : Int32) (σ9 : St) => (x11 = 0 → (post (0 : Int32) σ9)) ∧ (¬ x11 = 0 → ((p3 < 0 → (post (0 : Int32) σ9)) ∧ (¬ p3 < 0 → ((p3 ≤ (1000000 : Int32) → (sK σ9 o = 8 ∧ (wX7_accountOf o r4 p2 (fun (r18 : Option Nat) (σ16 : St) => (r18 = none → (sK σ16 o = 8 ∧ (∀ r21 : Option Nat, r21 = sR σ16 401 o 0 → (∃ a22 : Nat, r21 = some a22 ∧ (wL_size a22 (fun (x26 : Int32) (σ24 : St) => (x26 < (12 : Int32) → (sK σ24 o = 8 ∧ (∀ r29 : Option Nat, r29 = sR σ24 401 o 0 → (∀ q30 : Nat, sK σ24 q30 = 0 → (∀ σ31 : St, σ31 = uN σ24 q30 1 → (wX0_init q30 r4 p2 p3 (fun (σ32 : St) => ∃ a34 : Nat, r29 = some a34 ∧ (wL_add a34 (some q30) (fun (x38 : Int32) (σ36 : St) => post (1 : Int32) σ36) σ32)) σ31)))))) ∧ (¬ x26 < (12 : Int32) → (post (0 : Int32) σ24))) σ16))))) ∧ (¬ r18 = none → (post (0 : Int32) σ16))) σ9))) ∧ (¬ p3 ≤ (1000000 : Int32) → (post (0 : Int32) σ9))))))) σ2)) ∧ (¬ p2 ≤ (999999 : Int32) → (post (0 : Int32) σ2))))))) σ0)
set_option maxHeartbeats 4000000 in
set_option maxRecDepth 100000 in
theorem bX7_open {p : Program} {l : Launch} {e : Env} {s : State} {m : MethodId} {args : Array Value} {below : List Frame} {meth : Method} {c : Code} {Γ : rGam} {o : Nat} {post : Int32 → St → Prop} (F : Fx Γ p s m meth c args cX7_open 5 RX7 wsX7_open (some .boolean)) {H : Heap} {locs : List Loc} {ls : Array Slot} {cells slots : Nat} {p1 : Int32} {p2 : Int32} {p3 : Int32} {σ0 : St} (h : wX7_open o p1 p2 p3 post σ0) (hR : Rep Γ σ0 H) (hS : va_S (rA Γ) s.heap H locs) (hl : lv_has ls 5 [(0, .ref o), (1, .int p1), (2, .int p2), (3, .int p3)]) (hc : cells + 2 ≤ 2 ∧ slots + 132 ≤ 132) : W p l e rmX7_open s m args below meth c H locs cells slots (rQi Γ below post args s 2 132) (F0 m 0 ls []) := by
  have hx := F.1.1
  have hb := F.1.2.1
  unfold wX7_open at h
  refine lv_aload_n hx hb dX7_open_0 rfl (lv_at hl 0 rfl) ?_
  refine lv_iload_n hx hb dX7_open_1 rfl (lv_at hl 1 rfl) ?_
  obtain ⟨k1, h⟩ := h
  refine s_cq hS (k_runV F hR hS hl 1 [.int p1] (kX7_bankAt l Γ o p1 _ _ h) gX7_open_X7_bankAt rfl rfl rfl (by decide +kernel) ⟨Nat.le_of_ble_eq_true rfl, Nat.le_of_ble_eq_true rfl⟩ (s_recv F hR k1 (by decide) (C := RX7) (T := TX7) (N := 7) rfl) rfl (Nat.le_of_ble_eq_true rfl) dX7_open_2 ⟨by show _ ≤ 2; omega, by show _ ≤ 132; omega⟩) (fun r4 σ2 H locs h3 hR hS => ?_)
  refine s_astore (r := r4) (lk := [(3, .int p3)]) (lv' := [(4, va_rf r4), (0, .ref o), (1, .int p1), (2, .int p2), (3, .int p3)]) hx hb dX7_open_5 hl (by decide) rfl (lk_1 rfl) rfl (fun ls hl5 => ?_)
  refine s_aload hx hb dX7_open_7 (lv_at hl5 0 rfl) ?_
  refine s_ifnull (r := r4) hx hb dX7_open_9 (tgt := 22) (by decide) (fun c6 => ?_) (fun c6 => ?_)
  · replace h3 := h3.1 c6
    refine lv_iconst (v := 0) hx hb dX7_open_22 (by decide) ?_
    exact s_zret F hR hS (by unfold isB; decide) h3 (by omega) dX7_open_23
  · replace h3 := h3.2 c6
    refine lv_iload_n hx hb dX7_open_12 rfl (lv_at hl5 3 rfl) ?_
    refine lv_if_lt (tgt := 22) hx hb dX7_open_13 (by decide) (fun c7 => ?_) (fun c7 => ?_)
    · replace h3 := h3.1 c7
      refine lv_iconst (v := 0) hx hb dX7_open_22 (by decide) ?_
      exact s_zret F hR hS (by unfold isB; decide) h3 (by omega) dX7_open_23
    · replace h3 := h3.2 c7
      refine lv_iload_n hx hb dX7_open_16 rfl (lv_at hl5 3 rfl) ?_
      refine lv_ldc hx hb F.1.2.2.2.1 (F.1.2.2.2.2 _ mX7_open_0) dX7_open_17 ?_
      refine lv_icmp_le (tgt := 24) hx hb dX7_open_19 (by decide) (fun c8 => ?_) (fun c8 => ?_)
      · replace h3 := h3.1 c8
        refine lv_iload_n hx hb dX7_open_24 rfl (lv_at hl5 3 rfl) ?_
        refine lv_bipush (v := 6) hx hb dX7_open_25 (by decide) ?_
        refine s_ci hS (k_runS F hR hS hl5 2 [.int p2, .int (6 : Int32)] (kX7_isRight l Γ p2 (6 : Int32) _ _ h3) gX7_open_X7_isRight rfl rfl rfl (by decide +kernel) ⟨Nat.le_of_ble_eq_true rfl, Nat.le_of_ble_eq_true rfl⟩ rfl (Nat.le_of_ble_eq_true rfl) dX7_open_27 ⟨by show _ ≤ 2; omega, by show _ ≤ 132; omega⟩) (fun x11 σ9 H locs h10 hR hS => ?_)
        refine lv_if_eq (tgt := 43) hx hb dX7_open_30 (by decide) (fun c12 => ?_) (fun c12 => ?_)
        · replace h10 := h10.1 c12
          refine lv_iconst (v := 0) hx hb dX7_open_43 (by decide) ?_
          exact s_zret F hR hS (by unfold isB; decide) h10 (by omega) dX7_open_44
        · replace h10 := h10.2 c12
          refine lv_iload_n hx hb dX7_open_33 rfl (lv_at hl5 4 rfl) ?_
          refine lv_if_lt (tgt := 43) hx hb dX7_open_34 (by decide) (fun c13 => ?_) (fun c13 => ?_)
          · replace h10 := h10.1 c13
            refine lv_iconst (v := 0) hx hb dX7_open_43 (by decide) ?_
            exact s_zret F hR hS (by unfold isB; decide) h10 (by omega) dX7_open_44
          · replace h10 := h10.2 c13
            refine lv_iload_n hx hb dX7_open_37 rfl (lv_at hl5 4 rfl) ?_
            refine lv_ldc hx hb F.1.2.2.2.1 (F.1.2.2.2.2 _ mX7_open_1) dX7_open_38 ?_
            refine lv_icmp_le (tgt := 45) hx hb dX7_open_40 (by decide) (fun c14 => ?_) (fun c14 => ?_)
            · replace h10 := h10.1 c14
              refine lv_aload_n hx hb dX7_open_45 rfl (lv_at hl5 1 rfl) ?_
              refine s_aload hx hb dX7_open_46 (lv_at hl5 0 rfl) ?_
              refine lv_iload_n hx hb dX7_open_48 rfl (lv_at hl5 3 rfl) ?_
              obtain ⟨k15, h10⟩ := h10
              refine s_cq hS (k_runV F hR hS hl5 2 [va_rf r4, .int p2] (kX7_accountOf l Γ o r4 p2 _ _ h10) gX7_open_X7_accountOf rfl rfl rfl (by decide +kernel) ⟨Nat.le_of_ble_eq_true rfl, Nat.le_of_ble_eq_true rfl⟩ (s_recv F hR k15 (by decide) (C := RX7) (T := TX7) (N := 7) rfl) rfl (Nat.le_of_ble_eq_true rfl) dX7_open_49 ⟨by show _ ≤ 2; omega, by show _ ≤ 132; omega⟩) (fun r18 σ16 H locs h17 hR hS => ?_)
              refine s_ifnonnull (r := r18) hx hb dX7_open_52 (tgt := 67) (by decide) (fun c19 => ?_) (fun c19 => ?_)
              · replace h17 := h17.2 c19
                refine lv_iconst (v := 0) hx hb dX7_open_67 (by decide) ?_
                exact s_zret F hR hS (by unfold isB; decide) h17 (by omega) dX7_open_68
              · replace h17 := h17.1 c19
                refine lv_aload_n hx hb dX7_open_55 rfl (lv_at hl5 1 rfl) ?_
                obtain ⟨k20, h17⟩ := h17
                refine s_getR F hR k20 (by decide) (C := RX7) (T := TX7) (N := 7) rfl nX7_open_X7 1 (by decide) mX7_open_2 (f := 401) rfl dX7_open_56 (fun r21 er21 => ?_)
                replace h17 := h17 r21 er21
                obtain ⟨a22, ea22, h17⟩ := h17
                subst ea22
                have k23 := h17.1
                refine s_ci hS (k_runV F hR hS hl5 0 [] (kL_size l Γ a22 _ _ h17) gX7_open_Jx4a65c_size_8abf5 rfl rfl rfl (by decide +kernel) ⟨Nat.le_of_ble_eq_true rfl, Nat.le_of_ble_eq_true rfl⟩ (s_recv F hR rfl (by omega) (C := RJx4a65c) (T := TJx4a65c) (N := 3) (by unfold rCi; rw [if_neg (by omega)]; rfl)) rfl (Nat.le_of_ble_eq_true rfl) dX7_open_59 ⟨by show _ ≤ 2; omega, by show _ ≤ 132; omega⟩) (fun x26 σ24 H locs h25 hR hS => ?_)
                refine lv_bipush (v := 12) hx hb dX7_open_62 (by decide) ?_
                refine lv_icmp_lt (tgt := 69) hx hb dX7_open_64 (by decide) (fun c27 => ?_) (fun c27 => ?_)
                · replace h25 := h25.1 c27
                  refine lv_aload_n hx hb dX7_open_69 rfl (lv_at hl5 1 rfl) ?_
                  obtain ⟨k28, h25⟩ := h25
                  refine s_getR F hR k28 (by decide) (C := RX7) (T := TX7) (N := 7) rfl nX7_open_X7 1 (by decide) mX7_open_2 (f := 401) rfl dX7_open_70 (fun r29 er29 => ?_)
                  replace h25 := h25 r29 er29
                  refine s_new F hR hS 1 (by decide) (C := RX0) (T := TX0) (N := 4) rfl nX7_open_X0 tyX0 tyX0_ok rdf_1 mX7_open_3 mX7_open_4 mX7_open_5 (by show _ ≤ 2; omega) (by show _ ≤ 132; omega) dX7_open_73 (fun q30 zq30 σ31 eσ31 H hR hS => ?_)
                  replace h25 := h25 q30 zq30 σ31 eσ31
                  refine lv_dup hx hb dX7_open_76 rfl ?_
                  refine s_aload hx hb dX7_open_77 (lv_at hl5 0 rfl) ?_
                  refine lv_iload_n hx hb dX7_open_79 rfl (lv_at hl5 3 rfl) ?_
                  refine lv_iload_n hx hb dX7_open_80 rfl (lv_at hl5 4 rfl) ?_
                  refine s_cv hS (k_runI F hR hS hl5 3 [va_rf r4, .int p2, .int p3] (kX0_init l Γ q30 r4 p2 p3 _ _ h25) gX7_open_X0_init rfl rfl rfl mX7_open_5 mX7_open_7 mX7_open_6 rfl (by decide +kernel) ⟨Nat.le_of_ble_eq_true rfl, Nat.le_of_ble_eq_true rfl⟩ rfl (by simp only [List.map_cons, List.map_nil, List.sum_cons, List.sum_nil, va_cat] <;> exact Nat.le_of_ble_eq_true rfl) dX7_open_81 ⟨by show _ ≤ 2; omega, by show _ ≤ 132; omega⟩) (fun σ32 H locs h33 hR hS => ?_)
                  obtain ⟨a34, ea34, h33⟩ := h33
                  subst ea34
                  have k35 := h33.1
                  refine s_ci hS (k_runV F hR hS hl5 1 [.ref q30] (kL_add l Γ a34 (some q30) _ _ h33) gX7_open_Jx4a65c_add_9ea2d rfl rfl rfl (by decide +kernel) ⟨Nat.le_of_ble_eq_true rfl, Nat.le_of_ble_eq_true rfl⟩ (s_recv F hR rfl (by omega) (C := RJx4a65c) (T := TJx4a65c) (N := 3) (by unfold rCi; rw [if_neg (by omega)]; rfl)) rfl (Nat.le_of_ble_eq_true rfl) dX7_open_84 ⟨by show _ ≤ 2; omega, by show _ ≤ 132; omega⟩) (fun x38 σ36 H locs h37 hR hS => ?_)
                  refine lv_pop hx hb dX7_open_87 rfl ?_
                  refine lv_iconst (v := 1) hx hb dX7_open_88 (by decide) ?_
                  exact s_zret F hR hS (by unfold isB; decide) h37 (by omega) dX7_open_89
                · replace h25 := h25.2 c27
                  refine lv_iconst (v := 0) hx hb dX7_open_67 (by decide) ?_
                  exact s_zret F hR hS (by unfold isB; decide) h25 (by omega) dX7_open_68
            · replace h10 := h10.2 c14
              refine lv_iconst (v := 0) hx hb dX7_open_43 (by decide) ?_
              exact s_zret F hR hS (by unfold isB; decide) h10 (by omega) dX7_open_44
      · replace h3 := h3.2 c8
        refine lv_iconst (v := 0) hx hb dX7_open_22 (by decide) ?_
        exact s_zret F hR hS (by unfold isB; decide) h3 (by omega) dX7_open_23
set_option maxHeartbeats 4000000 in
set_option maxRecDepth 100000 in
theorem kX7_open (l : Launch) (Γ : rGam) (o : Nat) (p1 : Int32) (p2 : Int32) (p3 : Int32) (post : Int32 → St → Prop) (σ0 : St) (h : wX7_open o p1 p2 p3 post σ0) : Met l yX7_open wsX7_open rmX7_open (rPc Γ vwCl [.ref o, .int p1, .int p2, .int p3] (Rep Γ σ0)) (va_Qi post (fun σ' t => Rep Γ σ' t.heap) (rA Γ)) 2 132 (rA Γ) := by
  refine Met.ofW (cc := cX7_open) (maxL := 5) (ret := (some .boolean)) (by decide) rfl ?_
  intro p e s m args below meth c s₁ B hml hv
  obtain ⟨rfl, hR, hE⟩ := hv
  have F : Fx Γ p s m meth c _ cX7_open 5 RX7 wsX7_open (some .boolean) := ⟨⟨B.exec, B.bytes, hml, findClass_of_methodNamed B.named, atoms_spec (ws := wsX7_open) B.pre⟩, hE, B.notSynchronized, B.returns⟩
  have hl := lv_entry ([.ref o, .int p1, .int p2, .int p3]) (n := 5) (Nat.le_of_ble_eq_true rfl)
  rw [lg_entry_eq]
  generalize (lg_sl ([.ref o, .int p1, .int p2, .int p3]) ++ List.replicate (5 - (lg_sl ([.ref o, .int p1, .int p2, .int p3])).length) Slot.unset).toArray = ls at hl ⊢
  have hl : lv_has ls 5 [(0, .ref o), (1, .int p1), (2, .int p2), (3, .int p3)] := hl
  exact bX7_open F h hR va_S.rf hl ⟨by show _ + _ ≤ _; omega, by show _ + _ ≤ _; omega⟩
/-! X7_shut -/
theorem mX7_shut_0 : Cond.fieldLink RX7 75 "ClearingFiles$Account" "isShut" "Z" ∈ wsX7_shut := by decide +kernel
theorem nX7_shut_X0 : ∀ w ∈ u_ws RX0 TX0 4, w ∈ wsX7_shut := fun _ h => List.mem_cons_of_mem _ (List.mem_append_left _ (List.mem_append_left _ (List.mem_append_right _ h)))
abbrev rmX7_shut : Room := { frames := 4, cells := 0, slots := 0, locals := 125 }
set_option maxRecDepth 100000 in
def wX7_shut (o : Nat) (p1 : Int32) (p2 : Int32) (post : Int32 → St → Prop) (σ0 : St) : Prop :=
  sK σ0 o = 8 ∧ (wX7_bankAt o p1 (fun (r4 : Option Nat) (σ2 : St) => sK σ2 o = 8 ∧ (wX7_accountOf o r4 p2 (fun (r8 : Option Nat) (σ6 : St) => (r8 = none → (post (0 : Int32) σ6)) ∧ (¬ r8 = none → (∃ a11 : Nat, r8 = some a11 ∧ (sK σ6 a11 = 1 ∧ (((sI σ6 53 a11 0) = 0 → (sK σ6 a11 = 1 ∧ (∀ σ15 : St, σ15 = uI σ6 53 a11 0 (1 : Int32) → (post (1 : Int32) σ15)))) ∧ (¬ (sI σ6 53 a11 0) = 0 → (post (0 : Int32) σ6))))))) σ2)) σ0)
set_option maxHeartbeats 4000000 in
set_option maxRecDepth 100000 in
theorem bX7_shut {p : Program} {l : Launch} {e : Env} {s : State} {m : MethodId} {args : Array Value} {below : List Frame} {meth : Method} {c : Code} {Γ : rGam} {o : Nat} {post : Int32 → St → Prop} (F : Fx Γ p s m meth c args cX7_shut 4 RX7 wsX7_shut (some .boolean)) {H : Heap} {locs : List Loc} {ls : Array Slot} {cells slots : Nat} {p1 : Int32} {p2 : Int32} {σ0 : St} (h : wX7_shut o p1 p2 post σ0) (hR : Rep Γ σ0 H) (hS : va_S (rA Γ) s.heap H locs) (hl : lv_has ls 4 [(0, .ref o), (1, .int p1), (2, .int p2)]) (hc : cells ≤ 0 ∧ slots ≤ 0) : W p l e rmX7_shut s m args below meth c H locs cells slots (rQi Γ below post args s 0 0) (F0 m 0 ls []) := by
  have hx := F.1.1
  have hb := F.1.2.1
  unfold wX7_shut at h
  refine lv_aload_n hx hb dX7_shut_0 rfl (lv_at hl 0 rfl) ?_
  refine lv_aload_n hx hb dX7_shut_1 rfl (lv_at hl 0 rfl) ?_
  refine lv_iload_n hx hb dX7_shut_2 rfl (lv_at hl 1 rfl) ?_
  obtain ⟨k1, h⟩ := h
  refine s_cq hS (k_runV F hR hS hl 1 [.int p1] (kX7_bankAt l Γ o p1 _ _ h) gX7_shut_X7_bankAt rfl rfl rfl (by decide +kernel) ⟨Nat.le_of_ble_eq_true rfl, Nat.le_of_ble_eq_true rfl⟩ (s_recv F hR k1 (by decide) (C := RX7) (T := TX7) (N := 7) rfl) rfl (Nat.le_of_ble_eq_true rfl) dX7_shut_3 ⟨by show _ ≤ 0; omega, by show _ ≤ 0; omega⟩) (fun r4 σ2 H locs h3 hR hS => ?_)
  refine lv_iload_n hx hb dX7_shut_6 rfl (lv_at hl 2 rfl) ?_
  obtain ⟨k5, h3⟩ := h3
  refine s_cq hS (k_runV F hR hS hl 2 [va_rf r4, .int p2] (kX7_accountOf l Γ o r4 p2 _ _ h3) gX7_shut_X7_accountOf rfl rfl rfl (by decide +kernel) ⟨Nat.le_of_ble_eq_true rfl, Nat.le_of_ble_eq_true rfl⟩ (s_recv F hR k5 (by decide) (C := RX7) (T := TX7) (N := 7) rfl) rfl (Nat.le_of_ble_eq_true rfl) dX7_shut_7 ⟨by show _ ≤ 0; omega, by show _ ≤ 0; omega⟩) (fun r8 σ6 H locs h7 hR hS => ?_)
  refine s_astore_n (r := r8) (lk := [(2, .int p2)]) (lv' := [(3, va_rf r8), (0, .ref o), (1, .int p1), (2, .int p2)]) hx hb dX7_shut_10 rfl hl (by decide) rfl (lk_1 rfl) rfl (fun ls hl9 => ?_)
  refine s_aload_n hx hb dX7_shut_11 rfl (lv_at hl9 0 rfl) ?_
  refine s_ifnull (r := r8) hx hb dX7_shut_12 (tgt := 22) (by decide) (fun c10 => ?_) (fun c10 => ?_)
  · replace h7 := h7.1 c10
    refine lv_iconst (v := 0) hx hb dX7_shut_22 (by decide) ?_
    exact s_zret F hR hS (by unfold isB; decide) h7 hc dX7_shut_23
  · replace h7 := h7.2 c10
    refine s_aload_n hx hb dX7_shut_15 rfl (lv_at hl9 0 rfl) ?_
    obtain ⟨a11, ea11, h7⟩ := h7
    subst ea11
    obtain ⟨k12, h7⟩ := h7
    refine s_getI F hR k12 (by decide) (C := RX0) (T := TX0) (N := 4) rfl nX7_shut_X0 3 (by decide) mX7_shut_0 (f := 53) rfl dX7_shut_16 ?_
    refine lv_if_eq (tgt := 24) hx hb dX7_shut_19 (by decide) (fun c13 => ?_) (fun c13 => ?_)
    · replace h7 := h7.1 c13
      refine lv_aload_n hx hb dX7_shut_24 rfl (lv_at hl9 0 rfl) ?_
      refine lv_iconst (v := 1) hx hb dX7_shut_25 (by decide) ?_
      obtain ⟨k14, h7⟩ := h7
      refine s_putI (v := (1 : Int32)) F hR hS k14 (by decide) (C := RX0) (T := TX0) (N := 4) rfl nX7_shut_X0 tyX0 tyX0_ok nmX0 3 (by decide) mX7_shut_0 (Or.inl rfl) (isB.nar (v := (1 : Int32)) (by unfold isB; decide)) (isB.fit (v := (1 : Int32)) (by unfold isB; decide)) (f := 53) rfl rnd_1 dX7_shut_26 (fun σ15 eσ15 H locs hR hS => ?_)
      replace h7 := h7 σ15 eσ15
      refine lv_iconst (v := 1) hx hb dX7_shut_29 (by decide) ?_
      exact s_zret F hR hS (by unfold isB; decide) h7 hc dX7_shut_30
    · replace h7 := h7.2 c13
      refine lv_iconst (v := 0) hx hb dX7_shut_22 (by decide) ?_
      exact s_zret F hR hS (by unfold isB; decide) h7 hc dX7_shut_23
set_option maxHeartbeats 4000000 in
set_option maxRecDepth 100000 in
theorem kX7_shut (l : Launch) (Γ : rGam) (o : Nat) (p1 : Int32) (p2 : Int32) (post : Int32 → St → Prop) (σ0 : St) (h : wX7_shut o p1 p2 post σ0) : Met l yX7_shut wsX7_shut rmX7_shut (rPc Γ vwCl [.ref o, .int p1, .int p2] (Rep Γ σ0)) (va_Qi post (fun σ' t => Rep Γ σ' t.heap) (rA Γ)) 0 0 (rA Γ) := by
  refine Met.ofW (cc := cX7_shut) (maxL := 4) (ret := (some .boolean)) (by decide) rfl ?_
  intro p e s m args below meth c s₁ B hml hv
  obtain ⟨rfl, hR, hE⟩ := hv
  have F : Fx Γ p s m meth c _ cX7_shut 4 RX7 wsX7_shut (some .boolean) := ⟨⟨B.exec, B.bytes, hml, findClass_of_methodNamed B.named, atoms_spec (ws := wsX7_shut) B.pre⟩, hE, B.notSynchronized, B.returns⟩
  have hl := lv_entry ([.ref o, .int p1, .int p2]) (n := 4) (Nat.le_of_ble_eq_true rfl)
  rw [lg_entry_eq]
  generalize (lg_sl ([.ref o, .int p1, .int p2]) ++ List.replicate (4 - (lg_sl ([.ref o, .int p1, .int p2])).length) Slot.unset).toArray = ls at hl ⊢
  have hl : lv_has ls 4 [(0, .ref o), (1, .int p1), (2, .int p2)] := hl
  exact bX7_shut F h hR va_S.rf hl ⟨Nat.le_refl 0, Nat.le_refl 0⟩
/-! X7_day -/
theorem mX7_day_0 : Cond.fieldLink RX7 37 "ClearingFiles" "today" "I" ∈ wsX7_day := by decide +kernel
theorem nX7_day_X7 : ∀ w ∈ u_ws RX7 TX7 7, w ∈ wsX7_day := fun _ h => List.mem_cons_of_mem _ (List.mem_append_right _ h)
abbrev rmX7_day : Room := { frames := 0, cells := 0, slots := 0, locals := 0 }
set_option maxRecDepth 100000 in
def wX7_day (o : Nat)  (post : Int32 → St → Prop) (σ0 : St) : Prop :=
  sK σ0 o = 8 ∧ (sK σ0 o = 8 ∧ (∀ σ3 : St, σ3 = uI σ0 406 o 0 ((sI σ0 406 o 0) + (1 : Int32)) → (sK σ3 o = 8 ∧ (post (sI σ3 406 o 0) σ3))))
set_option maxHeartbeats 4000000 in
set_option maxRecDepth 100000 in
theorem bX7_day {p : Program} {l : Launch} {e : Env} {s : State} {m : MethodId} {args : Array Value} {below : List Frame} {meth : Method} {c : Code} {Γ : rGam} {o : Nat} {post : Int32 → St → Prop} (F : Fx Γ p s m meth c args cX7_day 1 RX7 wsX7_day (some .int)) {H : Heap} {locs : List Loc} {ls : Array Slot} {cells slots : Nat}  {σ0 : St} (h : wX7_day o  post σ0) (hR : Rep Γ σ0 H) (hS : va_S (rA Γ) s.heap H locs) (hl : lv_has ls 1 [(0, .ref o)]) (hc : cells ≤ 0 ∧ slots ≤ 0) : W p l e rmX7_day s m args below meth c H locs cells slots (rQi Γ below post args s 0 0) (F0 m 0 ls []) := by
  have hx := F.1.1
  have hb := F.1.2.1
  unfold wX7_day at h
  refine lv_aload_n hx hb dX7_day_0 rfl (lv_at hl 0 rfl) ?_
  refine lv_dup hx hb dX7_day_1 rfl ?_
  obtain ⟨k1, h⟩ := h
  refine s_getI F hR k1 (by decide) (C := RX7) (T := TX7) (N := 7) rfl nX7_day_X7 6 (by decide) mX7_day_0 (f := 406) rfl dX7_day_2 ?_
  refine lv_iconst (v := 1) hx hb dX7_day_5 (by decide) ?_
  refine lv_iadd hx hb dX7_day_6 ?_
  obtain ⟨k2, h⟩ := h
  refine s_putI (v := ((sI σ0 406 o 0) + (1 : Int32))) F hR hS k2 (by decide) (C := RX7) (T := TX7) (N := 7) rfl nX7_day_X7 tyX7 tyX7_ok nmX7 6 (by decide) mX7_day_0 (Or.inl rfl) rfl rfl (f := 406) rfl rnd_8 dX7_day_7 (fun σ3 eσ3 H locs hR hS => ?_)
  replace h := h σ3 eσ3
  refine lv_aload_n hx hb dX7_day_10 rfl (lv_at hl 0 rfl) ?_
  obtain ⟨k4, h⟩ := h
  refine s_getI F hR k4 (by decide) (C := RX7) (T := TX7) (N := 7) rfl nX7_day_X7 6 (by decide) mX7_day_0 (f := 406) rfl dX7_day_11 ?_
  exact s_iret F hR hS h hc dX7_day_14
set_option maxHeartbeats 4000000 in
set_option maxRecDepth 100000 in
theorem kX7_day (l : Launch) (Γ : rGam) (o : Nat)  (post : Int32 → St → Prop) (σ0 : St) (h : wX7_day o  post σ0) : Met l yX7_day wsX7_day rmX7_day (rPc Γ vwCl [.ref o] (Rep Γ σ0)) (va_Qi post (fun σ' t => Rep Γ σ' t.heap) (rA Γ)) 0 0 (rA Γ) := by
  refine Met.ofW (cc := cX7_day) (maxL := 1) (ret := (some .int)) (by decide) rfl ?_
  intro p e s m args below meth c s₁ B hml hv
  obtain ⟨rfl, hR, hE⟩ := hv
  have F : Fx Γ p s m meth c _ cX7_day 1 RX7 wsX7_day (some .int) := ⟨⟨B.exec, B.bytes, hml, findClass_of_methodNamed B.named, atoms_spec (ws := wsX7_day) B.pre⟩, hE, B.notSynchronized, B.returns⟩
  have hl := lv_entry ([.ref o]) (n := 1) (Nat.le_of_ble_eq_true rfl)
  rw [lg_entry_eq]
  generalize (lg_sl ([.ref o]) ++ List.replicate (1 - (lg_sl ([.ref o])).length) Slot.unset).toArray = ls at hl ⊢
  have hl : lv_has ls 1 [(0, .ref o)] := hl
  exact bX7_day F h hR va_S.rf hl ⟨Nat.le_refl 0, Nat.le_refl 0⟩
/-! X7_put -/
theorem mX7_put_0 : Cond.fieldLink RX7 22 "ClearingFiles" "file" "LClearingFiles$Incoming;" ∈ wsX7_put := by decide +kernel
theorem nX7_put_X7 : ∀ w ∈ u_ws RX7 TX7 7, w ∈ wsX7_put := fun _ h => List.mem_cons_of_mem _ (List.mem_append_left _ (List.mem_append_left _ (List.mem_append_left _ (List.mem_append_left _ (List.mem_append_left _ (List.mem_append_left _ (List.mem_append_right _ h)))))))
abbrev rmX7_put : Room := { frames := 10, cells := 105, slots := 13440, locals := 293 }
set_option maxRecDepth 100000 in
def wX7_put (o : Nat) (p1 : Int64) (p2 : Int64) (post : Int32 → St → Prop) (σ0 : St) : Prop :=
  wX7_isHalf p1 (fun (x3 : Int32) (σ1 : St) => (x3 = 0 → (post (-1 : Int32) σ1)) ∧ (¬ x3 = 0 → (wX7_isHalf p2 (fun (x7 : Int32) (σ5 : St) => (x7 = 0 → (post (-1 : Int32) σ5)) ∧ (¬ x7 = 0 → (wX7_digits p1 p2 (0 : Int32) (0 : Int32) (fun (x11 : Int32) (σ9 : St) => sK σ9 o = 8 ∧ (∀ r14 : Option Nat, r14 = sR σ9 402 o 0 → (∃ a15 : Nat, r14 = some a15 ∧ (sK σ9 a15 = 5 ∧ (wX4_allows a15 x11 (fun (x19 : Int32) (σ17 : St) => (x19 = 0 → (sK σ17 o = 8 ∧ (∀ r54 : Option Nat, r54 = sR σ17 402 o 0 → (∃ a55 : Nat, r54 = some a55 ∧ (sK σ17 a55 = 5 ∧ (wX4_end a55 (fun (σ57 : St) => post (-2 : Int32) σ57) σ17)))))) ∧ (¬ x19 = 0 → ((x11 = 1 → (sK σ17 o = 8 ∧ (∀ r23 : Option Nat, r23 = sR σ17 402 o 0 → (wX7_digits p1 p2 (1 : Int32) (4 : Int32) (fun (x26 : Int32) (σ24 : St) => wX7_digits p1 p2 (5 : Int32) (8 : Int32) (fun (x29 : Int32) (σ27 : St) => ∃ a30 : Nat, r23 = some a30 ∧ (sK σ27 a30 = 5 ∧ (wX4_begin a30 x26 x29 (fun (σ32 : St) => post (0 : Int32) σ32) σ27))) σ24) σ17)))) ∧ (¬ x11 = 1 → ((x11 = 5 → (sK σ17 o = 8 ∧ (wX7_beginBatch o p1 p2 (fun (x38 : Int32) (σ36 : St) => post x38 σ36) σ17))) ∧ (¬ x11 = 5 → ((x11 = 6 → (sK σ17 o = 8 ∧ (wX7_addEntry o p1 p2 (fun (x43 : Int32) (σ41 : St) => post x43 σ41) σ17))) ∧ (¬ x11 = 6 → ((x11 = 8 → (sK σ17 o = 8 ∧ (wX7_endBatch o p1 p2 (fun (σ46 : St) => post (0 : Int32) σ46) σ17))) ∧ (¬ x11 = 8 → (sK σ17 o = 8 ∧ (wX7_endFile o p1 p2 (fun (x51 : Int32) (σ49 : St) => post x51 σ49) σ17)))))))))))) σ9))))) σ5))) σ1))) σ0
set_option maxHeartbeats 4000000 in
set_option maxRecDepth 100000 in
theorem bX7_put {p : Program} {l : Launch} {e : Env} {s : State} {m : MethodId} {args : Array Value} {below : List Frame} {meth : Method} {c : Code} {Γ : rGam} {o : Nat} {post : Int32 → St → Prop} (F : Fx Γ p s m meth c args cX7_put 6 RX7 wsX7_put (some .int)) {H : Heap} {locs : List Loc} {ls : Array Slot} {cells slots : Nat} {p1 : Int64} {p2 : Int64} {σ0 : St} (h : wX7_put o p1 p2 post σ0) (hR : Rep Γ σ0 H) (hS : va_S (rA Γ) s.heap H locs) (hl : lv_has ls 6 [(0, .ref o), (1, .long p1), (3, .long p2)]) (hc : cells + 105 ≤ 105 ∧ slots + 13440 ≤ 13440) : W p l e rmX7_put s m args below meth c H locs cells slots (rQi Γ below post args s 105 13440) (F0 m 0 ls []) := by
  have hx := F.1.1
  have hb := F.1.2.1
  unfold wX7_put at h
  refine lv_lload_n hx hb dX7_put_0 rfl (lv_at hl 1 rfl) ?_
  refine s_ci hS (k_runS F hR hS hl 1 [.long p1] (kX7_isHalf l Γ p1 _ _ h) gX7_put_X7_isHalf rfl rfl rfl (by decide +kernel) ⟨Nat.le_of_ble_eq_true rfl, Nat.le_of_ble_eq_true rfl⟩ rfl (Nat.le_of_ble_eq_true rfl) dX7_put_1 ⟨by show _ ≤ 105; omega, by show _ ≤ 13440; omega⟩) (fun x3 σ1 H locs h2 hR hS => ?_)
  refine lv_if_eq (tgt := 14) hx hb dX7_put_4 (by decide) (fun c4 => ?_) (fun c4 => ?_)
  · replace h2 := h2.1 c4
    refine lv_iconst (v := -1) hx hb dX7_put_14 (by decide) ?_
    exact s_iret F hR hS h2 (by omega) dX7_put_15
  · replace h2 := h2.2 c4
    refine lv_lload_n hx hb dX7_put_7 rfl (lv_at hl 2 rfl) ?_
    refine s_ci hS (k_runS F hR hS hl 1 [.long p2] (kX7_isHalf l Γ p2 _ _ h2) gX7_put_X7_isHalf rfl rfl rfl (by decide +kernel) ⟨Nat.le_of_ble_eq_true rfl, Nat.le_of_ble_eq_true rfl⟩ rfl (Nat.le_of_ble_eq_true rfl) dX7_put_8 ⟨by show _ ≤ 105; omega, by show _ ≤ 13440; omega⟩) (fun x7 σ5 H locs h6 hR hS => ?_)
    refine lv_if_ne (tgt := 16) hx hb dX7_put_11 (by decide) (fun c8 => ?_) (fun c8 => ?_)
    · replace h6 := h6.2 c8
      refine lv_lload_n hx hb dX7_put_16 rfl (lv_at hl 1 rfl) ?_
      refine lv_lload_n hx hb dX7_put_17 rfl (lv_at hl 2 rfl) ?_
      refine lv_iconst (v := 0) hx hb dX7_put_18 (by decide) ?_
      refine lv_iconst (v := 0) hx hb dX7_put_19 (by decide) ?_
      refine s_ci hS (k_runS F hR hS hl 4 [.long p1, .long p2, .int (0 : Int32), .int (0 : Int32)] (kX7_digits l Γ p1 p2 (0 : Int32) (0 : Int32) _ _ h6) gX7_put_X7_digits rfl rfl rfl (by decide +kernel) ⟨Nat.le_of_ble_eq_true rfl, Nat.le_of_ble_eq_true rfl⟩ rfl (Nat.le_of_ble_eq_true rfl) dX7_put_20 ⟨by show _ ≤ 105; omega, by show _ ≤ 13440; omega⟩) (fun x11 σ9 H locs h10 hR hS => ?_)
      refine s_istore (lk := []) (lv' := [(5, .int x11), (0, .ref o), (1, .long p1), (3, .long p2)]) hx hb dX7_put_23 hl (by decide) rfl lk_0 rfl (fun ls hl12 => ?_)
      refine lv_aload_n hx hb dX7_put_25 rfl (lv_at hl12 1 rfl) ?_
      obtain ⟨k13, h10⟩ := h10
      refine s_getR F hR k13 (by decide) (C := RX7) (T := TX7) (N := 7) rfl nX7_put_X7 2 (by decide) mX7_put_0 (f := 402) rfl dX7_put_26 (fun r14 er14 => ?_)
      replace h10 := h10 r14 er14
      refine lv_iload hx hb dX7_put_29 (lv_at hl12 0 rfl) ?_
      obtain ⟨a15, ea15, h10⟩ := h10
      subst ea15
      obtain ⟨k16, h10⟩ := h10
      refine s_ci hS (k_runV F hR hS hl12 1 [.int x11] (kX4_allows l Γ a15 x11 _ _ h10) gX7_put_X4_allows rfl rfl rfl (by decide +kernel) ⟨Nat.le_of_ble_eq_true rfl, Nat.le_of_ble_eq_true rfl⟩ (s_recv F hR k16 (by decide) (C := RX4) (T := TX4) (N := 8) rfl) rfl (Nat.le_of_ble_eq_true rfl) dX7_put_31 ⟨by show _ ≤ 105; omega, by show _ ≤ 13440; omega⟩) (fun x19 σ17 H locs h18 hR hS => ?_)
      refine lv_if_ne (tgt := 47) hx hb dX7_put_34 (by decide) (fun c20 => ?_) (fun c20 => ?_)
      · replace h18 := h18.2 c20
        refine lv_iload hx hb dX7_put_47 (lv_at hl12 0 rfl) ?_
        by_cases c21 : x11 = 1
        · replace h18 := h18.1 c21
          refine lv_tableIn (off := 47) (tgt := 96) hx hb dX7_put_49 (by rw [c21]; decide) (by rw [c21]; decide) (by rw [c21]; decide) (by decide) ?_
          refine lv_aload_n hx hb dX7_put_96 rfl (lv_at hl12 1 rfl) ?_
          obtain ⟨k22, h18⟩ := h18
          refine s_getR F hR k22 (by decide) (C := RX7) (T := TX7) (N := 7) rfl nX7_put_X7 2 (by decide) mX7_put_0 (f := 402) rfl dX7_put_97 (fun r23 er23 => ?_)
          replace h18 := h18 r23 er23
          refine lv_lload_n hx hb dX7_put_100 rfl (lv_at hl12 2 rfl) ?_
          refine lv_lload_n hx hb dX7_put_101 rfl (lv_at hl12 3 rfl) ?_
          refine lv_iconst (v := 1) hx hb dX7_put_102 (by decide) ?_
          refine lv_iconst (v := 4) hx hb dX7_put_103 (by decide) ?_
          refine s_ci hS (k_runS F hR hS hl12 4 [.long p1, .long p2, .int (1 : Int32), .int (4 : Int32)] (kX7_digits l Γ p1 p2 (1 : Int32) (4 : Int32) _ _ h18) gX7_put_X7_digits rfl rfl rfl (by decide +kernel) ⟨Nat.le_of_ble_eq_true rfl, Nat.le_of_ble_eq_true rfl⟩ rfl (by simp only [List.map_cons, List.map_nil, List.sum_cons, List.sum_nil, va_cat] <;> exact Nat.le_of_ble_eq_true rfl) dX7_put_104 ⟨by show _ ≤ 105; omega, by show _ ≤ 13440; omega⟩) (fun x26 σ24 H locs h25 hR hS => ?_)
          refine lv_lload_n hx hb dX7_put_107 rfl (lv_at hl12 2 rfl) ?_
          refine lv_lload_n hx hb dX7_put_108 rfl (lv_at hl12 3 rfl) ?_
          refine lv_iconst (v := 5) hx hb dX7_put_109 (by decide) ?_
          refine lv_bipush (v := 8) hx hb dX7_put_110 (by decide) ?_
          refine s_ci hS (k_runS F hR hS hl12 4 [.long p1, .long p2, .int (5 : Int32), .int (8 : Int32)] (kX7_digits l Γ p1 p2 (5 : Int32) (8 : Int32) _ _ h25) gX7_put_X7_digits rfl rfl rfl (by decide +kernel) ⟨Nat.le_of_ble_eq_true rfl, Nat.le_of_ble_eq_true rfl⟩ rfl (by simp only [List.map_cons, List.map_nil, List.sum_cons, List.sum_nil, va_cat] <;> exact Nat.le_of_ble_eq_true rfl) dX7_put_112 ⟨by show _ ≤ 105; omega, by show _ ≤ 13440; omega⟩) (fun x29 σ27 H locs h28 hR hS => ?_)
          obtain ⟨a30, ea30, h28⟩ := h28
          subst ea30
          obtain ⟨k31, h28⟩ := h28
          refine s_cv hS (k_runV F hR hS hl12 2 [.int x26, .int x29] (kX4_begin l Γ a30 x26 x29 _ _ h28) gX7_put_X4_begin rfl rfl rfl (by decide +kernel) ⟨Nat.le_of_ble_eq_true rfl, Nat.le_of_ble_eq_true rfl⟩ (s_recv F hR k31 (by decide) (C := RX4) (T := TX4) (N := 8) rfl) rfl (Nat.le_of_ble_eq_true rfl) dX7_put_115 ⟨by show _ ≤ 105; omega, by show _ ≤ 13440; omega⟩) (fun σ32 H locs h33 hR hS => ?_)
          refine lv_iconst (v := 0) hx hb dX7_put_118 (by decide) ?_
          exact s_iret F hR hS h33 (by omega) dX7_put_119
        · replace h18 := h18.2 c21
          by_cases c34 : x11 = 5
          · replace h18 := h18.1 c34
            refine lv_tableIn (off := 71) (tgt := 120) hx hb dX7_put_49 (by rw [c34]; decide) (by rw [c34]; decide) (by rw [c34]; decide) (by decide) ?_
            refine lv_aload_n hx hb dX7_put_120 rfl (lv_at hl12 1 rfl) ?_
            refine lv_lload_n hx hb dX7_put_121 rfl (lv_at hl12 2 rfl) ?_
            refine lv_lload_n hx hb dX7_put_122 rfl (lv_at hl12 3 rfl) ?_
            obtain ⟨k35, h18⟩ := h18
            refine s_ci hS (k_runV F hR hS hl12 2 [.long p1, .long p2] (kX7_beginBatch l Γ o p1 p2 _ _ h18) gX7_put_X7_beginBatch rfl rfl rfl (by decide +kernel) ⟨Nat.le_of_ble_eq_true rfl, Nat.le_of_ble_eq_true rfl⟩ (s_recv F hR k35 (by decide) (C := RX7) (T := TX7) (N := 7) rfl) rfl (Nat.le_of_ble_eq_true rfl) dX7_put_123 ⟨by show _ ≤ 105; omega, by show _ ≤ 13440; omega⟩) (fun x38 σ36 H locs h37 hR hS => ?_)
            exact s_iret F hR hS h37 (by omega) dX7_put_126
          · replace h18 := h18.2 c34
            by_cases c39 : x11 = 6
            · replace h18 := h18.1 c39
              refine lv_tableIn (off := 78) (tgt := 127) hx hb dX7_put_49 (by rw [c39]; decide) (by rw [c39]; decide) (by rw [c39]; decide) (by decide) ?_
              refine lv_aload_n hx hb dX7_put_127 rfl (lv_at hl12 1 rfl) ?_
              refine lv_lload_n hx hb dX7_put_128 rfl (lv_at hl12 2 rfl) ?_
              refine lv_lload_n hx hb dX7_put_129 rfl (lv_at hl12 3 rfl) ?_
              obtain ⟨k40, h18⟩ := h18
              refine s_ci hS (k_runV F hR hS hl12 2 [.long p1, .long p2] (kX7_addEntry l Γ o p1 p2 _ _ h18) gX7_put_X7_addEntry rfl rfl rfl (by decide +kernel) ⟨Nat.le_of_ble_eq_true rfl, Nat.le_of_ble_eq_true rfl⟩ (s_recv F hR k40 (by decide) (C := RX7) (T := TX7) (N := 7) rfl) rfl (Nat.le_of_ble_eq_true rfl) dX7_put_130 ⟨by show _ ≤ 105; omega, by show _ ≤ 13440; omega⟩) (fun x43 σ41 H locs h42 hR hS => ?_)
              exact s_iret F hR hS h42 (by omega) dX7_put_133
            · replace h18 := h18.2 c39
              by_cases c44 : x11 = 8
              · replace h18 := h18.1 c44
                refine lv_tableIn (off := 85) (tgt := 134) hx hb dX7_put_49 (by rw [c44]; decide) (by rw [c44]; decide) (by rw [c44]; decide) (by decide) ?_
                refine lv_aload_n hx hb dX7_put_134 rfl (lv_at hl12 1 rfl) ?_
                refine lv_lload_n hx hb dX7_put_135 rfl (lv_at hl12 2 rfl) ?_
                refine lv_lload_n hx hb dX7_put_136 rfl (lv_at hl12 3 rfl) ?_
                obtain ⟨k45, h18⟩ := h18
                refine s_cv hS (k_runV F hR hS hl12 2 [.long p1, .long p2] (kX7_endBatch l Γ o p1 p2 _ _ h18) gX7_put_X7_endBatch rfl rfl rfl (by decide +kernel) ⟨Nat.le_of_ble_eq_true rfl, Nat.le_of_ble_eq_true rfl⟩ (s_recv F hR k45 (by decide) (C := RX7) (T := TX7) (N := 7) rfl) rfl (Nat.le_of_ble_eq_true rfl) dX7_put_137 ⟨by show _ ≤ 105; omega, by show _ ≤ 13440; omega⟩) (fun σ46 H locs h47 hR hS => ?_)
                refine lv_iconst (v := 0) hx hb dX7_put_140 (by decide) ?_
                exact s_iret F hR hS h47 (by omega) dX7_put_141
              · replace h18 := h18.2 c44
                have hD52 : W p l e rmX7_put s m args below meth c H locs cells slots (rQi Γ below post args s 105 13440) (F0 m 142 ls []) := by
                  refine lv_aload_n hx hb dX7_put_142 rfl (lv_at hl12 1 rfl) ?_
                  refine lv_lload_n hx hb dX7_put_143 rfl (lv_at hl12 2 rfl) ?_
                  refine lv_lload_n hx hb dX7_put_144 rfl (lv_at hl12 3 rfl) ?_
                  obtain ⟨k48, h18⟩ := h18
                  refine s_ci hS (k_runV F hR hS hl12 2 [.long p1, .long p2] (kX7_endFile l Γ o p1 p2 _ _ h18) gX7_put_X7_endFile rfl rfl rfl (by decide +kernel) ⟨Nat.le_of_ble_eq_true rfl, Nat.le_of_ble_eq_true rfl⟩ (s_recv F hR k48 (by decide) (C := RX7) (T := TX7) (N := 7) rfl) rfl (Nat.le_of_ble_eq_true rfl) dX7_put_145 ⟨by show _ ≤ 105; omega, by show _ ≤ 13440; omega⟩) (fun x51 σ49 H locs h50 hR hS => ?_)
                  exact s_iret F hR hS h50 (by omega) dX7_put_148
                have tc21 : ¬ x11.toInt = 1 := lv_neT c21 (by decide)
                have tc34 : ¬ x11.toInt = 5 := lv_neT c34 (by decide)
                have tc39 : ¬ x11.toInt = 6 := lv_neT c39 (by decide)
                have tc44 : ¬ x11.toInt = 8 := lv_neT c44 (by decide)
                by_cases t1 : x11.toInt < 1 ∨ 8 < x11.toInt
                · exact lv_tableOut (tgt := 142) hx hb dX7_put_49 t1 (by decide) hD52
                · have t2 : x11.toInt = 2 ∨ x11.toInt = 3 ∨ x11.toInt = 4 ∨ x11.toInt = 7 := by omega
                  rcases t2 with t2 | t2 | t2 | t2 <;> exact lv_tableIn (off := 93) (tgt := 142) hx hb dX7_put_49 (by rw [t2]; decide) (by rw [t2]; decide) (by rw [t2]; decide) (by decide) hD52
      · replace h18 := h18.1 c20
        refine lv_aload_n hx hb dX7_put_37 rfl (lv_at hl12 1 rfl) ?_
        obtain ⟨k53, h18⟩ := h18
        refine s_getR F hR k53 (by decide) (C := RX7) (T := TX7) (N := 7) rfl nX7_put_X7 2 (by decide) mX7_put_0 (f := 402) rfl dX7_put_38 (fun r54 er54 => ?_)
        replace h18 := h18 r54 er54
        obtain ⟨a55, ea55, h18⟩ := h18
        subst ea55
        obtain ⟨k56, h18⟩ := h18
        refine s_cv hS (k_runV F hR hS hl12 0 [] (kX4_end l Γ a55 _ _ h18) gX7_put_X4_end rfl rfl rfl (by decide +kernel) ⟨Nat.le_of_ble_eq_true rfl, Nat.le_of_ble_eq_true rfl⟩ (s_recv F hR k56 (by decide) (C := RX4) (T := TX4) (N := 8) rfl) rfl (Nat.le_of_ble_eq_true rfl) dX7_put_41 ⟨by show _ ≤ 105; omega, by show _ ≤ 13440; omega⟩) (fun σ57 H locs h58 hR hS => ?_)
        refine lv_bipush (v := -2) hx hb dX7_put_44 (by decide) ?_
        exact s_iret F hR hS h58 (by omega) dX7_put_46
    · replace h6 := h6.1 c8
      refine lv_iconst (v := -1) hx hb dX7_put_14 (by decide) ?_
      exact s_iret F hR hS h6 (by omega) dX7_put_15
set_option maxHeartbeats 4000000 in
set_option maxRecDepth 100000 in
theorem kX7_put (l : Launch) (Γ : rGam) (o : Nat) (p1 : Int64) (p2 : Int64) (post : Int32 → St → Prop) (σ0 : St) (h : wX7_put o p1 p2 post σ0) : Met l yX7_put wsX7_put rmX7_put (rPc Γ vwCl [.ref o, .long p1, .long p2] (Rep Γ σ0)) (va_Qi post (fun σ' t => Rep Γ σ' t.heap) (rA Γ)) 105 13440 (rA Γ) := by
  refine Met.ofW (cc := cX7_put) (maxL := 6) (ret := (some .int)) (by decide) rfl ?_
  intro p e s m args below meth c s₁ B hml hv
  obtain ⟨rfl, hR, hE⟩ := hv
  have F : Fx Γ p s m meth c _ cX7_put 6 RX7 wsX7_put (some .int) := ⟨⟨B.exec, B.bytes, hml, findClass_of_methodNamed B.named, atoms_spec (ws := wsX7_put) B.pre⟩, hE, B.notSynchronized, B.returns⟩
  have hl := lv_entry ([.ref o, .long p1, .long p2]) (n := 6) (Nat.le_of_ble_eq_true rfl)
  rw [lg_entry_eq]
  generalize (lg_sl ([.ref o, .long p1, .long p2]) ++ List.replicate (6 - (lg_sl ([.ref o, .long p1, .long p2])).length) Slot.unset).toArray = ls at hl ⊢
  have hl : lv_has ls 6 [(0, .ref o), (1, .long p1), (3, .long p2)] := hl
  exact bX7_put F h hR va_S.rf hl ⟨by show _ + _ ≤ _; omega, by show _ + _ ≤ _; omega⟩
/-! X7_window -/
theorem mX7_window_0 : Cond.fieldLink RX7 111 "ClearingFiles$Bank" "output" "LClearingFiles$Output;" ∈ wsX7_window := by decide +kernel
theorem nX7_window_X1 : ∀ w ∈ u_ws RX1 TX1 6, w ∈ wsX7_window := fun _ h => List.mem_cons_of_mem _ (List.mem_append_left _ (List.mem_append_left _ (List.mem_append_left _ (List.mem_append_left _ (List.mem_append_left _ (List.mem_append_right _ h))))))
abbrev rmX7_window : Room := { frames := 9, cells := 130, slots := 16640, locals := 269 }
set_option maxRecDepth 100000 in
def wX7_window (o : Nat) (p1 : Int32) (post : Int32 → St → Prop) (σ0 : St) : Prop :=
  sK σ0 o = 8 ∧ (wX7_bankAt o p1 (fun (r4 : Option Nat) (σ2 : St) => (r4 = none → (post (-1 : Int32) σ2)) ∧ (¬ r4 = none → (∃ a7 : Nat, r4 = some a7 ∧ (sK σ2 a7 = 2 ∧ (∀ r9 : Option Nat, r9 = sR σ2 104 a7 0 → (∃ a10 : Nat, r9 = some a10 ∧ (sK σ2 a10 = 6 ∧ (wX5_isDone a10 (fun (x14 : Int32) (σ12 : St) => (x14 = 0 → (post (-4 : Int32) σ12)) ∧ (¬ x14 = 0 → (sK σ12 a7 = 2 ∧ (∀ r17 : Option Nat, r17 = sR σ12 104 a7 0 → (∃ a18 : Nat, r17 = some a18 ∧ (sK σ12 a18 = 6 ∧ (wX5_clear a18 (fun (σ20 : St) => wX7_handOutReturns (some a7) (fun (σ22 : St) => sK σ22 o = 8 ∧ (wX7_handOutEntries o (some a7) (fun (σ25 : St) => sK σ25 a7 = 2 ∧ (∀ r28 : Option Nat, r28 = sR σ25 104 a7 0 → (∃ a29 : Nat, r28 = some a29 ∧ (sK σ25 a29 = 6 ∧ (wX5_size a29 (fun (x33 : Int32) (σ31 : St) => post x33 σ31) σ25))))) σ22)) σ20) σ12))))))) σ2)))))))) σ0)
set_option maxHeartbeats 4000000 in
set_option maxRecDepth 100000 in
theorem bX7_window {p : Program} {l : Launch} {e : Env} {s : State} {m : MethodId} {args : Array Value} {below : List Frame} {meth : Method} {c : Code} {Γ : rGam} {o : Nat} {post : Int32 → St → Prop} (F : Fx Γ p s m meth c args cX7_window 3 RX7 wsX7_window (some .int)) {H : Heap} {locs : List Loc} {ls : Array Slot} {cells slots : Nat} {p1 : Int32} {σ0 : St} (h : wX7_window o p1 post σ0) (hR : Rep Γ σ0 H) (hS : va_S (rA Γ) s.heap H locs) (hl : lv_has ls 3 [(0, .ref o), (1, .int p1)]) (hc : cells + 130 ≤ 130 ∧ slots + 16640 ≤ 16640) : W p l e rmX7_window s m args below meth c H locs cells slots (rQi Γ below post args s 130 16640) (F0 m 0 ls []) := by
  have hx := F.1.1
  have hb := F.1.2.1
  unfold wX7_window at h
  refine lv_aload_n hx hb dX7_window_0 rfl (lv_at hl 0 rfl) ?_
  refine lv_iload_n hx hb dX7_window_1 rfl (lv_at hl 1 rfl) ?_
  obtain ⟨k1, h⟩ := h
  refine s_cq hS (k_runV F hR hS hl 1 [.int p1] (kX7_bankAt l Γ o p1 _ _ h) gX7_window_X7_bankAt rfl rfl rfl (by decide +kernel) ⟨Nat.le_of_ble_eq_true rfl, Nat.le_of_ble_eq_true rfl⟩ (s_recv F hR k1 (by decide) (C := RX7) (T := TX7) (N := 7) rfl) rfl (Nat.le_of_ble_eq_true rfl) dX7_window_2 ⟨by show _ ≤ 130; omega, by show _ ≤ 16640; omega⟩) (fun r4 σ2 H locs h3 hR hS => ?_)
  refine s_astore_n (r := r4) (lk := [(1, .int p1)]) (lv' := [(2, va_rf r4), (0, .ref o), (1, .int p1)]) hx hb dX7_window_5 rfl hl (by decide) rfl (lk_1 rfl) rfl (fun ls hl5 => ?_)
  refine s_aload_n hx hb dX7_window_6 rfl (lv_at hl5 0 rfl) ?_
  refine s_ifnonnull (r := r4) hx hb dX7_window_7 (tgt := 12) (by decide) (fun c6 => ?_) (fun c6 => ?_)
  · replace h3 := h3.2 c6
    refine s_aload_n hx hb dX7_window_12 rfl (lv_at hl5 0 rfl) ?_
    obtain ⟨a7, ea7, h3⟩ := h3
    subst ea7
    obtain ⟨k8, h3⟩ := h3
    refine s_getR F hR k8 (by decide) (C := RX1) (T := TX1) (N := 6) rfl nX7_window_X1 4 (by decide) mX7_window_0 (f := 104) rfl dX7_window_13 (fun r9 er9 => ?_)
    replace h3 := h3 r9 er9
    obtain ⟨a10, ea10, h3⟩ := h3
    subst ea10
    obtain ⟨k11, h3⟩ := h3
    refine s_ci hS (k_runV F hR hS hl5 0 [] (kX5_isDone l Γ a10 _ _ h3) gX7_window_X5_isDone rfl rfl rfl (by decide +kernel) ⟨Nat.le_of_ble_eq_true rfl, Nat.le_of_ble_eq_true rfl⟩ (s_recv F hR k11 (by decide) (C := RX5) (T := TX5) (N := 4) rfl) rfl (Nat.le_of_ble_eq_true rfl) dX7_window_16 ⟨by show _ ≤ 130; omega, by show _ ≤ 16640; omega⟩) (fun x14 σ12 H locs h13 hR hS => ?_)
    refine lv_if_ne (tgt := 25) hx hb dX7_window_19 (by decide) (fun c15 => ?_) (fun c15 => ?_)
    · replace h13 := h13.2 c15
      refine lv_aload_n hx hb dX7_window_25 rfl (lv_at hl5 0 rfl) ?_
      obtain ⟨k16, h13⟩ := h13
      refine s_getR F hR k16 (by decide) (C := RX1) (T := TX1) (N := 6) rfl nX7_window_X1 4 (by decide) mX7_window_0 (f := 104) rfl dX7_window_26 (fun r17 er17 => ?_)
      replace h13 := h13 r17 er17
      obtain ⟨a18, ea18, h13⟩ := h13
      subst ea18
      obtain ⟨k19, h13⟩ := h13
      refine s_cv hS (k_runV F hR hS hl5 0 [] (kX5_clear l Γ a18 _ _ h13) gX7_window_X5_clear rfl rfl rfl (by decide +kernel) ⟨Nat.le_of_ble_eq_true rfl, Nat.le_of_ble_eq_true rfl⟩ (s_recv F hR k19 (by decide) (C := RX5) (T := TX5) (N := 4) rfl) rfl (Nat.le_of_ble_eq_true rfl) dX7_window_29 ⟨by show _ ≤ 130; omega, by show _ ≤ 16640; omega⟩) (fun σ20 H locs h21 hR hS => ?_)
      refine lv_aload_n hx hb dX7_window_32 rfl (lv_at hl5 0 rfl) ?_
      refine s_cv hS (k_runS F hR hS hl5 1 [.ref a7] (kX7_handOutReturns l Γ (some a7) _ _ h21) gX7_window_X7_handOutReturns rfl rfl rfl (by decide +kernel) ⟨Nat.le_of_ble_eq_true rfl, Nat.le_of_ble_eq_true rfl⟩ rfl (Nat.le_of_ble_eq_true rfl) dX7_window_33 ⟨by show _ ≤ 130; omega, by show _ ≤ 16640; omega⟩) (fun σ22 H locs h23 hR hS => ?_)
      refine lv_aload_n hx hb dX7_window_36 rfl (lv_at hl5 1 rfl) ?_
      refine lv_aload_n hx hb dX7_window_37 rfl (lv_at hl5 0 rfl) ?_
      obtain ⟨k24, h23⟩ := h23
      refine s_cv hS (k_runV F hR hS hl5 1 [.ref a7] (kX7_handOutEntries l Γ o (some a7) _ _ h23) gX7_window_X7_handOutEntries rfl rfl rfl (by decide +kernel) ⟨Nat.le_of_ble_eq_true rfl, Nat.le_of_ble_eq_true rfl⟩ (s_recv F hR k24 (by decide) (C := RX7) (T := TX7) (N := 7) rfl) rfl (Nat.le_of_ble_eq_true rfl) dX7_window_38 ⟨by show _ ≤ 130; omega, by show _ ≤ 16640; omega⟩) (fun σ25 H locs h26 hR hS => ?_)
      refine lv_aload_n hx hb dX7_window_41 rfl (lv_at hl5 0 rfl) ?_
      obtain ⟨k27, h26⟩ := h26
      refine s_getR F hR k27 (by decide) (C := RX1) (T := TX1) (N := 6) rfl nX7_window_X1 4 (by decide) mX7_window_0 (f := 104) rfl dX7_window_42 (fun r28 er28 => ?_)
      replace h26 := h26 r28 er28
      obtain ⟨a29, ea29, h26⟩ := h26
      subst ea29
      obtain ⟨k30, h26⟩ := h26
      refine s_ci hS (k_runV F hR hS hl5 0 [] (kX5_size l Γ a29 _ _ h26) gX7_window_X5_size rfl rfl rfl (by decide +kernel) ⟨Nat.le_of_ble_eq_true rfl, Nat.le_of_ble_eq_true rfl⟩ (s_recv F hR k30 (by decide) (C := RX5) (T := TX5) (N := 4) rfl) rfl (Nat.le_of_ble_eq_true rfl) dX7_window_45 ⟨by show _ ≤ 130; omega, by show _ ≤ 16640; omega⟩) (fun x33 σ31 H locs h32 hR hS => ?_)
      exact s_iret F hR hS h32 (by omega) dX7_window_48
    · replace h13 := h13.1 c15
      refine lv_bipush (v := -4) hx hb dX7_window_22 (by decide) ?_
      exact s_iret F hR hS h13 (by omega) dX7_window_24
  · replace h3 := h3.1 c6
    refine lv_iconst (v := -1) hx hb dX7_window_10 (by decide) ?_
    exact s_iret F hR hS h3 (by omega) dX7_window_11
set_option maxHeartbeats 4000000 in
set_option maxRecDepth 100000 in
theorem kX7_window (l : Launch) (Γ : rGam) (o : Nat) (p1 : Int32) (post : Int32 → St → Prop) (σ0 : St) (h : wX7_window o p1 post σ0) : Met l yX7_window wsX7_window rmX7_window (rPc Γ vwCl [.ref o, .int p1] (Rep Γ σ0)) (va_Qi post (fun σ' t => Rep Γ σ' t.heap) (rA Γ)) 130 16640 (rA Γ) := by
  refine Met.ofW (cc := cX7_window) (maxL := 3) (ret := (some .int)) (by decide) rfl ?_
  intro p e s m args below meth c s₁ B hml hv
  obtain ⟨rfl, hR, hE⟩ := hv
  have F : Fx Γ p s m meth c _ cX7_window 3 RX7 wsX7_window (some .int) := ⟨⟨B.exec, B.bytes, hml, findClass_of_methodNamed B.named, atoms_spec (ws := wsX7_window) B.pre⟩, hE, B.notSynchronized, B.returns⟩
  have hl := lv_entry ([.ref o, .int p1]) (n := 3) (Nat.le_of_ble_eq_true rfl)
  rw [lg_entry_eq]
  generalize (lg_sl ([.ref o, .int p1]) ++ List.replicate (3 - (lg_sl ([.ref o, .int p1])).length) Slot.unset).toArray = ls at hl ⊢
  have hl : lv_has ls 3 [(0, .ref o), (1, .int p1)] := hl
  exact bX7_window F h hR va_S.rf hl ⟨by show _ + _ ≤ _; omega, by show _ + _ ≤ _; omega⟩
/-! X7_post -/
theorem mX7_post_0 : Cond.fieldLink RX7 111 "ClearingFiles$Bank" "output" "LClearingFiles$Output;" ∈ wsX7_post := by decide +kernel
theorem mX7_post_1 : Cond.fieldLink RX7 132 "ClearingFiles$Output" "done" "I" ∈ wsX7_post := by decide +kernel
theorem mX7_post_2 : Cond.methodLink RX7 135 Lib.Math.min.name ∈ wsX7_post := by decide +kernel
theorem mX7_post_3 : Cond.static Lib.Math.min.name ∈ wsX7_post := by decide +kernel
theorem mX7_post_4 : Cond.initialized "java/lang/Math" ∈ wsX7_post := by decide +kernel
theorem mX7_post_5 : Cond.code Lib.Math.min.name Lib.Math.min.code 2 (some .int) ∈ wsX7_post := by decide +kernel
theorem mX7_post_6 : Cond.fieldLink RX7 144 "ClearingFiles$Output" "entries" "Ljava/util/ArrayList;" ∈ wsX7_post := by decide +kernel
theorem mX7_post_7 : Cond.classLink RX7 151 "ClearingFiles$Entry" ∈ wsX7_post := by decide +kernel
theorem nX7_post_X1 : ∀ w ∈ u_ws RX1 TX1 6, w ∈ wsX7_post := fun _ h => List.mem_cons_of_mem _ (List.mem_append_left _ (List.mem_append_left _ (List.mem_append_left _ (List.mem_append_left _ (List.mem_append_left _ (List.mem_append_right _ h))))))
theorem nX7_post_X5 : ∀ w ∈ u_ws RX5 TX5 4, w ∈ wsX7_post := fun _ h => List.mem_cons_of_mem _ (List.mem_append_left _ (List.mem_append_left _ (List.mem_append_left _ (List.mem_append_left _ (List.mem_append_right _ h)))))
abbrev rmX7_post : Room := { frames := 9, cells := 41, slots := 5248, locals := 264 }
set_option maxRecDepth 100000 in
def wX7_post_56 (o : Nat) (post : Int32 → St → Prop) : Nat → Option Nat → Int32 → Int32 → Int32 → St → Prop
  | 0, _, _, _, _, _ => False
  | n + 1, r4, x5, x6, x7, σ0 =>
    (x5 ≤ x7 → (∃ a26 : Nat, r4 = some a26 ∧ (sK σ0 a26 = 6 ∧ (∀ σ28 : St, σ28 = uI σ0 303 a26 0 x5 → (post x6 σ28))))) ∧ (¬ x5 ≤ x7 → (∃ a29 : Nat, r4 = some a29 ∧ (sK σ0 a29 = 6 ∧ (wX5_isReturn a29 x7 (fun (x33 : Int32) (σ31 : St) => (x33 = 0 → (sK σ31 a29 = 6 ∧ (∀ r38 : Option Nat, r38 = sR σ31 300 a29 0 → (∃ a39 : Nat, r38 = some a39 ∧ (wL_get a39 x7 (fun (r43 : Option Nat) (σ41 : St) => ∃ a44 : Nat, r43 = some a44 ∧ (sK σ41 a44 = 4 ∧ (sK σ41 o = 8 ∧ (wX7_postOrSendBack o (some a44) (fun (x49 : Int32) (σ47 : St) => (x49 = 0 → (∀ x51 : Int32, x51 = x7 + (1 : Int32) → (wX7_post_56 o post n (some a29) x5 x6 x51 σ47))) ∧ (¬ x49 = 0 → (∀ x53 : Int32, x53 = x6 + (1 : Int32) → (∀ x55 : Int32, x55 = x7 + (1 : Int32) → (wX7_post_56 o post n (some a29) x5 x53 x55 σ47))))) σ41)))) σ31))))) ∧ (¬ x33 = 0 → (∀ x35 : Int32, x35 = x7 + (1 : Int32) → (wX7_post_56 o post n (some a29) x5 x6 x35 σ31)))) σ0))))
set_option maxHeartbeats 4000000 in
set_option maxRecDepth 100000 in
theorem bX7_post_56 {p : Program} {l : Launch} {e : Env} {s : State} {m : MethodId} {args : Array Value} {below : List Frame} {meth : Method} {c : Code} {Γ : rGam} {o : Nat} {post : Int32 → St → Prop} (F : Fx Γ p s m meth c args cX7_post 8 RX7 wsX7_post (some .int)) : ∀ (n : Nat) (r4 : Option Nat) (x5 : Int32) (x6 : Int32) (x7 : Int32) (σ0 : St) (H : Heap) (locs : List Loc) (ls : Array Slot) (cells slots : Nat), wX7_post_56 o post n r4 x5 x6 x7 σ0 → Rep Γ σ0 H → va_S (rA Γ) s.heap H locs → lv_has ls 8 [(0, .ref o), (4, va_rf r4), (5, .int x5), (6, .int x6), (7, .int x7)] → cells + n * 1 + 0 ≤ 41 ∧ slots + n * 128 + 0 ≤ 5248 → W p l e rmX7_post s m args below meth c H locs cells slots (rQi Γ below post args s 41 5248) (F0 m 56 ls []) := by
  have hx := F.1.1
  have hb := F.1.2.1
  intro n
  induction n with
  | zero =>
    intro r4 x5 x6 x7 σ0 H locs ls cells slots h
    exact absurd h (by unfold wX7_post_56; exact id)
  | succ n ih =>
    intro r4 x5 x6 x7 σ0 H locs ls cells slots h hR hS hl hc
    unfold wX7_post_56 at h
    refine lv_iload hx hb dX7_post_56 (lv_at hl 4 rfl) ?_
    refine lv_iload hx hb dX7_post_58 (lv_at hl 2 rfl) ?_
    refine lv_icmp_ge (tgt := 102) hx hb dX7_post_60 (by decide) (fun c25 => ?_) (fun c25 => ?_)
    · replace h := h.1 c25
      refine s_aload hx hb dX7_post_102 (lv_at hl 1 rfl) ?_
      refine lv_iload hx hb dX7_post_104 (lv_at hl 2 rfl) ?_
      obtain ⟨a26, ea26, h⟩ := h
      subst ea26
      obtain ⟨k27, h⟩ := h
      refine s_putI (v := x5) F hR hS k27 (by decide) (C := RX5) (T := TX5) (N := 4) rfl nX7_post_X5 tyX5 tyX5_ok nmX5 3 (by decide) mX7_post_1 (Or.inl rfl) rfl rfl (f := 303) rfl rnd_6 dX7_post_106 (fun σ28 eσ28 H locs hR hS => ?_)
      replace h := h σ28 eσ28
      refine lv_iload hx hb dX7_post_109 (lv_at hl 3 rfl) ?_
      exact s_iret F hR hS h (by omega) dX7_post_111
    · replace h := h.2 c25
      refine s_aload hx hb dX7_post_63 (lv_at hl 1 rfl) ?_
      refine lv_iload hx hb dX7_post_65 (lv_at hl 4 rfl) ?_
      obtain ⟨a29, ea29, h⟩ := h
      subst ea29
      obtain ⟨k30, h⟩ := h
      refine s_ci hS (k_runV F hR hS hl 1 [.int x7] (kX5_isReturn l Γ a29 x7 _ _ h) gX7_post_X5_isReturn rfl rfl rfl (by decide +kernel) ⟨Nat.le_of_ble_eq_true rfl, Nat.le_of_ble_eq_true rfl⟩ (s_recv F hR k30 (by decide) (C := RX5) (T := TX5) (N := 4) rfl) rfl (Nat.le_of_ble_eq_true rfl) dX7_post_67 ⟨by show _ ≤ 41; omega, by show _ ≤ 5248; omega⟩) (fun x33 σ31 H locs h32 hR hS => ?_)
      refine lv_if_ne (tgt := 96) hx hb dX7_post_70 (by decide) (fun c34 => ?_) (fun c34 => ?_)
      · replace h32 := h32.2 c34
        obtain ⟨x35, ex35⟩ : ∃ x : Int32, x = x7 + (1 : Int32) := ⟨_, rfl⟩
        replace h32 := h32 x35 ex35
        refine s_iinc (v := x35) (d := 1) (lk := [(6, .int x6)]) (lv' := [(7, .int x35), (0, .ref o), (4, .ref a29), (5, .int x5), (6, .int x6)]) hx hb dX7_post_96 hl (k := 4) rfl (by decide) (by decide) rfl (lk_1 rfl) ex35 rfl (fun ls hl36 => ?_)
        refine lv_goto (tgt := 56) hx hb dX7_post_99 (by decide) ?_
        exact ih (some a29) x5 x6 x35 σ31 _ _ _ _ _ h32 hR hS (lv_sub hl36 [1, 2, 3, 4, 0] rfl) (by omega)
      · replace h32 := h32.1 c34
        refine lv_aload_n hx hb dX7_post_73 rfl (lv_at hl 0 rfl) ?_
        refine lv_aload hx hb dX7_post_74 (lv_at hl 1 rfl) ?_
        obtain ⟨k37, h32⟩ := h32
        refine s_getR F hR k37 (by decide) (C := RX5) (T := TX5) (N := 4) rfl nX7_post_X5 0 (by decide) mX7_post_6 (f := 300) rfl dX7_post_76 (fun r38 er38 => ?_)
        replace h32 := h32 r38 er38
        refine lv_iload hx hb dX7_post_79 (lv_at hl 4 rfl) ?_
        obtain ⟨a39, ea39, h32⟩ := h32
        subst ea39
        have k40 := h32.1
        refine s_cq hS (k_runV F hR hS hl 1 [.int x7] (kL_get l Γ a39 x7 _ _ h32) gX7_post_Jx4a65c_get_915e3 rfl rfl rfl (by decide +kernel) ⟨Nat.le_of_ble_eq_true rfl, Nat.le_of_ble_eq_true rfl⟩ (s_recv F hR rfl (by omega) (C := RJx4a65c) (T := TJx4a65c) (N := 3) (by unfold rCi; rw [if_neg (by omega)]; rfl)) rfl (Nat.le_of_ble_eq_true rfl) dX7_post_81 ⟨by show _ ≤ 41; omega, by show _ ≤ 5248; omega⟩) (fun r43 σ41 H locs h42 hR hS => ?_)
        obtain ⟨a44, ea44, h42⟩ := h42
        subst ea44
        obtain ⟨k45, h42⟩ := h42
        refine s_cast F hR k45 (by decide) (T := TX3) (N := 9) rfl mX7_post_7 dX7_post_84 ?_
        obtain ⟨k46, h42⟩ := h42
        refine s_ci hS (k_runV F hR hS hl 1 [.ref a44] (kX7_postOrSendBack l Γ o (some a44) _ _ h42) gX7_post_X7_postOrSendBack rfl rfl rfl (by decide +kernel) ⟨Nat.le_of_ble_eq_true rfl, Nat.le_of_ble_eq_true rfl⟩ (s_recv F hR k46 (by decide) (C := RX7) (T := TX7) (N := 7) rfl) rfl (Nat.le_of_ble_eq_true rfl) dX7_post_87 ⟨by show _ ≤ 41; omega, by show _ ≤ 5248; omega⟩) (fun x49 σ47 H locs h48 hR hS => ?_)
        refine lv_if_eq (tgt := 96) hx hb dX7_post_90 (by decide) (fun c50 => ?_) (fun c50 => ?_)
        · replace h48 := h48.1 c50
          obtain ⟨x51, ex51⟩ : ∃ x : Int32, x = x7 + (1 : Int32) := ⟨_, rfl⟩
          replace h48 := h48 x51 ex51
          refine s_iinc (v := x51) (d := 1) (lk := [(6, .int x6)]) (lv' := [(7, .int x51), (0, .ref o), (4, .ref a29), (5, .int x5), (6, .int x6)]) hx hb dX7_post_96 hl (k := 4) rfl (by decide) (by decide) rfl (lk_1 rfl) ex51 rfl (fun ls hl52 => ?_)
          refine lv_goto (tgt := 56) hx hb dX7_post_99 (by decide) ?_
          exact ih (some a29) x5 x6 x51 σ47 _ _ _ _ _ h48 hR hS (lv_sub hl52 [1, 2, 3, 4, 0] rfl) (by omega)
        · replace h48 := h48.2 c50
          obtain ⟨x53, ex53⟩ : ∃ x : Int32, x = x6 + (1 : Int32) := ⟨_, rfl⟩
          replace h48 := h48 x53 ex53
          refine s_iinc (v := x53) (d := 1) (lk := [(5, .int x5)]) (lv' := [(6, .int x53), (0, .ref o), (4, .ref a29), (5, .int x5), (7, .int x7)]) hx hb dX7_post_93 hl (k := 3) rfl (by decide) (by decide) rfl (lk_1 rfl) ex53 rfl (fun ls hl54 => ?_)
          obtain ⟨x55, ex55⟩ : ∃ x : Int32, x = x7 + (1 : Int32) := ⟨_, rfl⟩
          replace h48 := h48 x55 ex55
          refine s_iinc (v := x55) (d := 1) (lk := [(6, .int x53)]) (lv' := [(7, .int x55), (6, .int x53), (0, .ref o), (4, .ref a29), (5, .int x5)]) hx hb dX7_post_96 hl54 (k := 4) rfl (by decide) (by decide) rfl (lk_1 rfl) ex55 rfl (fun ls hl56 => ?_)
          refine lv_goto (tgt := 56) hx hb dX7_post_99 (by decide) ?_
          exact ih (some a29) x5 x53 x55 σ47 _ _ _ _ _ h48 hR hS (lv_sub hl56 [2, 3, 4, 1, 0] rfl) (by omega)

set_option maxRecDepth 100000 in
def wX7_post (o : Nat) (p1 : Int32) (p2 : Int32) (post : Int32 → St → Prop) (σ0 : St) : Prop :=
  sK σ0 o = 8 ∧ (wX7_bankAt o p1 (fun (r4 : Option Nat) (σ2 : St) => (r4 = none → (post (-1 : Int32) σ2)) ∧ (¬ r4 = none → ((p2 < (1 : Int32) → (post (-1 : Int32) σ2)) ∧ (¬ p2 < (1 : Int32) → ((p2 ≤ (40 : Int32) → (∃ a9 : Nat, r4 = some a9 ∧ (sK σ2 a9 = 2 ∧ (∀ r11 : Option Nat, r11 = sR σ2 104 a9 0 → (∃ a13 : Nat, r11 = some a13 ∧ (sK σ2 a13 = 6 ∧ (sK σ2 a13 = 6 ∧ (wX5_size a13 (fun (x18 : Int32) (σ16 : St) => ∀ x19 : Int32, x19 = (if x18 < ((sI σ2 303 a13 0) + p2) then x18 else ((sI σ2 303 a13 0) + p2)) → (sK σ16 a13 = 6 ∧ (∀ x23 : Int32, x23 = (sI σ16 303 a13 0) → (∃ n57 : Nat, n57 ≤ 41 ∧ wX7_post_56 o post n57 (some a13) x19 (0 : Int32) x23 σ16)))) σ2)))))))) ∧ (¬ p2 ≤ (40 : Int32) → (post (-1 : Int32) σ2))))))) σ0)
set_option maxHeartbeats 4000000 in
set_option maxRecDepth 100000 in
theorem bX7_post {p : Program} {l : Launch} {e : Env} {s : State} {m : MethodId} {args : Array Value} {below : List Frame} {meth : Method} {c : Code} {Γ : rGam} {o : Nat} {post : Int32 → St → Prop} (F : Fx Γ p s m meth c args cX7_post 8 RX7 wsX7_post (some .int)) {H : Heap} {locs : List Loc} {ls : Array Slot} {cells slots : Nat} {p1 : Int32} {p2 : Int32} {σ0 : St} (h : wX7_post o p1 p2 post σ0) (hR : Rep Γ σ0 H) (hS : va_S (rA Γ) s.heap H locs) (hl : lv_has ls 8 [(0, .ref o), (1, .int p1), (2, .int p2)]) (hc : cells + 41 ≤ 41 ∧ slots + 5248 ≤ 5248) : W p l e rmX7_post s m args below meth c H locs cells slots (rQi Γ below post args s 41 5248) (F0 m 0 ls []) := by
  have hx := F.1.1
  have hb := F.1.2.1
  unfold wX7_post at h
  refine lv_aload_n hx hb dX7_post_0 rfl (lv_at hl 0 rfl) ?_
  refine lv_iload_n hx hb dX7_post_1 rfl (lv_at hl 1 rfl) ?_
  obtain ⟨k1, h⟩ := h
  refine s_cq hS (k_runV F hR hS hl 1 [.int p1] (kX7_bankAt l Γ o p1 _ _ h) gX7_post_X7_bankAt rfl rfl rfl (by decide +kernel) ⟨Nat.le_of_ble_eq_true rfl, Nat.le_of_ble_eq_true rfl⟩ (s_recv F hR k1 (by decide) (C := RX7) (T := TX7) (N := 7) rfl) rfl (Nat.le_of_ble_eq_true rfl) dX7_post_2 ⟨by show _ ≤ 41; omega, by show _ ≤ 5248; omega⟩) (fun r4 σ2 H locs h3 hR hS => ?_)
  refine s_astore_n (r := r4) (lk := [(2, .int p2)]) (lv' := [(3, va_rf r4), (0, .ref o), (1, .int p1), (2, .int p2)]) hx hb dX7_post_5 rfl hl (by decide) rfl (lk_1 rfl) rfl (fun ls hl5 => ?_)
  refine s_aload_n hx hb dX7_post_6 rfl (lv_at hl5 0 rfl) ?_
  refine s_ifnull (r := r4) hx hb dX7_post_7 (tgt := 21) (by decide) (fun c6 => ?_) (fun c6 => ?_)
  · replace h3 := h3.1 c6
    refine lv_iconst (v := -1) hx hb dX7_post_21 (by decide) ?_
    exact s_iret F hR hS h3 (by omega) dX7_post_22
  · replace h3 := h3.2 c6
    refine lv_iload_n hx hb dX7_post_10 rfl (lv_at hl5 3 rfl) ?_
    refine lv_iconst (v := 1) hx hb dX7_post_11 (by decide) ?_
    refine lv_icmp_lt (tgt := 21) hx hb dX7_post_12 (by decide) (fun c7 => ?_) (fun c7 => ?_)
    · replace h3 := h3.1 c7
      refine lv_iconst (v := -1) hx hb dX7_post_21 (by decide) ?_
      exact s_iret F hR hS h3 (by omega) dX7_post_22
    · replace h3 := h3.2 c7
      refine lv_iload_n hx hb dX7_post_15 rfl (lv_at hl5 3 rfl) ?_
      refine lv_bipush (v := 40) hx hb dX7_post_16 (by decide) ?_
      refine lv_icmp_le (tgt := 23) hx hb dX7_post_18 (by decide) (fun c8 => ?_) (fun c8 => ?_)
      · replace h3 := h3.1 c8
        refine s_aload_n hx hb dX7_post_23 rfl (lv_at hl5 0 rfl) ?_
        obtain ⟨a9, ea9, h3⟩ := h3
        subst ea9
        obtain ⟨k10, h3⟩ := h3
        refine s_getR F hR k10 (by decide) (C := RX1) (T := TX1) (N := 6) rfl nX7_post_X1 4 (by decide) mX7_post_0 (f := 104) rfl dX7_post_24 (fun r11 er11 => ?_)
        replace h3 := h3 r11 er11
        refine s_astore (r := r11) (lk := [(3, .ref a9)]) (lv' := [(4, va_rf r11), (3, .ref a9), (0, .ref o), (1, .int p1), (2, .int p2)]) hx hb dX7_post_27 hl5 (by decide) rfl (lk_1 rfl) rfl (fun ls hl12 => ?_)
        refine s_aload hx hb dX7_post_29 (lv_at hl12 0 rfl) ?_
        obtain ⟨a13, ea13, h3⟩ := h3
        subst ea13
        obtain ⟨k14, h3⟩ := h3
        refine s_getI F hR k14 (by decide) (C := RX5) (T := TX5) (N := 4) rfl nX7_post_X5 3 (by decide) mX7_post_1 (f := 303) rfl dX7_post_31 ?_
        refine lv_iload_n hx hb dX7_post_34 rfl (lv_at hl12 4 rfl) ?_
        refine lv_iadd hx hb dX7_post_35 ?_
        refine lv_aload hx hb dX7_post_36 (lv_at hl12 0 rfl) ?_
        obtain ⟨k15, h3⟩ := h3
        refine s_ci hS (k_runV F hR hS hl12 0 [] (kX5_size l Γ a13 _ _ h3) gX7_post_X5_size rfl rfl rfl (by decide +kernel) ⟨Nat.le_of_ble_eq_true rfl, Nat.le_of_ble_eq_true rfl⟩ (s_recv F hR k15 (by decide) (C := RX5) (T := TX5) (N := 4) rfl) rfl (Nat.le_of_ble_eq_true rfl) dX7_post_38 ⟨by show _ ≤ 41; omega, by show _ ≤ 5248; omega⟩) (fun x18 σ16 H locs h17 hR hS => ?_)
        refine va_mmin hx hb (F.1.2.2.1.trans hl12.1.symm) F.1.2.2.2.1 (F.1.2.2.2.2 _ mX7_post_2) (F.1.2.2.2.2 _ mX7_post_3) (F.1.2.2.2.2 _ mX7_post_4) (F.1.2.2.2.2 _ mX7_post_5) (Nat.le_of_ble_eq_true rfl) (Nat.le_of_ble_eq_true rfl) (by show _ ≤ 41; omega) (by show _ ≤ 5248; omega) dX7_post_41 ?_
        refine lv_topi (fun x19 ex19 => ?_)
        replace h17 := h17 x19 ex19
        refine s_istore (lk := [(4, .ref a13)]) (lv' := [(5, .int x19), (4, .ref a13), (3, .ref a9), (0, .ref o), (1, .int p1), (2, .int p2)]) hx hb dX7_post_44 hl12 (by decide) rfl (lk_1 rfl) rfl (fun ls hl20 => ?_)
        refine lv_iconst (v := 0) hx hb dX7_post_46 (by decide) ?_
        refine s_istore (lk := [(5, .int x19)]) (lv' := [(6, .int (0 : Int32)), (5, .int x19), (4, .ref a13), (3, .ref a9), (0, .ref o), (1, .int p1), (2, .int p2)]) hx hb dX7_post_47 hl20 (by decide) rfl (lk_1 rfl) rfl (fun ls hl21 => ?_)
        refine lv_aload hx hb dX7_post_49 (lv_at hl21 2 rfl) ?_
        obtain ⟨k22, h17⟩ := h17
        refine s_getI F hR k22 (by decide) (C := RX5) (T := TX5) (N := 4) rfl nX7_post_X5 3 (by decide) mX7_post_1 (f := 303) rfl dX7_post_51 ?_
        refine lv_topi (fun x23 ex23 => ?_)
        replace h17 := h17 x23 ex23
        refine s_istore (lk := [(6, .int (0 : Int32))]) (lv' := [(7, .int x23), (6, .int (0 : Int32)), (5, .int x19), (4, .ref a13), (3, .ref a9), (0, .ref o), (1, .int p1), (2, .int p2)]) hx hb dX7_post_54 hl21 (by decide) rfl (lk_1 rfl) rfl (fun ls hl24 => ?_)
        obtain ⟨n57, hn, h17⟩ := h17
        exact bX7_post_56 F n57 (some a13) x19 (0 : Int32) x23 σ16 _ _ _ _ _ h17 hR hS (lv_sub hl24 [5, 3, 2, 1, 0] rfl) (by omega)
      · replace h3 := h3.2 c8
        refine lv_iconst (v := -1) hx hb dX7_post_21 (by decide) ?_
        exact s_iret F hR hS h3 (by omega) dX7_post_22
set_option maxHeartbeats 4000000 in
set_option maxRecDepth 100000 in
theorem kX7_post (l : Launch) (Γ : rGam) (o : Nat) (p1 : Int32) (p2 : Int32) (post : Int32 → St → Prop) (σ0 : St) (h : wX7_post o p1 p2 post σ0) : Met l yX7_post wsX7_post rmX7_post (rPc Γ vwCl [.ref o, .int p1, .int p2] (Rep Γ σ0)) (va_Qi post (fun σ' t => Rep Γ σ' t.heap) (rA Γ)) 41 5248 (rA Γ) := by
  refine Met.ofW (cc := cX7_post) (maxL := 8) (ret := (some .int)) (by decide) rfl ?_
  intro p e s m args below meth c s₁ B hml hv
  obtain ⟨rfl, hR, hE⟩ := hv
  have F : Fx Γ p s m meth c _ cX7_post 8 RX7 wsX7_post (some .int) := ⟨⟨B.exec, B.bytes, hml, findClass_of_methodNamed B.named, atoms_spec (ws := wsX7_post) B.pre⟩, hE, B.notSynchronized, B.returns⟩
  have hl := lv_entry ([.ref o, .int p1, .int p2]) (n := 8) (Nat.le_of_ble_eq_true rfl)
  rw [lg_entry_eq]
  generalize (lg_sl ([.ref o, .int p1, .int p2]) ++ List.replicate (8 - (lg_sl ([.ref o, .int p1, .int p2])).length) Slot.unset).toArray = ls at hl ⊢
  have hl : lv_has ls 8 [(0, .ref o), (1, .int p1), (2, .int p2)] := hl
  exact bX7_post F h hR va_S.rf hl ⟨by show _ + _ ≤ _; omega, by show _ + _ ≤ _; omega⟩
/-! X7_items -/
theorem mX7_items_0 : Cond.fieldLink RX7 111 "ClearingFiles$Bank" "output" "LClearingFiles$Output;" ∈ wsX7_items := by decide +kernel
theorem nX7_items_X1 : ∀ w ∈ u_ws RX1 TX1 6, w ∈ wsX7_items := fun _ h => List.mem_cons_of_mem _ (List.mem_append_left _ (List.mem_append_left _ (List.mem_append_left _ (List.mem_append_right _ h))))
abbrev rmX7_items : Room := { frames := 4, cells := 0, slots := 0, locals := 122 }
set_option maxRecDepth 100000 in
def wX7_items (o : Nat) (p1 : Int32) (post : Int32 → St → Prop) (σ0 : St) : Prop :=
  sK σ0 o = 8 ∧ (wX7_bankAt o p1 (fun (r4 : Option Nat) (σ2 : St) => (r4 = none → (post (-1 : Int32) σ2)) ∧ (¬ r4 = none → (∃ a7 : Nat, r4 = some a7 ∧ (sK σ2 a7 = 2 ∧ (∀ r9 : Option Nat, r9 = sR σ2 104 a7 0 → (∃ a10 : Nat, r9 = some a10 ∧ (sK σ2 a10 = 6 ∧ (wX5_size a10 (fun (x14 : Int32) (σ12 : St) => post x14 σ12) σ2)))))))) σ0)
set_option maxHeartbeats 4000000 in
set_option maxRecDepth 100000 in
theorem bX7_items {p : Program} {l : Launch} {e : Env} {s : State} {m : MethodId} {args : Array Value} {below : List Frame} {meth : Method} {c : Code} {Γ : rGam} {o : Nat} {post : Int32 → St → Prop} (F : Fx Γ p s m meth c args cX7_items 3 RX7 wsX7_items (some .int)) {H : Heap} {locs : List Loc} {ls : Array Slot} {cells slots : Nat} {p1 : Int32} {σ0 : St} (h : wX7_items o p1 post σ0) (hR : Rep Γ σ0 H) (hS : va_S (rA Γ) s.heap H locs) (hl : lv_has ls 3 [(0, .ref o), (1, .int p1)]) (hc : cells ≤ 0 ∧ slots ≤ 0) : W p l e rmX7_items s m args below meth c H locs cells slots (rQi Γ below post args s 0 0) (F0 m 0 ls []) := by
  have hx := F.1.1
  have hb := F.1.2.1
  unfold wX7_items at h
  refine lv_aload_n hx hb dX7_items_0 rfl (lv_at hl 0 rfl) ?_
  refine lv_iload_n hx hb dX7_items_1 rfl (lv_at hl 1 rfl) ?_
  obtain ⟨k1, h⟩ := h
  refine s_cq hS (k_runV F hR hS hl 1 [.int p1] (kX7_bankAt l Γ o p1 _ _ h) gX7_items_X7_bankAt rfl rfl rfl (by decide +kernel) ⟨Nat.le_of_ble_eq_true rfl, Nat.le_of_ble_eq_true rfl⟩ (s_recv F hR k1 (by decide) (C := RX7) (T := TX7) (N := 7) rfl) rfl (Nat.le_of_ble_eq_true rfl) dX7_items_2 ⟨by show _ ≤ 0; omega, by show _ ≤ 0; omega⟩) (fun r4 σ2 H locs h3 hR hS => ?_)
  refine s_astore_n (r := r4) (lk := [(1, .int p1)]) (lv' := [(2, va_rf r4), (0, .ref o), (1, .int p1)]) hx hb dX7_items_5 rfl hl (by decide) rfl (lk_1 rfl) rfl (fun ls hl5 => ?_)
  refine s_aload_n hx hb dX7_items_6 rfl (lv_at hl5 0 rfl) ?_
  refine s_ifnonnull (r := r4) hx hb dX7_items_7 (tgt := 14) (by decide) (fun c6 => ?_) (fun c6 => ?_)
  · replace h3 := h3.2 c6
    refine s_aload_n hx hb dX7_items_14 rfl (lv_at hl5 0 rfl) ?_
    obtain ⟨a7, ea7, h3⟩ := h3
    subst ea7
    obtain ⟨k8, h3⟩ := h3
    refine s_getR F hR k8 (by decide) (C := RX1) (T := TX1) (N := 6) rfl nX7_items_X1 4 (by decide) mX7_items_0 (f := 104) rfl dX7_items_15 (fun r9 er9 => ?_)
    replace h3 := h3 r9 er9
    obtain ⟨a10, ea10, h3⟩ := h3
    subst ea10
    obtain ⟨k11, h3⟩ := h3
    refine s_ci hS (k_runV F hR hS hl5 0 [] (kX5_size l Γ a10 _ _ h3) gX7_items_X5_size rfl rfl rfl (by decide +kernel) ⟨Nat.le_of_ble_eq_true rfl, Nat.le_of_ble_eq_true rfl⟩ (s_recv F hR k11 (by decide) (C := RX5) (T := TX5) (N := 4) rfl) rfl (Nat.le_of_ble_eq_true rfl) dX7_items_18 ⟨by show _ ≤ 0; omega, by show _ ≤ 0; omega⟩) (fun x14 σ12 H locs h13 hR hS => ?_)
    exact s_iret F hR hS h13 hc dX7_items_21
  · replace h3 := h3.1 c6
    refine lv_iconst (v := -1) hx hb dX7_items_10 (by decide) ?_
    refine lv_goto (tgt := 21) hx hb dX7_items_11 (by decide) ?_
    exact s_iret F hR hS h3 hc dX7_items_21
set_option maxHeartbeats 4000000 in
set_option maxRecDepth 100000 in
theorem kX7_items (l : Launch) (Γ : rGam) (o : Nat) (p1 : Int32) (post : Int32 → St → Prop) (σ0 : St) (h : wX7_items o p1 post σ0) : Met l yX7_items wsX7_items rmX7_items (rPc Γ vwCl [.ref o, .int p1] (Rep Γ σ0)) (va_Qi post (fun σ' t => Rep Γ σ' t.heap) (rA Γ)) 0 0 (rA Γ) := by
  refine Met.ofW (cc := cX7_items) (maxL := 3) (ret := (some .int)) (by decide) rfl ?_
  intro p e s m args below meth c s₁ B hml hv
  obtain ⟨rfl, hR, hE⟩ := hv
  have F : Fx Γ p s m meth c _ cX7_items 3 RX7 wsX7_items (some .int) := ⟨⟨B.exec, B.bytes, hml, findClass_of_methodNamed B.named, atoms_spec (ws := wsX7_items) B.pre⟩, hE, B.notSynchronized, B.returns⟩
  have hl := lv_entry ([.ref o, .int p1]) (n := 3) (Nat.le_of_ble_eq_true rfl)
  rw [lg_entry_eq]
  generalize (lg_sl ([.ref o, .int p1]) ++ List.replicate (3 - (lg_sl ([.ref o, .int p1])).length) Slot.unset).toArray = ls at hl ⊢
  have hl : lv_has ls 3 [(0, .ref o), (1, .int p1)] := hl
  exact bX7_items F h hR va_S.rf hl ⟨Nat.le_refl 0, Nat.le_refl 0⟩
/-! X7_item -/
theorem mX7_item_0 : Cond.fieldLink RX7 111 "ClearingFiles$Bank" "output" "LClearingFiles$Output;" ∈ wsX7_item := by decide +kernel
theorem mX7_item_1 : Cond.fieldLink RX7 144 "ClearingFiles$Output" "entries" "Ljava/util/ArrayList;" ∈ wsX7_item := by decide +kernel
theorem mX7_item_2 : Cond.classLink RX7 151 "ClearingFiles$Entry" ∈ wsX7_item := by decide +kernel
theorem mX7_item_3 : Cond.fieldLink RX7 157 "ClearingFiles$Entry" "code" "I" ∈ wsX7_item := by decide +kernel
theorem mX7_item_4 : Cond.fieldLink RX7 167 "ClearingFiles$Entry" "originator" "LClearingFiles$Bank;" ∈ wsX7_item := by decide +kernel
theorem mX7_item_5 : Cond.fieldLink RX7 164 "ClearingFiles$Bank" "number" "I" ∈ wsX7_item := by decide +kernel
theorem mX7_item_6 : Cond.fieldLink RX7 160 "ClearingFiles$Entry" "receiver" "LClearingFiles$Bank;" ∈ wsX7_item := by decide +kernel
theorem mX7_item_7 : Cond.fieldLink RX7 170 "ClearingFiles$Entry" "account" "I" ∈ wsX7_item := by decide +kernel
theorem mX7_item_8 : Cond.fieldLink RX7 173 "ClearingFiles$Entry" "amount" "I" ∈ wsX7_item := by decide +kernel
theorem mX7_item_9 : Cond.fieldLink RX7 176 "ClearingFiles$Entry" "trace" "I" ∈ wsX7_item := by decide +kernel
theorem mX7_item_10 : Cond.fieldLink RX7 179 "ClearingFiles$Entry" "reason" "I" ∈ wsX7_item := by decide +kernel
theorem nX7_item_X1 : ∀ w ∈ u_ws RX1 TX1 6, w ∈ wsX7_item := fun _ h => List.mem_cons_of_mem _ (List.mem_append_left _ (List.mem_append_left _ (List.mem_append_left _ (List.mem_append_left _ (List.mem_append_right _ h)))))
theorem nX7_item_X5 : ∀ w ∈ u_ws RX5 TX5 4, w ∈ wsX7_item := fun _ h => List.mem_cons_of_mem _ (List.mem_append_left _ (List.mem_append_left _ (List.mem_append_left _ (List.mem_append_right _ h))))
theorem nX7_item_X3 : ∀ w ∈ u_ws RX3 TX3 9, w ∈ wsX7_item := fun _ h => List.mem_cons_of_mem _ (List.mem_append_left _ (List.mem_append_left _ (List.mem_append_right _ h)))
abbrev rmX7_item : Room := { frames := 4, cells := 0, slots := 0, locals := 122 }
set_option maxRecDepth 100000 in
def wX7_item (o : Nat) (p1 : Int32) (p2 : Int32) (p3 : Int32) (post : Int32 → St → Prop) (σ0 : St) : Prop :=
  sK σ0 o = 8 ∧ (wX7_bankAt o p1 (fun (r4 : Option Nat) (σ2 : St) => (r4 = none → (post (-1 : Int32) σ2)) ∧ (¬ r4 = none → ((p2 < 0 → (post (-1 : Int32) σ2)) ∧ (¬ p2 < 0 → (∃ a8 : Nat, r4 = some a8 ∧ (sK σ2 a8 = 2 ∧ (∀ r10 : Option Nat, r10 = sR σ2 104 a8 0 → (∃ a11 : Nat, r10 = some a11 ∧ (sK σ2 a11 = 6 ∧ (wX5_size a11 (fun (x15 : Int32) (σ13 : St) => (p2 < x15 → (sK σ13 a8 = 2 ∧ (∀ r18 : Option Nat, r18 = sR σ13 104 a8 0 → (∃ a19 : Nat, r18 = some a19 ∧ (sK σ13 a19 = 6 ∧ (∀ r21 : Option Nat, r21 = sR σ13 300 a19 0 → (∃ a22 : Nat, r21 = some a22 ∧ (wL_get a22 p2 (fun (r26 : Option Nat) (σ24 : St) => ∃ a27 : Nat, r26 = some a27 ∧ (sK σ24 a27 = 4 ∧ (sK σ24 a8 = 2 ∧ (∀ r31 : Option Nat, r31 = sR σ24 104 a8 0 → (∃ a32 : Nat, r31 = some a32 ∧ (sK σ24 a32 = 6 ∧ (wX5_isReturn a32 p2 (fun (x36 : Int32) (σ34 : St) => (p3 = 0 → (sK σ34 a27 = 4 ∧ (post (sI σ34 200 a27 0) σ34))) ∧ (¬ p3 = 0 → ((p3 = 1 → ((x36 = 0 → (sK σ34 a27 = 4 ∧ (∀ r43 : Option Nat, r43 = sR σ34 206 a27 0 → (∃ a44 : Nat, r43 = some a44 ∧ (sK σ34 a44 = 2 ∧ (post (sI σ34 100 a44 0) σ34)))))) ∧ (¬ x36 = 0 → (sK σ34 a27 = 4 ∧ (∀ r47 : Option Nat, r47 = sR σ34 207 a27 0 → (∃ a48 : Nat, r47 = some a48 ∧ (sK σ34 a48 = 2 ∧ (post (sI σ34 100 a48 0) σ34)))))))) ∧ (¬ p3 = 1 → ((p3 = 2 → (sK σ34 a27 = 4 ∧ (post (sI σ34 202 a27 0) σ34))) ∧ (¬ p3 = 2 → ((p3 = 3 → (sK σ34 a27 = 4 ∧ (post (sI σ34 203 a27 0) σ34))) ∧ (¬ p3 = 3 → ((p3 = 4 → (sK σ34 a27 = 4 ∧ (post (sI σ34 204 a27 0) σ34))) ∧ (¬ p3 = 4 → ((p3 = 5 → ((x36 = 0 → (post (0 : Int32) σ34)) ∧ (¬ x36 = 0 → (sK σ34 a27 = 4 ∧ (post (sI σ34 208 a27 0) σ34))))) ∧ (¬ p3 = 5 → ((p3 = 6 → (sK σ34 a8 = 2 ∧ (∀ r61 : Option Nat, r61 = sR σ34 104 a8 0 → (∃ a62 : Nat, r61 = some a62 ∧ (sK σ34 a62 = 6 ∧ (wX5_stateOf a62 p2 (fun (x66 : Int32) (σ64 : St) => post x66 σ64) σ34)))))) ∧ (¬ p3 = 6 → (post (-1 : Int32) σ34))))))))))))))) σ24))))))) σ13)))))))) ∧ (¬ p2 < x15 → (post (-1 : Int32) σ13))) σ2)))))))))) σ0)
set_option maxHeartbeats 4000000 in
set_option maxRecDepth 100000 in
theorem bX7_item {p : Program} {l : Launch} {e : Env} {s : State} {m : MethodId} {args : Array Value} {below : List Frame} {meth : Method} {c : Code} {Γ : rGam} {o : Nat} {post : Int32 → St → Prop} (F : Fx Γ p s m meth c args cX7_item 7 RX7 wsX7_item (some .int)) {H : Heap} {locs : List Loc} {ls : Array Slot} {cells slots : Nat} {p1 : Int32} {p2 : Int32} {p3 : Int32} {σ0 : St} (h : wX7_item o p1 p2 p3 post σ0) (hR : Rep Γ σ0 H) (hS : va_S (rA Γ) s.heap H locs) (hl : lv_has ls 7 [(0, .ref o), (1, .int p1), (2, .int p2), (3, .int p3)]) (hc : cells ≤ 0 ∧ slots ≤ 0) : W p l e rmX7_item s m args below meth c H locs cells slots (rQi Γ below post args s 0 0) (F0 m 0 ls []) := by
  have hx := F.1.1
  have hb := F.1.2.1
  unfold wX7_item at h
  refine lv_aload_n hx hb dX7_item_0 rfl (lv_at hl 0 rfl) ?_
  refine lv_iload_n hx hb dX7_item_1 rfl (lv_at hl 1 rfl) ?_
  obtain ⟨k1, h⟩ := h
  refine s_cq hS (k_runV F hR hS hl 1 [.int p1] (kX7_bankAt l Γ o p1 _ _ h) gX7_item_X7_bankAt rfl rfl rfl (by decide +kernel) ⟨Nat.le_of_ble_eq_true rfl, Nat.le_of_ble_eq_true rfl⟩ (s_recv F hR k1 (by decide) (C := RX7) (T := TX7) (N := 7) rfl) rfl (Nat.le_of_ble_eq_true rfl) dX7_item_2 ⟨by show _ ≤ 0; omega, by show _ ≤ 0; omega⟩) (fun r4 σ2 H locs h3 hR hS => ?_)
  refine s_astore (r := r4) (lk := [(3, .int p3)]) (lv' := [(4, va_rf r4), (0, .ref o), (1, .int p1), (2, .int p2), (3, .int p3)]) hx hb dX7_item_5 hl (by decide) rfl (lk_1 rfl) rfl (fun ls hl5 => ?_)
  refine s_aload hx hb dX7_item_7 (lv_at hl5 0 rfl) ?_
  refine s_ifnull (r := r4) hx hb dX7_item_9 (tgt := 28) (by decide) (fun c6 => ?_) (fun c6 => ?_)
  · replace h3 := h3.1 c6
    refine lv_iconst (v := -1) hx hb dX7_item_28 (by decide) ?_
    exact s_iret F hR hS h3 hc dX7_item_29
  · replace h3 := h3.2 c6
    refine lv_iload_n hx hb dX7_item_12 rfl (lv_at hl5 3 rfl) ?_
    refine lv_if_lt (tgt := 28) hx hb dX7_item_13 (by decide) (fun c7 => ?_) (fun c7 => ?_)
    · replace h3 := h3.1 c7
      refine lv_iconst (v := -1) hx hb dX7_item_28 (by decide) ?_
      exact s_iret F hR hS h3 hc dX7_item_29
    · replace h3 := h3.2 c7
      refine lv_iload_n hx hb dX7_item_16 rfl (lv_at hl5 3 rfl) ?_
      refine s_aload hx hb dX7_item_17 (lv_at hl5 0 rfl) ?_
      obtain ⟨a8, ea8, h3⟩ := h3
      subst ea8
      obtain ⟨k9, h3⟩ := h3
      refine s_getR F hR k9 (by decide) (C := RX1) (T := TX1) (N := 6) rfl nX7_item_X1 4 (by decide) mX7_item_0 (f := 104) rfl dX7_item_19 (fun r10 er10 => ?_)
      replace h3 := h3 r10 er10
      obtain ⟨a11, ea11, h3⟩ := h3
      subst ea11
      obtain ⟨k12, h3⟩ := h3
      refine s_ci hS (k_runV F hR hS hl5 0 [] (kX5_size l Γ a11 _ _ h3) gX7_item_X5_size rfl rfl rfl (by decide +kernel) ⟨Nat.le_of_ble_eq_true rfl, Nat.le_of_ble_eq_true rfl⟩ (s_recv F hR k12 (by decide) (C := RX5) (T := TX5) (N := 4) rfl) rfl (Nat.le_of_ble_eq_true rfl) dX7_item_22 ⟨by show _ ≤ 0; omega, by show _ ≤ 0; omega⟩) (fun x15 σ13 H locs h14 hR hS => ?_)
      refine lv_icmp_lt (tgt := 30) hx hb dX7_item_25 (by decide) (fun c16 => ?_) (fun c16 => ?_)
      · replace h14 := h14.1 c16
        refine lv_aload hx hb dX7_item_30 (lv_at hl5 0 rfl) ?_
        obtain ⟨k17, h14⟩ := h14
        refine s_getR F hR k17 (by decide) (C := RX1) (T := TX1) (N := 6) rfl nX7_item_X1 4 (by decide) mX7_item_0 (f := 104) rfl dX7_item_32 (fun r18 er18 => ?_)
        replace h14 := h14 r18 er18
        obtain ⟨a19, ea19, h14⟩ := h14
        subst ea19
        obtain ⟨k20, h14⟩ := h14
        refine s_getR F hR k20 (by decide) (C := RX5) (T := TX5) (N := 4) rfl nX7_item_X5 0 (by decide) mX7_item_1 (f := 300) rfl dX7_item_35 (fun r21 er21 => ?_)
        replace h14 := h14 r21 er21
        refine lv_iload_n hx hb dX7_item_38 rfl (lv_at hl5 3 rfl) ?_
        obtain ⟨a22, ea22, h14⟩ := h14
        subst ea22
        have k23 := h14.1
        refine s_cq hS (k_runV F hR hS hl5 1 [.int p2] (kL_get l Γ a22 p2 _ _ h14) gX7_item_Jx4a65c_get_915e3 rfl rfl rfl (by decide +kernel) ⟨Nat.le_of_ble_eq_true rfl, Nat.le_of_ble_eq_true rfl⟩ (s_recv F hR rfl (by omega) (C := RJx4a65c) (T := TJx4a65c) (N := 3) (by unfold rCi; rw [if_neg (by omega)]; rfl)) rfl (Nat.le_of_ble_eq_true rfl) dX7_item_39 ⟨by show _ ≤ 0; omega, by show _ ≤ 0; omega⟩) (fun r26 σ24 H locs h25 hR hS => ?_)
        obtain ⟨a27, ea27, h25⟩ := h25
        subst ea27
        obtain ⟨k28, h25⟩ := h25
        refine s_cast F hR k28 (by decide) (T := TX3) (N := 9) rfl mX7_item_2 dX7_item_42 ?_
        refine s_astore (r := (some a27)) (lk := [(4, .ref a8)]) (lv' := [(5, .ref a27), (4, .ref a8), (0, .ref o), (1, .int p1), (2, .int p2), (3, .int p3)]) hx hb dX7_item_45 hl5 (by decide) rfl (lk_1 rfl) rfl (fun ls hl29 => ?_)
        refine lv_aload hx hb dX7_item_47 (lv_at hl29 1 rfl) ?_
        obtain ⟨k30, h25⟩ := h25
        refine s_getR F hR k30 (by decide) (C := RX1) (T := TX1) (N := 6) rfl nX7_item_X1 4 (by decide) mX7_item_0 (f := 104) rfl dX7_item_49 (fun r31 er31 => ?_)
        replace h25 := h25 r31 er31
        refine lv_iload_n hx hb dX7_item_52 rfl (lv_at hl29 4 rfl) ?_
        obtain ⟨a32, ea32, h25⟩ := h25
        subst ea32
        obtain ⟨k33, h25⟩ := h25
        refine s_ci hS (k_runV F hR hS hl29 1 [.int p2] (kX5_isReturn l Γ a32 p2 _ _ h25) gX7_item_X5_isReturn rfl rfl rfl (by decide +kernel) ⟨Nat.le_of_ble_eq_true rfl, Nat.le_of_ble_eq_true rfl⟩ (s_recv F hR k33 (by decide) (C := RX5) (T := TX5) (N := 4) rfl) rfl (Nat.le_of_ble_eq_true rfl) dX7_item_53 ⟨by show _ ≤ 0; omega, by show _ ≤ 0; omega⟩) (fun x36 σ34 H locs h35 hR hS => ?_)
        refine s_istore (lk := [(5, .ref a27)]) (lv' := [(6, .int x36), (5, .ref a27), (4, .ref a8), (0, .ref o), (1, .int p1), (2, .int p2), (3, .int p3)]) hx hb dX7_item_56 hl29 (by decide) rfl (lk_1 rfl) rfl (fun ls hl37 => ?_)
        refine lv_iload_n hx hb dX7_item_58 rfl (lv_at hl37 6 rfl) ?_
        by_cases c38 : p3 = 0
        · replace h35 := h35.1 c38
          refine lv_tableIn (off := 41) (tgt := 100) hx hb dX7_item_59 (by rw [c38]; decide) (by rw [c38]; decide) (by rw [c38]; decide) (by decide) ?_
          refine lv_aload hx hb dX7_item_100 (lv_at hl37 1 rfl) ?_
          obtain ⟨k39, h35⟩ := h35
          refine s_getI F hR k39 (by decide) (C := RX3) (T := TX3) (N := 9) rfl nX7_item_X3 0 (by decide) mX7_item_3 (f := 200) rfl dX7_item_102 ?_
          exact s_iret F hR hS h35 hc dX7_item_105
        · replace h35 := h35.2 c38
          by_cases c40 : p3 = 1
          · replace h35 := h35.1 c40
            refine lv_tableIn (off := 47) (tgt := 106) hx hb dX7_item_59 (by rw [c40]; decide) (by rw [c40]; decide) (by rw [c40]; decide) (by decide) ?_
            refine lv_iload hx hb dX7_item_106 (lv_at hl37 0 rfl) ?_
            refine lv_if_eq (tgt := 122) hx hb dX7_item_108 (by decide) (fun c41 => ?_) (fun c41 => ?_)
            · replace h35 := h35.1 c41
              refine lv_aload hx hb dX7_item_122 (lv_at hl37 1 rfl) ?_
              obtain ⟨k42, h35⟩ := h35
              refine s_getR F hR k42 (by decide) (C := RX3) (T := TX3) (N := 9) rfl nX7_item_X3 6 (by decide) mX7_item_4 (f := 206) rfl dX7_item_124 (fun r43 er43 => ?_)
              replace h35 := h35 r43 er43
              obtain ⟨a44, ea44, h35⟩ := h35
              subst ea44
              obtain ⟨k45, h35⟩ := h35
              refine s_getI F hR k45 (by decide) (C := RX1) (T := TX1) (N := 6) rfl nX7_item_X1 0 (by decide) mX7_item_5 (f := 100) rfl dX7_item_127 ?_
              exact s_iret F hR hS h35 hc dX7_item_130
            · replace h35 := h35.2 c41
              refine lv_aload hx hb dX7_item_111 (lv_at hl37 1 rfl) ?_
              obtain ⟨k46, h35⟩ := h35
              refine s_getR F hR k46 (by decide) (C := RX3) (T := TX3) (N := 9) rfl nX7_item_X3 7 (by decide) mX7_item_6 (f := 207) rfl dX7_item_113 (fun r47 er47 => ?_)
              replace h35 := h35 r47 er47
              obtain ⟨a48, ea48, h35⟩ := h35
              subst ea48
              obtain ⟨k49, h35⟩ := h35
              refine s_getI F hR k49 (by decide) (C := RX1) (T := TX1) (N := 6) rfl nX7_item_X1 0 (by decide) mX7_item_5 (f := 100) rfl dX7_item_116 ?_
              refine lv_goto (tgt := 130) hx hb dX7_item_119 (by decide) ?_
              exact s_iret F hR hS h35 hc dX7_item_130
          · replace h35 := h35.2 c40
            by_cases c50 : p3 = 2
            · replace h35 := h35.1 c50
              refine lv_tableIn (off := 72) (tgt := 131) hx hb dX7_item_59 (by rw [c50]; decide) (by rw [c50]; decide) (by rw [c50]; decide) (by decide) ?_
              refine lv_aload hx hb dX7_item_131 (lv_at hl37 1 rfl) ?_
              obtain ⟨k51, h35⟩ := h35
              refine s_getI F hR k51 (by decide) (C := RX3) (T := TX3) (N := 9) rfl nX7_item_X3 2 (by decide) mX7_item_7 (f := 202) rfl dX7_item_133 ?_
              exact s_iret F hR hS h35 hc dX7_item_136
            · replace h35 := h35.2 c50
              by_cases c52 : p3 = 3
              · replace h35 := h35.1 c52
                refine lv_tableIn (off := 78) (tgt := 137) hx hb dX7_item_59 (by rw [c52]; decide) (by rw [c52]; decide) (by rw [c52]; decide) (by decide) ?_
                refine lv_aload hx hb dX7_item_137 (lv_at hl37 1 rfl) ?_
                obtain ⟨k53, h35⟩ := h35
                refine s_getI F hR k53 (by decide) (C := RX3) (T := TX3) (N := 9) rfl nX7_item_X3 3 (by decide) mX7_item_8 (f := 203) rfl dX7_item_139 ?_
                exact s_iret F hR hS h35 hc dX7_item_142
              · replace h35 := h35.2 c52
                by_cases c54 : p3 = 4
                · replace h35 := h35.1 c54
                  refine lv_tableIn (off := 84) (tgt := 143) hx hb dX7_item_59 (by rw [c54]; decide) (by rw [c54]; decide) (by rw [c54]; decide) (by decide) ?_
                  refine lv_aload hx hb dX7_item_143 (lv_at hl37 1 rfl) ?_
                  obtain ⟨k55, h35⟩ := h35
                  refine s_getI F hR k55 (by decide) (C := RX3) (T := TX3) (N := 9) rfl nX7_item_X3 4 (by decide) mX7_item_9 (f := 204) rfl dX7_item_145 ?_
                  exact s_iret F hR hS h35 hc dX7_item_148
                · replace h35 := h35.2 c54
                  by_cases c56 : p3 = 5
                  · replace h35 := h35.1 c56
                    refine lv_tableIn (off := 90) (tgt := 149) hx hb dX7_item_59 (by rw [c56]; decide) (by rw [c56]; decide) (by rw [c56]; decide) (by decide) ?_
                    refine lv_iload hx hb dX7_item_149 (lv_at hl37 0 rfl) ?_
                    refine lv_if_eq (tgt := 162) hx hb dX7_item_151 (by decide) (fun c57 => ?_) (fun c57 => ?_)
                    · replace h35 := h35.1 c57
                      refine lv_iconst (v := 0) hx hb dX7_item_162 (by decide) ?_
                      exact s_iret F hR hS h35 hc dX7_item_163
                    · replace h35 := h35.2 c57
                      refine lv_aload hx hb dX7_item_154 (lv_at hl37 1 rfl) ?_
                      obtain ⟨k58, h35⟩ := h35
                      refine s_getI F hR k58 (by decide) (C := RX3) (T := TX3) (N := 9) rfl nX7_item_X3 8 (by decide) mX7_item_10 (f := 208) rfl dX7_item_156 ?_
                      refine lv_goto (tgt := 163) hx hb dX7_item_159 (by decide) ?_
                      exact s_iret F hR hS h35 hc dX7_item_163
                  · replace h35 := h35.2 c56
                    by_cases c59 : p3 = 6
                    · replace h35 := h35.1 c59
                      refine lv_tableIn (off := 105) (tgt := 164) hx hb dX7_item_59 (by rw [c59]; decide) (by rw [c59]; decide) (by rw [c59]; decide) (by decide) ?_
                      refine lv_aload hx hb dX7_item_164 (lv_at hl37 2 rfl) ?_
                      obtain ⟨k60, h35⟩ := h35
                      refine s_getR F hR k60 (by decide) (C := RX1) (T := TX1) (N := 6) rfl nX7_item_X1 4 (by decide) mX7_item_0 (f := 104) rfl dX7_item_166 (fun r61 er61 => ?_)
                      replace h35 := h35 r61 er61
                      refine lv_iload_n hx hb dX7_item_169 rfl (lv_at hl37 5 rfl) ?_
                      obtain ⟨a62, ea62, h35⟩ := h35
                      subst ea62
                      obtain ⟨k63, h35⟩ := h35
                      refine s_ci hS (k_runV F hR hS hl37 1 [.int p2] (kX5_stateOf l Γ a62 p2 _ _ h35) gX7_item_X5_stateOf rfl rfl rfl (by decide +kernel) ⟨Nat.le_of_ble_eq_true rfl, Nat.le_of_ble_eq_true rfl⟩ (s_recv F hR k63 (by decide) (C := RX5) (T := TX5) (N := 4) rfl) rfl (Nat.le_of_ble_eq_true rfl) dX7_item_170 ⟨by show _ ≤ 0; omega, by show _ ≤ 0; omega⟩) (fun x66 σ64 H locs h65 hR hS => ?_)
                      exact s_iret F hR hS h65 hc dX7_item_173
                    · replace h35 := h35.2 c59
                      have hD67 : W p l e rmX7_item s m args below meth c H locs cells slots (rQi Γ below post args s 0 0) (F0 m 174 ls []) := by
                        refine lv_iconst (v := -1) hx hb dX7_item_174 (by decide) ?_
                        exact s_iret F hR hS h35 hc dX7_item_175
                      have tc38 : ¬ p3.toInt = 0 := lv_neT c38 (by decide)
                      have tc40 : ¬ p3.toInt = 1 := lv_neT c40 (by decide)
                      have tc50 : ¬ p3.toInt = 2 := lv_neT c50 (by decide)
                      have tc52 : ¬ p3.toInt = 3 := lv_neT c52 (by decide)
                      have tc54 : ¬ p3.toInt = 4 := lv_neT c54 (by decide)
                      have tc56 : ¬ p3.toInt = 5 := lv_neT c56 (by decide)
                      have tc59 : ¬ p3.toInt = 6 := lv_neT c59 (by decide)
                      by_cases t1 : p3.toInt < 0 ∨ 6 < p3.toInt
                      · exact lv_tableOut (tgt := 174) hx hb dX7_item_59 t1 (by decide) hD67
                      · exact absurd t1 (by omega)
      · replace h14 := h14.2 c16
        refine lv_iconst (v := -1) hx hb dX7_item_28 (by decide) ?_
        exact s_iret F hR hS h14 hc dX7_item_29
set_option maxHeartbeats 4000000 in
set_option maxRecDepth 100000 in
theorem kX7_item (l : Launch) (Γ : rGam) (o : Nat) (p1 : Int32) (p2 : Int32) (p3 : Int32) (post : Int32 → St → Prop) (σ0 : St) (h : wX7_item o p1 p2 p3 post σ0) : Met l yX7_item wsX7_item rmX7_item (rPc Γ vwCl [.ref o, .int p1, .int p2, .int p3] (Rep Γ σ0)) (va_Qi post (fun σ' t => Rep Γ σ' t.heap) (rA Γ)) 0 0 (rA Γ) := by
  refine Met.ofW (cc := cX7_item) (maxL := 7) (ret := (some .int)) (by decide) rfl ?_
  intro p e s m args below meth c s₁ B hml hv
  obtain ⟨rfl, hR, hE⟩ := hv
  have F : Fx Γ p s m meth c _ cX7_item 7 RX7 wsX7_item (some .int) := ⟨⟨B.exec, B.bytes, hml, findClass_of_methodNamed B.named, atoms_spec (ws := wsX7_item) B.pre⟩, hE, B.notSynchronized, B.returns⟩
  have hl := lv_entry ([.ref o, .int p1, .int p2, .int p3]) (n := 7) (Nat.le_of_ble_eq_true rfl)
  rw [lg_entry_eq]
  generalize (lg_sl ([.ref o, .int p1, .int p2, .int p3]) ++ List.replicate (7 - (lg_sl ([.ref o, .int p1, .int p2, .int p3])).length) Slot.unset).toArray = ls at hl ⊢
  have hl : lv_has ls 7 [(0, .ref o), (1, .int p1), (2, .int p2), (3, .int p3)] := hl
  exact bX7_item F h hR va_S.rf hl ⟨Nat.le_refl 0, Nat.le_refl 0⟩
/-! X7_control -/
theorem mX7_control_0 : Cond.fieldLink RX7 111 "ClearingFiles$Bank" "output" "LClearingFiles$Output;" ∈ wsX7_control := by decide +kernel
theorem mX7_control_1 : Cond.fieldLink RX7 188 "ClearingFiles$Output" "totals" "LClearingFiles$Totals;" ∈ wsX7_control := by decide +kernel
theorem mX7_control_2 : Cond.fieldLink RX7 192 "ClearingFiles$Totals" "count" "J" ∈ wsX7_control := by decide +kernel
theorem mX7_control_3 : Cond.fieldLink RX7 198 "ClearingFiles$Totals" "hash" "J" ∈ wsX7_control := by decide +kernel
theorem mX7_control_4 : Cond.fieldLink RX7 201 "ClearingFiles$Totals" "debits" "J" ∈ wsX7_control := by decide +kernel
theorem mX7_control_5 : Cond.fieldLink RX7 204 "ClearingFiles$Totals" "credits" "J" ∈ wsX7_control := by decide +kernel
theorem mX7_control_6 : Cond.constantLong RX7 186 (-1) ∈ wsX7_control := by decide +kernel
theorem nX7_control_X1 : ∀ w ∈ u_ws RX1 TX1 6, w ∈ wsX7_control := fun _ h => List.mem_cons_of_mem _ (List.mem_append_left _ (List.mem_append_left _ (List.mem_append_left _ (List.mem_append_left _ (List.mem_append_right _ h)))))
theorem nX7_control_X5 : ∀ w ∈ u_ws RX5 TX5 4, w ∈ wsX7_control := fun _ h => List.mem_cons_of_mem _ (List.mem_append_left _ (List.mem_append_left _ (List.mem_append_left _ (List.mem_append_right _ h))))
theorem nX7_control_X6 : ∀ w ∈ u_ws RX6 TX6 4, w ∈ wsX7_control := fun _ h => List.mem_cons_of_mem _ (List.mem_append_left _ (List.mem_append_left _ (List.mem_append_right _ h)))
abbrev rmX7_control : Room := { frames := 4, cells := 0, slots := 0, locals := 122 }
set_option maxRecDepth 100000 in
def wX7_control (o : Nat) (p1 : Int32) (p2 : Int32) (post : Int64 → St → Prop) (σ0 : St) : Prop :=
  sK σ0 o = 8 ∧ (wX7_bankAt o p1 (fun (r4 : Option Nat) (σ2 : St) => (r4 = none → (post (-1 : Int64) σ2)) ∧ (¬ r4 = none → (∃ a7 : Nat, r4 = some a7 ∧ (sK σ2 a7 = 2 ∧ (∀ r9 : Option Nat, r9 = sR σ2 104 a7 0 → (∃ a10 : Nat, r9 = some a10 ∧ (sK σ2 a10 = 6 ∧ (∀ r12 : Option Nat, r12 = sR σ2 301 a10 0 → ((p2 = 0 → (∃ a15 : Nat, r12 = some a15 ∧ (sK σ2 a15 = 7 ∧ (post (sJ σ2 350 a15 0) σ2)))) ∧ (¬ p2 = 0 → ((p2 = 1 → (∃ a18 : Nat, r12 = some a18 ∧ (sK σ2 a18 = 7 ∧ (post (sJ σ2 351 a18 0) σ2)))) ∧ (¬ p2 = 1 → ((p2 = 2 → (∃ a21 : Nat, r12 = some a21 ∧ (sK σ2 a21 = 7 ∧ (post (sJ σ2 352 a21 0) σ2)))) ∧ (¬ p2 = 2 → ((p2 = 3 → (∃ a24 : Nat, r12 = some a24 ∧ (sK σ2 a24 = 7 ∧ (post (sJ σ2 353 a24 0) σ2)))) ∧ (¬ p2 = 3 → (post (-1 : Int64) σ2))))))))))))))))) σ0)
set_option maxHeartbeats 4000000 in
set_option maxRecDepth 100000 in
theorem bX7_control {p : Program} {l : Launch} {e : Env} {s : State} {m : MethodId} {args : Array Value} {below : List Frame} {meth : Method} {c : Code} {Γ : rGam} {o : Nat} {post : Int64 → St → Prop} (F : Fx Γ p s m meth c args cX7_control 5 RX7 wsX7_control (some .long)) {H : Heap} {locs : List Loc} {ls : Array Slot} {cells slots : Nat} {p1 : Int32} {p2 : Int32} {σ0 : St} (h : wX7_control o p1 p2 post σ0) (hR : Rep Γ σ0 H) (hS : va_S (rA Γ) s.heap H locs) (hl : lv_has ls 5 [(0, .ref o), (1, .int p1), (2, .int p2)]) (hc : cells ≤ 0 ∧ slots ≤ 0) : W p l e rmX7_control s m args below meth c H locs cells slots (rQl Γ below post args s 0 0) (F0 m 0 ls []) := by
  have hx := F.1.1
  have hb := F.1.2.1
  unfold wX7_control at h
  refine lv_aload_n hx hb dX7_control_0 rfl (lv_at hl 0 rfl) ?_
  refine lv_iload_n hx hb dX7_control_1 rfl (lv_at hl 1 rfl) ?_
  obtain ⟨k1, h⟩ := h
  refine s_cq hS (k_runV F hR hS hl 1 [.int p1] (kX7_bankAt l Γ o p1 _ _ h) gX7_control_X7_bankAt rfl rfl rfl (by decide +kernel) ⟨Nat.le_of_ble_eq_true rfl, Nat.le_of_ble_eq_true rfl⟩ (s_recv F hR k1 (by decide) (C := RX7) (T := TX7) (N := 7) rfl) rfl (Nat.le_of_ble_eq_true rfl) dX7_control_2 ⟨by show _ ≤ 0; omega, by show _ ≤ 0; omega⟩) (fun r4 σ2 H locs h3 hR hS => ?_)
  refine s_astore_n (r := r4) (lk := [(2, .int p2)]) (lv' := [(3, va_rf r4), (0, .ref o), (1, .int p1), (2, .int p2)]) hx hb dX7_control_5 rfl hl (by decide) rfl (lk_1 rfl) rfl (fun ls hl5 => ?_)
  refine s_aload_n hx hb dX7_control_6 rfl (lv_at hl5 0 rfl) ?_
  refine s_ifnonnull (r := r4) hx hb dX7_control_7 (tgt := 14) (by decide) (fun c6 => ?_) (fun c6 => ?_)
  · replace h3 := h3.2 c6
    refine s_aload_n hx hb dX7_control_14 rfl (lv_at hl5 0 rfl) ?_
    obtain ⟨a7, ea7, h3⟩ := h3
    subst ea7
    obtain ⟨k8, h3⟩ := h3
    refine s_getR F hR k8 (by decide) (C := RX1) (T := TX1) (N := 6) rfl nX7_control_X1 4 (by decide) mX7_control_0 (f := 104) rfl dX7_control_15 (fun r9 er9 => ?_)
    replace h3 := h3 r9 er9
    obtain ⟨a10, ea10, h3⟩ := h3
    subst ea10
    obtain ⟨k11, h3⟩ := h3
    refine s_getR F hR k11 (by decide) (C := RX5) (T := TX5) (N := 4) rfl nX7_control_X5 1 (by decide) mX7_control_1 (f := 301) rfl dX7_control_18 (fun r12 er12 => ?_)
    replace h3 := h3 r12 er12
    refine s_astore (r := r12) (lk := [(3, .ref a7)]) (lv' := [(4, va_rf r12), (3, .ref a7), (0, .ref o), (1, .int p1), (2, .int p2)]) hx hb dX7_control_21 hl5 (by decide) rfl (lk_1 rfl) rfl (fun ls hl13 => ?_)
    refine lv_iload_n hx hb dX7_control_23 rfl (lv_at hl13 4 rfl) ?_
    by_cases c14 : p2 = 0
    · replace h3 := h3.1 c14
      refine lv_tableIn (off := 32) (tgt := 56) hx hb dX7_control_24 (by rw [c14]; decide) (by rw [c14]; decide) (by rw [c14]; decide) (by decide) ?_
      refine s_aload hx hb dX7_control_56 (lv_at hl13 0 rfl) ?_
      obtain ⟨a15, ea15, h3⟩ := h3
      subst ea15
      obtain ⟨k16, h3⟩ := h3
      refine s_getJ F hR k16 (by decide) (C := RX6) (T := TX6) (N := 4) rfl nX7_control_X6 0 (by decide) mX7_control_2 (f := 350) rfl dX7_control_58 ?_
      exact s_lret F hR hS h3 hc dX7_control_61
    · replace h3 := h3.2 c14
      by_cases c17 : p2 = 1
      · replace h3 := h3.1 c17
        refine lv_tableIn (off := 38) (tgt := 62) hx hb dX7_control_24 (by rw [c17]; decide) (by rw [c17]; decide) (by rw [c17]; decide) (by decide) ?_
        refine s_aload hx hb dX7_control_62 (lv_at hl13 0 rfl) ?_
        obtain ⟨a18, ea18, h3⟩ := h3
        subst ea18
        obtain ⟨k19, h3⟩ := h3
        refine s_getJ F hR k19 (by decide) (C := RX6) (T := TX6) (N := 4) rfl nX7_control_X6 1 (by decide) mX7_control_3 (f := 351) rfl dX7_control_64 ?_
        exact s_lret F hR hS h3 hc dX7_control_67
      · replace h3 := h3.2 c17
        by_cases c20 : p2 = 2
        · replace h3 := h3.1 c20
          refine lv_tableIn (off := 44) (tgt := 68) hx hb dX7_control_24 (by rw [c20]; decide) (by rw [c20]; decide) (by rw [c20]; decide) (by decide) ?_
          refine s_aload hx hb dX7_control_68 (lv_at hl13 0 rfl) ?_
          obtain ⟨a21, ea21, h3⟩ := h3
          subst ea21
          obtain ⟨k22, h3⟩ := h3
          refine s_getJ F hR k22 (by decide) (C := RX6) (T := TX6) (N := 4) rfl nX7_control_X6 2 (by decide) mX7_control_4 (f := 352) rfl dX7_control_70 ?_
          exact s_lret F hR hS h3 hc dX7_control_73
        · replace h3 := h3.2 c20
          by_cases c23 : p2 = 3
          · replace h3 := h3.1 c23
            refine lv_tableIn (off := 50) (tgt := 74) hx hb dX7_control_24 (by rw [c23]; decide) (by rw [c23]; decide) (by rw [c23]; decide) (by decide) ?_
            refine s_aload hx hb dX7_control_74 (lv_at hl13 0 rfl) ?_
            obtain ⟨a24, ea24, h3⟩ := h3
            subst ea24
            obtain ⟨k25, h3⟩ := h3
            refine s_getJ F hR k25 (by decide) (C := RX6) (T := TX6) (N := 4) rfl nX7_control_X6 3 (by decide) mX7_control_5 (f := 353) rfl dX7_control_76 ?_
            exact s_lret F hR hS h3 hc dX7_control_79
          · replace h3 := h3.2 c23
            have hD26 : W p l e rmX7_control s m args below meth c H locs cells slots (rQl Γ below post args s 0 0) (F0 m 80 ls []) := by
              refine lv_ldc2 hx hb F.1.2.2.2.1 (F.1.2.2.2.2 _ mX7_control_6) dX7_control_80 ?_
              exact s_lret F hR hS h3 hc dX7_control_83
            have tc14 : ¬ p2.toInt = 0 := lv_neT c14 (by decide)
            have tc17 : ¬ p2.toInt = 1 := lv_neT c17 (by decide)
            have tc20 : ¬ p2.toInt = 2 := lv_neT c20 (by decide)
            have tc23 : ¬ p2.toInt = 3 := lv_neT c23 (by decide)
            by_cases t1 : p2.toInt < 0 ∨ 3 < p2.toInt
            · exact lv_tableOut (tgt := 80) hx hb dX7_control_24 t1 (by decide) hD26
            · exact absurd t1 (by omega)
  · replace h3 := h3.1 c6
    refine lv_ldc2 hx hb F.1.2.2.2.1 (F.1.2.2.2.2 _ mX7_control_6) dX7_control_10 ?_
    exact s_lret F hR hS h3 hc dX7_control_13
set_option maxHeartbeats 4000000 in
set_option maxRecDepth 100000 in
theorem kX7_control (l : Launch) (Γ : rGam) (o : Nat) (p1 : Int32) (p2 : Int32) (post : Int64 → St → Prop) (σ0 : St) (h : wX7_control o p1 p2 post σ0) : Met l yX7_control wsX7_control rmX7_control (rPc Γ vwCl [.ref o, .int p1, .int p2] (Rep Γ σ0)) (va_Ql post (fun σ' t => Rep Γ σ' t.heap) (rA Γ)) 0 0 (rA Γ) := by
  refine Met.ofW (cc := cX7_control) (maxL := 5) (ret := (some .long)) (by decide) rfl ?_
  intro p e s m args below meth c s₁ B hml hv
  obtain ⟨rfl, hR, hE⟩ := hv
  have F : Fx Γ p s m meth c _ cX7_control 5 RX7 wsX7_control (some .long) := ⟨⟨B.exec, B.bytes, hml, findClass_of_methodNamed B.named, atoms_spec (ws := wsX7_control) B.pre⟩, hE, B.notSynchronized, B.returns⟩
  have hl := lv_entry ([.ref o, .int p1, .int p2]) (n := 5) (Nat.le_of_ble_eq_true rfl)
  rw [lg_entry_eq]
  generalize (lg_sl ([.ref o, .int p1, .int p2]) ++ List.replicate (5 - (lg_sl ([.ref o, .int p1, .int p2])).length) Slot.unset).toArray = ls at hl ⊢
  have hl : lv_has ls 5 [(0, .ref o), (1, .int p1), (2, .int p2)] := hl
  exact bX7_control F h hR va_S.rf hl ⟨Nat.le_refl 0, Nat.le_refl 0⟩
/-! X7_balance -/
theorem mX7_balance_0 : Cond.fieldLink RX7 207 "ClearingFiles$Account" "balance" "J" ∈ wsX7_balance := by decide +kernel
theorem mX7_balance_1 : Cond.constantLong RX7 186 (-1) ∈ wsX7_balance := by decide +kernel
theorem nX7_balance_X0 : ∀ w ∈ u_ws RX0 TX0 4, w ∈ wsX7_balance := fun _ h => List.mem_cons_of_mem _ (List.mem_append_left _ (List.mem_append_left _ (List.mem_append_right _ h)))
abbrev rmX7_balance : Room := { frames := 4, cells := 0, slots := 0, locals := 125 }
set_option maxRecDepth 100000 in
def wX7_balance (o : Nat) (p1 : Int32) (p2 : Int32) (post : Int64 → St → Prop) (σ0 : St) : Prop :=
  sK σ0 o = 8 ∧ (wX7_bankAt o p1 (fun (r4 : Option Nat) (σ2 : St) => sK σ2 o = 8 ∧ (wX7_accountOf o r4 p2 (fun (r8 : Option Nat) (σ6 : St) => (r8 = none → (post (-1 : Int64) σ6)) ∧ (¬ r8 = none → (∃ a11 : Nat, r8 = some a11 ∧ (sK σ6 a11 = 1 ∧ (post (sJ σ6 52 a11 0) σ6))))) σ2)) σ0)
set_option maxHeartbeats 4000000 in
set_option maxRecDepth 100000 in
theorem bX7_balance {p : Program} {l : Launch} {e : Env} {s : State} {m : MethodId} {args : Array Value} {below : List Frame} {meth : Method} {c : Code} {Γ : rGam} {o : Nat} {post : Int64 → St → Prop} (F : Fx Γ p s m meth c args cX7_balance 4 RX7 wsX7_balance (some .long)) {H : Heap} {locs : List Loc} {ls : Array Slot} {cells slots : Nat} {p1 : Int32} {p2 : Int32} {σ0 : St} (h : wX7_balance o p1 p2 post σ0) (hR : Rep Γ σ0 H) (hS : va_S (rA Γ) s.heap H locs) (hl : lv_has ls 4 [(0, .ref o), (1, .int p1), (2, .int p2)]) (hc : cells ≤ 0 ∧ slots ≤ 0) : W p l e rmX7_balance s m args below meth c H locs cells slots (rQl Γ below post args s 0 0) (F0 m 0 ls []) := by
  have hx := F.1.1
  have hb := F.1.2.1
  unfold wX7_balance at h
  refine lv_aload_n hx hb dX7_balance_0 rfl (lv_at hl 0 rfl) ?_
  refine lv_aload_n hx hb dX7_balance_1 rfl (lv_at hl 0 rfl) ?_
  refine lv_iload_n hx hb dX7_balance_2 rfl (lv_at hl 1 rfl) ?_
  obtain ⟨k1, h⟩ := h
  refine s_cq hS (k_runV F hR hS hl 1 [.int p1] (kX7_bankAt l Γ o p1 _ _ h) gX7_balance_X7_bankAt rfl rfl rfl (by decide +kernel) ⟨Nat.le_of_ble_eq_true rfl, Nat.le_of_ble_eq_true rfl⟩ (s_recv F hR k1 (by decide) (C := RX7) (T := TX7) (N := 7) rfl) rfl (Nat.le_of_ble_eq_true rfl) dX7_balance_3 ⟨by show _ ≤ 0; omega, by show _ ≤ 0; omega⟩) (fun r4 σ2 H locs h3 hR hS => ?_)
  refine lv_iload_n hx hb dX7_balance_6 rfl (lv_at hl 2 rfl) ?_
  obtain ⟨k5, h3⟩ := h3
  refine s_cq hS (k_runV F hR hS hl 2 [va_rf r4, .int p2] (kX7_accountOf l Γ o r4 p2 _ _ h3) gX7_balance_X7_accountOf rfl rfl rfl (by decide +kernel) ⟨Nat.le_of_ble_eq_true rfl, Nat.le_of_ble_eq_true rfl⟩ (s_recv F hR k5 (by decide) (C := RX7) (T := TX7) (N := 7) rfl) rfl (Nat.le_of_ble_eq_true rfl) dX7_balance_7 ⟨by show _ ≤ 0; omega, by show _ ≤ 0; omega⟩) (fun r8 σ6 H locs h7 hR hS => ?_)
  refine s_astore_n (r := r8) (lk := [(2, .int p2)]) (lv' := [(3, va_rf r8), (0, .ref o), (1, .int p1), (2, .int p2)]) hx hb dX7_balance_10 rfl hl (by decide) rfl (lk_1 rfl) rfl (fun ls hl9 => ?_)
  refine s_aload_n hx hb dX7_balance_11 rfl (lv_at hl9 0 rfl) ?_
  refine s_ifnonnull (r := r8) hx hb dX7_balance_12 (tgt := 21) (by decide) (fun c10 => ?_) (fun c10 => ?_)
  · replace h7 := h7.2 c10
    refine s_aload_n hx hb dX7_balance_21 rfl (lv_at hl9 0 rfl) ?_
    obtain ⟨a11, ea11, h7⟩ := h7
    subst ea11
    obtain ⟨k12, h7⟩ := h7
    refine s_getJ F hR k12 (by decide) (C := RX0) (T := TX0) (N := 4) rfl nX7_balance_X0 2 (by decide) mX7_balance_0 (f := 52) rfl dX7_balance_22 ?_
    exact s_lret F hR hS h7 hc dX7_balance_25
  · replace h7 := h7.1 c10
    refine lv_ldc2 hx hb F.1.2.2.2.1 (F.1.2.2.2.2 _ mX7_balance_1) dX7_balance_15 ?_
    refine lv_goto (tgt := 25) hx hb dX7_balance_18 (by decide) ?_
    exact s_lret F hR hS h7 hc dX7_balance_25
set_option maxHeartbeats 4000000 in
set_option maxRecDepth 100000 in
theorem kX7_balance (l : Launch) (Γ : rGam) (o : Nat) (p1 : Int32) (p2 : Int32) (post : Int64 → St → Prop) (σ0 : St) (h : wX7_balance o p1 p2 post σ0) : Met l yX7_balance wsX7_balance rmX7_balance (rPc Γ vwCl [.ref o, .int p1, .int p2] (Rep Γ σ0)) (va_Ql post (fun σ' t => Rep Γ σ' t.heap) (rA Γ)) 0 0 (rA Γ) := by
  refine Met.ofW (cc := cX7_balance) (maxL := 4) (ret := (some .long)) (by decide) rfl ?_
  intro p e s m args below meth c s₁ B hml hv
  obtain ⟨rfl, hR, hE⟩ := hv
  have F : Fx Γ p s m meth c _ cX7_balance 4 RX7 wsX7_balance (some .long) := ⟨⟨B.exec, B.bytes, hml, findClass_of_methodNamed B.named, atoms_spec (ws := wsX7_balance) B.pre⟩, hE, B.notSynchronized, B.returns⟩
  have hl := lv_entry ([.ref o, .int p1, .int p2]) (n := 4) (Nat.le_of_ble_eq_true rfl)
  rw [lg_entry_eq]
  generalize (lg_sl ([.ref o, .int p1, .int p2]) ++ List.replicate (4 - (lg_sl ([.ref o, .int p1, .int p2])).length) Slot.unset).toArray = ls at hl ⊢
  have hl : lv_has ls 4 [(0, .ref o), (1, .int p1), (2, .int p2)] := hl
  exact bX7_balance F h hR va_S.rf hl ⟨Nat.le_refl 0, Nat.le_refl 0⟩
/-! X7_ledger -/
theorem mX7_ledger_0 : Cond.fieldLink RX7 210 "ClearingFiles$Bank" "ledger" "J" ∈ wsX7_ledger := by decide +kernel
theorem nX7_ledger_X1 : ∀ w ∈ u_ws RX1 TX1 6, w ∈ wsX7_ledger := fun _ h => List.mem_cons_of_mem _ (List.mem_append_left _ (List.mem_append_left _ (List.mem_append_right _ h)))
abbrev rmX7_ledger : Room := { frames := 4, cells := 0, slots := 0, locals := 122 }
set_option maxRecDepth 100000 in
def wX7_ledger (o : Nat) (p1 : Int32) (post : Int64 → St → Prop) (σ0 : St) : Prop :=
  sK σ0 o = 8 ∧ (wX7_bankAt o p1 (fun (r4 : Option Nat) (σ2 : St) => (r4 = none → (post (0 : Int64) σ2)) ∧ (¬ r4 = none → (∃ a7 : Nat, r4 = some a7 ∧ (sK σ2 a7 = 2 ∧ (post (sJ σ2 105 a7 0) σ2))))) σ0)
set_option maxHeartbeats 4000000 in
set_option maxRecDepth 100000 in
theorem bX7_ledger {p : Program} {l : Launch} {e : Env} {s : State} {m : MethodId} {args : Array Value} {below : List Frame} {meth : Method} {c : Code} {Γ : rGam} {o : Nat} {post : Int64 → St → Prop} (F : Fx Γ p s m meth c args cX7_ledger 3 RX7 wsX7_ledger (some .long)) {H : Heap} {locs : List Loc} {ls : Array Slot} {cells slots : Nat} {p1 : Int32} {σ0 : St} (h : wX7_ledger o p1 post σ0) (hR : Rep Γ σ0 H) (hS : va_S (rA Γ) s.heap H locs) (hl : lv_has ls 3 [(0, .ref o), (1, .int p1)]) (hc : cells ≤ 0 ∧ slots ≤ 0) : W p l e rmX7_ledger s m args below meth c H locs cells slots (rQl Γ below post args s 0 0) (F0 m 0 ls []) := by
  have hx := F.1.1
  have hb := F.1.2.1
  unfold wX7_ledger at h
  refine lv_aload_n hx hb dX7_ledger_0 rfl (lv_at hl 0 rfl) ?_
  refine lv_iload_n hx hb dX7_ledger_1 rfl (lv_at hl 1 rfl) ?_
  obtain ⟨k1, h⟩ := h
  refine s_cq hS (k_runV F hR hS hl 1 [.int p1] (kX7_bankAt l Γ o p1 _ _ h) gX7_ledger_X7_bankAt rfl rfl rfl (by decide +kernel) ⟨Nat.le_of_ble_eq_true rfl, Nat.le_of_ble_eq_true rfl⟩ (s_recv F hR k1 (by decide) (C := RX7) (T := TX7) (N := 7) rfl) rfl (Nat.le_of_ble_eq_true rfl) dX7_ledger_2 ⟨by show _ ≤ 0; omega, by show _ ≤ 0; omega⟩) (fun r4 σ2 H locs h3 hR hS => ?_)
  refine s_astore_n (r := r4) (lk := [(1, .int p1)]) (lv' := [(2, va_rf r4), (0, .ref o), (1, .int p1)]) hx hb dX7_ledger_5 rfl hl (by decide) rfl (lk_1 rfl) rfl (fun ls hl5 => ?_)
  refine s_aload_n hx hb dX7_ledger_6 rfl (lv_at hl5 0 rfl) ?_
  refine s_ifnonnull (r := r4) hx hb dX7_ledger_7 (tgt := 14) (by decide) (fun c6 => ?_) (fun c6 => ?_)
  · replace h3 := h3.2 c6
    refine s_aload_n hx hb dX7_ledger_14 rfl (lv_at hl5 0 rfl) ?_
    obtain ⟨a7, ea7, h3⟩ := h3
    subst ea7
    obtain ⟨k8, h3⟩ := h3
    refine s_getJ F hR k8 (by decide) (C := RX1) (T := TX1) (N := 6) rfl nX7_ledger_X1 5 (by decide) mX7_ledger_0 (f := 105) rfl dX7_ledger_15 ?_
    exact s_lret F hR hS h3 hc dX7_ledger_18
  · replace h3 := h3.1 c6
    refine lv_lconst (v := 0) hx hb dX7_ledger_10 (by decide) ?_
    refine lv_goto (tgt := 18) hx hb dX7_ledger_11 (by decide) ?_
    exact s_lret F hR hS h3 hc dX7_ledger_18
set_option maxHeartbeats 4000000 in
set_option maxRecDepth 100000 in
theorem kX7_ledger (l : Launch) (Γ : rGam) (o : Nat) (p1 : Int32) (post : Int64 → St → Prop) (σ0 : St) (h : wX7_ledger o p1 post σ0) : Met l yX7_ledger wsX7_ledger rmX7_ledger (rPc Γ vwCl [.ref o, .int p1] (Rep Γ σ0)) (va_Ql post (fun σ' t => Rep Γ σ' t.heap) (rA Γ)) 0 0 (rA Γ) := by
  refine Met.ofW (cc := cX7_ledger) (maxL := 3) (ret := (some .long)) (by decide) rfl ?_
  intro p e s m args below meth c s₁ B hml hv
  obtain ⟨rfl, hR, hE⟩ := hv
  have F : Fx Γ p s m meth c _ cX7_ledger 3 RX7 wsX7_ledger (some .long) := ⟨⟨B.exec, B.bytes, hml, findClass_of_methodNamed B.named, atoms_spec (ws := wsX7_ledger) B.pre⟩, hE, B.notSynchronized, B.returns⟩
  have hl := lv_entry ([.ref o, .int p1]) (n := 3) (Nat.le_of_ble_eq_true rfl)
  rw [lg_entry_eq]
  generalize (lg_sl ([.ref o, .int p1]) ++ List.replicate (3 - (lg_sl ([.ref o, .int p1])).length) Slot.unset).toArray = ls at hl ⊢
  have hl : lv_has ls 3 [(0, .ref o), (1, .int p1)] := hl
  exact bX7_ledger F h hR va_S.rf hl ⟨Nat.le_refl 0, Nat.le_refl 0⟩
/-! X7_rejected -/
theorem mX7_rejected_0 : Cond.fieldLink RX7 34 "ClearingFiles" "refusals" "[I" ∈ wsX7_rejected := by decide +kernel
theorem nX7_rejected_X7 : ∀ w ∈ u_ws RX7 TX7 7, w ∈ wsX7_rejected := fun _ h => List.mem_cons_of_mem _ (List.mem_append_right _ h)
abbrev rmX7_rejected : Room := { frames := 0, cells := 0, slots := 0, locals := 0 }
set_option maxRecDepth 100000 in
def wX7_rejected (o : Nat) (p1 : Int32) (post : Int32 → St → Prop) (σ0 : St) : Prop :=
  (p1 < 0 → (post (0 : Int32) σ0)) ∧ (¬ p1 < 0 → (sK σ0 o = 8 ∧ (∀ r3 : Option Nat, r3 = sR σ0 405 o 0 → (∃ a4 : Nat, r3 = some a4 ∧ (sK σ0 a4 = 1405 ∧ ((p1 < (34 : Int32) → (sK σ0 o = 8 ∧ (∀ r8 : Option Nat, r8 = sR σ0 405 o 0 → (∃ a9 : Nat, r8 = some a9 ∧ (sK σ0 a9 = 1405 ∧ (vp_in p1 34 ∧ (post (sI σ0 1405 a9 p1.toNatClampNeg) σ0))))))) ∧ (¬ p1 < (34 : Int32) → (post (0 : Int32) σ0))))))))
set_option maxHeartbeats 4000000 in
set_option maxRecDepth 100000 in
theorem bX7_rejected {p : Program} {l : Launch} {e : Env} {s : State} {m : MethodId} {args : Array Value} {below : List Frame} {meth : Method} {c : Code} {Γ : rGam} {o : Nat} {post : Int32 → St → Prop} (F : Fx Γ p s m meth c args cX7_rejected 2 RX7 wsX7_rejected (some .int)) {H : Heap} {locs : List Loc} {ls : Array Slot} {cells slots : Nat} {p1 : Int32} {σ0 : St} (h : wX7_rejected o p1 post σ0) (hR : Rep Γ σ0 H) (hS : va_S (rA Γ) s.heap H locs) (hl : lv_has ls 2 [(0, .ref o), (1, .int p1)]) (hc : cells ≤ 0 ∧ slots ≤ 0) : W p l e rmX7_rejected s m args below meth c H locs cells slots (rQi Γ below post args s 0 0) (F0 m 0 ls []) := by
  have hx := F.1.1
  have hb := F.1.2.1
  unfold wX7_rejected at h
  refine lv_iload_n hx hb dX7_rejected_0 rfl (lv_at hl 1 rfl) ?_
  refine lv_if_lt (tgt := 13) hx hb dX7_rejected_1 (by decide) (fun c1 => ?_) (fun c1 => ?_)
  · replace h := h.1 c1
    refine lv_iconst (v := 0) hx hb dX7_rejected_13 (by decide) ?_
    refine lv_goto (tgt := 23) hx hb dX7_rejected_14 (by decide) ?_
    exact s_iret F hR hS h hc dX7_rejected_23
  · replace h := h.2 c1
    refine lv_iload_n hx hb dX7_rejected_4 rfl (lv_at hl 1 rfl) ?_
    refine lv_aload_n hx hb dX7_rejected_5 rfl (lv_at hl 0 rfl) ?_
    obtain ⟨k2, h⟩ := h
    refine s_getR F hR k2 (by decide) (C := RX7) (T := TX7) (N := 7) rfl nX7_rejected_X7 5 (by decide) mX7_rejected_0 (f := 405) rfl dX7_rejected_6 (fun r3 er3 => ?_)
    replace h := h r3 er3
    obtain ⟨a4, ea4, h⟩ := h
    subst ea4
    obtain ⟨k5, h⟩ := h
    refine s_alen F hR k5 (by decide) (t0 := 0) rfl rfl dX7_rejected_9 ?_
    refine lv_icmp_lt (tgt := 17) hx hb dX7_rejected_10 (by decide) (fun c6 => ?_) (fun c6 => ?_)
    · replace h := h.1 c6
      refine lv_aload_n hx hb dX7_rejected_17 rfl (lv_at hl 0 rfl) ?_
      obtain ⟨k7, h⟩ := h
      refine s_getR F hR k7 (by decide) (C := RX7) (T := TX7) (N := 7) rfl nX7_rejected_X7 5 (by decide) mX7_rejected_0 (f := 405) rfl dX7_rejected_18 (fun r8 er8 => ?_)
      replace h := h r8 er8
      refine lv_iload_n hx hb dX7_rejected_21 rfl (lv_at hl 1 rfl) ?_
      obtain ⟨a9, ea9, h⟩ := h
      subst ea9
      obtain ⟨k10, h⟩ := h
      obtain ⟨z11, h⟩ := h
      refine s_iald F hR k10 (by decide) rfl z11 dX7_rejected_22 ?_
      exact s_iret F hR hS h hc dX7_rejected_23
    · replace h := h.2 c6
      refine lv_iconst (v := 0) hx hb dX7_rejected_13 (by decide) ?_
      refine lv_goto (tgt := 23) hx hb dX7_rejected_14 (by decide) ?_
      exact s_iret F hR hS h hc dX7_rejected_23
set_option maxHeartbeats 4000000 in
set_option maxRecDepth 100000 in
theorem kX7_rejected (l : Launch) (Γ : rGam) (o : Nat) (p1 : Int32) (post : Int32 → St → Prop) (σ0 : St) (h : wX7_rejected o p1 post σ0) : Met l yX7_rejected wsX7_rejected rmX7_rejected (rPc Γ vwCl [.ref o, .int p1] (Rep Γ σ0)) (va_Qi post (fun σ' t => Rep Γ σ' t.heap) (rA Γ)) 0 0 (rA Γ) := by
  refine Met.ofW (cc := cX7_rejected) (maxL := 2) (ret := (some .int)) (by decide) rfl ?_
  intro p e s m args below meth c s₁ B hml hv
  obtain ⟨rfl, hR, hE⟩ := hv
  have F : Fx Γ p s m meth c _ cX7_rejected 2 RX7 wsX7_rejected (some .int) := ⟨⟨B.exec, B.bytes, hml, findClass_of_methodNamed B.named, atoms_spec (ws := wsX7_rejected) B.pre⟩, hE, B.notSynchronized, B.returns⟩
  have hl := lv_entry ([.ref o, .int p1]) (n := 2) (Nat.le_of_ble_eq_true rfl)
  rw [lg_entry_eq]
  generalize (lg_sl ([.ref o, .int p1]) ++ List.replicate (2 - (lg_sl ([.ref o, .int p1])).length) Slot.unset).toArray = ls at hl ⊢
  have hl : lv_has ls 2 [(0, .ref o), (1, .int p1)] := hl
  exact bX7_rejected F h hR va_S.rf hl ⟨Nat.le_refl 0, Nat.le_refl 0⟩
/-! X7_waiting -/
theorem mX7_waiting_0 : Cond.fieldLink RX7 214 "ClearingFiles$Bank" "returns" "Ljava/util/ArrayList;" ∈ wsX7_waiting := by decide +kernel
theorem mX7_waiting_1 : Cond.fieldLink RX7 213 "ClearingFiles$Bank" "entries" "Ljava/util/ArrayList;" ∈ wsX7_waiting := by decide +kernel
theorem nX7_waiting_X1 : ∀ w ∈ u_ws RX1 TX1 6, w ∈ wsX7_waiting := fun _ h => List.mem_cons_of_mem _ (List.mem_append_left _ (List.mem_append_left _ (List.mem_append_right _ h)))
abbrev rmX7_waiting : Room := { frames := 4, cells := 0, slots := 0, locals := 122 }
set_option maxRecDepth 100000 in
def wX7_waiting (o : Nat) (p1 : Int32) (p2 : Int32) (post : Int32 → St → Prop) (σ0 : St) : Prop :=
  sK σ0 o = 8 ∧ (wX7_bankAt o p1 (fun (r4 : Option Nat) (σ2 : St) => (r4 = none → (post (-1 : Int32) σ2)) ∧ (¬ r4 = none → ((p2 < 0 → (post (-1 : Int32) σ2)) ∧ (¬ p2 < 0 → ((p2 ≤ (1 : Int32) → ((p2 = 0 → (∃ a18 : Nat, r4 = some a18 ∧ (sK σ2 a18 = 2 ∧ (∀ r20 : Option Nat, r20 = sR σ2 102 a18 0 → (∃ a21 : Nat, r20 = some a21 ∧ (wL_size a21 (fun (x25 : Int32) (σ23 : St) => post x25 σ23) σ2)))))) ∧ (¬ p2 = 0 → (∃ a10 : Nat, r4 = some a10 ∧ (sK σ2 a10 = 2 ∧ (∀ r12 : Option Nat, r12 = sR σ2 103 a10 0 → (∃ a13 : Nat, r12 = some a13 ∧ (wL_size a13 (fun (x17 : Int32) (σ15 : St) => post x17 σ15) σ2)))))))) ∧ (¬ p2 ≤ (1 : Int32) → (post (-1 : Int32) σ2))))))) σ0)
set_option maxHeartbeats 4000000 in
set_option maxRecDepth 100000 in
theorem bX7_waiting {p : Program} {l : Launch} {e : Env} {s : State} {m : MethodId} {args : Array Value} {below : List Frame} {meth : Method} {c : Code} {Γ : rGam} {o : Nat} {post : Int32 → St → Prop} (F : Fx Γ p s m meth c args cX7_waiting 4 RX7 wsX7_waiting (some .int)) {H : Heap} {locs : List Loc} {ls : Array Slot} {cells slots : Nat} {p1 : Int32} {p2 : Int32} {σ0 : St} (h : wX7_waiting o p1 p2 post σ0) (hR : Rep Γ σ0 H) (hS : va_S (rA Γ) s.heap H locs) (hl : lv_has ls 4 [(0, .ref o), (1, .int p1), (2, .int p2)]) (hc : cells ≤ 0 ∧ slots ≤ 0) : W p l e rmX7_waiting s m args below meth c H locs cells slots (rQi Γ below post args s 0 0) (F0 m 0 ls []) := by
  have hx := F.1.1
  have hb := F.1.2.1
  unfold wX7_waiting at h
  refine lv_aload_n hx hb dX7_waiting_0 rfl (lv_at hl 0 rfl) ?_
  refine lv_iload_n hx hb dX7_waiting_1 rfl (lv_at hl 1 rfl) ?_
  obtain ⟨k1, h⟩ := h
  refine s_cq hS (k_runV F hR hS hl 1 [.int p1] (kX7_bankAt l Γ o p1 _ _ h) gX7_waiting_X7_bankAt rfl rfl rfl (by decide +kernel) ⟨Nat.le_of_ble_eq_true rfl, Nat.le_of_ble_eq_true rfl⟩ (s_recv F hR k1 (by decide) (C := RX7) (T := TX7) (N := 7) rfl) rfl (Nat.le_of_ble_eq_true rfl) dX7_waiting_2 ⟨by show _ ≤ 0; omega, by show _ ≤ 0; omega⟩) (fun r4 σ2 H locs h3 hR hS => ?_)
  refine s_astore_n (r := r4) (lk := [(2, .int p2)]) (lv' := [(3, va_rf r4), (0, .ref o), (1, .int p1), (2, .int p2)]) hx hb dX7_waiting_5 rfl hl (by decide) rfl (lk_1 rfl) rfl (fun ls hl5 => ?_)
  refine s_aload_n hx hb dX7_waiting_6 rfl (lv_at hl5 0 rfl) ?_
  refine s_ifnull (r := r4) hx hb dX7_waiting_7 (tgt := 19) (by decide) (fun c6 => ?_) (fun c6 => ?_)
  · replace h3 := h3.1 c6
    refine lv_iconst (v := -1) hx hb dX7_waiting_19 (by decide) ?_
    exact s_iret F hR hS h3 hc dX7_waiting_20
  · replace h3 := h3.2 c6
    refine lv_iload_n hx hb dX7_waiting_10 rfl (lv_at hl5 3 rfl) ?_
    refine lv_if_lt (tgt := 19) hx hb dX7_waiting_11 (by decide) (fun c7 => ?_) (fun c7 => ?_)
    · replace h3 := h3.1 c7
      refine lv_iconst (v := -1) hx hb dX7_waiting_19 (by decide) ?_
      exact s_iret F hR hS h3 hc dX7_waiting_20
    · replace h3 := h3.2 c7
      refine lv_iload_n hx hb dX7_waiting_14 rfl (lv_at hl5 3 rfl) ?_
      refine lv_iconst (v := 1) hx hb dX7_waiting_15 (by decide) ?_
      refine lv_icmp_le (tgt := 21) hx hb dX7_waiting_16 (by decide) (fun c8 => ?_) (fun c8 => ?_)
      · replace h3 := h3.1 c8
        refine lv_iload_n hx hb dX7_waiting_21 rfl (lv_at hl5 3 rfl) ?_
        refine lv_if_ne (tgt := 35) hx hb dX7_waiting_22 (by decide) (fun c9 => ?_) (fun c9 => ?_)
        · replace h3 := h3.2 c9
          refine s_aload_n hx hb dX7_waiting_35 rfl (lv_at hl5 0 rfl) ?_
          obtain ⟨a10, ea10, h3⟩ := h3
          subst ea10
          obtain ⟨k11, h3⟩ := h3
          refine s_getR F hR k11 (by decide) (C := RX1) (T := TX1) (N := 6) rfl nX7_waiting_X1 3 (by decide) mX7_waiting_0 (f := 103) rfl dX7_waiting_36 (fun r12 er12 => ?_)
          replace h3 := h3 r12 er12
          obtain ⟨a13, ea13, h3⟩ := h3
          subst ea13
          have k14 := h3.1
          refine s_ci hS (k_runV F hR hS hl5 0 [] (kL_size l Γ a13 _ _ h3) gX7_waiting_Jx4a65c_size_8abf5 rfl rfl rfl (by decide +kernel) ⟨Nat.le_of_ble_eq_true rfl, Nat.le_of_ble_eq_true rfl⟩ (s_recv F hR rfl (by omega) (C := RJx4a65c) (T := TJx4a65c) (N := 3) (by unfold rCi; rw [if_neg (by omega)]; rfl)) rfl (Nat.le_of_ble_eq_true rfl) dX7_waiting_39 ⟨by show _ ≤ 0; omega, by show _ ≤ 0; omega⟩) (fun x17 σ15 H locs h16 hR hS => ?_)
          exact s_iret F hR hS h16 hc dX7_waiting_42
        · replace h3 := h3.1 c9
          refine s_aload_n hx hb dX7_waiting_25 rfl (lv_at hl5 0 rfl) ?_
          obtain ⟨a18, ea18, h3⟩ := h3
          subst ea18
          obtain ⟨k19, h3⟩ := h3
          refine s_getR F hR k19 (by decide) (C := RX1) (T := TX1) (N := 6) rfl nX7_waiting_X1 2 (by decide) mX7_waiting_1 (f := 102) rfl dX7_waiting_26 (fun r20 er20 => ?_)
          replace h3 := h3 r20 er20
          obtain ⟨a21, ea21, h3⟩ := h3
          subst ea21
          have k22 := h3.1
          refine s_ci hS (k_runV F hR hS hl5 0 [] (kL_size l Γ a21 _ _ h3) gX7_waiting_Jx4a65c_size_8abf5 rfl rfl rfl (by decide +kernel) ⟨Nat.le_of_ble_eq_true rfl, Nat.le_of_ble_eq_true rfl⟩ (s_recv F hR rfl (by omega) (C := RJx4a65c) (T := TJx4a65c) (N := 3) (by unfold rCi; rw [if_neg (by omega)]; rfl)) rfl (Nat.le_of_ble_eq_true rfl) dX7_waiting_29 ⟨by show _ ≤ 0; omega, by show _ ≤ 0; omega⟩) (fun x25 σ23 H locs h24 hR hS => ?_)
          refine lv_goto (tgt := 42) hx hb dX7_waiting_32 (by decide) ?_
          exact s_iret F hR hS h24 hc dX7_waiting_42
      · replace h3 := h3.2 c8
        refine lv_iconst (v := -1) hx hb dX7_waiting_19 (by decide) ?_
        exact s_iret F hR hS h3 hc dX7_waiting_20
set_option maxHeartbeats 4000000 in
set_option maxRecDepth 100000 in
theorem kX7_waiting (l : Launch) (Γ : rGam) (o : Nat) (p1 : Int32) (p2 : Int32) (post : Int32 → St → Prop) (σ0 : St) (h : wX7_waiting o p1 p2 post σ0) : Met l yX7_waiting wsX7_waiting rmX7_waiting (rPc Γ vwCl [.ref o, .int p1, .int p2] (Rep Γ σ0)) (va_Qi post (fun σ' t => Rep Γ σ' t.heap) (rA Γ)) 0 0 (rA Γ) := by
  refine Met.ofW (cc := cX7_waiting) (maxL := 4) (ret := (some .int)) (by decide) rfl ?_
  intro p e s m args below meth c s₁ B hml hv
  obtain ⟨rfl, hR, hE⟩ := hv
  have F : Fx Γ p s m meth c _ cX7_waiting 4 RX7 wsX7_waiting (some .int) := ⟨⟨B.exec, B.bytes, hml, findClass_of_methodNamed B.named, atoms_spec (ws := wsX7_waiting) B.pre⟩, hE, B.notSynchronized, B.returns⟩
  have hl := lv_entry ([.ref o, .int p1, .int p2]) (n := 4) (Nat.le_of_ble_eq_true rfl)
  rw [lg_entry_eq]
  generalize (lg_sl ([.ref o, .int p1, .int p2]) ++ List.replicate (4 - (lg_sl ([.ref o, .int p1, .int p2])).length) Slot.unset).toArray = ls at hl ⊢
  have hl : lv_has ls 4 [(0, .ref o), (1, .int p1), (2, .int p2)] := hl
  exact bX7_waiting F h hR va_S.rf hl ⟨Nat.le_refl 0, Nat.le_refl 0⟩
